/-! the object's counts, forecasts and runs -/
def cnR (Sn Sh Sp : Nat → Int → Int) (wh : Int) : Int := if wh = 0 then Sn 5 0 else if wh = 1 then Sn 6 0 else if wh = 2 then (Sn 5 0 + 6 * 0) % 12 else if wh = 3 then (Sn 5 0 + 6 * 1) % 12 else if wh = 4 then Sn 7 0 else if wh = 5 then sumZ (fun o => if Sn 1 (8 * o + 3) = 0 then 1 else 0) (Sn 7 0) else if wh = 6 then sumZ (fun o => if Sn 1 (8 * o + 3) = 1 then 1 else 0) (Sn 7 0) else if wh = 7 then sumZ (fun o => if Sn 1 (8 * o + 3) = 2 then 1 else 0) (Sn 7 0) else if wh = 8 then sumZ (fun b => Sn 0 (4 * b + 3) + Sn 0 (4 * b + 3 + 192)) 48 else if wh = 9 then sumZ (fun b => Sn 0 (4 * b + 2) + Sn 0 (4 * b + 2 + 192)) 48 else if wh = 10 then sumZ (fun b => if Sn 0 (4 * b) ≠ Sn 0 (4 * b + 192) ∨ Sn 0 (4 * b + 1) ≠ Sn 0 (4 * b + 193) then 1 else 0) 48 else if wh = 11 then Sn 9 0 else if wh = 12 then Sn 10 0 else if wh = 13 then Sh 2 0 else if wh = 14 then Sp 1 0 else -1
def dtS (Sn : Nat → Int → Int) (od : Int) : Int := stN (fun q => itZ doTickS q Sn 1 (8 * od + 3) = 1) 300 1
def doR (Sn : Nat → Int → Int) (od : Int) : Int := if 0 ≤ od ∧ od < Sn 7 0 then (if Sn 1 (8 * od + 3) = 1 then 0 else if Sn 1 (8 * od + 3) = 2 then -9 else if dtS Sn od < 301 then dtS Sn od else -9) else -1
def doF (Sn Sf : Nat → Int → Int) (od : Int) : Nat → Int → Int := if (0 ≤ od ∧ od < Sn 7 0) ∧ Sn 1 (8 * od + 3) ≠ 1 ∧ Sn 1 (8 * od + 3) ≠ 2 then (if dtS Sn od < 301 then itZ doTickS (dtS Sn od) Sn else itZ doTickS 300 Sn) else Sf
def itS (Sn : Nat → Int → Int) : Int := stN (fun q => ¬ (0 < itZ doTickS q Sn 4 0 ∨ 0 < itZ doTickS q Sn 4 1 ∨ 0 < itZ doTickS q Sn 4 2 ∨ 0 < itZ doTickS q Sn 4 3)) 300 1
def idC (Sn : Nat → Int → Int) : Int := if 0 < Sn 4 0 ∨ 0 < Sn 4 1 ∨ 0 < Sn 4 2 ∨ 0 < Sn 4 3 then (if itS Sn < 301 then itS Sn else -9) else 0
def idF (Sn Sf : Nat → Int → Int) : Nat → Int → Int := if 0 < Sn 4 0 ∨ 0 < Sn 4 1 ∨ 0 < Sn 4 2 ∨ 0 < Sn 4 3 then (if itS Sn < 301 then itZ doTickS (itS Sn) Sn else itZ doTickS 300 Sn) else Sf
theorem uset_eq (U : Nat → Nat → Int → Int) (k : Nat) (S : Nat → Int → Int) : uset U k S k = S := if_pos rfl
def PH (Sn Sp : Nat → Int → Int) (le : Int) : Prop := ((0 ≤ le ∧ le < 80) ∧ (WF Sn) ∧ (-1000 ≤ Sp 2 (3 * le) ∧ Sp 2 (3 * le) ≤ 1000) ∧ (-1000 ≤ Sp 2 (3 * le + 1) ∧ Sp 2 (3 * le + 1) ≤ 1000) ∧ (-1000 ≤ Sp 2 (3 * le + 2) ∧ Sp 2 (3 * le + 2) ≤ 1000) ∧ ((1 ≤ (Sp 2 (3 * le)) ∧ (Sp 2 (3 * le)) ≤ 200) ∧ Sn 5 0 + (Sp 2 (3 * le)) ≤ 20000 → ∀ k : Int, 0 ≤ k → k < (Sp 2 (3 * le)) → WF (itZ doTickS k Sn) ∧ WF (forgS (itZ doTickS k Sn)) ∧ (0 < itZ doTickS k Sn 4 (itZ doTickS k Sn 6 0) → WF (useHdS (forgS (itZ doTickS k Sn)) 0))) ∧ (∀ k : Int, 0 ≤ k → k ≤ 2 → WF (ixZ tearS k Sn))) ∧ -2147483648 ≤ peR Sn Sp le ∧ peR Sn Sp le < 2147483648
def rnS (S P : Nat → Int → Int) (k : Int) : Nat → Int → Int := ixZ (fun j U => peS U P (lsF P j)) k S
def kfZ (S P : Nat → Int → Int) : Int := stN (fun q => peR (rnS S P q) P (lsF P q) < 0) (P 4 0).toNat 0
def ruR (S Sp : Nat → Int → Int) : Int := if (unF 80 (un0 Sp)).2 = true then (if 100 < unC Sp 4 0 then -1000 - lsF (unC Sp) 100 else if kfZ S (unC Sp) < unC Sp 4 0 then -1000 - lsF (unC Sp) (kfZ S (unC Sp)) else unC Sp 4 0) else -1000 - unC Sp 8 0
def ruU (U : Nat → Nat → Int → Int) (Sh Sn Sp : Nat → Int → Int) : Nat → Nat → Int → Int := if (unF 80 (un0 Sp)).2 = true then (if 100 < unC Sp 4 0 then U else uset U (((Sh 1 0 + Sh 2 0) % 6).toNat) Sn) else U
def ruH (Sh S Sp : Nat → Int → Int) : Nat → Int → Int := if (unF 80 (un0 Sp)).2 = true then (if 100 < unC Sp 4 0 then Sh else if kfZ S (unC Sp) < unC Sp 4 0 then Sh else keepH Sh) else Sh
def ruN (S Sp : Nat → Int → Int) : Nat → Int → Int := if (unF 80 (un0 Sp)).2 = true then (if 100 < unC Sp 4 0 then S else if kfZ S (unC Sp) < unC Sp 4 0 then S else rnS S (unC Sp) (unC Sp 4 0)) else S

theorem in_X3_count : ∀ w ∈ wsX30, w ∈ wsX3_count := fun w h => List.mem_cons_of_mem _ (List.mem_append_left _ (List.mem_append_left _ (List.mem_append_left _ (List.mem_append_right _ h))))
set_option maxHeartbeats 4000000 in
set_option maxRecDepth 100000 in
theorem k_X3_count (l : Launch) (dC : Nat → ClassId) (dI : Nat → Nat → Nat) (cI cQ : ClassId) (A : Nat → Prop) (o : Nat) (U : Nat → Nat → Int → Int) (Sh Sn Sf Sp : Nat → Int → Int) (hA57 : ∀ q, rg o (o + 57) q → A q) (wh : Int) (q0 : -2147483648 ≤ wh ∧ wh < 2147483648) (hB : zB Sn) (ht : 0 ≤ Sn 7 0 ∧ Sn 7 0 ≤ 60) (h5 : 0 ≤ Sn 5 0 ∧ Sn 5 0 ≤ 1000000) : Met l yX3_count wsX3_count ({ frames := 3, cells := 0, slots := 0, locals := 74 }) (zPc (dC, dI) vwCl (zT cI cQ) (W3 o cI cQ U Sh Sn Sf Sp) [.ref o, .int (zI wh)]) (zQi (dC, dI) vwCl (W3 o cI cQ U Sh Sn Sf Sp) (cnR Sn Sh Sp wh) A) 0 0 A := by
  refine Met.ofW (cc := cX3_count) (maxL := 2) (ret := (some .int)) (by decide) rfl ?_
  intro p e s m args below meth c s₁ B hml hv
  obtain ⟨rfl, hP, hK⟩ := hv
  have hx := B.exec
  have hb := B.bytes
  have hr := B.returns
  have hts := atoms_spec (ws := wsX3_count) B.pre
  have hown : s.vm.findClass RX3 = some m.cls := findClass_of_methodNamed B.named
  have hlk := B.notSynchronized
  have hS : va_S A s.heap s.heap [] := va_S.rf
  have hl := lv_entry ([.ref o, .int (zI wh)]) (n := 2) (Nat.le_of_ble_eq_true rfl)
  rw [lg_entry_eq]
  generalize (lg_sl ([.ref o, .int (zI wh)]) ++ List.replicate (2 - (lg_sl ([.ref o, .int (zI wh)])).length) Slot.unset).toArray = ls at hl ⊢
  have hl : lv_has ls 2 [(0, .ref o), (1, .int (zI wh))] := hl
  have hin : ∀ w ∈ wsX30, w ∈ wsX3_count := in_X3_count
  refine lv_iload_n hx hb dX3_count_0 rfl (lv_at hl 1 rfl) ?_
  rcases (show (wh < 0 ∨ 14 < wh) ∨ wh = 0 ∨ wh = 1 ∨ wh = 2 ∨ wh = 3 ∨ wh = 4 ∨ wh = 5 ∨ wh = 6 ∨ wh = 7 ∨ wh = 8 ∨ wh = 9 ∨ wh = 10 ∨ wh = 11 ∨ wh = 12 ∨ wh = 13 ∨ wh = 14 from by omega) with c1 | c1 | c1 | c1 | c1 | c1 | c1 | c1 | c1 | c1 | c1 | c1 | c1 | c1 | c1 | c1
  · refine z_tabOut (tgt := 203) hx hb dX3_count_1 (by omega) c1 (by decide) ?_
    refine z_iconst hx hb dX3_count_203 ?_
    exact z_iret hx hb hr hlk hP hS dX3_count_204 (by unfold cnR; rw [if_neg (by omega), if_neg (by omega), if_neg (by omega), if_neg (by omega), if_neg (by omega), if_neg (by omega), if_neg (by omega), if_neg (by omega), if_neg (by omega), if_neg (by omega), if_neg (by omega), if_neg (by omega), if_neg (by omega), if_neg (by omega), if_neg (by omega)]) rfl
  · refine z_tabIn (tgt := 76) hx hb 0 dX3_count_1 (by omega) (by omega) (by omega) (by omega) rfl (by decide) ?_
    refine lv_aload_n hx hb dX3_count_76 rfl (lv_at hl 0 rfl) ?_
    refine gx_X3_0 hx hb hts hin hown hK hP (hts _ (List.mem_of_getElem? (i := 1) rfl)) dX3_count_77 ?_
    refine z_calli (va_runV (As := []) (rest := []) ⟨hx, hb, hml, hown, hts⟩ (k_X1_tick l dC dI cI cQ (rg (o + 1) (o + 7)) (rN o) Sn (D_X1 (o + 1) cI)) (cwV 0 hts gX3_count_X1_tick rfl rfl rfl (by decide +kernel) ⟨Nat.le_of_ble_eq_true rfl, Nat.le_of_ble_eq_true rfl⟩) (z_preV hK (s_n hP) (ci := 1) (q0 := 0) rfl rfl rfl) rfl rfl hl.1 rfl (lv_room (Nat.le_of_ble_eq_true rfl)) dX3_count_80 ⟨Nat.zero_le _, Nat.zero_le _⟩) hS (fun q h => hA57 q (rg_sub h (by omega) (by omega))) (fun H locs hQ9 hS _ hk9 => ?_)
    have hP : va_P (dC, dI) vwCl (W3 o cI cQ U Sh Sn Sf Sp) H := b_n hP hk9 hQ9
    exact z_iret hx hb hr hlk hP hS dX3_count_83 (by unfold cnR; rw [if_pos (by omega)]) rfl
  · refine z_tabIn (tgt := 84) hx hb 1 dX3_count_1 (by omega) (by omega) (by omega) (by omega) rfl (by decide) ?_
    refine lv_aload_n hx hb dX3_count_84 rfl (lv_at hl 0 rfl) ?_
    refine gx_X3_0 hx hb hts hin hown hK hP (hts _ (List.mem_of_getElem? (i := 1) rfl)) dX3_count_85 ?_
    refine z_calli (va_runV (As := []) (rest := []) ⟨hx, hb, hml, hown, hts⟩ (k_X1_arm l dC dI cI cQ (rg (o + 1) (o + 7)) (rN o) Sn (D_X1 (o + 1) cI)) (cwV 0 hts gX3_count_X1_arm rfl rfl rfl (by decide +kernel) ⟨Nat.le_of_ble_eq_true rfl, Nat.le_of_ble_eq_true rfl⟩) (z_preV hK (s_n hP) (ci := 1) (q0 := 0) rfl rfl rfl) rfl rfl hl.1 rfl (lv_room (Nat.le_of_ble_eq_true rfl)) dX3_count_88 ⟨Nat.zero_le _, Nat.zero_le _⟩) hS (fun q h => hA57 q (rg_sub h (by omega) (by omega))) (fun H locs hQ9 hS _ hk9 => ?_)
    have hP : va_P (dC, dI) vwCl (W3 o cI cQ U Sh Sn Sf Sp) H := b_n hP hk9 hQ9
    exact z_iret hx hb hr hlk hP hS dX3_count_91 (by unfold cnR; rw [if_neg (by omega), if_pos (by omega)]) rfl
  · refine z_tabIn (tgt := 92) hx hb 2 dX3_count_1 (by omega) (by omega) (by omega) (by omega) rfl (by decide) ?_
    refine lv_aload_n hx hb dX3_count_92 rfl (lv_at hl 0 rfl) ?_
    refine gx_X3_0 hx hb hts hin hown hK hP (hts _ (List.mem_of_getElem? (i := 1) rfl)) dX3_count_93 ?_
    refine z_iconst hx hb dX3_count_96 ?_
    refine z_calli (va_runV (As := [.int (zI 0)]) (rest := []) ⟨hx, hb, hml, hown, hts⟩ (k_X1_sectorUnder l dC dI cI cQ (rg (o + 1) (o + 7)) (rN o) Sn (D_X1 (o + 1) cI) 0 (by omega)) (cwV 1 hts gX3_count_X1_sectorUnder rfl rfl rfl (by decide +kernel) ⟨Nat.le_of_ble_eq_true rfl, Nat.le_of_ble_eq_true rfl⟩) (z_preV hK (s_n hP) (ci := 1) (q0 := 0) rfl rfl rfl) rfl rfl hl.1 rfl (lv_room (Nat.le_of_ble_eq_true rfl)) dX3_count_97 ⟨Nat.zero_le _, Nat.zero_le _⟩) hS (fun q h => hA57 q (rg_sub h (by omega) (by omega))) (fun H locs hQ9 hS _ hk9 => ?_)
    have hP : va_P (dC, dI) vwCl (W3 o cI cQ U Sh Sn Sf Sp) H := b_n hP hk9 hQ9
    exact z_iret hx hb hr hlk hP hS dX3_count_100 (by unfold cnR; rw [if_neg (by omega), if_neg (by omega), if_pos (by omega)]) rfl
  · refine z_tabIn (tgt := 101) hx hb 3 dX3_count_1 (by omega) (by omega) (by omega) (by omega) rfl (by decide) ?_
    refine lv_aload_n hx hb dX3_count_101 rfl (lv_at hl 0 rfl) ?_
    refine gx_X3_0 hx hb hts hin hown hK hP (hts _ (List.mem_of_getElem? (i := 1) rfl)) dX3_count_102 ?_
    refine z_iconst hx hb dX3_count_105 ?_
    refine z_calli (va_runV (As := [.int (zI 1)]) (rest := []) ⟨hx, hb, hml, hown, hts⟩ (k_X1_sectorUnder l dC dI cI cQ (rg (o + 1) (o + 7)) (rN o) Sn (D_X1 (o + 1) cI) 1 (by omega)) (cwV 1 hts gX3_count_X1_sectorUnder rfl rfl rfl (by decide +kernel) ⟨Nat.le_of_ble_eq_true rfl, Nat.le_of_ble_eq_true rfl⟩) (z_preV hK (s_n hP) (ci := 1) (q0 := 0) rfl rfl rfl) rfl rfl hl.1 rfl (lv_room (Nat.le_of_ble_eq_true rfl)) dX3_count_106 ⟨Nat.zero_le _, Nat.zero_le _⟩) hS (fun q h => hA57 q (rg_sub h (by omega) (by omega))) (fun H locs hQ9 hS _ hk9 => ?_)
    have hP : va_P (dC, dI) vwCl (W3 o cI cQ U Sh Sn Sf Sp) H := b_n hP hk9 hQ9
    exact z_iret hx hb hr hlk hP hS dX3_count_109 (by unfold cnR; rw [if_neg (by omega), if_neg (by omega), if_neg (by omega), if_pos (by omega)]) rfl
  · refine z_tabIn (tgt := 110) hx hb 4 dX3_count_1 (by omega) (by omega) (by omega) (by omega) rfl (by decide) ?_
    refine lv_aload_n hx hb dX3_count_110 rfl (lv_at hl 0 rfl) ?_
    refine gx_X3_0 hx hb hts hin hown hK hP (hts _ (List.mem_of_getElem? (i := 1) rfl)) dX3_count_111 ?_
    refine z_calli (va_runV (As := []) (rest := []) ⟨hx, hb, hml, hown, hts⟩ (k_X1_taken l dC dI cI cQ (rg (o + 1) (o + 7)) (rN o) Sn (D_X1 (o + 1) cI)) (cwV 0 hts gX3_count_X1_taken rfl rfl rfl (by decide +kernel) ⟨Nat.le_of_ble_eq_true rfl, Nat.le_of_ble_eq_true rfl⟩) (z_preV hK (s_n hP) (ci := 1) (q0 := 0) rfl rfl rfl) rfl rfl hl.1 rfl (lv_room (Nat.le_of_ble_eq_true rfl)) dX3_count_114 ⟨Nat.zero_le _, Nat.zero_le _⟩) hS (fun q h => hA57 q (rg_sub h (by omega) (by omega))) (fun H locs hQ9 hS _ hk9 => ?_)
    have hP : va_P (dC, dI) vwCl (W3 o cI cQ U Sh Sn Sf Sp) H := b_n hP hk9 hQ9
    exact z_iret hx hb hr hlk hP hS dX3_count_117 (by unfold cnR; rw [if_neg (by omega), if_neg (by omega), if_neg (by omega), if_neg (by omega), if_pos (by omega)]) rfl
  · refine z_tabIn (tgt := 118) hx hb 5 dX3_count_1 (by omega) (by omega) (by omega) (by omega) rfl (by decide) ?_
    refine lv_aload_n hx hb dX3_count_118 rfl (lv_at hl 0 rfl) ?_
    refine gx_X3_0 hx hb hts hin hown hK hP (hts _ (List.mem_of_getElem? (i := 1) rfl)) dX3_count_119 ?_
    refine z_iconst hx hb dX3_count_122 ?_
    refine z_calli (va_runV (As := [.int (zI 0)]) (rest := []) ⟨hx, hb, hml, hown, hts⟩ (k_X1_countOrders l dC dI cI cQ (rg (o + 1) (o + 7)) (rN o) Sn (D_X1 (o + 1) cI) 0 (by omega) (by exact hB) (by omega)) (cwV 1 hts gX3_count_X1_countOrders rfl rfl rfl (by decide +kernel) ⟨Nat.le_of_ble_eq_true rfl, Nat.le_of_ble_eq_true rfl⟩) (z_preV hK (s_n hP) (ci := 1) (q0 := 0) rfl rfl rfl) rfl rfl hl.1 rfl (lv_room (Nat.le_of_ble_eq_true rfl)) dX3_count_123 ⟨Nat.zero_le _, Nat.zero_le _⟩) hS (fun q h => hA57 q (rg_sub h (by omega) (by omega))) (fun H locs hQ9 hS _ hk9 => ?_)
    have hP : va_P (dC, dI) vwCl (W3 o cI cQ U Sh Sn Sf Sp) H := b_n hP hk9 hQ9
    exact z_iret hx hb hr hlk hP hS dX3_count_126 (by unfold cnR; rw [if_neg (by omega), if_neg (by omega), if_neg (by omega), if_neg (by omega), if_neg (by omega), if_pos (by omega)]) rfl
  · refine z_tabIn (tgt := 127) hx hb 6 dX3_count_1 (by omega) (by omega) (by omega) (by omega) rfl (by decide) ?_
    refine lv_aload_n hx hb dX3_count_127 rfl (lv_at hl 0 rfl) ?_
    refine gx_X3_0 hx hb hts hin hown hK hP (hts _ (List.mem_of_getElem? (i := 1) rfl)) dX3_count_128 ?_
    refine z_iconst hx hb dX3_count_131 ?_
    refine z_calli (va_runV (As := [.int (zI 1)]) (rest := []) ⟨hx, hb, hml, hown, hts⟩ (k_X1_countOrders l dC dI cI cQ (rg (o + 1) (o + 7)) (rN o) Sn (D_X1 (o + 1) cI) 1 (by omega) (by exact hB) (by omega)) (cwV 1 hts gX3_count_X1_countOrders rfl rfl rfl (by decide +kernel) ⟨Nat.le_of_ble_eq_true rfl, Nat.le_of_ble_eq_true rfl⟩) (z_preV hK (s_n hP) (ci := 1) (q0 := 0) rfl rfl rfl) rfl rfl hl.1 rfl (lv_room (Nat.le_of_ble_eq_true rfl)) dX3_count_132 ⟨Nat.zero_le _, Nat.zero_le _⟩) hS (fun q h => hA57 q (rg_sub h (by omega) (by omega))) (fun H locs hQ9 hS _ hk9 => ?_)
    have hP : va_P (dC, dI) vwCl (W3 o cI cQ U Sh Sn Sf Sp) H := b_n hP hk9 hQ9
    exact z_iret hx hb hr hlk hP hS dX3_count_135 (by unfold cnR; rw [if_neg (by omega), if_neg (by omega), if_neg (by omega), if_neg (by omega), if_neg (by omega), if_neg (by omega), if_pos (by omega)]) rfl
  · refine z_tabIn (tgt := 136) hx hb 7 dX3_count_1 (by omega) (by omega) (by omega) (by omega) rfl (by decide) ?_
    refine lv_aload_n hx hb dX3_count_136 rfl (lv_at hl 0 rfl) ?_
    refine gx_X3_0 hx hb hts hin hown hK hP (hts _ (List.mem_of_getElem? (i := 1) rfl)) dX3_count_137 ?_
    refine z_iconst hx hb dX3_count_140 ?_
    refine z_calli (va_runV (As := [.int (zI 2)]) (rest := []) ⟨hx, hb, hml, hown, hts⟩ (k_X1_countOrders l dC dI cI cQ (rg (o + 1) (o + 7)) (rN o) Sn (D_X1 (o + 1) cI) 2 (by omega) (by exact hB) (by omega)) (cwV 1 hts gX3_count_X1_countOrders rfl rfl rfl (by decide +kernel) ⟨Nat.le_of_ble_eq_true rfl, Nat.le_of_ble_eq_true rfl⟩) (z_preV hK (s_n hP) (ci := 1) (q0 := 0) rfl rfl rfl) rfl rfl hl.1 rfl (lv_room (Nat.le_of_ble_eq_true rfl)) dX3_count_141 ⟨Nat.zero_le _, Nat.zero_le _⟩) hS (fun q h => hA57 q (rg_sub h (by omega) (by omega))) (fun H locs hQ9 hS _ hk9 => ?_)
    have hP : va_P (dC, dI) vwCl (W3 o cI cQ U Sh Sn Sf Sp) H := b_n hP hk9 hQ9
    exact z_iret hx hb hr hlk hP hS dX3_count_144 (by unfold cnR; rw [if_neg (by omega), if_neg (by omega), if_neg (by omega), if_neg (by omega), if_neg (by omega), if_neg (by omega), if_neg (by omega), if_pos (by omega)]) rfl
  · refine z_tabIn (tgt := 145) hx hb 8 dX3_count_1 (by omega) (by omega) (by omega) (by omega) rfl (by decide) ?_
    refine lv_aload_n hx hb dX3_count_145 rfl (lv_at hl 0 rfl) ?_
    refine gx_X3_0 hx hb hts hin hown hK hP (hts _ (List.mem_of_getElem? (i := 1) rfl)) dX3_count_146 ?_
    refine z_iconst hx hb dX3_count_149 ?_
    refine z_calli (va_runV (As := [.int (zI 3)]) (rest := []) ⟨hx, hb, hml, hown, hts⟩ (k_X1_countCopies l dC dI cI cQ (rg (o + 1) (o + 7)) (rN o) Sn (D_X1 (o + 1) cI) 3 (by omega)) (cwV 1 hts gX3_count_X1_countCopies rfl rfl rfl (by decide +kernel) ⟨Nat.le_of_ble_eq_true rfl, Nat.le_of_ble_eq_true rfl⟩) (z_preV hK (s_n hP) (ci := 1) (q0 := 0) rfl rfl rfl) rfl rfl hl.1 rfl (lv_room (Nat.le_of_ble_eq_true rfl)) dX3_count_150 ⟨Nat.zero_le _, Nat.zero_le _⟩) hS (fun q h => hA57 q (rg_sub h (by omega) (by omega))) (fun H locs hQ9 hS _ hk9 => ?_)
    have hP : va_P (dC, dI) vwCl (W3 o cI cQ U Sh Sn Sf Sp) H := b_n hP hk9 hQ9
    exact z_iret hx hb hr hlk hP hS dX3_count_153 (by unfold cnR; rw [if_neg (by omega), if_neg (by omega), if_neg (by omega), if_neg (by omega), if_neg (by omega), if_neg (by omega), if_neg (by omega), if_neg (by omega), if_pos (by omega)]) rfl
  · refine z_tabIn (tgt := 154) hx hb 9 dX3_count_1 (by omega) (by omega) (by omega) (by omega) rfl (by decide) ?_
    refine lv_aload_n hx hb dX3_count_154 rfl (lv_at hl 0 rfl) ?_
    refine gx_X3_0 hx hb hts hin hown hK hP (hts _ (List.mem_of_getElem? (i := 1) rfl)) dX3_count_155 ?_
    refine z_iconst hx hb dX3_count_158 ?_
    refine z_calli (va_runV (As := [.int (zI 2)]) (rest := []) ⟨hx, hb, hml, hown, hts⟩ (k_X1_countCopies l dC dI cI cQ (rg (o + 1) (o + 7)) (rN o) Sn (D_X1 (o + 1) cI) 2 (by omega)) (cwV 1 hts gX3_count_X1_countCopies rfl rfl rfl (by decide +kernel) ⟨Nat.le_of_ble_eq_true rfl, Nat.le_of_ble_eq_true rfl⟩) (z_preV hK (s_n hP) (ci := 1) (q0 := 0) rfl rfl rfl) rfl rfl hl.1 rfl (lv_room (Nat.le_of_ble_eq_true rfl)) dX3_count_159 ⟨Nat.zero_le _, Nat.zero_le _⟩) hS (fun q h => hA57 q (rg_sub h (by omega) (by omega))) (fun H locs hQ9 hS _ hk9 => ?_)
    have hP : va_P (dC, dI) vwCl (W3 o cI cQ U Sh Sn Sf Sp) H := b_n hP hk9 hQ9
    exact z_iret hx hb hr hlk hP hS dX3_count_162 (by unfold cnR; rw [if_neg (by omega), if_neg (by omega), if_neg (by omega), if_neg (by omega), if_neg (by omega), if_neg (by omega), if_neg (by omega), if_neg (by omega), if_neg (by omega), if_pos (by omega)]) rfl
  · refine z_tabIn (tgt := 163) hx hb 10 dX3_count_1 (by omega) (by omega) (by omega) (by omega) rfl (by decide) ?_
    refine lv_aload_n hx hb dX3_count_163 rfl (lv_at hl 0 rfl) ?_
    refine gx_X3_0 hx hb hts hin hown hK hP (hts _ (List.mem_of_getElem? (i := 1) rfl)) dX3_count_164 ?_
    refine z_calli (va_runV (As := []) (rest := []) ⟨hx, hb, hml, hown, hts⟩ (k_X1_countUnlikeBlocks l dC dI cI cQ (rg (o + 1) (o + 7)) (rN o) Sn (D_X1 (o + 1) cI) (by exact hB)) (cwV 0 hts gX3_count_X1_countUnlikeBlocks rfl rfl rfl (by decide +kernel) ⟨Nat.le_of_ble_eq_true rfl, Nat.le_of_ble_eq_true rfl⟩) (z_preV hK (s_n hP) (ci := 1) (q0 := 0) rfl rfl rfl) rfl rfl hl.1 rfl (lv_room (Nat.le_of_ble_eq_true rfl)) dX3_count_167 ⟨Nat.zero_le _, Nat.zero_le _⟩) hS (fun q h => hA57 q (rg_sub h (by omega) (by omega))) (fun H locs hQ9 hS _ hk9 => ?_)
    have hP : va_P (dC, dI) vwCl (W3 o cI cQ U Sh Sn Sf Sp) H := b_n hP hk9 hQ9
    exact z_iret hx hb hr hlk hP hS dX3_count_170 (by unfold cnR; rw [if_neg (by omega), if_neg (by omega), if_neg (by omega), if_neg (by omega), if_neg (by omega), if_neg (by omega), if_neg (by omega), if_neg (by omega), if_neg (by omega), if_neg (by omega), if_pos (by omega)]) rfl
  · refine z_tabIn (tgt := 171) hx hb 11 dX3_count_1 (by omega) (by omega) (by omega) (by omega) rfl (by decide) ?_
    refine lv_aload_n hx hb dX3_count_171 rfl (lv_at hl 0 rfl) ?_
    refine gx_X3_0 hx hb hts hin hown hK hP (hts _ (List.mem_of_getElem? (i := 1) rfl)) dX3_count_172 ?_
    refine z_calli (va_runV (As := []) (rest := []) ⟨hx, hb, hml, hown, hts⟩ (k_X1_wiped l dC dI cI cQ (rg (o + 1) (o + 7)) (rN o) Sn (D_X1 (o + 1) cI)) (cwV 0 hts gX3_count_X1_wiped rfl rfl rfl (by decide +kernel) ⟨Nat.le_of_ble_eq_true rfl, Nat.le_of_ble_eq_true rfl⟩) (z_preV hK (s_n hP) (ci := 1) (q0 := 0) rfl rfl rfl) rfl rfl hl.1 rfl (lv_room (Nat.le_of_ble_eq_true rfl)) dX3_count_175 ⟨Nat.zero_le _, Nat.zero_le _⟩) hS (fun q h => hA57 q (rg_sub h (by omega) (by omega))) (fun H locs hQ9 hS _ hk9 => ?_)
    have hP : va_P (dC, dI) vwCl (W3 o cI cQ U Sh Sn Sf Sp) H := b_n hP hk9 hQ9
    exact z_iret hx hb hr hlk hP hS dX3_count_178 (by unfold cnR; rw [if_neg (by omega), if_neg (by omega), if_neg (by omega), if_neg (by omega), if_neg (by omega), if_neg (by omega), if_neg (by omega), if_neg (by omega), if_neg (by omega), if_neg (by omega), if_neg (by omega), if_pos (by omega)]) rfl
  · refine z_tabIn (tgt := 179) hx hb 12 dX3_count_1 (by omega) (by omega) (by omega) (by omega) rfl (by decide) ?_
    refine lv_aload_n hx hb dX3_count_179 rfl (lv_at hl 0 rfl) ?_
    refine gx_X3_0 hx hb hts hin hown hK hP (hts _ (List.mem_of_getElem? (i := 1) rfl)) dX3_count_180 ?_
    refine z_calli (va_runV (As := []) (rest := []) ⟨hx, hb, hml, hown, hts⟩ (k_X1_moves l dC dI cI cQ (rg (o + 1) (o + 7)) (rN o) Sn (D_X1 (o + 1) cI)) (cwV 0 hts gX3_count_X1_moves rfl rfl rfl (by decide +kernel) ⟨Nat.le_of_ble_eq_true rfl, Nat.le_of_ble_eq_true rfl⟩) (z_preV hK (s_n hP) (ci := 1) (q0 := 0) rfl rfl rfl) rfl rfl hl.1 rfl (lv_room (Nat.le_of_ble_eq_true rfl)) dX3_count_183 ⟨Nat.zero_le _, Nat.zero_le _⟩) hS (fun q h => hA57 q (rg_sub h (by omega) (by omega))) (fun H locs hQ9 hS _ hk9 => ?_)
    have hP : va_P (dC, dI) vwCl (W3 o cI cQ U Sh Sn Sf Sp) H := b_n hP hk9 hQ9
    exact z_iret hx hb hr hlk hP hS dX3_count_186 (by unfold cnR; rw [if_neg (by omega), if_neg (by omega), if_neg (by omega), if_neg (by omega), if_neg (by omega), if_neg (by omega), if_neg (by omega), if_neg (by omega), if_neg (by omega), if_neg (by omega), if_neg (by omega), if_neg (by omega), if_pos (by omega)]) rfl
  · refine z_tabIn (tgt := 187) hx hb 13 dX3_count_1 (by omega) (by omega) (by omega) (by omega) rfl (by decide) ?_
    refine lv_aload_n hx hb dX3_count_187 rfl (lv_at hl 0 rfl) ?_
    refine gx_X3_2 hx hb hts hin hown hK hP (hts _ (List.mem_of_getElem? (i := 2) rfl)) dX3_count_188 ?_
    refine z_calli (va_runV (As := []) (rest := []) ⟨hx, hb, hml, hown, hts⟩ (k_X0_size l dC dI cI cQ (rg (o + 13) (o + 15)) (rH o) (rS o) [] Sh (D_X0 (o + 13) (rS o) cQ)) (cwV 0 hts gX3_count_X0_size rfl rfl rfl (by decide +kernel) ⟨Nat.le_of_ble_eq_true rfl, Nat.le_of_ble_eq_true rfl⟩) (z_preV hK (s_h hP) (ci := 0) (q0 := 0) rfl rfl rfl) rfl rfl hl.1 rfl (lv_room (Nat.le_of_ble_eq_true rfl)) dX3_count_191 ⟨Nat.zero_le _, Nat.zero_le _⟩) hS (fun q h => hA57 q (rg_sub h (by omega) (by omega))) (fun H locs hQ9 hS _ hk9 => ?_)
    have hP : va_P (dC, dI) vwCl (W3 o cI cQ U Sh Sn Sf Sp) H := b_h hP hk9 hQ9
    exact z_iret hx hb hr hlk hP hS dX3_count_194 (by unfold cnR; rw [if_neg (by omega), if_neg (by omega), if_neg (by omega), if_neg (by omega), if_neg (by omega), if_neg (by omega), if_neg (by omega), if_neg (by omega), if_neg (by omega), if_neg (by omega), if_neg (by omega), if_neg (by omega), if_neg (by omega), if_pos (by omega)]) rfl
  · refine z_tabIn (tgt := 195) hx hb 14 dX3_count_1 (by omega) (by omega) (by omega) (by omega) rfl (by decide) ?_
    refine lv_aload_n hx hb dX3_count_195 rfl (lv_at hl 0 rfl) ?_
    refine gx_X3_3 hx hb hts hin hown hK hP (hts _ (List.mem_of_getElem? (i := 3) rfl)) dX3_count_196 ?_
    refine z_calli (va_runV (As := []) (rest := []) ⟨hx, hb, hml, hown, hts⟩ (k_X2_length l dC dI cI cQ (rg (o + 51) (o + 57)) (rP o) Sp (D_X2 (o + 51) cI)) (cwV 0 hts gX3_count_X2_length rfl rfl rfl (by decide +kernel) ⟨Nat.le_of_ble_eq_true rfl, Nat.le_of_ble_eq_true rfl⟩) (z_preV hK (s_p hP) (ci := 2) (q0 := 0) rfl rfl rfl) rfl rfl hl.1 rfl (lv_room (Nat.le_of_ble_eq_true rfl)) dX3_count_199 ⟨Nat.zero_le _, Nat.zero_le _⟩) hS (fun q h => hA57 q (rg_sub h (by omega) (by omega))) (fun H locs hQ9 hS _ hk9 => ?_)
    have hP : va_P (dC, dI) vwCl (W3 o cI cQ U Sh Sn Sf Sp) H := b_p hP hk9 hQ9
    exact z_iret hx hb hr hlk hP hS dX3_count_202 (by unfold cnR; rw [if_neg (by omega), if_neg (by omega), if_neg (by omega), if_neg (by omega), if_neg (by omega), if_neg (by omega), if_neg (by omega), if_neg (by omega), if_neg (by omega), if_neg (by omega), if_neg (by omega), if_neg (by omega), if_neg (by omega), if_neg (by omega), if_pos (by omega)]) rfl
theorem in_X3_doneIn : ∀ w ∈ wsX30, w ∈ wsX3_doneIn := fun w h => List.mem_cons_of_mem _ (List.mem_append_left _ (List.mem_append_right _ h))
set_option maxHeartbeats 4000000 in
set_option maxRecDepth 100000 in
theorem k_X3_doneIn (l : Launch) (dC : Nat → ClassId) (dI : Nat → Nat → Nat) (cI cQ : ClassId) (A : Nat → Prop) (o : Nat) (U : Nat → Nat → Int → Int) (Sh Sn Sf Sp : Nat → Int → Int) (hA57 : ∀ q, rg o (o + 57) q → A q) (od : Int) (q0 : -2147483648 ≤ od ∧ od < 2147483648) (hall : ∀ k : Int, 0 ≤ k → k ≤ 300 → WF (itZ doTickS k Sn) ∧ WF (forgS (itZ doTickS k Sn)) ∧ (0 < itZ doTickS k Sn 4 (itZ doTickS k Sn 6 0) → WF (useHdS (forgS (itZ doTickS k Sn)) 0))) : Met l yX3_doneIn wsX3_doneIn ({ frames := 4, cells := 0, slots := 0, locals := 105 }) (zPc (dC, dI) vwCl (zT cI cQ) (W3 o cI cQ U Sh Sn Sf Sp) [.ref o, .int (zI od)]) (zQi (dC, dI) vwCl (W3 o cI cQ U Sh Sn (doF Sn Sf od) Sp) (doR Sn od) A) 0 0 A := by
  refine Met.ofW (cc := cX3_doneIn) (maxL := 3) (ret := (some .int)) (by decide) rfl ?_
  intro p e s m args below meth c s₁ B hml hv
  obtain ⟨rfl, hP, hK⟩ := hv
  have hx := B.exec
  have hb := B.bytes
  have hr := B.returns
  have hts := atoms_spec (ws := wsX3_doneIn) B.pre
  have hown : s.vm.findClass RX3 = some m.cls := findClass_of_methodNamed B.named
  have hlk := B.notSynchronized
  have hS : va_S A s.heap s.heap [] := va_S.rf
  have hl := lv_entry ([.ref o, .int (zI od)]) (n := 3) (Nat.le_of_ble_eq_true rfl)
  rw [lg_entry_eq]
  generalize (lg_sl ([.ref o, .int (zI od)]) ++ List.replicate (3 - (lg_sl ([.ref o, .int (zI od)])).length) Slot.unset).toArray = ls at hl ⊢
  have hl : lv_has ls 3 [(0, .ref o), (1, .int (zI od))] := hl
  have hin : ∀ w ∈ wsX30, w ∈ wsX3_doneIn := in_X3_doneIn
  have hW0 : WF Sn := (hall 0 (by omega) (by omega)).1
  have hb0 := hW0.1 1 (8 * od + 3) (Or.inl (by decide))
  have w7 := hW0.2.2.2.1
  refine lv_aload_n hx hb dX3_doneIn_0 rfl (lv_at hl 0 rfl) ?_
  refine gx_X3_0 hx hb hts hin hown hK hP (hts _ (List.mem_of_getElem? (i := 1) rfl)) dX3_doneIn_1 ?_
  refine lv_iload_n hx hb dX3_doneIn_4 rfl (lv_at hl 1 rfl) ?_
  refine z_calli (va_runV (As := [.int (zI od)]) (rest := []) ⟨hx, hb, hml, hown, hts⟩ (k_X1_hasOrder l dC dI cI cQ (rg (o + 1) (o + 7)) (rN o) Sn (D_X1 (o + 1) cI) od (by omega) (by exact hW0.1)) (cwV 1 hts gX3_doneIn_X1_hasOrder rfl rfl rfl (by decide +kernel) ⟨Nat.le_of_ble_eq_true rfl, Nat.le_of_ble_eq_true rfl⟩) (z_preV hK (s_n hP) (ci := 1) (q0 := 0) rfl rfl rfl) rfl rfl hl.1 rfl (lv_room (Nat.le_of_ble_eq_true rfl)) dX3_doneIn_5 ⟨Nat.zero_le _, Nat.zero_le _⟩) hS (fun q h => hA57 q (rg_sub h (by omega) (by omega))) (fun H locs hQ9 hS _ hk9 => ?_)
  have hP : va_P (dC, dI) vwCl (W3 o cI cQ U Sh Sn Sf Sp) H := b_n hP hk9 hQ9
  refine z_ifb_ne (tgt := 13) hx hb dX3_doneIn_8 (by decide) (fun c1 => ?_) (fun c1 => ?_)
  · refine lv_aload_n hx hb dX3_doneIn_13 rfl (lv_at hl 0 rfl) ?_
    refine gx_X3_0 hx hb hts hin hown hK hP (hts _ (List.mem_of_getElem? (i := 1) rfl)) dX3_doneIn_14 ?_
    refine lv_iload_n hx hb dX3_doneIn_17 rfl (lv_at hl 1 rfl) ?_
    refine z_calli (va_runV (As := [.int (zI od)]) (rest := []) ⟨hx, hb, hml, hown, hts⟩ (k_X1_statusOf l dC dI cI cQ (rg (o + 1) (o + 7)) (rN o) Sn (D_X1 (o + 1) cI) od (by omega)) (cwV 1 hts gX3_doneIn_X1_statusOf rfl rfl rfl (by decide +kernel) ⟨Nat.le_of_ble_eq_true rfl, Nat.le_of_ble_eq_true rfl⟩) (z_preV hK (s_n hP) (ci := 1) (q0 := 0) rfl rfl rfl) rfl rfl hl.1 rfl (lv_room (Nat.le_of_ble_eq_true rfl)) dX3_doneIn_18 ⟨Nat.zero_le _, Nat.zero_le _⟩) hS (fun q h => hA57 q (rg_sub h (by omega) (by omega))) (fun H locs hQ9 hS _ hk9 => ?_)
    have hP : va_P (dC, dI) vwCl (W3 o cI cQ U Sh Sn Sf Sp) H := b_n hP hk9 hQ9
    refine z_iconst hx hb dX3_doneIn_21 ?_
    refine z_icmp_ne (tgt := 27) hx hb dX3_doneIn_22 (by decide) (by omega) (by omega) (fun c2 => ?_) (fun c2 => ?_)
    · refine lv_aload_n hx hb dX3_doneIn_27 rfl (lv_at hl 0 rfl) ?_
      refine gx_X3_0 hx hb hts hin hown hK hP (hts _ (List.mem_of_getElem? (i := 1) rfl)) dX3_doneIn_28 ?_
      refine lv_iload_n hx hb dX3_doneIn_31 rfl (lv_at hl 1 rfl) ?_
      refine z_calli (va_runV (As := [.int (zI od)]) (rest := []) ⟨hx, hb, hml, hown, hts⟩ (k_X1_statusOf l dC dI cI cQ (rg (o + 1) (o + 7)) (rN o) Sn (D_X1 (o + 1) cI) od (by omega)) (cwV 1 hts gX3_doneIn_X1_statusOf rfl rfl rfl (by decide +kernel) ⟨Nat.le_of_ble_eq_true rfl, Nat.le_of_ble_eq_true rfl⟩) (z_preV hK (s_n hP) (ci := 1) (q0 := 0) rfl rfl rfl) rfl rfl hl.1 rfl (lv_room (Nat.le_of_ble_eq_true rfl)) dX3_doneIn_32 ⟨Nat.zero_le _, Nat.zero_le _⟩) hS (fun q h => hA57 q (rg_sub h (by omega) (by omega))) (fun H locs hQ9 hS _ hk9 => ?_)
      have hP : va_P (dC, dI) vwCl (W3 o cI cQ U Sh Sn Sf Sp) H := b_n hP hk9 hQ9
      refine z_iconst hx hb dX3_doneIn_35 ?_
      refine z_icmp_ne (tgt := 42) hx hb dX3_doneIn_36 (by decide) (by omega) (by omega) (fun c3 => ?_) (fun c3 => ?_)
      · refine lv_aload_n hx hb dX3_doneIn_42 rfl (lv_at hl 0 rfl) ?_
        refine gx_X3_1 hx hb hts hin hown hK hP (hts _ (List.mem_of_getElem? (i := 2) rfl)) dX3_doneIn_43 ?_
        refine lv_aload_n hx hb dX3_doneIn_46 rfl (lv_at hl 0 rfl) ?_
        refine gx_X3_0 hx hb hts hin hown hK hP (hts _ (List.mem_of_getElem? (i := 1) rfl)) dX3_doneIn_47 ?_
        refine z_callv (va_runV (As := [.ref (o + 1)]) (rest := []) ⟨hx, hb, hml, hown, hts⟩ (k_X1_become l dC dI cI cQ (fun q => rg (o + 7) (o + 13) q ∨ rg (o + 1) (o + 7) q) (rF o) (rN o) Sf Sn (D_fn o cI)) (cwV 1 hts gX3_doneIn_X1_become rfl rfl rfl (by decide +kernel) ⟨Nat.le_of_ble_eq_true rfl, Nat.le_of_ble_eq_true rfl⟩) (z_preV hK (va_P.app (s_f hP) (s_n hP)) (ci := 1) (q0 := 0) rfl rfl rfl) rfl rfl hl.1 rfl (lv_room (Nat.le_of_ble_eq_true rfl)) dX3_doneIn_50 ⟨Nat.zero_le _, Nat.zero_le _⟩) hS (fun q h => hA57 q (h.elim (fun z => rg_sub z (by omega) (by omega)) (fun z => rg_sub z (by omega) (by omega)))) (fun H locs hQ9 hS _ hk9 => ?_)
        have hP : va_P (dC, dI) vwCl (W3 o cI cQ U Sh Sn Sn Sp) H := b_fn hP hk9 hQ9
        refine z_iconst hx hb dX3_doneIn_53 ?_
        refine lv_istore_n (lv' := [(2, .int (zI 1)), (0, .ref o), (1, .int (zI od))]) hx hb dX3_doneIn_54 rfl hl (by decide) rfl (fun ls hl => ?_)
        have hloop55 : ∀ (n : Nat) (t : Int) (S1 : Nat → Int → Int), (1 ≤ t ∧ t ≤ 301) → (S1 = itZ doTickS (t - 1) Sn) → (stN (fun q => itZ doTickS q Sn 1 (8 * od + 3) = 1) (301 - t).toNat t = stN (fun q => itZ doTickS q Sn 1 (8 * od + 3) = 1) 300 1) → (301 - t < (n : Int)) → ∀ (H : Heap) (locs : List Loc), va_P (dC, dI) vwCl (W3 o cI cQ U Sh Sn S1 Sp) H → va_S A s.heap H locs → ∀ ls : Array Slot, lv_has ls 3 [(2, .int (zI t)), (0, .ref o), (1, .int (zI od))] → W p l e (headSpec wsX3_doneIn ({ frames := 4, cells := 0, slots := 0, locals := 105 })).room s m ([.ref o, .int (zI od)] : List Value).toArray below meth c H locs 0 0 (MQ below (zQi (dC, dI) vwCl (W3 o cI cQ U Sh Sn (doF Sn Sf od) Sp) (doR Sn od) A) ([.ref o, .int (zI od)] : List Value).toArray s 0 0 A) (F0 m 55 ls []) := by
          intro n
          induction n with
          | zero =>
            intro t S1 i0 i1 i2 hm
            exfalso
            omega
          | succ n ih =>
            intro t S1 i0 i1 i2 hm H locs hP hS ls hl
            have ih55 := ih
            clear ih
            refine lv_iload_n hx hb dX3_doneIn_55 rfl (lv_at hl 0 rfl) ?_
            refine z_sipush (z := 300) hx hb dX3_doneIn_56 (by decide +kernel) ?_
            refine z_icmp_gt (tgt := 89) hx hb dX3_doneIn_59 (by decide) (by omega) (by omega) (fun c4 => ?_) (fun c4 => ?_)
            · refine z_bipush (z := (-9)) hx hb dX3_doneIn_89 (by decide +kernel) ?_
              obtain rfl : t = 301 := by omega
              have est : dtS Sn od = 301 := by (unfold dtS; rw [← i2, stN_end (by omega)])
              exact z_iret hx hb hr hlk hP hS dX3_doneIn_91 (by unfold doR; rw [if_pos (by omega), if_neg (by omega), if_neg (by omega), est]; first | (rw [if_pos (by omega)]; done) | rw [if_neg (by omega)]) (by unfold doF; rw [if_pos (by omega), est, if_neg (by omega), i1]; rfl)
            · have eT : itZ doTickS t Sn = doTickS S1 := by (have q := itZ_succ doTickS Sn (show 0 ≤ t - 1 by omega); rw [show t - 1 + 1 = t from by omega] at q; rw [q, ← i1])
              have hal := hall (t - 1) (by omega) (by omega)
              rw [← i1] at hal
              have hal2 := (hall t (by omega) (by omega)).1
              rw [eT] at hal2
              have hb2 := hal2.1 1 (8 * od + 3) (Or.inl (by decide))
              refine lv_aload_n hx hb dX3_doneIn_62 rfl (lv_at hl 1 rfl) ?_
              refine gx_X3_1 hx hb hts hin hown hK hP (hts _ (List.mem_of_getElem? (i := 2) rfl)) dX3_doneIn_63 ?_
              refine z_callv (va_runV (As := []) (rest := []) ⟨hx, hb, hml, hown, hts⟩ (k_X1_doTick l dC dI cI cQ (rg (o + 7) (o + 13)) (rF o) S1 (D_X1 (o + 7) cI) (by exact hal.1) (by exact hal.2.1) (by exact hal.2.2)) (cwV 0 hts gX3_doneIn_X1_doTick rfl rfl rfl (by decide +kernel) ⟨Nat.le_of_ble_eq_true rfl, Nat.le_of_ble_eq_true rfl⟩) (z_preV hK (s_f hP) (ci := 1) (q0 := 0) rfl rfl rfl) rfl rfl hl.1 rfl (lv_room (Nat.le_of_ble_eq_true rfl)) dX3_doneIn_66 ⟨Nat.zero_le _, Nat.zero_le _⟩) hS (fun q h => hA57 q (rg_sub h (by omega) (by omega))) (fun H locs hQ9 hS _ hk9 => ?_)
              have hP : va_P (dC, dI) vwCl (W3 o cI cQ U Sh Sn (doTickS S1) Sp) H := b_f hP hk9 hQ9
              refine lv_aload_n hx hb dX3_doneIn_69 rfl (lv_at hl 1 rfl) ?_
              refine gx_X3_1 hx hb hts hin hown hK hP (hts _ (List.mem_of_getElem? (i := 2) rfl)) dX3_doneIn_70 ?_
              refine lv_iload_n hx hb dX3_doneIn_73 rfl (lv_at hl 2 rfl) ?_
              refine z_calli (va_runV (As := [.int (zI od)]) (rest := []) ⟨hx, hb, hml, hown, hts⟩ (k_X1_statusOf l dC dI cI cQ (rg (o + 7) (o + 13)) (rF o) (doTickS S1) (D_X1 (o + 7) cI) od (by omega)) (cwV 1 hts gX3_doneIn_X1_statusOf rfl rfl rfl (by decide +kernel) ⟨Nat.le_of_ble_eq_true rfl, Nat.le_of_ble_eq_true rfl⟩) (z_preV hK (s_f hP) (ci := 1) (q0 := 0) rfl rfl rfl) rfl rfl hl.1 rfl (lv_room (Nat.le_of_ble_eq_true rfl)) dX3_doneIn_74 ⟨Nat.zero_le _, Nat.zero_le _⟩) hS (fun q h => hA57 q (rg_sub h (by omega) (by omega))) (fun H locs hQ9 hS _ hk9 => ?_)
              have hP : va_P (dC, dI) vwCl (W3 o cI cQ U Sh Sn (doTickS S1) Sp) H := b_f hP hk9 hQ9
              refine z_iconst hx hb dX3_doneIn_77 ?_
              refine z_icmp_ne (tgt := 83) hx hb dX3_doneIn_78 (by decide) (by omega) (by omega) (fun c5 => ?_) (fun c5 => ?_)
              · refine z_iinc (lv' := [(2, .int (zI (t + 1))), (0, .ref o), (1, .int (zI od))]) hx hb dX3_doneIn_83 hl (k := 0) rfl (by decide) (by rw [show (t : Int) + (1) = (t + 1) from by omega]; rfl) (fun ls hl => ?_)
                refine lv_goto (tgt := 55) hx hb dX3_doneIn_86 (by decide) ?_
                exact ih55 (t + 1) (doTickS S1) (by omega) (by rw [show t + 1 - 1 = t from by omega]; exact eT.symm) (by rw [← i2, stN_no (n := 301 - t) (k := t) (by omega) (by rw [eT]; omega), show 301 - (t + 1) = 301 - t - 1 from by omega]) (by omega) _ _ hP hS ls (lv_sub hl [0, 1, 2] rfl)
              · refine lv_iload_n hx hb dX3_doneIn_81 rfl (lv_at hl 0 rfl) ?_
                have est : dtS Sn od = t := by (unfold dtS; rw [← i2, stN_yes (n := 301 - t) (k := t) (by omega) (by rw [eT]; omega)])
                exact z_iret hx hb hr hlk hP hS dX3_doneIn_82 (by unfold doR; rw [if_pos (by omega), if_neg (by omega), if_neg (by omega), est]; first | (rw [if_pos (by omega)]; done) | rw [if_neg (by omega)]) (by unfold doF; rw [if_pos (by omega), est, if_pos (by omega), eT])
        exact hloop55 ((301 - 1 : Int) + 1).toNat 1 Sn (by omega) (by rfl) (by rfl) (by omega) _ _ hP hS ls (lv_sub hl [0, 1, 2] rfl)
      · refine z_bipush (z := (-9)) hx hb dX3_doneIn_39 (by decide +kernel) ?_
        exact z_iret hx hb hr hlk hP hS dX3_doneIn_41 (by unfold doR; rw [if_pos (by omega), if_neg (by omega), if_pos (by omega)]) (by unfold doF; rw [if_neg (by omega)])
    · refine z_iconst hx hb dX3_doneIn_25 ?_
      exact z_iret hx hb hr hlk hP hS dX3_doneIn_26 (by unfold doR; rw [if_pos (by omega), if_pos (by omega)]) (by unfold doF; rw [if_neg (by omega)])
  · refine z_iconst hx hb dX3_doneIn_11 ?_
    exact z_iret hx hb hr hlk hP hS dX3_doneIn_12 (by unfold doR; rw [if_neg (by omega)]) (by unfold doF; rw [if_neg (by omega)])
theorem in_X3_idleIn : ∀ w ∈ wsX30, w ∈ wsX3_idleIn := fun w h => List.mem_cons_of_mem _ (List.mem_append_left _ (List.mem_append_right _ h))
set_option maxHeartbeats 4000000 in
set_option maxRecDepth 100000 in
theorem k_X3_idleIn (l : Launch) (dC : Nat → ClassId) (dI : Nat → Nat → Nat) (cI cQ : ClassId) (A : Nat → Prop) (o : Nat) (U : Nat → Nat → Int → Int) (Sh Sn Sf Sp : Nat → Int → Int) (hA57 : ∀ q, rg o (o + 57) q → A q) (hall : ∀ k : Int, 0 ≤ k → k ≤ 300 → WF (itZ doTickS k Sn) ∧ WF (forgS (itZ doTickS k Sn)) ∧ (0 < itZ doTickS k Sn 4 (itZ doTickS k Sn 6 0) → WF (useHdS (forgS (itZ doTickS k Sn)) 0))) : Met l yX3_idleIn wsX3_idleIn ({ frames := 4, cells := 0, slots := 0, locals := 105 }) (zPc (dC, dI) vwCl (zT cI cQ) (W3 o cI cQ U Sh Sn Sf Sp) [.ref o]) (zQi (dC, dI) vwCl (W3 o cI cQ U Sh Sn (idF Sn Sf) Sp) (idC Sn) A) 0 0 A := by
  refine Met.ofW (cc := cX3_idleIn) (maxL := 2) (ret := (some .int)) (by decide) rfl ?_
  intro p e s m args below meth c s₁ B hml hv
  obtain ⟨rfl, hP, hK⟩ := hv
  have hx := B.exec
  have hb := B.bytes
  have hr := B.returns
  have hts := atoms_spec (ws := wsX3_idleIn) B.pre
  have hown : s.vm.findClass RX3 = some m.cls := findClass_of_methodNamed B.named
  have hlk := B.notSynchronized
  have hS : va_S A s.heap s.heap [] := va_S.rf
  have hl := lv_entry ([.ref o]) (n := 2) (Nat.le_of_ble_eq_true rfl)
  rw [lg_entry_eq]
  generalize (lg_sl ([.ref o]) ++ List.replicate (2 - (lg_sl ([.ref o])).length) Slot.unset).toArray = ls at hl ⊢
  have hl : lv_has ls 2 [(0, .ref o)] := hl
  have hin : ∀ w ∈ wsX30, w ∈ wsX3_idleIn := in_X3_idleIn
  have hW0 : WF Sn := (hall 0 (by omega) (by omega)).1
  refine lv_aload_n hx hb dX3_idleIn_0 rfl (lv_at hl 0 rfl) ?_
  refine gx_X3_0 hx hb hts hin hown hK hP (hts _ (List.mem_of_getElem? (i := 1) rfl)) dX3_idleIn_1 ?_
  refine z_calli (va_runV (As := []) (rest := []) ⟨hx, hb, hml, hown, hts⟩ (k_X1_hasWork l dC dI cI cQ (rg (o + 1) (o + 7)) (rN o) Sn (D_X1 (o + 1) cI) (by exact hW0.1)) (cwV 0 hts gX3_idleIn_X1_hasWork rfl rfl rfl (by decide +kernel) ⟨Nat.le_of_ble_eq_true rfl, Nat.le_of_ble_eq_true rfl⟩) (z_preV hK (s_n hP) (ci := 1) (q0 := 0) rfl rfl rfl) rfl rfl hl.1 rfl (lv_room (Nat.le_of_ble_eq_true rfl)) dX3_idleIn_4 ⟨Nat.zero_le _, Nat.zero_le _⟩) hS (fun q h => hA57 q (rg_sub h (by omega) (by omega))) (fun H locs hQ9 hS _ hk9 => ?_)
  have hP : va_P (dC, dI) vwCl (W3 o cI cQ U Sh Sn Sf Sp) H := b_n hP hk9 hQ9
  refine z_ifb_ne (tgt := 12) hx hb dX3_idleIn_7 (by decide) (fun c1 => ?_) (fun c1 => ?_)
  · refine lv_aload_n hx hb dX3_idleIn_12 rfl (lv_at hl 0 rfl) ?_
    refine gx_X3_1 hx hb hts hin hown hK hP (hts _ (List.mem_of_getElem? (i := 2) rfl)) dX3_idleIn_13 ?_
    refine lv_aload_n hx hb dX3_idleIn_16 rfl (lv_at hl 0 rfl) ?_
    refine gx_X3_0 hx hb hts hin hown hK hP (hts _ (List.mem_of_getElem? (i := 1) rfl)) dX3_idleIn_17 ?_
    refine z_callv (va_runV (As := [.ref (o + 1)]) (rest := []) ⟨hx, hb, hml, hown, hts⟩ (k_X1_become l dC dI cI cQ (fun q => rg (o + 7) (o + 13) q ∨ rg (o + 1) (o + 7) q) (rF o) (rN o) Sf Sn (D_fn o cI)) (cwV 1 hts gX3_idleIn_X1_become rfl rfl rfl (by decide +kernel) ⟨Nat.le_of_ble_eq_true rfl, Nat.le_of_ble_eq_true rfl⟩) (z_preV hK (va_P.app (s_f hP) (s_n hP)) (ci := 1) (q0 := 0) rfl rfl rfl) rfl rfl hl.1 rfl (lv_room (Nat.le_of_ble_eq_true rfl)) dX3_idleIn_20 ⟨Nat.zero_le _, Nat.zero_le _⟩) hS (fun q h => hA57 q (h.elim (fun z => rg_sub z (by omega) (by omega)) (fun z => rg_sub z (by omega) (by omega)))) (fun H locs hQ9 hS _ hk9 => ?_)
    have hP : va_P (dC, dI) vwCl (W3 o cI cQ U Sh Sn Sn Sp) H := b_fn hP hk9 hQ9
    refine z_iconst hx hb dX3_idleIn_23 ?_
    refine lv_istore_n (lv' := [(1, .int (zI 1)), (0, .ref o)]) hx hb dX3_idleIn_24 rfl hl (by decide) rfl (fun ls hl => ?_)
    have hloop25 : ∀ (n : Nat) (t : Int) (S1 : Nat → Int → Int), (1 ≤ t ∧ t ≤ 301) → (S1 = itZ doTickS (t - 1) Sn) → (stN (fun q => ¬ (0 < itZ doTickS q Sn 4 0 ∨ 0 < itZ doTickS q Sn 4 1 ∨ 0 < itZ doTickS q Sn 4 2 ∨ 0 < itZ doTickS q Sn 4 3)) (301 - t).toNat t = stN (fun q => ¬ (0 < itZ doTickS q Sn 4 0 ∨ 0 < itZ doTickS q Sn 4 1 ∨ 0 < itZ doTickS q Sn 4 2 ∨ 0 < itZ doTickS q Sn 4 3)) 300 1) → (301 - t < (n : Int)) → ∀ (H : Heap) (locs : List Loc), va_P (dC, dI) vwCl (W3 o cI cQ U Sh Sn S1 Sp) H → va_S A s.heap H locs → ∀ ls : Array Slot, lv_has ls 2 [(1, .int (zI t)), (0, .ref o)] → W p l e (headSpec wsX3_idleIn ({ frames := 4, cells := 0, slots := 0, locals := 105 })).room s m ([.ref o] : List Value).toArray below meth c H locs 0 0 (MQ below (zQi (dC, dI) vwCl (W3 o cI cQ U Sh Sn (idF Sn Sf) Sp) (idC Sn) A) ([.ref o] : List Value).toArray s 0 0 A) (F0 m 25 ls []) := by
      intro n
      induction n with
      | zero =>
        intro t S1 i0 i1 i2 hm
        exfalso
        omega
      | succ n ih =>
        intro t S1 i0 i1 i2 hm H locs hP hS ls hl
        have ih25 := ih
        clear ih
        refine lv_iload_n hx hb dX3_idleIn_25 rfl (lv_at hl 0 rfl) ?_
        refine z_sipush (z := 300) hx hb dX3_idleIn_26 (by decide +kernel) ?_
        refine z_icmp_gt (tgt := 57) hx hb dX3_idleIn_29 (by decide) (by omega) (by omega) (fun c2 => ?_) (fun c2 => ?_)
        · refine z_bipush (z := (-9)) hx hb dX3_idleIn_57 (by decide +kernel) ?_
          obtain rfl : t = 301 := by omega
          have est : itS Sn = 301 := by (unfold itS; rw [← i2, stN_end (by omega)])
          exact z_iret hx hb hr hlk hP hS dX3_idleIn_59 (by unfold idC; rw [if_pos (by assumption), est]; first | (rw [if_pos (by omega)]; done) | rw [if_neg (by omega)]) (by unfold idF; rw [if_pos (by assumption), est, if_neg (by omega), i1]; rfl)
        · have eT : itZ doTickS t Sn = doTickS S1 := by (have q := itZ_succ doTickS Sn (show 0 ≤ t - 1 by omega); rw [show t - 1 + 1 = t from by omega] at q; rw [q, ← i1])
          have hal := hall (t - 1) (by omega) (by omega)
          rw [← i1] at hal
          have hal2 := (hall t (by omega) (by omega)).1
          rw [eT] at hal2
          refine lv_aload_n hx hb dX3_idleIn_32 rfl (lv_at hl 1 rfl) ?_
          refine gx_X3_1 hx hb hts hin hown hK hP (hts _ (List.mem_of_getElem? (i := 2) rfl)) dX3_idleIn_33 ?_
          refine z_callv (va_runV (As := []) (rest := []) ⟨hx, hb, hml, hown, hts⟩ (k_X1_doTick l dC dI cI cQ (rg (o + 7) (o + 13)) (rF o) S1 (D_X1 (o + 7) cI) (by exact hal.1) (by exact hal.2.1) (by exact hal.2.2)) (cwV 0 hts gX3_idleIn_X1_doTick rfl rfl rfl (by decide +kernel) ⟨Nat.le_of_ble_eq_true rfl, Nat.le_of_ble_eq_true rfl⟩) (z_preV hK (s_f hP) (ci := 1) (q0 := 0) rfl rfl rfl) rfl rfl hl.1 rfl (lv_room (Nat.le_of_ble_eq_true rfl)) dX3_idleIn_36 ⟨Nat.zero_le _, Nat.zero_le _⟩) hS (fun q h => hA57 q (rg_sub h (by omega) (by omega))) (fun H locs hQ9 hS _ hk9 => ?_)
          have hP : va_P (dC, dI) vwCl (W3 o cI cQ U Sh Sn (doTickS S1) Sp) H := b_f hP hk9 hQ9
          refine lv_aload_n hx hb dX3_idleIn_39 rfl (lv_at hl 1 rfl) ?_
          refine gx_X3_1 hx hb hts hin hown hK hP (hts _ (List.mem_of_getElem? (i := 2) rfl)) dX3_idleIn_40 ?_
          refine z_calli (va_runV (As := []) (rest := []) ⟨hx, hb, hml, hown, hts⟩ (k_X1_hasWork l dC dI cI cQ (rg (o + 7) (o + 13)) (rF o) (doTickS S1) (D_X1 (o + 7) cI) (by exact hal2.1)) (cwV 0 hts gX3_idleIn_X1_hasWork rfl rfl rfl (by decide +kernel) ⟨Nat.le_of_ble_eq_true rfl, Nat.le_of_ble_eq_true rfl⟩) (z_preV hK (s_f hP) (ci := 1) (q0 := 0) rfl rfl rfl) rfl rfl hl.1 rfl (lv_room (Nat.le_of_ble_eq_true rfl)) dX3_idleIn_43 ⟨Nat.zero_le _, Nat.zero_le _⟩) hS (fun q h => hA57 q (rg_sub h (by omega) (by omega))) (fun H locs hQ9 hS _ hk9 => ?_)
          have hP : va_P (dC, dI) vwCl (W3 o cI cQ U Sh Sn (doTickS S1) Sp) H := b_f hP hk9 hQ9
          refine z_ifb_ne (tgt := 51) hx hb dX3_idleIn_46 (by decide) (fun c3 => ?_) (fun c3 => ?_)
          · refine z_iinc (lv' := [(1, .int (zI (t + 1))), (0, .ref o)]) hx hb dX3_idleIn_51 hl (k := 0) rfl (by decide) (by rw [show (t : Int) + (1) = (t + 1) from by omega]; rfl) (fun ls hl => ?_)
            refine lv_goto (tgt := 25) hx hb dX3_idleIn_54 (by decide) ?_
            exact ih25 (t + 1) (doTickS S1) (by omega) (by rw [show t + 1 - 1 = t from by omega]; exact eT.symm) (by rw [← i2, stN_no (n := 301 - t) (k := t) (by omega) (by rw [eT]; exact fun q => q (by assumption)), show 301 - (t + 1) = 301 - t - 1 from by omega]) (by omega) _ _ hP hS ls (lv_sub hl [0, 1] rfl)
          · refine lv_iload_n hx hb dX3_idleIn_49 rfl (lv_at hl 0 rfl) ?_
            have est : itS Sn = t := by (unfold itS; rw [← i2, stN_yes (n := 301 - t) (k := t) (by omega) (by rw [eT]; assumption)])
            exact z_iret hx hb hr hlk hP hS dX3_idleIn_50 (by unfold idC; rw [if_pos (by assumption), est]; first | (rw [if_pos (by omega)]; done) | rw [if_neg (by omega)]) (by unfold idF; rw [if_pos (by assumption), est, if_pos (by omega), eT])
    exact hloop25 ((301 - 1 : Int) + 1).toNat 1 Sn (by omega) (by rfl) (by rfl) (by omega) _ _ hP hS ls (lv_sub hl [0, 1] rfl)
  · refine z_iconst hx hb dX3_idleIn_10 ?_
    exact z_iret hx hb hr hlk hP hS dX3_idleIn_11 (by unfold idC; rw [if_neg (by assumption)]) (by unfold idF; rw [if_neg (by assumption)])
theorem in_X3_wouldWipe : ∀ w ∈ wsX30, w ∈ wsX3_wouldWipe := fun w h => List.mem_cons_of_mem _ (List.mem_append_left _ (List.mem_append_right _ h))
set_option maxHeartbeats 4000000 in
set_option maxRecDepth 100000 in
theorem k_X3_wouldWipe (l : Launch) (dC : Nat → ClassId) (dI : Nat → Nat → Nat) (cI cQ : ClassId) (A : Nat → Prop) (o : Nat) (U : Nat → Nat → Int → Int) (Sh Sn Sf Sp : Nat → Int → Int) (hA57 : ∀ q, rg o (o + 57) q → A q) (hW : WF Sn) (hW2 : ∀ k : Int, 0 ≤ k → k ≤ 2 → WF (ixZ tearS k Sn)) (hrb : ∀ b : Int, 0 ≤ b → b < 48 → zB (ixZ (fun b U => repS U (4 * b) (4 * b + 192)) b (cutS Sn))) : Met l yX3_wouldWipe wsX3_wouldWipe ({ frames := 4, cells := 0, slots := 0, locals := 101 }) (zPc (dC, dI) vwCl (zT cI cQ) (W3 o cI cQ U Sh Sn Sf Sp) [.ref o]) (zQi (dC, dI) vwCl (W3 o cI cQ U Sh Sn (repairS (cutS Sn)) Sp) (repairS (cutS Sn) 9 0 - Sn 9 0) A) 0 0 A := by
  refine Met.ofW (cc := cX3_wouldWipe) (maxL := 1) (ret := (some .int)) (by decide) rfl ?_
  intro p e s m args below meth c s₁ B hml hv
  obtain ⟨rfl, hP, hK⟩ := hv
  have hx := B.exec
  have hb := B.bytes
  have hr := B.returns
  have hts := atoms_spec (ws := wsX3_wouldWipe) B.pre
  have hown : s.vm.findClass RX3 = some m.cls := findClass_of_methodNamed B.named
  have hlk := B.notSynchronized
  have hS : va_S A s.heap s.heap [] := va_S.rf
  have hl := lv_entry ([.ref o]) (n := 1) (Nat.le_of_ble_eq_true rfl)
  rw [lg_entry_eq]
  generalize (lg_sl ([.ref o]) ++ List.replicate (1 - (lg_sl ([.ref o])).length) Slot.unset).toArray = ls at hl ⊢
  have hl : lv_has ls 1 [(0, .ref o)] := hl
  have hin : ∀ w ∈ wsX30, w ∈ wsX3_wouldWipe := in_X3_wouldWipe
  refine lv_aload_n hx hb dX3_wouldWipe_0 rfl (lv_at hl 0 rfl) ?_
  refine gx_X3_1 hx hb hts hin hown hK hP (hts _ (List.mem_of_getElem? (i := 1) rfl)) dX3_wouldWipe_1 ?_
  refine lv_aload_n hx hb dX3_wouldWipe_4 rfl (lv_at hl 0 rfl) ?_
  refine gx_X3_0 hx hb hts hin hown hK hP (hts _ (List.mem_of_getElem? (i := 2) rfl)) dX3_wouldWipe_5 ?_
  refine z_callv (va_runV (As := [.ref (o + 1)]) (rest := []) ⟨hx, hb, hml, hown, hts⟩ (k_X1_become l dC dI cI cQ (fun q => rg (o + 7) (o + 13) q ∨ rg (o + 1) (o + 7) q) (rF o) (rN o) Sf Sn (D_fn o cI)) (cwV 1 hts gX3_wouldWipe_X1_become rfl rfl rfl (by decide +kernel) ⟨Nat.le_of_ble_eq_true rfl, Nat.le_of_ble_eq_true rfl⟩) (z_preV hK (va_P.app (s_f hP) (s_n hP)) (ci := 1) (q0 := 0) rfl rfl rfl) rfl rfl hl.1 rfl (lv_room (Nat.le_of_ble_eq_true rfl)) dX3_wouldWipe_8 ⟨Nat.zero_le _, Nat.zero_le _⟩) hS (fun q h => hA57 q (h.elim (fun z => rg_sub z (by omega) (by omega)) (fun z => rg_sub z (by omega) (by omega)))) (fun H locs hQ9 hS _ hk9 => ?_)
  have hP : va_P (dC, dI) vwCl (W3 o cI cQ U Sh Sn Sn Sp) H := b_fn hP hk9 hQ9
  refine lv_aload_n hx hb dX3_wouldWipe_11 rfl (lv_at hl 0 rfl) ?_
  refine gx_X3_1 hx hb hts hin hown hK hP (hts _ (List.mem_of_getElem? (i := 1) rfl)) dX3_wouldWipe_12 ?_
  refine z_calli (va_runV (As := []) (rest := []) ⟨hx, hb, hml, hown, hts⟩ (k_X1_cutPower l dC dI cI cQ (rg (o + 7) (o + 13)) (rF o) Sn (D_X1 (o + 7) cI) (by exact hW) (by exact hW2)) (cwV 0 hts gX3_wouldWipe_X1_cutPower rfl rfl rfl (by decide +kernel) ⟨Nat.le_of_ble_eq_true rfl, Nat.le_of_ble_eq_true rfl⟩) (z_preV hK (s_f hP) (ci := 1) (q0 := 0) rfl rfl rfl) rfl rfl hl.1 rfl (lv_room (Nat.le_of_ble_eq_true rfl)) dX3_wouldWipe_15 ⟨Nat.zero_le _, Nat.zero_le _⟩) hS (fun q h => hA57 q (rg_sub h (by omega) (by omega))) (fun H locs hQ9 hS _ hk9 => ?_)
  have hP : va_P (dC, dI) vwCl (W3 o cI cQ U Sh Sn (cutS Sn) Sp) H := b_f hP hk9 hQ9
  refine lv_pop hx hb dX3_wouldWipe_18 rfl ?_
  refine lv_aload_n hx hb dX3_wouldWipe_19 rfl (lv_at hl 0 rfl) ?_
  refine gx_X3_1 hx hb hts hin hown hK hP (hts _ (List.mem_of_getElem? (i := 1) rfl)) dX3_wouldWipe_20 ?_
  refine z_calli (va_runV (As := []) (rest := []) ⟨hx, hb, hml, hown, hts⟩ (k_X1_repairBlocks l dC dI cI cQ (rg (o + 7) (o + 13)) (rF o) (cutS Sn) (D_X1 (o + 7) cI) (by exact hrb)) (cwV 0 hts gX3_wouldWipe_X1_repairBlocks rfl rfl rfl (by decide +kernel) ⟨Nat.le_of_ble_eq_true rfl, Nat.le_of_ble_eq_true rfl⟩) (z_preV hK (s_f hP) (ci := 1) (q0 := 0) rfl rfl rfl) rfl rfl hl.1 rfl (lv_room (Nat.le_of_ble_eq_true rfl)) dX3_wouldWipe_23 ⟨Nat.zero_le _, Nat.zero_le _⟩) hS (fun q h => hA57 q (rg_sub h (by omega) (by omega))) (fun H locs hQ9 hS _ hk9 => ?_)
  have hP : va_P (dC, dI) vwCl (W3 o cI cQ U Sh Sn (repairS (cutS Sn)) Sp) H := b_f hP hk9 hQ9
  refine lv_pop hx hb dX3_wouldWipe_26 rfl ?_
  refine lv_aload_n hx hb dX3_wouldWipe_27 rfl (lv_at hl 0 rfl) ?_
  refine gx_X3_1 hx hb hts hin hown hK hP (hts _ (List.mem_of_getElem? (i := 1) rfl)) dX3_wouldWipe_28 ?_
  refine z_calli (va_runV (As := []) (rest := []) ⟨hx, hb, hml, hown, hts⟩ (k_X1_wiped l dC dI cI cQ (rg (o + 7) (o + 13)) (rF o) (repairS (cutS Sn)) (D_X1 (o + 7) cI)) (cwV 0 hts gX3_wouldWipe_X1_wiped rfl rfl rfl (by decide +kernel) ⟨Nat.le_of_ble_eq_true rfl, Nat.le_of_ble_eq_true rfl⟩) (z_preV hK (s_f hP) (ci := 1) (q0 := 0) rfl rfl rfl) rfl rfl hl.1 rfl (lv_room (Nat.le_of_ble_eq_true rfl)) dX3_wouldWipe_31 ⟨Nat.zero_le _, Nat.zero_le _⟩) hS (fun q h => hA57 q (rg_sub h (by omega) (by omega))) (fun H locs hQ9 hS _ hk9 => ?_)
  have hP : va_P (dC, dI) vwCl (W3 o cI cQ U Sh Sn (repairS (cutS Sn)) Sp) H := b_f hP hk9 hQ9
  refine lv_aload_n hx hb dX3_wouldWipe_34 rfl (lv_at hl 0 rfl) ?_
  refine gx_X3_0 hx hb hts hin hown hK hP (hts _ (List.mem_of_getElem? (i := 2) rfl)) dX3_wouldWipe_35 ?_
  refine z_calli (va_runV (As := []) (rest := [.int (zI ((repairS (cutS Sn)) 9 0))]) ⟨hx, hb, hml, hown, hts⟩ (k_X1_wiped l dC dI cI cQ (rg (o + 1) (o + 7)) (rN o) Sn (D_X1 (o + 1) cI)) (cwV 0 hts gX3_wouldWipe_X1_wiped rfl rfl rfl (by decide +kernel) ⟨Nat.le_of_ble_eq_true rfl, Nat.le_of_ble_eq_true rfl⟩) (z_preV hK (s_n hP) (ci := 1) (q0 := 0) rfl rfl rfl) rfl rfl hl.1 rfl (lv_room (Nat.le_of_ble_eq_true rfl)) dX3_wouldWipe_38 ⟨Nat.zero_le _, Nat.zero_le _⟩) hS (fun q h => hA57 q (rg_sub h (by omega) (by omega))) (fun H locs hQ9 hS _ hk9 => ?_)
  have hP : va_P (dC, dI) vwCl (W3 o cI cQ U Sh Sn (repairS (cutS Sn)) Sp) H := b_n hP hk9 hQ9
  refine z_isub hx hb dX3_wouldWipe_41 ?_
  refine z_top (y := (repairS (cutS Sn)) 9 0 - Sn 9 0) (by omega) ?_
  exact z_iret hx hb hr hlk hP hS dX3_wouldWipe_42 (by omega) rfl
theorem in_X3_run : ∀ w ∈ wsX30, w ∈ wsX3_run := fun w h => List.mem_cons_of_mem _ (List.mem_append_left _ (List.mem_append_left _ (List.mem_append_left _ (List.mem_append_right _ h))))
set_option maxHeartbeats 4000000 in
set_option maxRecDepth 100000 in
theorem k_X3_run (l : Launch) (dC : Nat → ClassId) (dI : Nat → Nat → Nat) (cI cQ : ClassId) (A : Nat → Prop) (o : Nat) (U : Nat → Nat → Int → Int) (Sh Sn Sf Sp : Nat → Int → Int) (hA57 : ∀ q, rg o (o + 57) q → A q) (h1 : 0 ≤ Sh 1 0 ∧ Sh 1 0 < 6) (h2 : 0 ≤ Sh 2 0 ∧ Sh 2 0 ≤ 5) (hX : CX (un0 Sp)) (hXP : CX (unC Sp)) (hper : ∀ k : Int, 0 ≤ k → k < (unC Sp) 4 0 → (∀ j : Int, 0 ≤ j → j < k → 0 ≤ peR (rnS Sn (unC Sp) j) (unC Sp) (lsF (unC Sp) j)) → PH (rnS Sn (unC Sp) k) (unC Sp) (lsF (unC Sp) k)) : Met l yX3_run wsX3_run ({ frames := 6, cells := 0, slots := 0, locals := 160 }) (zPc (dC, dI) vwCl (zT cI cQ) (W3 o cI cQ U Sh Sn Sf Sp) [.ref o]) (zQi (dC, dI) vwCl (W3 o cI cQ (ruU U Sh Sn Sp) (ruH Sh Sn Sp) (ruN Sn Sp) Sf (unC Sp)) (ruR Sn Sp) A) 0 0 A := by
  refine Met.ofW (cc := cX3_run) (maxL := 4) (ret := (some .int)) (by decide) rfl ?_
  intro p e s m args below meth c s₁ B hml hv
  obtain ⟨rfl, hP, hK⟩ := hv
  have hx := B.exec
  have hb := B.bytes
  have hr := B.returns
  have hts := atoms_spec (ws := wsX3_run) B.pre
  have hown : s.vm.findClass RX3 = some m.cls := findClass_of_methodNamed B.named
  have hlk := B.notSynchronized
  have hS : va_S A s.heap s.heap [] := va_S.rf
  have hl := lv_entry ([.ref o]) (n := 4) (Nat.le_of_ble_eq_true rfl)
  rw [lg_entry_eq]
  generalize (lg_sl ([.ref o]) ++ List.replicate (4 - (lg_sl ([.ref o])).length) Slot.unset).toArray = ls at hl ⊢
  have hl : lv_has ls 4 [(0, .ref o)] := hl
  have hin : ∀ w ∈ wsX30, w ∈ wsX3_run := in_X3_run
  have x4 := hXP.2.2.2.1
  have x8 := hXP.2.2.1
  refine lv_aload_n hx hb dX3_run_0 rfl (lv_at hl 0 rfl) ?_
  refine gx_X3_3 hx hb hts hin hown hK hP (hts _ (List.mem_of_getElem? (i := 1) rfl)) dX3_run_1 ?_
  refine z_calli (va_runV (As := []) (rest := []) ⟨hx, hb, hml, hown, hts⟩ (k_X2_isUnderstood l dC dI cI cQ (rg (o + 51) (o + 57)) (rP o) Sp (D_X2 (o + 51) cI) (by exact hX)) (cwV 0 hts gX3_run_X2_isUnderstood rfl rfl rfl (by decide +kernel) ⟨Nat.le_of_ble_eq_true rfl, Nat.le_of_ble_eq_true rfl⟩) (z_preV hK (s_p hP) (ci := 2) (q0 := 0) rfl rfl rfl) rfl rfl hl.1 rfl (lv_room (Nat.le_of_ble_eq_true rfl)) dX3_run_4 ⟨Nat.zero_le _, Nat.zero_le _⟩) hS (fun q h => hA57 q (rg_sub h (by omega) (by omega))) (fun H locs hQ9 hS _ hk9 => ?_)
  have hP : va_P (dC, dI) vwCl (W3 o cI cQ U Sh Sn Sf (unC Sp)) H := b_p hP hk9 hQ9
  refine z_ifb_ne (tgt := 22) hx hb dX3_run_7 (by decide) (fun c1 => ?_) (fun c1 => ?_)
  · refine lv_aload_n hx hb dX3_run_22 rfl (lv_at hl 0 rfl) ?_
    refine gx_X3_3 hx hb hts hin hown hK hP (hts _ (List.mem_of_getElem? (i := 1) rfl)) dX3_run_23 ?_
    refine z_calli (va_runV (As := []) (rest := []) ⟨hx, hb, hml, hown, hts⟩ (k_X2_hasTooManySteps l dC dI cI cQ (rg (o + 51) (o + 57)) (rP o) (unC Sp) (D_X2 (o + 51) cI) (by exact x4)) (cwV 0 hts gX3_run_X2_hasTooManySteps rfl rfl rfl (by decide +kernel) ⟨Nat.le_of_ble_eq_true rfl, Nat.le_of_ble_eq_true rfl⟩) (z_preV hK (s_p hP) (ci := 2) (q0 := 0) rfl rfl rfl) rfl rfl hl.1 rfl (lv_room (Nat.le_of_ble_eq_true rfl)) dX3_run_26 ⟨Nat.zero_le _, Nat.zero_le _⟩) hS (fun q h => hA57 q (rg_sub h (by omega) (by omega))) (fun H locs hQ9 hS _ hk9 => ?_)
    have hP : va_P (dC, dI) vwCl (W3 o cI cQ U Sh Sn Sf (unC Sp)) H := b_p hP hk9 hQ9
    refine z_ifb_eq (tgt := 46) hx hb dX3_run_29 (by decide) (fun c2 => ?_) (fun c2 => ?_)
    · refine lv_aload_n hx hb dX3_run_46 rfl (lv_at hl 0 rfl) ?_
      refine gx_X3_2 hx hb hts hin hown hK hP (hts _ (List.mem_of_getElem? (i := 2) rfl)) dX3_run_47 ?_
      refine lv_aload_n hx hb dX3_run_50 rfl (lv_at hl 0 rfl) ?_
      refine gx_X3_0 hx hb hts hin hown hK hP (hts _ (List.mem_of_getElem? (i := 3) rfl)) dX3_run_51 ?_
      refine z_callv (va_runV (As := [.ref (o + 1)]) (rest := []) ⟨hx, hb, hml, hown, hts⟩ (k_X0_note l dC dI cI cQ (aK o (((Sh 1 0 + Sh 2 0) % 6).toNat)) (rH o) (rS o) (rN o) Sh (U (((Sh 1 0 + Sh 2 0) % 6).toNat)) Sn (fun T1 T2 => D_hk hk_lt _ T1 T2) (by omega) (by omega)) (cwV 1 hts gX3_run_X0_note rfl rfl rfl (by decide +kernel) ⟨Nat.le_of_ble_eq_true rfl, Nat.le_of_ble_eq_true rfl⟩) (z_preV hK (e_hk (hk_lt (Sh := Sh)) hP) (ci := 0) (q0 := 0) rfl rfl rfl) rfl rfl hl.1 rfl (lv_room (Nat.le_of_ble_eq_true rfl)) dX3_run_54 ⟨Nat.zero_le _, Nat.zero_le _⟩) hS (fun q h => hA57 q (aK_in hk_lt q h)) (fun H locs hQ9 hS _ hk9 => ?_)
      have hP : va_P (dC, dI) vwCl (W3 o cI cQ (uset U (((Sh 1 0 + Sh 2 0) % 6).toNat) Sn) Sh Sn Sf (unC Sp)) H := b_hk (hk_lt (Sh := Sh)) hP hk9 hQ9
      refine lv_aload_n hx hb dX3_run_57 rfl (lv_at hl 0 rfl) ?_
      refine gx_X3_3 hx hb hts hin hown hK hP (hts _ (List.mem_of_getElem? (i := 1) rfl)) dX3_run_58 ?_
      refine z_calli (va_runV (As := []) (rest := []) ⟨hx, hb, hml, hown, hts⟩ (k_X2_steps l dC dI cI cQ (rg (o + 51) (o + 57)) (rP o) (unC Sp) (D_X2 (o + 51) cI)) (cwV 0 hts gX3_run_X2_steps rfl rfl rfl (by decide +kernel) ⟨Nat.le_of_ble_eq_true rfl, Nat.le_of_ble_eq_true rfl⟩) (z_preV hK (s_p hP) (ci := 2) (q0 := 0) rfl rfl rfl) rfl rfl hl.1 rfl (lv_room (Nat.le_of_ble_eq_true rfl)) dX3_run_61 ⟨Nat.zero_le _, Nat.zero_le _⟩) hS (fun q h => hA57 q (rg_sub h (by omega) (by omega))) (fun H locs hQ9 hS _ hk9 => ?_)
      have hP : va_P (dC, dI) vwCl (W3 o cI cQ (uset U (((Sh 1 0 + Sh 2 0) % 6).toNat) Sn) Sh Sn Sf (unC Sp)) H := b_p hP hk9 hQ9
      refine z_name (fun ns e_ns => ?_)
      refine lv_istore_n (lv' := [(1, .int (zI ns)), (0, .ref o)]) hx hb dX3_run_64 rfl hl (by decide) rfl (fun ls hl => ?_)
      refine z_iconst hx hb dX3_run_65 ?_
      refine lv_istore_n (lv' := [(2, .int (zI 0)), (1, .int (zI ns)), (0, .ref o)]) hx hb dX3_run_66 rfl hl (by decide) rfl (fun ls hl => ?_)
      have hloop67 : ∀ (n : Nat) (k : Int) (S1 : Nat → Int → Int), (0 ≤ k ∧ k ≤ ns) → (S1 = rnS Sn (unC Sp) k) → (stN (fun q => peR (rnS Sn (unC Sp) q) (unC Sp) (lsF (unC Sp) q) < 0) ((unC Sp) 4 0 - k).toNat k = kfZ Sn (unC Sp)) → (∀ j : Int, 0 ≤ j → j < k → 0 ≤ peR (rnS Sn (unC Sp) j) (unC Sp) (lsF (unC Sp) j)) → (ns - k < (n : Int)) → ∀ (H : Heap) (locs : List Loc), va_P (dC, dI) vwCl (W3 o cI cQ (uset U (((Sh 1 0 + Sh 2 0) % 6).toNat) Sn) Sh S1 Sf (unC Sp)) H → va_S A s.heap H locs → ∀ ls : Array Slot, lv_has ls 4 [(2, .int (zI k)), (1, .int (zI ns)), (0, .ref o)] → W p l e (headSpec wsX3_run ({ frames := 6, cells := 0, slots := 0, locals := 160 })).room s m ([.ref o] : List Value).toArray below meth c H locs 0 0 (MQ below (zQi (dC, dI) vwCl (W3 o cI cQ (ruU U Sh Sn Sp) (ruH Sh Sn Sp) (ruN Sn Sp) Sf (unC Sp)) (ruR Sn Sp) A) ([.ref o] : List Value).toArray s 0 0 A) (F0 m 67 ls []) := by
        intro n
        induction n with
        | zero =>
          intro k S1 i0 i1 i2 i3 hm
          exfalso
          omega
        | succ n ih =>
          intro k S1 i0 i1 i2 i3 hm H locs hP hS ls hl
          have ih67 := ih
          clear ih
          refine lv_iload_n hx hb dX3_run_67 rfl (lv_at hl 0 rfl) ?_
          refine lv_iload_n hx hb dX3_run_68 rfl (lv_at hl 1 rfl) ?_
          refine z_icmp_ge (tgt := 112) hx hb dX3_run_69 (by decide) (by omega) (by omega) (fun c3 => ?_) (fun c3 => ?_)
          · refine lv_aload_n hx hb dX3_run_112 rfl (lv_at hl 2 rfl) ?_
            refine gx_X3_2 hx hb hts hin hown hK hP (hts _ (List.mem_of_getElem? (i := 2) rfl)) dX3_run_113 ?_
            refine z_callv (va_runV (As := []) (rest := []) ⟨hx, hb, hml, hown, hts⟩ (k_X0_keepNoted l dC dI cI cQ (rg (o + 13) (o + 15)) (rH o) (rS o) [] Sh (D_X0 (o + 13) (rS o) cQ) (by omega) (by omega)) (cwV 0 hts gX3_run_X0_keepNoted rfl rfl rfl (by decide +kernel) ⟨Nat.le_of_ble_eq_true rfl, Nat.le_of_ble_eq_true rfl⟩) (z_preV hK (s_h hP) (ci := 0) (q0 := 0) rfl rfl rfl) rfl rfl hl.1 rfl (lv_room (Nat.le_of_ble_eq_true rfl)) dX3_run_116 ⟨Nat.zero_le _, Nat.zero_le _⟩) hS (fun q h => hA57 q (rg_sub h (by omega) (by omega))) (fun H locs hQ9 hS _ hk9 => ?_)
            have hP : va_P (dC, dI) vwCl (W3 o cI cQ (uset U (((Sh 1 0 + Sh 2 0) % 6).toNat) Sn) (keepH Sh) S1 Sf (unC Sp)) H := b_h hP hk9 hQ9
            refine lv_iload_n hx hb dX3_run_119 rfl (lv_at hl 1 rfl) ?_
            obtain rfl : k = ns := by omega
            have hkf : kfZ Sn (unC Sp) = k := by rw [← i2, stN_end (by omega)]
            have hU : (unF 80 (un0 Sp)).2 = true := by assumption
            have h100 : ¬ 100 < (unC Sp) 4 0 := by omega
            have hkn : ¬ kfZ Sn (unC Sp) < (unC Sp) 4 0 := by omega
            exact z_iret hx hb hr hlk hP hS dX3_run_120 (by unfold ruR; rw [if_pos (by assumption), if_neg (by omega), hkf, if_neg (by omega)]; omega) (by unfold ruU ruH ruN; simp only [if_pos hU, if_neg h100, if_neg hkn]; rw [i1, e_ns])
          · refine lv_aload_n hx hb dX3_run_72 rfl (lv_at hl 2 rfl) ?_
            refine gx_X3_3 hx hb hts hin hown hK hP (hts _ (List.mem_of_getElem? (i := 1) rfl)) dX3_run_73 ?_
            refine lv_iload_n hx hb dX3_run_76 rfl (lv_at hl 0 rfl) ?_
            refine z_calli (va_runV (As := [.int (zI k)]) (rest := []) ⟨hx, hb, hml, hown, hts⟩ (k_X2_letterOfStep l dC dI cI cQ (rg (o + 51) (o + 57)) (rP o) (unC Sp) (D_X2 (o + 51) cI) k (by exact x4) (by omega)) (cwV 1 hts gX3_run_X2_letterOfStep rfl rfl rfl (by decide +kernel) ⟨Nat.le_of_ble_eq_true rfl, Nat.le_of_ble_eq_true rfl⟩) (z_preV hK (s_p hP) (ci := 2) (q0 := 0) rfl rfl rfl) rfl rfl hl.1 rfl (lv_room (Nat.le_of_ble_eq_true rfl)) dX3_run_77 ⟨Nat.zero_le _, Nat.zero_le _⟩) hS (fun q h => hA57 q (rg_sub h (by omega) (by omega))) (fun H locs hQ9 hS _ hk9 => ?_)
            have hP : va_P (dC, dI) vwCl (W3 o cI cQ (uset U (((Sh 1 0 + Sh 2 0) % 6).toNat) Sn) Sh S1 Sf (unC Sp)) H := b_p hP hk9 hQ9
            refine z_name (fun le e_le => ?_)
            refine lv_istore_n (lv' := [(3, .int (zI le)), (2, .int (zI k)), (1, .int (zI ns)), (0, .ref o)]) hx hb dX3_run_80 rfl hl (by decide) rfl (fun ls hl => ?_)
            have hpp := hper k (by omega) (by omega) i3
            rw [← i1, ← e_le] at hpp
            obtain ⟨⟨p1, p2, p3, p4, p5, p6, p7⟩, p8⟩ := hpp
            refine lv_aload_n hx hb dX3_run_81 rfl (lv_at hl 3 rfl) ?_
            refine lv_iload_n hx hb dX3_run_82 rfl (lv_at hl 0 rfl) ?_
            refine z_calli (va_runV (As := [.int (zI le)]) (rest := []) ⟨hx, hb, hml, hown, hts⟩ (k_X3_perform l dC dI cI cQ A o (uset U (((Sh 1 0 + Sh 2 0) % 6).toNat) Sn) Sh S1 Sf (unC Sp) hA57 le (by exact p1) (by exact hXP.2.1) (by exact p2) (by exact hXP.1) (by exact p3) (by exact p4) (by exact p5) (by exact p6) (by exact p7)) (cwV 1 hts gX3_run_X3_perform rfl rfl rfl (by decide +kernel) ⟨Nat.le_of_ble_eq_true rfl, Nat.le_of_ble_eq_true rfl⟩) (z_preV hK hP (ci := 3) (q0 := 0) rfl rfl rfl) rfl rfl hl.1 rfl (lv_room (Nat.le_of_ble_eq_true rfl)) dX3_run_83 ⟨Nat.zero_le _, Nat.zero_le _⟩) hS (fun _ h => h) (fun H locs hP hS _ hk9 => ?_)
            refine z_if_ge (tgt := 106) hx hb dX3_run_86 (by decide) (by omega) (fun c4 => ?_) (fun c4 => ?_)
            · refine z_iinc (lv' := [(2, .int (zI (k + 1))), (3, .int (zI le)), (1, .int (zI ns)), (0, .ref o)]) hx hb dX3_run_106 hl (k := 1) rfl (by decide) (by rw [show (k : Int) + (1) = (k + 1) from by omega]; rfl) (fun ls hl => ?_)
              refine lv_goto (tgt := 67) hx hb dX3_run_109 (by decide) ?_
              exact ih67 (k + 1) (peS S1 (unC Sp) le) (by omega) (by unfold rnS at i1 ⊢; rw [ixZ_succ _ _ i0.1, ← i1, ← e_le]) (by rw [← i2, stN_no (n := (unC Sp) 4 0 - k) (k := k) (by omega) (by rw [← i1, ← e_le]; omega), show (unC Sp) 4 0 - (k + 1) = (unC Sp) 4 0 - k - 1 from by omega]) (by intro j a b; exact (Classical.em (j = k)).elim (fun q => by rw [q, ← i1, ← e_le]; omega) (fun q => i3 j a (by omega))) (by omega) _ _ hP hS ls (lv_sub hl [0, 2, 3] rfl)
            · refine lv_aload_n hx hb dX3_run_89 rfl (lv_at hl 3 rfl) ?_
              refine gx_X3_2 hx hb hts hin hown hK hP (hts _ (List.mem_of_getElem? (i := 2) rfl)) dX3_run_90 ?_
              refine lv_aload_n hx hb dX3_run_93 rfl (lv_at hl 3 rfl) ?_
              refine gx_X3_0 hx hb hts hin hown hK hP (hts _ (List.mem_of_getElem? (i := 3) rfl)) dX3_run_94 ?_
              refine z_callv (va_runV (As := [.ref (o + 1)]) (rest := []) ⟨hx, hb, hml, hown, hts⟩ (k_X0_restoreNoted l dC dI cI cQ (aK o (((Sh 1 0 + Sh 2 0) % 6).toNat)) (rH o) (rS o) (rN o) Sh ((uset U (((Sh 1 0 + Sh 2 0) % 6).toNat) Sn) (((Sh 1 0 + Sh 2 0) % 6).toNat)) (peS S1 (unC Sp) le) (fun T1 T2 => D_hk2 hk_lt _ T1 T2) (by omega) (by omega)) (cwV 1 hts gX3_run_X0_restoreNoted rfl rfl rfl (by decide +kernel) ⟨Nat.le_of_ble_eq_true rfl, Nat.le_of_ble_eq_true rfl⟩) (z_preV hK (e_hk2 (hk_lt (Sh := Sh)) hP) (ci := 0) (q0 := 0) rfl rfl rfl) rfl rfl hl.1 rfl (lv_room (Nat.le_of_ble_eq_true rfl)) dX3_run_97 ⟨Nat.zero_le _, Nat.zero_le _⟩) hS (fun q h => hA57 q (aK_in hk_lt q h)) (fun H locs hQ9 hS _ hk9 => ?_)
              have hP : va_P (dC, dI) vwCl (W3 o cI cQ (uset U (((Sh 1 0 + Sh 2 0) % 6).toNat) Sn) Sh ((uset U (((Sh 1 0 + Sh 2 0) % 6).toNat) Sn) (((Sh 1 0 + Sh 2 0) % 6).toNat)) Sf (unC Sp)) H := b_hk2 (hk_lt (Sh := Sh)) hP hk9 hQ9
              refine z_sipush (z := (-1000)) hx hb dX3_run_100 (by decide +kernel) ?_
              refine lv_iload_n hx hb dX3_run_103 rfl (lv_at hl 0 rfl) ?_
              refine z_isub hx hb dX3_run_104 ?_
              refine z_top (y := -le - 1000) (by omega) ?_
              have hkf : kfZ Sn (unC Sp) = k := by rw [← i2, stN_yes (n := (unC Sp) 4 0 - k) (k := k) (by omega) (by rw [← i1, ← e_le]; omega)]
              have hU : (unF 80 (un0 Sp)).2 = true := by assumption
              have h100 : ¬ 100 < (unC Sp) 4 0 := by omega
              have hkn : kfZ Sn (unC Sp) < (unC Sp) 4 0 := by omega
              exact z_iret hx hb hr hlk hP hS dX3_run_105 (by unfold ruR; rw [if_pos (by assumption), if_neg (by omega), hkf, if_pos (by omega), ← e_le]; omega) (by unfold ruU ruH ruN; simp only [if_pos hU, if_neg h100, if_pos hkn, uset_eq])
      exact hloop67 ((ns - 0 : Int) + 1).toNat 0 Sn (by omega) (by rfl) (by unfold kfZ; rw [show (unC Sp) 4 0 - 0 = (unC Sp) 4 0 from by omega]) (by intro j a b; omega) (by omega) _ _ hP hS ls (lv_sub hl [0, 1, 2] rfl)
    · refine z_sipush (z := (-1000)) hx hb dX3_run_32 (by decide +kernel) ?_
      refine lv_aload_n hx hb dX3_run_35 rfl (lv_at hl 0 rfl) ?_
      refine gx_X3_3 hx hb hts hin hown hK hP (hts _ (List.mem_of_getElem? (i := 1) rfl)) dX3_run_36 ?_
      refine z_bipush (z := 100) hx hb dX3_run_39 (by decide +kernel) ?_
      refine z_calli (va_runV (As := [.int (zI 100)]) (rest := [.int (zI (-1000))]) ⟨hx, hb, hml, hown, hts⟩ (k_X2_letterOfStep l dC dI cI cQ (rg (o + 51) (o + 57)) (rP o) (unC Sp) (D_X2 (o + 51) cI) 100 (by exact x4) (by omega)) (cwV 1 hts gX3_run_X2_letterOfStep rfl rfl rfl (by decide +kernel) ⟨Nat.le_of_ble_eq_true rfl, Nat.le_of_ble_eq_true rfl⟩) (z_preV hK (s_p hP) (ci := 2) (q0 := 0) rfl rfl rfl) rfl rfl hl.1 rfl (lv_room (Nat.le_of_ble_eq_true rfl)) dX3_run_41 ⟨Nat.zero_le _, Nat.zero_le _⟩) hS (fun q h => hA57 q (rg_sub h (by omega) (by omega))) (fun H locs hQ9 hS _ hk9 => ?_)
      have hP : va_P (dC, dI) vwCl (W3 o cI cQ U Sh Sn Sf (unC Sp)) H := b_p hP hk9 hQ9
      refine z_isub hx hb dX3_run_44 ?_
      refine z_top (y := -(lsF (unC Sp) 100) - 1000) (by omega) ?_
      exact z_iret hx hb hr hlk hP hS dX3_run_45 (by unfold ruR; rw [if_pos (by assumption), if_pos (by omega)]; omega) (by unfold ruU ruH ruN; rw [if_pos (by assumption), if_pos (by assumption), if_pos (by assumption), if_pos (by omega), if_pos (by omega), if_pos (by omega)])
  · refine z_sipush (z := (-1000)) hx hb dX3_run_10 (by decide +kernel) ?_
    refine lv_aload_n hx hb dX3_run_13 rfl (lv_at hl 0 rfl) ?_
    refine gx_X3_3 hx hb hts hin hown hK hP (hts _ (List.mem_of_getElem? (i := 1) rfl)) dX3_run_14 ?_
    refine z_calli (va_runV (As := []) (rest := [.int (zI (-1000))]) ⟨hx, hb, hml, hown, hts⟩ (k_X2_place l dC dI cI cQ (rg (o + 51) (o + 57)) (rP o) (unC Sp) (D_X2 (o + 51) cI)) (cwV 0 hts gX3_run_X2_place rfl rfl rfl (by decide +kernel) ⟨Nat.le_of_ble_eq_true rfl, Nat.le_of_ble_eq_true rfl⟩) (z_preV hK (s_p hP) (ci := 2) (q0 := 0) rfl rfl rfl) rfl rfl hl.1 rfl (lv_room (Nat.le_of_ble_eq_true rfl)) dX3_run_17 ⟨Nat.zero_le _, Nat.zero_le _⟩) hS (fun q h => hA57 q (rg_sub h (by omega) (by omega))) (fun H locs hQ9 hS _ hk9 => ?_)
    have hP : va_P (dC, dI) vwCl (W3 o cI cQ U Sh Sn Sf (unC Sp)) H := b_p hP hk9 hQ9
    refine z_isub hx hb dX3_run_20 ?_
    refine z_top (y := -((unC Sp) 8 0) - 1000) (by omega) ?_
    exact z_iret hx hb hr hlk hP hS dX3_run_21 (by unfold ruR; rw [if_neg (by assumption)]; omega) (by unfold ruU ruH ruN; rw [if_neg (by assumption), if_neg (by assumption), if_neg (by assumption)])
