/-! the reference's forecasts -/
def stN (P : Int → Prop) [DecidablePred P] : Nat → Int → Int
  | 0, k => k
  | n + 1, k => if P k then k else stN P n (k + 1)
theorem stN_yes {P : Int → Prop} [DecidablePred P] {n k : Int} (h : 0 < n) (hp : P k) : stN P n.toNat k = k := by
  have e : n.toNat = (n - 1).toNat + 1 := by omega
  rw [e, stN, if_pos hp]
theorem stN_no {P : Int → Prop} [DecidablePred P] {n k : Int} (h : 0 < n) (hp : ¬ P k) : stN P n.toNat k = stN P (n - 1).toNat (k + 1) := by
  have e : n.toNat = (n - 1).toNat + 1 := by omega
  rw [e, stN, if_neg hp]
theorem stN_end {P : Int → Prop} [DecidablePred P] {n k : Int} (h : n ≤ 0) : stN P n.toNat k = k := by
  have e : n.toNat = 0 := by omega
  rw [e, stN]
def waitsF (A : Int → Int) (wh : Int) : Int := if 0 ≤ wh ∧ wh ≤ 2 then (if wh = 0 then sumZ (fun o => if A (8 * o + 488) = 1 then A (8 * o + 490) - A (8 * o + 489) else 0) (A 2) else if lngZ A (A 2) = -9 ∨ wh = 2 then lngZ A (A 2) else waitM A (lngZ A (A 2))) else -1
def dnS (A : Int → Int) (o : Int) : Int := stN (fun q => itZ passesF q A (8 * o + 488) ≠ 0) 300 0
def dnR (A : Int → Int) (o : Int) : Int := if 0 ≤ o ∧ o ≤ A 2 - 1 then (if itZ passesF (dnS A o) A (8 * o + 488) = 1 then dnS A o else -9) else -1
def dnM (S : Nat → Int → Int) (o : Int) : Nat → Int → Int := if 0 ≤ o ∧ o ≤ S 0 2 - 1 then backM (upR (putsM S) 0 (itZ passesF (dnS (S 0) o) (S 0))) else S
def idS (A : Int → Int) : Int := stN (fun q => nearZ (itZ passesF q A) 4 = -9) 301 0
def idR (A : Int → Int) : Int := if 300 < idS A then -9 else idS A
def idM (S : Nat → Int → Int) : Nat → Int → Int := backM (upR (putsM S) 0 (itZ passesF (idS (S 0)) (S 0)))
def wwR (A : Int → Int) : Int := sumZ (fun b => if tornF (cutsF A) b = 2 then 1 else 0) 48
def wwM (S : Nat → Int → Int) : Nat → Int → Int := backM (cutsM (putsM S))

theorem in_X4_waits : ∀ w ∈ wsX40, w ∈ wsX4_waits := fun w h => List.mem_cons_of_mem _ (List.mem_append_right _ h)
set_option maxHeartbeats 4000000 in
set_option maxRecDepth 100000 in
theorem k_X4_waits (l : Launch) (dC : Nat → ClassId) (dI : Nat → Nat → Nat) (cI cQ : ClassId) (A : Nat → Prop) (ad : Nat → Nat) (S : Nat → Int → Int) (hD : ∀ S, va_D A (tW_X4 ad cI S)) (wh : Int) (hA : WFA (S 0)) (q0 : -2147483648 ≤ wh ∧ wh < 2147483648) : Met l yX4_waits wsX4_waits ({ frames := 2, cells := 0, slots := 0, locals := 43 }) (zPc (dC, dI) vwCl (zT cI cQ) (tW_X4 ad cI S) [.ref (ad 0), .int (zI wh)]) (zQi (dC, dI) vwCl (tW_X4 ad cI S) (waitsF (S 0) wh) A) 0 0 A := by
  refine Met.ofW (cc := cX4_waits) (maxL := 6) (ret := (some .int)) (by decide) rfl ?_
  intro p e s m args below meth c s₁ B hml hv
  obtain ⟨rfl, hP, hK⟩ := hv
  have hx := B.exec
  have hb := B.bytes
  have hr := B.returns
  have hts := atoms_spec (ws := wsX4_waits) B.pre
  have hown : s.vm.findClass RX4 = some m.cls := findClass_of_methodNamed B.named
  have hlk := B.notSynchronized
  have hS : va_S A s.heap s.heap [] := va_S.rf
  have hl := lv_entry ([.ref (ad 0), .int (zI wh)]) (n := 6) (Nat.le_of_ble_eq_true rfl)
  rw [lg_entry_eq]
  generalize (lg_sl ([.ref (ad 0), .int (zI wh)]) ++ List.replicate (6 - (lg_sl ([.ref (ad 0), .int (zI wh)])).length) Slot.unset).toArray = ls at hl ⊢
  have hl : lv_has ls 6 [(0, .ref (ad 0)), (1, .int (zI wh))] := hl
  have hin : ∀ w ∈ wsX40, w ∈ wsX4_waits := in_X4_waits
  obtain ⟨hB0, hA0, hA1, hA2⟩ := id hA
  have hB : ∀ (k : Nat) (j : Int), 0 ≤ j → j < 965 → j ≠ 3 → j ≠ 4 → -1000000 ≤ S 0 j ∧ S 0 j ≤ 1000000 := fun _ j => hB0 j
  refine lv_iload_n hx hb dX4_waits_0 rfl (lv_at hl 1 rfl) ?_
  refine z_iconst hx hb dX4_waits_1 ?_
  refine z_iconst hx hb dX4_waits_2 ?_
  refine z_calli (va_runS (As := [.int (zI wh), .int (zI 0), .int (zI 2)]) (rest := []) ⟨hx, hb, hml, hown, hts⟩ (k_X4_within l dC dI cI cQ A (tW_X4 ad cI S) wh 0 2 (by omega) (by omega) (by omega)) (va_cwS 3 hts gX4_waits_X4_within rfl rfl rfl (by decide +kernel) ⟨Nat.le_of_ble_eq_true rfl, Nat.le_of_ble_eq_true rfl⟩) (z_preS hK hP) rfl rfl hl.1 rfl (lv_room (Nat.le_of_ble_eq_true rfl)) dX4_waits_3 ⟨Nat.zero_le _, Nat.zero_le _⟩) hS (fun _ h => h) (fun H locs hP hS _ _ => ?_)
  refine z_ifb_ne (tgt := 11) hx hb dX4_waits_6 (by decide) (fun c1 => ?_) (fun c1 => ?_)
  · refine z_iconst hx hb dX4_waits_11 ?_
    refine lv_istore_n (lv' := [(2, .int (zI 0)), (0, .ref (ad 0)), (1, .int (zI wh))]) hx hb dX4_waits_12 rfl hl (by decide) rfl (fun ls hl => ?_)
    refine z_bipush (z := (-9)) hx hb dX4_waits_13 (by decide +kernel) ?_
    refine lv_istore_n (lv' := [(3, .int (zI (-9))), (2, .int (zI 0)), (0, .ref (ad 0)), (1, .int (zI wh))]) hx hb dX4_waits_15 rfl hl (by decide) rfl (fun ls hl => ?_)
    refine z_iconst hx hb dX4_waits_16 ?_
    refine lv_istore (lv' := [(4, .int (zI 0)), (3, .int (zI (-9))), (2, .int (zI 0)), (0, .ref (ad 0)), (1, .int (zI wh))]) hx hb dX4_waits_17 hl (by decide) rfl (fun ls hl => ?_)
    have hloop19 : ∀ (n : Nat) (sm lg o : Int), (0 ≤ o ∧ o ≤ S 0 2) → (sm = sumZ (fun o => if S 0 (8 * o + 488) = 1 then S 0 (8 * o + 490) - S 0 (8 * o + 489) else 0) o) → (lg = -9 ∨ (0 ≤ lg ∧ lg < o)) → (lg = lngZ (S 0) o) → (S 0 2 - o < (n : Int)) → ∀ (H : Heap) (locs : List Loc), va_P (dC, dI) vwCl (tW_X4 ad cI S) H → va_S A s.heap H locs → ∀ ls : Array Slot, lv_has ls 6 [(4, .int (zI o)), (3, .int (zI lg)), (2, .int (zI sm)), (0, .ref (ad 0)), (1, .int (zI wh))] → W p l e (headSpec wsX4_waits ({ frames := 2, cells := 0, slots := 0, locals := 43 })).room s m ([.ref (ad 0), .int (zI wh)] : List Value).toArray below meth c H locs 0 0 (MQ below (zQi (dC, dI) vwCl (tW_X4 ad cI S) (waitsF (S 0) wh) A) ([.ref (ad 0), .int (zI wh)] : List Value).toArray s 0 0 A) (F0 m 19 ls []) := by
      intro n
      induction n with
      | zero =>
        intro sm lg o i0 i1 i3 i2 hm
        exfalso
        omega
      | succ n ih =>
        intro sm lg o i0 i1 i3 i2 hm H locs hP hS ls hl
        have ih19 := ih
        clear ih
        refine lv_iload hx hb dX4_waits_19 (lv_at hl 0 rfl) ?_
        refine lv_aload_n hx hb dX4_waits_21 rfl (lv_at hl 3 rfl) ?_
        refine gx_X4_0 hx hb hts hin hown hK hP (hts _ (List.mem_of_getElem? (i := 1) rfl)) dX4_waits_22 ?_
        refine z_iconst hx hb dX4_waits_25 ?_
        refine ld_X4_0 (v := S 0 2) hx hb hK hP (by omega) rfl dX4_waits_26 ?_
        have b1 := hB 0 2 (by omega) (by omega) (by omega) (by omega)
        refine z_icmp_ge (tgt := 104) hx hb dX4_waits_27 (by decide) (by omega) (by omega) (fun c2 => ?_) (fun c2 => ?_)
        · refine lv_iload_n hx hb dX4_waits_104 rfl (lv_at hl 4 rfl) ?_
          refine z_if_ne (tgt := 112) hx hb dX4_waits_105 (by decide) (by omega) (fun c3 => ?_) (fun c3 => ?_)
          · refine lv_iload_n hx hb dX4_waits_112 rfl (lv_at hl 1 rfl) ?_
            refine z_bipush (z := (-9)) hx hb dX4_waits_113 (by decide +kernel) ?_
            refine z_icmp_eq (tgt := 123) hx hb dX4_waits_115 (by decide) (by omega) (by omega) (fun c4 => ?_) (fun c4 => ?_)
            · refine lv_iload_n hx hb dX4_waits_123 rfl (lv_at hl 1 rfl) ?_
              refine lv_goto (tgt := 132) hx hb dX4_waits_124 (by decide) ?_
              have eo : S 0 2 = o := by omega
              exact z_iret hx hb hr hlk hP hS dX4_waits_132 (by unfold waitsF; first | (rw [if_neg (by omega)]; done) | (rw [if_pos (by omega), eo, ← i1, ← i2]; unfold waitM; (repeat' split) <;> omega)) rfl
            · refine lv_iload_n hx hb dX4_waits_118 rfl (lv_at hl 4 rfl) ?_
              refine z_iconst hx hb dX4_waits_119 ?_
              refine z_icmp_ne (tgt := 127) hx hb dX4_waits_120 (by decide) (by omega) (by omega) (fun c5 => ?_) (fun c5 => ?_)
              · refine lv_aload_n hx hb dX4_waits_127 rfl (lv_at hl 3 rfl) ?_
                refine lv_iload_n hx hb dX4_waits_128 rfl (lv_at hl 1 rfl) ?_
                refine z_calli (va_runV (As := [.int (zI lg)]) (rest := []) ⟨hx, hb, hml, hown, hts⟩ (k_X4_waitOf l dC dI cI cQ A ad S hD lg (by omega)) (cwV 1 hts gX4_waits_X4_waitOf rfl rfl rfl (by decide +kernel) ⟨Nat.le_of_ble_eq_true rfl, Nat.le_of_ble_eq_true rfl⟩) (z_preV hK hP (ci := 4) (q0 := 0) rfl rfl rfl) rfl rfl hl.1 rfl (lv_room (Nat.le_of_ble_eq_true rfl)) dX4_waits_129 ⟨Nat.zero_le _, Nat.zero_le _⟩) hS (fun _ h => h) (fun H locs hP hS _ _ => ?_)
                have eo : S 0 2 = o := by omega
                exact z_iret hx hb hr hlk hP hS dX4_waits_132 (by unfold waitsF; first | (rw [if_neg (by omega)]; done) | (rw [if_pos (by omega), eo, ← i1, ← i2]; unfold waitM; (repeat' split) <;> omega)) rfl
              · refine lv_iload_n hx hb dX4_waits_123 rfl (lv_at hl 1 rfl) ?_
                refine lv_goto (tgt := 132) hx hb dX4_waits_124 (by decide) ?_
                have eo : S 0 2 = o := by omega
                exact z_iret hx hb hr hlk hP hS dX4_waits_132 (by unfold waitsF; first | (rw [if_neg (by omega)]; done) | (rw [if_pos (by omega), eo, ← i1, ← i2]; unfold waitM; (repeat' split) <;> omega)) rfl
          · refine lv_iload_n hx hb dX4_waits_108 rfl (lv_at hl 2 rfl) ?_
            refine lv_goto (tgt := 132) hx hb dX4_waits_109 (by decide) ?_
            have eo : S 0 2 = o := by omega
            exact z_iret hx hb hr hlk hP hS dX4_waits_132 (by unfold waitsF; first | (rw [if_neg (by omega)]; done) | (rw [if_pos (by omega), eo, ← i1, ← i2]; unfold waitM; (repeat' split) <;> omega)) rfl
        · refine lv_aload_n hx hb dX4_waits_30 rfl (lv_at hl 3 rfl) ?_
          refine lv_iload hx hb dX4_waits_31 (lv_at hl 0 rfl) ?_
          refine z_iconst hx hb dX4_waits_33 ?_
          refine z_calli (va_runV (As := [.int (zI o), .int (zI 3)]) (rest := []) ⟨hx, hb, hml, hown, hts⟩ (k_X4_told l dC dI cI cQ A ad S hD o 3 (by omega)) (cwV 2 hts gX4_waits_X4_told rfl rfl rfl (by decide +kernel) ⟨Nat.le_of_ble_eq_true rfl, Nat.le_of_ble_eq_true rfl⟩) (z_preV hK hP (ci := 4) (q0 := 0) rfl rfl rfl) rfl rfl hl.1 rfl (lv_room (Nat.le_of_ble_eq_true rfl)) dX4_waits_34 ⟨Nat.zero_le _, Nat.zero_le _⟩) hS (fun _ h => h) (fun H locs hP hS _ _ => ?_)
          refine z_top (y := S 0 (8 * o + 488)) (by rw [show (8 * o + 3 + 485) = (8 * o + 488 : Int) from by omega]; first | done | exact rfl) ?_
          have b2 := hB 0 (8 * o + 488) (by omega) (by omega) (by omega) (by omega)
          refine z_iconst hx hb dX4_waits_37 ?_
          refine z_icmp_ne (tgt := 45) hx hb dX4_waits_38 (by decide) (by omega) (by omega) (fun c6 => ?_) (fun c6 => ?_)
          · refine z_iconst hx hb dX4_waits_45 ?_
            refine lv_istore (lv' := [(5, .int (zI 0)), (4, .int (zI o)), (3, .int (zI lg)), (2, .int (zI sm)), (0, .ref (ad 0)), (1, .int (zI wh))]) hx hb dX4_waits_46 hl (by decide) rfl (fun ls hl => ?_)
            refine lv_iload_n hx hb dX4_waits_48 rfl (lv_at hl 3 rfl) ?_
            refine lv_iload hx hb dX4_waits_49 (lv_at hl 0 rfl) ?_
            refine z_if_eq (tgt := 63) hx hb dX4_waits_51 (by decide) (by omega) (fun _ => ?_) (fun q => absurd (by omega) q)
            refine z_iconst hx hb dX4_waits_63 ?_
            refine z_iadd hx hb dX4_waits_64 ?_
            refine z_top (y := sm) (by omega) ?_
            refine lv_istore_n (lv' := [(2, .int (zI sm)), (5, .int (zI 0)), (4, .int (zI o)), (3, .int (zI lg)), (0, .ref (ad 0)), (1, .int (zI wh))]) hx hb dX4_waits_65 rfl hl (by decide) rfl (fun ls hl => ?_)
            refine lv_iload hx hb dX4_waits_66 (lv_at hl 1 rfl) ?_
            refine z_if_eq (tgt := 96) hx hb dX4_waits_68 (by decide) (by omega) (fun _ => ?_) (fun q => absurd (by omega) q)
            refine lv_iload_n hx hb dX4_waits_96 rfl (lv_at hl 3 rfl) ?_
            refine lv_istore_n (lv' := [(3, .int (zI lg)), (2, .int (zI sm)), (5, .int (zI 0)), (4, .int (zI o)), (0, .ref (ad 0)), (1, .int (zI wh))]) hx hb dX4_waits_97 rfl hl (by decide) rfl (fun ls hl => ?_)
            refine z_iinc (lv' := [(4, .int (zI (o + 1))), (3, .int (zI lg)), (2, .int (zI sm)), (5, .int (zI 0)), (0, .ref (ad 0)), (1, .int (zI wh))]) hx hb dX4_waits_98 hl (k := 3) rfl (by decide) (by rw [show (o : Int) + (1) = (o + 1) from by omega]; rfl) (fun ls hl => ?_)
            refine lv_goto (tgt := 19) hx hb dX4_waits_101 (by decide) ?_
            exact ih19 sm lg (o + 1) (by omega) (by rw [sumZ_succ _ i0.1, ← i1]; split <;> omega) (by omega) (by rw [lngZ_succ _ i0.1, ← i2]; unfold waitM; split <;> omega) (by omega) _ _ hP hS ls (lv_sub hl [0, 1, 2, 4, 5] rfl)
          · refine z_iconst hx hb dX4_waits_41 ?_
            refine lv_goto (tgt := 46) hx hb dX4_waits_42 (by decide) ?_
            refine lv_istore (lv' := [(5, .int (zI 1)), (4, .int (zI o)), (3, .int (zI lg)), (2, .int (zI sm)), (0, .ref (ad 0)), (1, .int (zI wh))]) hx hb dX4_waits_46 hl (by decide) rfl (fun ls hl => ?_)
            refine lv_iload_n hx hb dX4_waits_48 rfl (lv_at hl 3 rfl) ?_
            refine lv_iload hx hb dX4_waits_49 (lv_at hl 0 rfl) ?_
            refine z_if_eq (tgt := 63) hx hb dX4_waits_51 (by decide) (by omega) (fun q => absurd q (by omega)) (fun _ => ?_)
            refine lv_aload_n hx hb dX4_waits_54 rfl (lv_at hl 4 rfl) ?_
            refine lv_iload hx hb dX4_waits_55 (lv_at hl 1 rfl) ?_
            refine z_calli (va_runV (As := [.int (zI o)]) (rest := [.int (zI sm)]) ⟨hx, hb, hml, hown, hts⟩ (k_X4_waitOf l dC dI cI cQ A ad S hD o (by omega)) (cwV 1 hts gX4_waits_X4_waitOf rfl rfl rfl (by decide +kernel) ⟨Nat.le_of_ble_eq_true rfl, Nat.le_of_ble_eq_true rfl⟩) (z_preV hK hP (ci := 4) (q0 := 0) rfl rfl rfl) rfl rfl hl.1 rfl (lv_room (Nat.le_of_ble_eq_true rfl)) dX4_waits_57 ⟨Nat.zero_le _, Nat.zero_le _⟩) hS (fun _ h => h) (fun H locs hP hS _ _ => ?_)
            refine lv_goto (tgt := 64) hx hb dX4_waits_60 (by decide) ?_
            refine z_iadd hx hb dX4_waits_64 ?_
            refine lv_istore_n (lv' := [(2, .int (zI (sm + (S 0 (8 * o + 490) - S 0 (8 * o + 489))))), (5, .int (zI 1)), (4, .int (zI o)), (3, .int (zI lg)), (0, .ref (ad 0)), (1, .int (zI wh))]) hx hb dX4_waits_65 rfl hl (by decide) rfl (fun ls hl => ?_)
            refine lv_iload hx hb dX4_waits_66 (lv_at hl 1 rfl) ?_
            refine z_if_eq (tgt := 96) hx hb dX4_waits_68 (by decide) (by omega) (fun q => absurd q (by omega)) (fun _ => ?_)
            refine lv_iload_n hx hb dX4_waits_71 rfl (lv_at hl 3 rfl) ?_
            refine z_bipush (z := (-9)) hx hb dX4_waits_72 (by decide +kernel) ?_
            refine z_icmp_eq (tgt := 91) hx hb dX4_waits_74 (by decide) (by omega) (by omega) (fun c11 => ?_) (fun c11 => ?_)
            · refine lv_iload hx hb dX4_waits_91 (lv_at hl 2 rfl) ?_
              refine lv_goto (tgt := 97) hx hb dX4_waits_93 (by decide) ?_
              refine lv_istore_n (lv' := [(3, .int (zI o)), (2, .int (zI (sm + (S 0 (8 * o + 490) - S 0 (8 * o + 489))))), (5, .int (zI 1)), (4, .int (zI o)), (0, .ref (ad 0)), (1, .int (zI wh))]) hx hb dX4_waits_97 rfl hl (by decide) rfl (fun ls hl => ?_)
              refine z_iinc (lv' := [(4, .int (zI (o + 1))), (3, .int (zI o)), (2, .int (zI (sm + (S 0 (8 * o + 490) - S 0 (8 * o + 489))))), (5, .int (zI 1)), (0, .ref (ad 0)), (1, .int (zI wh))]) hx hb dX4_waits_98 hl (k := 3) rfl (by decide) (by rw [show (o : Int) + (1) = (o + 1) from by omega]; rfl) (fun ls hl => ?_)
              refine lv_goto (tgt := 19) hx hb dX4_waits_101 (by decide) ?_
              exact ih19 (sm + (S 0 (8 * o + 490) - S 0 (8 * o + 489))) o (o + 1) (by omega) (by rw [sumZ_succ _ i0.1, ← i1]; split <;> omega) (by omega) (by rw [lngZ_succ _ i0.1, ← i2]; unfold waitM; split <;> omega) (by omega) _ _ hP hS ls (lv_sub hl [0, 1, 2, 4, 5] rfl)
            · have f1 := hB0 (8 * o + 490) (by omega) (by omega) (by omega) (by omega)
              have f2 := hB0 (8 * o + 489) (by omega) (by omega) (by omega) (by omega)
              have f3 := hB0 (8 * lg + 490) (by omega) (by omega) (by omega) (by omega)
              have f4 := hB0 (8 * lg + 489) (by omega) (by omega) (by omega) (by omega)
              refine lv_aload_n hx hb dX4_waits_77 rfl (lv_at hl 4 rfl) ?_
              refine lv_iload hx hb dX4_waits_78 (lv_at hl 2 rfl) ?_
              refine z_calli (va_runV (As := [.int (zI o)]) (rest := []) ⟨hx, hb, hml, hown, hts⟩ (k_X4_waitOf l dC dI cI cQ A ad S hD o (by omega)) (cwV 1 hts gX4_waits_X4_waitOf rfl rfl rfl (by decide +kernel) ⟨Nat.le_of_ble_eq_true rfl, Nat.le_of_ble_eq_true rfl⟩) (z_preV hK hP (ci := 4) (q0 := 0) rfl rfl rfl) rfl rfl hl.1 rfl (lv_room (Nat.le_of_ble_eq_true rfl)) dX4_waits_80 ⟨Nat.zero_le _, Nat.zero_le _⟩) hS (fun _ h => h) (fun H locs hP hS _ _ => ?_)
              refine lv_aload_n hx hb dX4_waits_83 rfl (lv_at hl 4 rfl) ?_
              refine lv_iload_n hx hb dX4_waits_84 rfl (lv_at hl 3 rfl) ?_
              refine z_calli (va_runV (As := [.int (zI lg)]) (rest := [.int (zI (S 0 (8 * o + 490) - S 0 (8 * o + 489)))]) ⟨hx, hb, hml, hown, hts⟩ (k_X4_waitOf l dC dI cI cQ A ad S hD lg (by omega)) (cwV 1 hts gX4_waits_X4_waitOf rfl rfl rfl (by decide +kernel) ⟨Nat.le_of_ble_eq_true rfl, Nat.le_of_ble_eq_true rfl⟩) (z_preV hK hP (ci := 4) (q0 := 0) rfl rfl rfl) rfl rfl hl.1 rfl (lv_room (Nat.le_of_ble_eq_true rfl)) dX4_waits_85 ⟨Nat.zero_le _, Nat.zero_le _⟩) hS (fun _ h => h) (fun H locs hP hS _ _ => ?_)
              refine z_icmp_le (tgt := 96) hx hb dX4_waits_88 (by decide) (by omega) (by omega) (fun c12 => ?_) (fun c12 => ?_)
              · refine lv_iload_n hx hb dX4_waits_96 rfl (lv_at hl 3 rfl) ?_
                refine lv_istore_n (lv' := [(3, .int (zI lg)), (2, .int (zI (sm + (S 0 (8 * o + 490) - S 0 (8 * o + 489))))), (5, .int (zI 1)), (4, .int (zI o)), (0, .ref (ad 0)), (1, .int (zI wh))]) hx hb dX4_waits_97 rfl hl (by decide) rfl (fun ls hl => ?_)
                refine z_iinc (lv' := [(4, .int (zI (o + 1))), (3, .int (zI lg)), (2, .int (zI (sm + (S 0 (8 * o + 490) - S 0 (8 * o + 489))))), (5, .int (zI 1)), (0, .ref (ad 0)), (1, .int (zI wh))]) hx hb dX4_waits_98 hl (k := 3) rfl (by decide) (by rw [show (o : Int) + (1) = (o + 1) from by omega]; rfl) (fun ls hl => ?_)
                refine lv_goto (tgt := 19) hx hb dX4_waits_101 (by decide) ?_
                exact ih19 (sm + (S 0 (8 * o + 490) - S 0 (8 * o + 489))) lg (o + 1) (by omega) (by rw [sumZ_succ _ i0.1, ← i1]; split <;> omega) (by omega) (by rw [lngZ_succ _ i0.1, ← i2]; unfold waitM; split <;> omega) (by omega) _ _ hP hS ls (lv_sub hl [0, 1, 2, 4, 5] rfl)
              · refine lv_iload hx hb dX4_waits_91 (lv_at hl 2 rfl) ?_
                refine lv_goto (tgt := 97) hx hb dX4_waits_93 (by decide) ?_
                refine lv_istore_n (lv' := [(3, .int (zI o)), (2, .int (zI (sm + (S 0 (8 * o + 490) - S 0 (8 * o + 489))))), (5, .int (zI 1)), (4, .int (zI o)), (0, .ref (ad 0)), (1, .int (zI wh))]) hx hb dX4_waits_97 rfl hl (by decide) rfl (fun ls hl => ?_)
                refine z_iinc (lv' := [(4, .int (zI (o + 1))), (3, .int (zI o)), (2, .int (zI (sm + (S 0 (8 * o + 490) - S 0 (8 * o + 489))))), (5, .int (zI 1)), (0, .ref (ad 0)), (1, .int (zI wh))]) hx hb dX4_waits_98 hl (k := 3) rfl (by decide) (by rw [show (o : Int) + (1) = (o + 1) from by omega]; rfl) (fun ls hl => ?_)
                refine lv_goto (tgt := 19) hx hb dX4_waits_101 (by decide) ?_
                exact ih19 (sm + (S 0 (8 * o + 490) - S 0 (8 * o + 489))) o (o + 1) (by omega) (by rw [sumZ_succ _ i0.1, ← i1]; split <;> omega) (by omega) (by rw [lngZ_succ _ i0.1, ← i2]; unfold waitM; split <;> omega) (by omega) _ _ hP hS ls (lv_sub hl [0, 1, 2, 4, 5] rfl)
    exact hloop19 ((S 0 2 - 0 : Int) + 1).toNat 0 (-9) 0 (by omega) (by rfl) (by omega) (by rfl) (by omega) _ _ hP hS ls (lv_sub hl [0, 1, 2, 3, 4] rfl)
  · refine z_iconst hx hb dX4_waits_9 ?_
    exact z_iret hx hb hr hlk hP hS dX4_waits_10 (by unfold waitsF; first | (rw [if_neg (by omega)]; done) | (rw [if_pos (by omega), eo, ← i1, ← i2]; unfold waitM; (repeat' split) <;> omega)) rfl
theorem in_X4_doneIn : ∀ w ∈ wsX40, w ∈ wsX4_doneIn := fun w h => List.mem_cons_of_mem _ (List.mem_append_right _ h)
set_option maxHeartbeats 4000000 in
set_option maxRecDepth 100000 in
theorem k_X4_doneIn (l : Launch) (dC : Nat → ClassId) (dI : Nat → Nat → Nat) (cI cQ : ClassId) (A : Nat → Prop) (ad : Nat → Nat) (S : Nat → Int → Int) (hD : ∀ S, va_D A (tW_X4 ad cI S)) (o : Int) (hA : WFA (S 0)) (q0 : -2147483648 ≤ o ∧ o < 2147483648) (hall : ∀ k : Int, 0 ≤ k → k ≤ 300 → WFA (itZ passesF k (S 0)) ∧ (0 < wkF (itZ passesF k (S 0)) (itZ passesF k (S 0) 1) → WFA (headsF (itZ passesF k (S 0)) 0))) : Met l yX4_doneIn wsX4_doneIn ({ frames := 4, cells := 0, slots := 0, locals := 94 }) (zPc (dC, dI) vwCl (zT cI cQ) (tW_X4 ad cI S) [.ref (ad 0), .int (zI o)]) (zQi (dC, dI) vwCl (tW_X4 ad cI (dnM S o)) (dnR (S 0) o) A) 0 0 A := by
  refine Met.ofW (cc := cX4_doneIn) (maxL := 4) (ret := (some .int)) (by decide) rfl ?_
  intro p e s m args below meth c s₁ B hml hv
  obtain ⟨rfl, hP, hK⟩ := hv
  have hx := B.exec
  have hb := B.bytes
  have hr := B.returns
  have hts := atoms_spec (ws := wsX4_doneIn) B.pre
  have hown : s.vm.findClass RX4 = some m.cls := findClass_of_methodNamed B.named
  have hlk := B.notSynchronized
  have hS : va_S A s.heap s.heap [] := va_S.rf
  have hl := lv_entry ([.ref (ad 0), .int (zI o)]) (n := 4) (Nat.le_of_ble_eq_true rfl)
  rw [lg_entry_eq]
  generalize (lg_sl ([.ref (ad 0), .int (zI o)]) ++ List.replicate (4 - (lg_sl ([.ref (ad 0), .int (zI o)])).length) Slot.unset).toArray = ls at hl ⊢
  have hl : lv_has ls 4 [(0, .ref (ad 0)), (1, .int (zI o))] := hl
  have hin : ∀ w ∈ wsX40, w ∈ wsX4_doneIn := in_X4_doneIn
  obtain ⟨hB0, hA0, hA1, hA2⟩ := id hA
  have hB : ∀ (k : Nat) (j : Int), 0 ≤ j → j < 965 → j ≠ 3 → j ≠ 4 → -1000000 ≤ S 0 j ∧ S 0 j ≤ 1000000 := fun _ j => hB0 j
  refine lv_aload_n hx hb dX4_doneIn_0 rfl (lv_at hl 0 rfl) ?_
  refine lv_iload_n hx hb dX4_doneIn_1 rfl (lv_at hl 1 rfl) ?_
  refine z_calli (va_runV (As := [.int (zI o)]) (rest := []) ⟨hx, hb, hml, hown, hts⟩ (k_X4_isOrder l dC dI cI cQ A ad S hD o (by exact hA) (by omega)) (cwV 1 hts gX4_doneIn_X4_isOrder rfl rfl rfl (by decide +kernel) ⟨Nat.le_of_ble_eq_true rfl, Nat.le_of_ble_eq_true rfl⟩) (z_preV hK hP (ci := 4) (q0 := 0) rfl rfl rfl) rfl rfl hl.1 rfl (lv_room (Nat.le_of_ble_eq_true rfl)) dX4_doneIn_2 ⟨Nat.zero_le _, Nat.zero_le _⟩) hS (fun _ h => h) (fun H locs hP hS _ _ => ?_)
  refine z_ifb_ne (tgt := 10) hx hb dX4_doneIn_5 (by decide) (fun c1 => ?_) (fun c1 => ?_)
  · refine lv_aload_n hx hb dX4_doneIn_10 rfl (lv_at hl 0 rfl) ?_
    refine z_callv (va_runV (As := []) (rest := []) ⟨hx, hb, hml, hown, hts⟩ (k_X4_puts l dC dI cI cQ A ad S hD) (cwV 0 hts gX4_doneIn_X4_puts rfl rfl rfl (by decide +kernel) ⟨Nat.le_of_ble_eq_true rfl, Nat.le_of_ble_eq_true rfl⟩) (z_preV hK hP (ci := 4) (q0 := 0) rfl rfl rfl) rfl rfl hl.1 rfl (lv_room (Nat.le_of_ble_eq_true rfl)) dX4_doneIn_11 ⟨Nat.zero_le _, Nat.zero_le _⟩) hS (fun _ h => h) (fun H locs hP hS _ _ => ?_)
    refine z_iconst hx hb dX4_doneIn_14 ?_
    refine lv_istore_n (lv' := [(2, .int (zI 0)), (0, .ref (ad 0)), (1, .int (zI o))]) hx hb dX4_doneIn_15 rfl hl (by decide) rfl (fun ls hl => ?_)
    have hloop16 : ∀ (n : Nat) (n0 : Int) (S1 : Nat → Int → Int), (0 ≤ n0 ∧ n0 ≤ 300) → (S1 = upR (putsM S) 0 (itZ passesF n0 (S 0))) → (stN (fun q => itZ passesF q (S 0) (8 * o + 488) ≠ 0) (300 - n0).toNat n0 = stN (fun q => itZ passesF q (S 0) (8 * o + 488) ≠ 0) 300 0) → (300 - n0 < (n : Int)) → ∀ (H : Heap) (locs : List Loc), va_P (dC, dI) vwCl (tW_X4 ad cI S1) H → va_S A s.heap H locs → ∀ ls : Array Slot, lv_has ls 4 [(2, .int (zI n0)), (0, .ref (ad 0)), (1, .int (zI o))] → W p l e (headSpec wsX4_doneIn ({ frames := 4, cells := 0, slots := 0, locals := 94 })).room s m ([.ref (ad 0), .int (zI o)] : List Value).toArray below meth c H locs 0 0 (MQ below (zQi (dC, dI) vwCl (tW_X4 ad cI (dnM S o)) (dnR (S 0) o) A) ([.ref (ad 0), .int (zI o)] : List Value).toArray s 0 0 A) (F0 m 16 ls []) := by
      intro n
      induction n with
      | zero =>
        intro n0 S1 i0 i1 i2 hm
        exfalso
        omega
      | succ n ih =>
        intro n0 S1 i0 i1 i2 hm H locs hP hS ls hl
        have ih16 := ih
        clear ih
        subst i1
        obtain ⟨X, hX⟩ : ∃ X, X = itZ passesF n0 (S 0) := ⟨_, rfl⟩
        rw [← hX] at hP
        have hal := hall n0 i0.1 i0.2
        rw [← hX] at hal
        have hX0 := hal.1.1
        refine lv_aload_n hx hb dX4_doneIn_16 rfl (lv_at hl 1 rfl) ?_
        refine lv_iload_n hx hb dX4_doneIn_17 rfl (lv_at hl 2 rfl) ?_
        refine z_iconst hx hb dX4_doneIn_18 ?_
        refine z_calli (va_runV (As := [.int (zI o), .int (zI 3)]) (rest := []) ⟨hx, hb, hml, hown, hts⟩ (k_X4_told l dC dI cI cQ A ad (upR (putsM S) 0 X) hD o 3 (by omega)) (cwV 2 hts gX4_doneIn_X4_told rfl rfl rfl (by decide +kernel) ⟨Nat.le_of_ble_eq_true rfl, Nat.le_of_ble_eq_true rfl⟩) (z_preV hK hP (ci := 4) (q0 := 0) rfl rfl rfl) rfl rfl hl.1 rfl (lv_room (Nat.le_of_ble_eq_true rfl)) dX4_doneIn_19 ⟨Nat.zero_le _, Nat.zero_le _⟩) hS (fun _ h => h) (fun H locs hP hS _ _ => ?_)
        refine z_top (y := X (8 * o + 488)) (by rw [show (8 * o + 3 + 485) = (8 * o + 488 : Int) from by omega]; first | done | exact rfl) ?_
        have b1 := hX0 (8 * o + 488) (by omega) (by omega) (by omega) (by omega)
        refine z_if_ne (tgt := 42) hx hb dX4_doneIn_22 (by decide) (by omega) (fun c2 => ?_) (fun c2 => ?_)
        · refine lv_aload_n hx hb dX4_doneIn_42 rfl (lv_at hl 1 rfl) ?_
          refine lv_iload_n hx hb dX4_doneIn_43 rfl (lv_at hl 2 rfl) ?_
          refine z_iconst hx hb dX4_doneIn_44 ?_
          refine z_calli (va_runV (As := [.int (zI o), .int (zI 3)]) (rest := []) ⟨hx, hb, hml, hown, hts⟩ (k_X4_told l dC dI cI cQ A ad (upR (putsM S) 0 X) hD o 3 (by omega)) (cwV 2 hts gX4_doneIn_X4_told rfl rfl rfl (by decide +kernel) ⟨Nat.le_of_ble_eq_true rfl, Nat.le_of_ble_eq_true rfl⟩) (z_preV hK hP (ci := 4) (q0 := 0) rfl rfl rfl) rfl rfl hl.1 rfl (lv_room (Nat.le_of_ble_eq_true rfl)) dX4_doneIn_45 ⟨Nat.zero_le _, Nat.zero_le _⟩) hS (fun _ h => h) (fun H locs hP hS _ _ => ?_)
          refine z_top (y := X (8 * o + 488)) (by rw [show (8 * o + 3 + 485) = (8 * o + 488 : Int) from by omega]; first | done | exact rfl) ?_
          have b2 := hX0 (8 * o + 488) (by omega) (by omega) (by omega) (by omega)
          refine z_iconst hx hb dX4_doneIn_48 ?_
          refine z_icmp_ne (tgt := 56) hx hb dX4_doneIn_49 (by decide) (by omega) (by omega) (fun c3 => ?_) (fun c3 => ?_)
          · refine z_iconst hx hb dX4_doneIn_56 ?_
            refine lv_istore_n (lv' := [(3, .int (zI 0)), (2, .int (zI n0)), (0, .ref (ad 0)), (1, .int (zI o))]) hx hb dX4_doneIn_57 rfl hl (by decide) rfl (fun ls hl => ?_)
            refine lv_aload_n hx hb dX4_doneIn_58 rfl (lv_at hl 2 rfl) ?_
            refine z_callv (va_runV (As := []) (rest := []) ⟨hx, hb, hml, hown, hts⟩ (k_X4_back l dC dI cI cQ A ad (upR (putsM S) 0 X) hD) (cwV 0 hts gX4_doneIn_X4_back rfl rfl rfl (by decide +kernel) ⟨Nat.le_of_ble_eq_true rfl, Nat.le_of_ble_eq_true rfl⟩) (z_preV hK hP (ci := 4) (q0 := 0) rfl rfl rfl) rfl rfl hl.1 rfl (lv_room (Nat.le_of_ble_eq_true rfl)) dX4_doneIn_59 ⟨Nat.zero_le _, Nat.zero_le _⟩) hS (fun _ h => h) (fun H locs hP hS _ _ => ?_)
            refine lv_iload_n hx hb dX4_doneIn_62 rfl (lv_at hl 0 rfl) ?_
            refine z_if_eq (tgt := 70) hx hb dX4_doneIn_63 (by decide) (by omega) (fun _ => ?_) (fun q => absurd (by omega) q)
            refine z_bipush (z := (-9)) hx hb dX4_doneIn_70 (by decide +kernel) ?_
            have est : dnS (S 0) o = n0 := by (unfold dnS; rw [← i2]; first | (rw [stN_end (by omega)]; done) | (exact (Classical.em (n0 = 300)).elim (fun q => by rw [stN_end (by omega)]) (fun q => by rw [stN_yes (by omega) (by rw [← hX]; omega)])))
            exact z_iret hx hb hr hlk hP hS dX4_doneIn_72 (by unfold dnR; first | (rw [if_neg (by omega)]; done) | (rw [if_pos (by omega), est, ← hX]; split <;> omega)) (congrArg (tW_X4 ad cI) (by unfold dnM; first | (rw [if_neg (by omega)]; done) | (rw [if_pos (by omega), est, ← hX])))
          · refine z_iconst hx hb dX4_doneIn_52 ?_
            refine lv_goto (tgt := 57) hx hb dX4_doneIn_53 (by decide) ?_
            refine lv_istore_n (lv' := [(3, .int (zI 1)), (2, .int (zI n0)), (0, .ref (ad 0)), (1, .int (zI o))]) hx hb dX4_doneIn_57 rfl hl (by decide) rfl (fun ls hl => ?_)
            refine lv_aload_n hx hb dX4_doneIn_58 rfl (lv_at hl 2 rfl) ?_
            refine z_callv (va_runV (As := []) (rest := []) ⟨hx, hb, hml, hown, hts⟩ (k_X4_back l dC dI cI cQ A ad (upR (putsM S) 0 X) hD) (cwV 0 hts gX4_doneIn_X4_back rfl rfl rfl (by decide +kernel) ⟨Nat.le_of_ble_eq_true rfl, Nat.le_of_ble_eq_true rfl⟩) (z_preV hK hP (ci := 4) (q0 := 0) rfl rfl rfl) rfl rfl hl.1 rfl (lv_room (Nat.le_of_ble_eq_true rfl)) dX4_doneIn_59 ⟨Nat.zero_le _, Nat.zero_le _⟩) hS (fun _ h => h) (fun H locs hP hS _ _ => ?_)
            refine lv_iload_n hx hb dX4_doneIn_62 rfl (lv_at hl 0 rfl) ?_
            refine z_if_eq (tgt := 70) hx hb dX4_doneIn_63 (by decide) (by omega) (fun q => absurd q (by omega)) (fun _ => ?_)
            refine lv_iload_n hx hb dX4_doneIn_66 rfl (lv_at hl 1 rfl) ?_
            refine lv_goto (tgt := 72) hx hb dX4_doneIn_67 (by decide) ?_
            have est : dnS (S 0) o = n0 := by (unfold dnS; rw [← i2]; first | (rw [stN_end (by omega)]; done) | (exact (Classical.em (n0 = 300)).elim (fun q => by rw [stN_end (by omega)]) (fun q => by rw [stN_yes (by omega) (by rw [← hX]; omega)])))
            exact z_iret hx hb hr hlk hP hS dX4_doneIn_72 (by unfold dnR; first | (rw [if_neg (by omega)]; done) | (rw [if_pos (by omega), est, ← hX]; split <;> omega)) (congrArg (tW_X4 ad cI) (by unfold dnM; first | (rw [if_neg (by omega)]; done) | (rw [if_pos (by omega), est, ← hX])))
        · refine lv_iload_n hx hb dX4_doneIn_25 rfl (lv_at hl 0 rfl) ?_
          refine z_sipush (z := 300) hx hb dX4_doneIn_26 (by decide +kernel) ?_
          refine z_icmp_ge (tgt := 42) hx hb dX4_doneIn_29 (by decide) (by omega) (by omega) (fun c6 => ?_) (fun c6 => ?_)
          · refine lv_aload_n hx hb dX4_doneIn_42 rfl (lv_at hl 1 rfl) ?_
            refine lv_iload_n hx hb dX4_doneIn_43 rfl (lv_at hl 2 rfl) ?_
            refine z_iconst hx hb dX4_doneIn_44 ?_
            refine z_calli (va_runV (As := [.int (zI o), .int (zI 3)]) (rest := []) ⟨hx, hb, hml, hown, hts⟩ (k_X4_told l dC dI cI cQ A ad (upR (putsM S) 0 X) hD o 3 (by omega)) (cwV 2 hts gX4_doneIn_X4_told rfl rfl rfl (by decide +kernel) ⟨Nat.le_of_ble_eq_true rfl, Nat.le_of_ble_eq_true rfl⟩) (z_preV hK hP (ci := 4) (q0 := 0) rfl rfl rfl) rfl rfl hl.1 rfl (lv_room (Nat.le_of_ble_eq_true rfl)) dX4_doneIn_45 ⟨Nat.zero_le _, Nat.zero_le _⟩) hS (fun _ h => h) (fun H locs hP hS _ _ => ?_)
            refine z_top (y := X (8 * o + 488)) (by rw [show (8 * o + 3 + 485) = (8 * o + 488 : Int) from by omega]; first | done | exact rfl) ?_
            have b3 := hX0 (8 * o + 488) (by omega) (by omega) (by omega) (by omega)
            refine z_iconst hx hb dX4_doneIn_48 ?_
            refine z_icmp_ne (tgt := 56) hx hb dX4_doneIn_49 (by decide) (by omega) (by omega) (fun c7 => ?_) (fun c7 => ?_)
            · refine z_iconst hx hb dX4_doneIn_56 ?_
              refine lv_istore_n (lv' := [(3, .int (zI 0)), (2, .int (zI n0)), (0, .ref (ad 0)), (1, .int (zI o))]) hx hb dX4_doneIn_57 rfl hl (by decide) rfl (fun ls hl => ?_)
              refine lv_aload_n hx hb dX4_doneIn_58 rfl (lv_at hl 2 rfl) ?_
              refine z_callv (va_runV (As := []) (rest := []) ⟨hx, hb, hml, hown, hts⟩ (k_X4_back l dC dI cI cQ A ad (upR (putsM S) 0 X) hD) (cwV 0 hts gX4_doneIn_X4_back rfl rfl rfl (by decide +kernel) ⟨Nat.le_of_ble_eq_true rfl, Nat.le_of_ble_eq_true rfl⟩) (z_preV hK hP (ci := 4) (q0 := 0) rfl rfl rfl) rfl rfl hl.1 rfl (lv_room (Nat.le_of_ble_eq_true rfl)) dX4_doneIn_59 ⟨Nat.zero_le _, Nat.zero_le _⟩) hS (fun _ h => h) (fun H locs hP hS _ _ => ?_)
              refine lv_iload_n hx hb dX4_doneIn_62 rfl (lv_at hl 0 rfl) ?_
              refine z_if_eq (tgt := 70) hx hb dX4_doneIn_63 (by decide) (by omega) (fun _ => ?_) (fun q => absurd (by omega) q)
              refine z_bipush (z := (-9)) hx hb dX4_doneIn_70 (by decide +kernel) ?_
              have est : dnS (S 0) o = n0 := by (unfold dnS; rw [← i2]; first | (rw [stN_end (by omega)]; done) | (exact (Classical.em (n0 = 300)).elim (fun q => by rw [stN_end (by omega)]) (fun q => by rw [stN_yes (by omega) (by rw [← hX]; omega)])))
              exact z_iret hx hb hr hlk hP hS dX4_doneIn_72 (by unfold dnR; first | (rw [if_neg (by omega)]; done) | (rw [if_pos (by omega), est, ← hX]; split <;> omega)) (congrArg (tW_X4 ad cI) (by unfold dnM; first | (rw [if_neg (by omega)]; done) | (rw [if_pos (by omega), est, ← hX])))
            · refine z_iconst hx hb dX4_doneIn_52 ?_
              refine lv_goto (tgt := 57) hx hb dX4_doneIn_53 (by decide) ?_
              refine lv_istore_n (lv' := [(3, .int (zI 1)), (2, .int (zI n0)), (0, .ref (ad 0)), (1, .int (zI o))]) hx hb dX4_doneIn_57 rfl hl (by decide) rfl (fun ls hl => ?_)
              refine lv_aload_n hx hb dX4_doneIn_58 rfl (lv_at hl 2 rfl) ?_
              refine z_callv (va_runV (As := []) (rest := []) ⟨hx, hb, hml, hown, hts⟩ (k_X4_back l dC dI cI cQ A ad (upR (putsM S) 0 X) hD) (cwV 0 hts gX4_doneIn_X4_back rfl rfl rfl (by decide +kernel) ⟨Nat.le_of_ble_eq_true rfl, Nat.le_of_ble_eq_true rfl⟩) (z_preV hK hP (ci := 4) (q0 := 0) rfl rfl rfl) rfl rfl hl.1 rfl (lv_room (Nat.le_of_ble_eq_true rfl)) dX4_doneIn_59 ⟨Nat.zero_le _, Nat.zero_le _⟩) hS (fun _ h => h) (fun H locs hP hS _ _ => ?_)
              refine lv_iload_n hx hb dX4_doneIn_62 rfl (lv_at hl 0 rfl) ?_
              refine z_if_eq (tgt := 70) hx hb dX4_doneIn_63 (by decide) (by omega) (fun q => absurd q (by omega)) (fun _ => ?_)
              refine lv_iload_n hx hb dX4_doneIn_66 rfl (lv_at hl 1 rfl) ?_
              refine lv_goto (tgt := 72) hx hb dX4_doneIn_67 (by decide) ?_
              have est : dnS (S 0) o = n0 := by (unfold dnS; rw [← i2]; first | (rw [stN_end (by omega)]; done) | (exact (Classical.em (n0 = 300)).elim (fun q => by rw [stN_end (by omega)]) (fun q => by rw [stN_yes (by omega) (by rw [← hX]; omega)])))
              exact z_iret hx hb hr hlk hP hS dX4_doneIn_72 (by unfold dnR; first | (rw [if_neg (by omega)]; done) | (rw [if_pos (by omega), est, ← hX]; split <;> omega)) (congrArg (tW_X4 ad cI) (by unfold dnM; first | (rw [if_neg (by omega)]; done) | (rw [if_pos (by omega), est, ← hX])))
          · refine lv_aload_n hx hb dX4_doneIn_32 rfl (lv_at hl 1 rfl) ?_
            refine z_callv (va_runV (As := []) (rest := []) ⟨hx, hb, hml, hown, hts⟩ (k_X4_passes l dC dI cI cQ A ad (upR (putsM S) 0 X) hD (by exact hal.1) (by exact hal.2)) (cwV 0 hts gX4_doneIn_X4_passes rfl rfl rfl (by decide +kernel) ⟨Nat.le_of_ble_eq_true rfl, Nat.le_of_ble_eq_true rfl⟩) (z_preV hK hP (ci := 4) (q0 := 0) rfl rfl rfl) rfl rfl hl.1 rfl (lv_room (Nat.le_of_ble_eq_true rfl)) dX4_doneIn_33 ⟨Nat.zero_le _, Nat.zero_le _⟩) hS (fun _ h => h) (fun H locs hP hS _ _ => ?_)
            refine z_iinc (lv' := [(2, .int (zI (n0 + 1))), (0, .ref (ad 0)), (1, .int (zI o))]) hx hb dX4_doneIn_36 hl (k := 0) rfl (by decide) (by rw [show (n0 : Int) + (1) = (n0 + 1) from by omega]; rfl) (fun ls hl => ?_)
            refine lv_goto (tgt := 16) hx hb dX4_doneIn_39 (by decide) ?_
            exact ih16 (n0 + 1) (passesM (upR (putsM S) 0 X)) (by omega) (by rw [itZ_succ _ _ i0.1, ← hX]; exact passesM_it _ _) (by rw [← i2, stN_no (n := 300 - n0) (k := n0) (by omega) (by rw [← hX]; omega), show 300 - (n0 + 1) = 300 - n0 - 1 from by omega]) (by omega) _ _ hP hS ls (lv_sub hl [0, 1, 2] rfl)
    exact hloop16 ((300 - 0 : Int) + 1).toNat 0 (putsM S) (by omega) (by exact (upR_id (fun j => rfl)).symm) (by rfl) (by omega) _ _ hP hS ls (lv_sub hl [0, 1, 2] rfl)
  · refine z_iconst hx hb dX4_doneIn_8 ?_
    exact z_iret hx hb hr hlk hP hS dX4_doneIn_9 (by unfold dnR; first | (rw [if_neg (by omega)]; done) | (rw [if_pos (by omega), est, ← hX]; split <;> omega)) (congrArg (tW_X4 ad cI) (by unfold dnM; first | (rw [if_neg (by omega)]; done) | (rw [if_pos (by omega), est, ← hX])))
theorem in_X4_idleIn : ∀ w ∈ wsX40, w ∈ wsX4_idleIn := fun w h => List.mem_cons_of_mem _ (List.mem_append_right _ h)
set_option maxHeartbeats 4000000 in
set_option maxRecDepth 100000 in
theorem k_X4_idleIn (l : Launch) (dC : Nat → ClassId) (dI : Nat → Nat → Nat) (cI cQ : ClassId) (A : Nat → Prop) (ad : Nat → Nat) (S : Nat → Int → Int) (hD : ∀ S, va_D A (tW_X4 ad cI S)) (hA : WFA (S 0)) (hall : ∀ k : Int, 0 ≤ k → k ≤ 301 → WFA (itZ passesF k (S 0)) ∧ (0 < wkF (itZ passesF k (S 0)) (itZ passesF k (S 0) 1) → WFA (headsF (itZ passesF k (S 0)) 0))) : Met l yX4_idleIn wsX4_idleIn ({ frames := 4, cells := 0, slots := 0, locals := 94 }) (zPc (dC, dI) vwCl (zT cI cQ) (tW_X4 ad cI S) [.ref (ad 0)]) (zQi (dC, dI) vwCl (tW_X4 ad cI (idM S)) (idR (S 0)) A) 0 0 A := by
  refine Met.ofW (cc := cX4_idleIn) (maxL := 2) (ret := (some .int)) (by decide) rfl ?_
  intro p e s m args below meth c s₁ B hml hv
  obtain ⟨rfl, hP, hK⟩ := hv
  have hx := B.exec
  have hb := B.bytes
  have hr := B.returns
  have hts := atoms_spec (ws := wsX4_idleIn) B.pre
  have hown : s.vm.findClass RX4 = some m.cls := findClass_of_methodNamed B.named
  have hlk := B.notSynchronized
  have hS : va_S A s.heap s.heap [] := va_S.rf
  have hl := lv_entry ([.ref (ad 0)]) (n := 2) (Nat.le_of_ble_eq_true rfl)
  rw [lg_entry_eq]
  generalize (lg_sl ([.ref (ad 0)]) ++ List.replicate (2 - (lg_sl ([.ref (ad 0)])).length) Slot.unset).toArray = ls at hl ⊢
  have hl : lv_has ls 2 [(0, .ref (ad 0))] := hl
  have hin : ∀ w ∈ wsX40, w ∈ wsX4_idleIn := in_X4_idleIn
  obtain ⟨hB0, hA0, hA1, hA2⟩ := id hA
  have hB : ∀ (k : Nat) (j : Int), 0 ≤ j → j < 965 → j ≠ 3 → j ≠ 4 → -1000000 ≤ S 0 j ∧ S 0 j ≤ 1000000 := fun _ j => hB0 j
  refine lv_aload_n hx hb dX4_idleIn_0 rfl (lv_at hl 0 rfl) ?_
  refine z_callv (va_runV (As := []) (rest := []) ⟨hx, hb, hml, hown, hts⟩ (k_X4_puts l dC dI cI cQ A ad S hD) (cwV 0 hts gX4_idleIn_X4_puts rfl rfl rfl (by decide +kernel) ⟨Nat.le_of_ble_eq_true rfl, Nat.le_of_ble_eq_true rfl⟩) (z_preV hK hP (ci := 4) (q0 := 0) rfl rfl rfl) rfl rfl hl.1 rfl (lv_room (Nat.le_of_ble_eq_true rfl)) dX4_idleIn_1 ⟨Nat.zero_le _, Nat.zero_le _⟩) hS (fun _ h => h) (fun H locs hP hS _ _ => ?_)
  refine z_iconst hx hb dX4_idleIn_4 ?_
  refine lv_istore_n (lv' := [(1, .int (zI 0)), (0, .ref (ad 0))]) hx hb dX4_idleIn_5 rfl hl (by decide) rfl (fun ls hl => ?_)
  have hloop6 : ∀ (n : Nat) (n0 : Int) (S1 : Nat → Int → Int), (0 ≤ n0 ∧ n0 ≤ 301) → (S1 = upR (putsM S) 0 (itZ passesF n0 (S 0))) → (stN (fun q => nearZ (itZ passesF q (S 0)) 4 = -9) (301 - n0).toNat n0 = stN (fun q => nearZ (itZ passesF q (S 0)) 4 = -9) 301 0) → (301 - n0 < (n : Int)) → ∀ (H : Heap) (locs : List Loc), va_P (dC, dI) vwCl (tW_X4 ad cI S1) H → va_S A s.heap H locs → ∀ ls : Array Slot, lv_has ls 2 [(1, .int (zI n0)), (0, .ref (ad 0))] → W p l e (headSpec wsX4_idleIn ({ frames := 4, cells := 0, slots := 0, locals := 94 })).room s m ([.ref (ad 0)] : List Value).toArray below meth c H locs 0 0 (MQ below (zQi (dC, dI) vwCl (tW_X4 ad cI (idM S)) (idR (S 0)) A) ([.ref (ad 0)] : List Value).toArray s 0 0 A) (F0 m 6 ls []) := by
    intro n
    induction n with
    | zero =>
      intro n0 S1 i0 i1 i2 hm
      exfalso
      omega
    | succ n ih =>
      intro n0 S1 i0 i1 i2 hm H locs hP hS ls hl
      have ih6 := ih
      clear ih
      subst i1
      obtain ⟨X, hX⟩ : ∃ X, X = itZ passesF n0 (S 0) := ⟨_, rfl⟩
      rw [← hX] at hP
      have hal := hall n0 i0.1 i0.2
      rw [← hX] at hal
      have hX0 := hal.1.1
      have rgt := near_rng X 4
      refine lv_aload_n hx hb dX4_idleIn_6 rfl (lv_at hl 1 rfl) ?_
      refine z_calli (va_runV (As := []) (rest := []) ⟨hx, hb, hml, hown, hts⟩ (k_X4_nearest l dC dI cI cQ A ad (upR (putsM S) 0 X) hD (by exact hal.1)) (cwV 0 hts gX4_idleIn_X4_nearest rfl rfl rfl (by decide +kernel) ⟨Nat.le_of_ble_eq_true rfl, Nat.le_of_ble_eq_true rfl⟩) (z_preV hK hP (ci := 4) (q0 := 0) rfl rfl rfl) rfl rfl hl.1 rfl (lv_room (Nat.le_of_ble_eq_true rfl)) dX4_idleIn_7 ⟨Nat.zero_le _, Nat.zero_le _⟩) hS (fun _ h => h) (fun H locs hP hS _ _ => ?_)
      refine z_top (y := (nearZ (X) 4)) (by exact congrArg (fun q : Int → Int => nearZ q 4) (rfl)) ?_
      refine z_bipush (z := (-9)) hx hb dX4_idleIn_10 (by decide +kernel) ?_
      refine z_icmp_eq (tgt := 32) hx hb dX4_idleIn_12 (by decide) (by omega) (by omega) (fun c1 => ?_) (fun c1 => ?_)
      · refine lv_aload_n hx hb dX4_idleIn_32 rfl (lv_at hl 1 rfl) ?_
        refine z_callv (va_runV (As := []) (rest := []) ⟨hx, hb, hml, hown, hts⟩ (k_X4_back l dC dI cI cQ A ad (upR (putsM S) 0 X) hD) (cwV 0 hts gX4_idleIn_X4_back rfl rfl rfl (by decide +kernel) ⟨Nat.le_of_ble_eq_true rfl, Nat.le_of_ble_eq_true rfl⟩) (z_preV hK hP (ci := 4) (q0 := 0) rfl rfl rfl) rfl rfl hl.1 rfl (lv_room (Nat.le_of_ble_eq_true rfl)) dX4_idleIn_33 ⟨Nat.zero_le _, Nat.zero_le _⟩) hS (fun _ h => h) (fun H locs hP hS _ _ => ?_)
        refine lv_iload_n hx hb dX4_idleIn_36 rfl (lv_at hl 0 rfl) ?_
        refine z_sipush (z := 300) hx hb dX4_idleIn_37 (by decide +kernel) ?_
        refine z_icmp_le (tgt := 48) hx hb dX4_idleIn_40 (by decide) (by omega) (by omega) (fun c2 => ?_) (fun c2 => ?_)
        · refine lv_iload_n hx hb dX4_idleIn_48 rfl (lv_at hl 0 rfl) ?_
          have est : idS (S 0) = n0 := by (unfold idS; rw [← i2]; first | (rw [stN_end (by omega)]; done) | (exact (Classical.em (n0 = 301)).elim (fun q => by rw [stN_end (by omega)]) (fun q => by rw [stN_yes (by omega) (by rw [← hX]; omega)])))
          exact z_iret hx hb hr hlk hP hS dX4_idleIn_49 (by unfold idR; rw [est]; split <;> omega) (congrArg (tW_X4 ad cI) (by unfold idM; rw [est, ← hX]))
        · refine z_bipush (z := (-9)) hx hb dX4_idleIn_43 (by decide +kernel) ?_
          refine lv_goto (tgt := 49) hx hb dX4_idleIn_45 (by decide) ?_
          have est : idS (S 0) = n0 := by (unfold idS; rw [← i2]; first | (rw [stN_end (by omega)]; done) | (exact (Classical.em (n0 = 301)).elim (fun q => by rw [stN_end (by omega)]) (fun q => by rw [stN_yes (by omega) (by rw [← hX]; omega)])))
          exact z_iret hx hb hr hlk hP hS dX4_idleIn_49 (by unfold idR; rw [est]; split <;> omega) (congrArg (tW_X4 ad cI) (by unfold idM; rw [est, ← hX]))
      · refine lv_iload_n hx hb dX4_idleIn_15 rfl (lv_at hl 0 rfl) ?_
        refine z_sipush (z := 300) hx hb dX4_idleIn_16 (by decide +kernel) ?_
        refine z_icmp_gt (tgt := 32) hx hb dX4_idleIn_19 (by decide) (by omega) (by omega) (fun c3 => ?_) (fun c3 => ?_)
        · refine lv_aload_n hx hb dX4_idleIn_32 rfl (lv_at hl 1 rfl) ?_
          refine z_callv (va_runV (As := []) (rest := []) ⟨hx, hb, hml, hown, hts⟩ (k_X4_back l dC dI cI cQ A ad (upR (putsM S) 0 X) hD) (cwV 0 hts gX4_idleIn_X4_back rfl rfl rfl (by decide +kernel) ⟨Nat.le_of_ble_eq_true rfl, Nat.le_of_ble_eq_true rfl⟩) (z_preV hK hP (ci := 4) (q0 := 0) rfl rfl rfl) rfl rfl hl.1 rfl (lv_room (Nat.le_of_ble_eq_true rfl)) dX4_idleIn_33 ⟨Nat.zero_le _, Nat.zero_le _⟩) hS (fun _ h => h) (fun H locs hP hS _ _ => ?_)
          refine lv_iload_n hx hb dX4_idleIn_36 rfl (lv_at hl 0 rfl) ?_
          refine z_sipush (z := 300) hx hb dX4_idleIn_37 (by decide +kernel) ?_
          refine z_icmp_le (tgt := 48) hx hb dX4_idleIn_40 (by decide) (by omega) (by omega) (fun c4 => ?_) (fun c4 => ?_)
          · refine lv_iload_n hx hb dX4_idleIn_48 rfl (lv_at hl 0 rfl) ?_
            have est : idS (S 0) = n0 := by (unfold idS; rw [← i2]; first | (rw [stN_end (by omega)]; done) | (exact (Classical.em (n0 = 301)).elim (fun q => by rw [stN_end (by omega)]) (fun q => by rw [stN_yes (by omega) (by rw [← hX]; omega)])))
            exact z_iret hx hb hr hlk hP hS dX4_idleIn_49 (by unfold idR; rw [est]; split <;> omega) (congrArg (tW_X4 ad cI) (by unfold idM; rw [est, ← hX]))
          · refine z_bipush (z := (-9)) hx hb dX4_idleIn_43 (by decide +kernel) ?_
            refine lv_goto (tgt := 49) hx hb dX4_idleIn_45 (by decide) ?_
            have est : idS (S 0) = n0 := by (unfold idS; rw [← i2]; first | (rw [stN_end (by omega)]; done) | (exact (Classical.em (n0 = 301)).elim (fun q => by rw [stN_end (by omega)]) (fun q => by rw [stN_yes (by omega) (by rw [← hX]; omega)])))
            exact z_iret hx hb hr hlk hP hS dX4_idleIn_49 (by unfold idR; rw [est]; split <;> omega) (congrArg (tW_X4 ad cI) (by unfold idM; rw [est, ← hX]))
        · refine lv_aload_n hx hb dX4_idleIn_22 rfl (lv_at hl 1 rfl) ?_
          refine z_callv (va_runV (As := []) (rest := []) ⟨hx, hb, hml, hown, hts⟩ (k_X4_passes l dC dI cI cQ A ad (upR (putsM S) 0 X) hD (by exact hal.1) (by exact hal.2)) (cwV 0 hts gX4_idleIn_X4_passes rfl rfl rfl (by decide +kernel) ⟨Nat.le_of_ble_eq_true rfl, Nat.le_of_ble_eq_true rfl⟩) (z_preV hK hP (ci := 4) (q0 := 0) rfl rfl rfl) rfl rfl hl.1 rfl (lv_room (Nat.le_of_ble_eq_true rfl)) dX4_idleIn_23 ⟨Nat.zero_le _, Nat.zero_le _⟩) hS (fun _ h => h) (fun H locs hP hS _ _ => ?_)
          refine z_iinc (lv' := [(1, .int (zI (n0 + 1))), (0, .ref (ad 0))]) hx hb dX4_idleIn_26 hl (k := 0) rfl (by decide) (by rw [show (n0 : Int) + (1) = (n0 + 1) from by omega]; rfl) (fun ls hl => ?_)
          refine lv_goto (tgt := 6) hx hb dX4_idleIn_29 (by decide) ?_
          exact ih6 (n0 + 1) (passesM (upR (putsM S) 0 X)) (by omega) (by rw [itZ_succ _ _ i0.1, ← hX]; exact passesM_it _ _) (by rw [← i2, stN_no (n := 301 - n0) (k := n0) (by omega) (by rw [← hX]; omega), show 301 - (n0 + 1) = 301 - n0 - 1 from by omega]) (by omega) _ _ hP hS ls (lv_sub hl [0, 1] rfl)
  exact hloop6 ((301 - 0 : Int) + 1).toNat 0 (putsM S) (by omega) (by exact (upR_id (fun j => rfl)).symm) (by rfl) (by omega) _ _ hP hS ls (lv_sub hl [0, 1] rfl)
theorem in_X4_wouldWipe : ∀ w ∈ wsX40, w ∈ wsX4_wouldWipe := fun w h => List.mem_cons_of_mem _ (List.mem_append_right _ h)
set_option maxHeartbeats 4000000 in
set_option maxRecDepth 100000 in
theorem k_X4_wouldWipe (l : Launch) (dC : Nat → ClassId) (dI : Nat → Nat → Nat) (cI cQ : ClassId) (A : Nat → Prop) (ad : Nat → Nat) (S : Nat → Int → Int) (hD : ∀ S, va_D A (tW_X4 ad cI S)) (hA : WFA (S 0)) (hC : WFA (cutsF (S 0))) : Met l yX4_wouldWipe wsX4_wouldWipe ({ frames := 2, cells := 0, slots := 0, locals := 48 }) (zPc (dC, dI) vwCl (zT cI cQ) (tW_X4 ad cI S) [.ref (ad 0)]) (zQi (dC, dI) vwCl (tW_X4 ad cI (wwM S)) (wwR (S 0)) A) 0 0 A := by
  refine Met.ofW (cc := cX4_wouldWipe) (maxL := 3) (ret := (some .int)) (by decide) rfl ?_
  intro p e s m args below meth c s₁ B hml hv
  obtain ⟨rfl, hP, hK⟩ := hv
  have hx := B.exec
  have hb := B.bytes
  have hr := B.returns
  have hts := atoms_spec (ws := wsX4_wouldWipe) B.pre
  have hown : s.vm.findClass RX4 = some m.cls := findClass_of_methodNamed B.named
  have hlk := B.notSynchronized
  have hS : va_S A s.heap s.heap [] := va_S.rf
  have hl := lv_entry ([.ref (ad 0)]) (n := 3) (Nat.le_of_ble_eq_true rfl)
  rw [lg_entry_eq]
  generalize (lg_sl ([.ref (ad 0)]) ++ List.replicate (3 - (lg_sl ([.ref (ad 0)])).length) Slot.unset).toArray = ls at hl ⊢
  have hl : lv_has ls 3 [(0, .ref (ad 0))] := hl
  have hin : ∀ w ∈ wsX40, w ∈ wsX4_wouldWipe := in_X4_wouldWipe
  refine lv_aload_n hx hb dX4_wouldWipe_0 rfl (lv_at hl 0 rfl) ?_
  refine z_callv (va_runV (As := []) (rest := []) ⟨hx, hb, hml, hown, hts⟩ (k_X4_puts l dC dI cI cQ A ad S hD) (cwV 0 hts gX4_wouldWipe_X4_puts rfl rfl rfl (by decide +kernel) ⟨Nat.le_of_ble_eq_true rfl, Nat.le_of_ble_eq_true rfl⟩) (z_preV hK hP (ci := 4) (q0 := 0) rfl rfl rfl) rfl rfl hl.1 rfl (lv_room (Nat.le_of_ble_eq_true rfl)) dX4_wouldWipe_1 ⟨Nat.zero_le _, Nat.zero_le _⟩) hS (fun _ h => h) (fun H locs hP hS _ _ => ?_)
  refine lv_aload_n hx hb dX4_wouldWipe_4 rfl (lv_at hl 0 rfl) ?_
  refine z_calli (va_runV (As := []) (rest := []) ⟨hx, hb, hml, hown, hts⟩ (k_X4_cuts l dC dI cI cQ A ad (putsM S) hD (by exact hA)) (cwV 0 hts gX4_wouldWipe_X4_cuts rfl rfl rfl (by decide +kernel) ⟨Nat.le_of_ble_eq_true rfl, Nat.le_of_ble_eq_true rfl⟩) (z_preV hK hP (ci := 4) (q0 := 0) rfl rfl rfl) rfl rfl hl.1 rfl (lv_room (Nat.le_of_ble_eq_true rfl)) dX4_wouldWipe_5 ⟨Nat.zero_le _, Nat.zero_le _⟩) hS (fun _ h => h) (fun H locs hP hS _ _ => ?_)
  refine z_top (y := (cutsR (S 0))) (by exact congrArg (fun q : Int → Int => cutsR q) (rfl)) ?_
  refine lv_pop hx hb dX4_wouldWipe_8 rfl ?_
  refine z_iconst hx hb dX4_wouldWipe_9 ?_
  refine lv_istore_n (lv' := [(1, .int (zI 0)), (0, .ref (ad 0))]) hx hb dX4_wouldWipe_10 rfl hl (by decide) rfl (fun ls hl => ?_)
  refine z_iconst hx hb dX4_wouldWipe_11 ?_
  refine lv_istore_n (lv' := [(2, .int (zI 0)), (1, .int (zI 0)), (0, .ref (ad 0))]) hx hb dX4_wouldWipe_12 rfl hl (by decide) rfl (fun ls hl => ?_)
  have hloop13 : ∀ (n : Nat) (n0 b : Int), (0 ≤ b ∧ b ≤ 48) → (n0 = sumZ (fun b => if tornF (cutsF (S 0)) b = 2 then 1 else 0) b) → (48 - b < (n : Int)) → ∀ (H : Heap) (locs : List Loc), va_P (dC, dI) vwCl (tW_X4 ad cI (cutsM (putsM S))) H → va_S A s.heap H locs → ∀ ls : Array Slot, lv_has ls 3 [(2, .int (zI b)), (1, .int (zI n0)), (0, .ref (ad 0))] → W p l e (headSpec wsX4_wouldWipe ({ frames := 2, cells := 0, slots := 0, locals := 48 })).room s m ([.ref (ad 0)] : List Value).toArray below meth c H locs 0 0 (MQ below (zQi (dC, dI) vwCl (tW_X4 ad cI (wwM S)) (wwR (S 0)) A) ([.ref (ad 0)] : List Value).toArray s 0 0 A) (F0 m 13 ls []) := by
    intro n
    induction n with
    | zero =>
      intro n0 b i0 i1 hm
      exfalso
      omega
    | succ n ih =>
      intro n0 b i0 i1 hm H locs hP hS ls hl
      have ih13 := ih
      clear ih
      refine lv_iload_n hx hb dX4_wouldWipe_13 rfl (lv_at hl 0 rfl) ?_
      refine z_bipush (z := 48) hx hb dX4_wouldWipe_14 (by decide +kernel) ?_
      refine z_icmp_ge (tgt := 42) hx hb dX4_wouldWipe_16 (by decide) (by omega) (by omega) (fun c1 => ?_) (fun c1 => ?_)
      · refine lv_aload_n hx hb dX4_wouldWipe_42 rfl (lv_at hl 2 rfl) ?_
        refine z_callv (va_runV (As := []) (rest := []) ⟨hx, hb, hml, hown, hts⟩ (k_X4_back l dC dI cI cQ A ad (cutsM (putsM S)) hD) (cwV 0 hts gX4_wouldWipe_X4_back rfl rfl rfl (by decide +kernel) ⟨Nat.le_of_ble_eq_true rfl, Nat.le_of_ble_eq_true rfl⟩) (z_preV hK hP (ci := 4) (q0 := 0) rfl rfl rfl) rfl rfl hl.1 rfl (lv_room (Nat.le_of_ble_eq_true rfl)) dX4_wouldWipe_43 ⟨Nat.zero_le _, Nat.zero_le _⟩) hS (fun _ h => h) (fun H locs hP hS _ _ => ?_)
        refine lv_iload_n hx hb dX4_wouldWipe_46 rfl (lv_at hl 1 rfl) ?_
        obtain rfl : b = 48 := by omega
        exact z_iret hx hb hr hlk hP hS dX4_wouldWipe_47 (by exact i1) (congrArg (tW_X4 ad cI) (by rfl))
      · refine lv_iload_n hx hb dX4_wouldWipe_19 rfl (lv_at hl 1 rfl) ?_
        refine lv_aload_n hx hb dX4_wouldWipe_20 rfl (lv_at hl 2 rfl) ?_
        refine lv_iload_n hx hb dX4_wouldWipe_21 rfl (lv_at hl 0 rfl) ?_
        refine z_calli (va_runV (As := [.int (zI b)]) (rest := [.int (zI n0)]) ⟨hx, hb, hml, hown, hts⟩ (k_X4_torn l dC dI cI cQ A ad (cutsM (putsM S)) hD b (by omega)) (cwV 1 hts gX4_wouldWipe_X4_torn rfl rfl rfl (by decide +kernel) ⟨Nat.le_of_ble_eq_true rfl, Nat.le_of_ble_eq_true rfl⟩) (z_preV hK hP (ci := 4) (q0 := 0) rfl rfl rfl) rfl rfl hl.1 rfl (lv_room (Nat.le_of_ble_eq_true rfl)) dX4_wouldWipe_22 ⟨Nat.zero_le _, Nat.zero_le _⟩) hS (fun _ h => h) (fun H locs hP hS _ _ => ?_)
        refine z_top (y := (cutsF (S 0)) (5 * b + 7) + (cutsF (S 0)) (5 * b + 247)) (by exact congr (congrArg (fun x y : Int => x + y) rfl) rfl) ?_
        have bx1 := hC.1 (5 * b + 7) (by omega) (by omega) (by omega) (by omega)
        have bx2 := hC.1 (5 * b + 247) (by omega) (by omega) (by omega) (by omega)
        refine z_iconst hx hb dX4_wouldWipe_25 ?_
        refine z_icmp_ne (tgt := 33) hx hb dX4_wouldWipe_26 (by decide) (by omega) (by omega) (fun c2 => ?_) (fun c2 => ?_)
        · refine z_iconst hx hb dX4_wouldWipe_33 ?_
          refine z_iadd hx hb dX4_wouldWipe_34 ?_
          refine z_top (y := n0) (by omega) ?_
          refine lv_istore_n (lv' := [(1, .int (zI n0)), (2, .int (zI b)), (0, .ref (ad 0))]) hx hb dX4_wouldWipe_35 rfl hl (by decide) rfl (fun ls hl => ?_)
          refine z_iinc (lv' := [(2, .int (zI (b + 1))), (1, .int (zI n0)), (0, .ref (ad 0))]) hx hb dX4_wouldWipe_36 hl (k := 1) rfl (by decide) (by rw [show (b : Int) + (1) = (b + 1) from by omega]; rfl) (fun ls hl => ?_)
          refine lv_goto (tgt := 13) hx hb dX4_wouldWipe_39 (by decide) ?_
          exact ih13 n0 (b + 1) (by omega) (by rw [sumZ_succ _ i0.1, ← i1]; unfold tornF; split <;> omega) (by omega) _ _ hP hS ls (lv_sub hl [0, 1, 2] rfl)
        · refine z_iconst hx hb dX4_wouldWipe_29 ?_
          refine lv_goto (tgt := 34) hx hb dX4_wouldWipe_30 (by decide) ?_
          refine z_iadd hx hb dX4_wouldWipe_34 ?_
          refine lv_istore_n (lv' := [(1, .int (zI (n0 + 1))), (2, .int (zI b)), (0, .ref (ad 0))]) hx hb dX4_wouldWipe_35 rfl hl (by decide) rfl (fun ls hl => ?_)
          refine z_iinc (lv' := [(2, .int (zI (b + 1))), (1, .int (zI (n0 + 1))), (0, .ref (ad 0))]) hx hb dX4_wouldWipe_36 hl (k := 1) rfl (by decide) (by rw [show (b : Int) + (1) = (b + 1) from by omega]; rfl) (fun ls hl => ?_)
          refine lv_goto (tgt := 13) hx hb dX4_wouldWipe_39 (by decide) ?_
          exact ih13 (n0 + 1) (b + 1) (by omega) (by rw [sumZ_succ _ i0.1, ← i1]; unfold tornF; split <;> omega) (by omega) _ _ hP hS ls (lv_sub hl [0, 1, 2] rfl)
  exact hloop13 ((48 - 0 : Int) + 1).toNat 0 0 (by omega) (by rfl) (by omega) _ _ hP hS ls (lv_sub hl [0, 1, 2] rfl)
