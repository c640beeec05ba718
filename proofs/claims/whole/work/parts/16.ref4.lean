/-! the reference reads the whole text -/
def TxO (S : Nat → Int → Int) : Prop := (∀ j : Int, 0 ≤ S 4 j ∧ S 4 j ≤ 255) ∧ (0 ≤ S 5 0 ∧ S 5 0 ≤ 80)
def readsAllM (S : Nat → Int → Int) : Nat → Int → Int := (rdF (S 5 0).toNat (up2 S 6 0 0) 0).1
theorem ps_at_le {S : Nat → Int → Int} (c : Int) : S 6 0 ≤ psM S c 6 0 := by rw [psM_at]; split <;> omega
theorem nm_at_le (S : Nat → Int → Int) (k : Int) : S 6 0 ≤ nmM S k 6 0 := by rw [nmM_at]; have := (nmLen_rng (S 4) (S 5 0) (S 6 0)).1; omega
theorem ra_at_le {S : Nat → Int → Int} (_h : TxOK S) (l : Int) : S 6 0 ≤ raM S l 6 0 := by
  have a1 := @ps_at_le S 59
  have a2 := nm_at_le S 0
  have a3 := @ps_at_le (nmM S 0) 59
  have a4 := @ps_at_le (nmM S 0) 44
  have a5 := nm_at_le (psM (nmM S 0) 44) 1
  have a6 := @ps_at_le (nmM (psM (nmM S 0) 44) 1) 59
  have a7 := @ps_at_le (nmM (psM (nmM S 0) 44) 1) 61
  have a8 := nm_at_le (psM (nmM (psM (nmM S 0) 44) 1) 61) 2
  have a9 := @ps_at_le (nmM (psM (nmM (psM (nmM S 0) 44) 1) 61) 2) 59
  unfold raM
  (repeat' split) <;> omega

theorem in_X4_does : ∀ w ∈ wsX40, w ∈ wsX4_does := fun w h => List.mem_cons_of_mem _ (List.mem_append_right _ h)
set_option maxHeartbeats 4000000 in
set_option maxRecDepth 100000 in
theorem k_X4_does (l : Launch) (dC : Nat → ClassId) (dI : Nat → Nat → Nat) (cI cQ : ClassId) (A : Nat → Prop) (ad : Nat → Nat) (S : Nat → Int → Int) (hD : ∀ S, va_D A (tW_X4 ad cI S)) (le : Int) (hO : doOK S le) (q0 : -2147483648 ≤ le ∧ le < 2147483648) : Met l yX4_does wsX4_does ({ frames := 5, cells := 0, slots := 0, locals := 117 }) (zPc (dC, dI) vwCl (zT cI cQ) (tW_X4 ad cI S) [.ref (ad 0), .int (zI le)]) (zQi (dC, dI) vwCl (tW_X4 ad cI (doesM S le)) (doesR S le) A) 0 0 A := by
  refine Met.ofW (cc := cX4_does) (maxL := 2) (ret := (some .int)) (by decide) rfl ?_
  intro p e s m args below meth c s₁ B hml hv
  obtain ⟨rfl, hP, hK⟩ := hv
  have hx := B.exec
  have hb := B.bytes
  have hr := B.returns
  have hts := atoms_spec (ws := wsX4_does) B.pre
  have hown : s.vm.findClass RX4 = some m.cls := findClass_of_methodNamed B.named
  have hlk := B.notSynchronized
  have hS : va_S A s.heap s.heap [] := va_S.rf
  have hl := lv_entry ([.ref (ad 0), .int (zI le)]) (n := 2) (Nat.le_of_ble_eq_true rfl)
  rw [lg_entry_eq]
  generalize (lg_sl ([.ref (ad 0), .int (zI le)]) ++ List.replicate (2 - (lg_sl ([.ref (ad 0), .int (zI le)])).length) Slot.unset).toArray = ls at hl ⊢
  have hl : lv_has ls 2 [(0, .ref (ad 0)), (1, .int (zI le))] := hl
  have hin : ∀ w ∈ wsX40, w ∈ wsX4_does := in_X4_does
  obtain ⟨hA, h2, h7, hN, hP2, hR⟩ := id hO
  have n0 := hN 0
  have n1 := hN 1
  have n2 := hN 2
  refine lv_iload_n hx hb dX4_does_0 rfl (lv_at hl 1 rfl) ?_
  rcases (show le = 114 ∨ le = 116 ∨ le = 119 ∨ (le ≠ 114 ∧ le ≠ 116 ∧ le ≠ 119) from by omega) with c1 | c1 | c1 | c1
  · refine z_lookup (tgt := 36) (off := 35) hx hb dX4_does_1 (by decide +kernel) (by omega) (by rw [show le = 114 from c1]; decide +kernel) (by decide) ?_
    refine lv_aload_n hx hb dX4_does_36 rfl (lv_at hl 0 rfl) ?_
    refine lv_aload_n hx hb dX4_does_37 rfl (lv_at hl 0 rfl) ?_
    refine gx_X4_10 hx hb hts hin hown hK hP (hts _ (List.mem_of_getElem? (i := 1) rfl)) dX4_does_38 ?_
    refine z_iconst hx hb dX4_does_41 ?_
    refine ld_X4_10 (v := S 10 0) hx hb hK hP (by omega) rfl dX4_does_42 ?_
    refine lv_aload_n hx hb dX4_does_43 rfl (lv_at hl 0 rfl) ?_
    refine gx_X4_10 hx hb hts hin hown hK hP (hts _ (List.mem_of_getElem? (i := 1) rfl)) dX4_does_44 ?_
    refine z_iconst hx hb dX4_does_47 ?_
    refine ld_X4_10 (v := S 10 1) hx hb hK hP (by omega) rfl dX4_does_48 ?_
    refine z_calli (va_runV (As := [.int (zI (S 10 0)), .int (zI (S 10 1))]) (rest := []) ⟨hx, hb, hml, hown, hts⟩ (k_X4_read l dC dI cI cQ A ad S hD (S 10 0) (S 10 1) (by exact hA) (by exact h2) (by exact h7) (by omega) (by omega)) (cwV 2 hts gX4_does_X4_read rfl rfl rfl (by decide +kernel) ⟨Nat.le_of_ble_eq_true rfl, Nat.le_of_ble_eq_true rfl⟩) (z_preV hK hP (ci := 4) (q0 := 0) rfl rfl rfl) rfl rfl hl.1 rfl (lv_room (Nat.le_of_ble_eq_true rfl)) dX4_does_49 ⟨Nat.zero_le _, Nat.zero_le _⟩) hS (fun _ h => h) (fun H locs hP hS _ _ => ?_)
    exact z_iret hx hb hr hlk hP hS dX4_does_52 (by unfold doesR; first | rw [if_pos (by omega)] | (rw [if_neg (by omega), if_pos (by omega)]) | (rw [if_neg (by omega), if_neg (by omega), if_pos (by omega)]) | (rw [if_neg (by omega), if_neg (by omega), if_neg (by omega)])) (congrArg (tW_X4 ad cI) (by unfold doesM; first | rw [if_pos (by omega)] | (rw [if_neg (by omega), if_pos (by omega)]) | (rw [if_neg (by omega), if_neg (by omega), if_pos (by omega)]) | (rw [if_neg (by omega), if_neg (by omega), if_neg (by omega)])))
  · refine z_lookup (tgt := 76) (off := 75) hx hb dX4_does_1 (by decide +kernel) (by omega) (by rw [show le = 116 from c1]; decide +kernel) (by decide) ?_
    refine lv_aload_n hx hb dX4_does_76 rfl (lv_at hl 0 rfl) ?_
    refine lv_aload_n hx hb dX4_does_77 rfl (lv_at hl 0 rfl) ?_
    refine gx_X4_10 hx hb hts hin hown hK hP (hts _ (List.mem_of_getElem? (i := 1) rfl)) dX4_does_78 ?_
    refine z_iconst hx hb dX4_does_81 ?_
    refine ld_X4_10 (v := S 10 0) hx hb hK hP (by omega) rfl dX4_does_82 ?_
    refine z_calli (va_runV (As := [.int (zI (S 10 0))]) (rest := []) ⟨hx, hb, hml, hown, hts⟩ (k_X4_pass l dC dI cI cQ A ad S hD (S 10 0) (by exact hA) (by exact h2) (by exact h7) (by omega) (by exact hP2 (by omega))) (cwV 1 hts gX4_does_X4_pass rfl rfl rfl (by decide +kernel) ⟨Nat.le_of_ble_eq_true rfl, Nat.le_of_ble_eq_true rfl⟩) (z_preV hK hP (ci := 4) (q0 := 0) rfl rfl rfl) rfl rfl hl.1 rfl (lv_room (Nat.le_of_ble_eq_true rfl)) dX4_does_83 ⟨Nat.zero_le _, Nat.zero_le _⟩) hS (fun _ h => h) (fun H locs hP hS _ _ => ?_)
    exact z_iret hx hb hr hlk hP hS dX4_does_86 (by unfold doesR; first | rw [if_pos (by omega)] | (rw [if_neg (by omega), if_pos (by omega)]) | (rw [if_neg (by omega), if_neg (by omega), if_pos (by omega)]) | (rw [if_neg (by omega), if_neg (by omega), if_neg (by omega)])) (congrArg (tW_X4 ad cI) (by unfold doesM; first | rw [if_pos (by omega)] | (rw [if_neg (by omega), if_pos (by omega)]) | (rw [if_neg (by omega), if_neg (by omega), if_pos (by omega)]) | (rw [if_neg (by omega), if_neg (by omega), if_neg (by omega)])))
  · refine z_lookup (tgt := 53) (off := 52) hx hb dX4_does_1 (by decide +kernel) (by omega) (by rw [show le = 119 from c1]; decide +kernel) (by decide) ?_
    refine lv_aload_n hx hb dX4_does_53 rfl (lv_at hl 0 rfl) ?_
    refine lv_aload_n hx hb dX4_does_54 rfl (lv_at hl 0 rfl) ?_
    refine gx_X4_10 hx hb hts hin hown hK hP (hts _ (List.mem_of_getElem? (i := 1) rfl)) dX4_does_55 ?_
    refine z_iconst hx hb dX4_does_58 ?_
    refine ld_X4_10 (v := S 10 0) hx hb hK hP (by omega) rfl dX4_does_59 ?_
    refine lv_aload_n hx hb dX4_does_60 rfl (lv_at hl 0 rfl) ?_
    refine gx_X4_10 hx hb hts hin hown hK hP (hts _ (List.mem_of_getElem? (i := 1) rfl)) dX4_does_61 ?_
    refine z_iconst hx hb dX4_does_64 ?_
    refine ld_X4_10 (v := S 10 1) hx hb hK hP (by omega) rfl dX4_does_65 ?_
    refine lv_aload_n hx hb dX4_does_66 rfl (lv_at hl 0 rfl) ?_
    refine gx_X4_10 hx hb hts hin hown hK hP (hts _ (List.mem_of_getElem? (i := 1) rfl)) dX4_does_67 ?_
    refine z_iconst hx hb dX4_does_70 ?_
    refine ld_X4_10 (v := S 10 2) hx hb hK hP (by omega) rfl dX4_does_71 ?_
    refine z_calli (va_runV (As := [.int (zI (S 10 0)), .int (zI (S 10 1)), .int (zI (S 10 2))]) (rest := []) ⟨hx, hb, hml, hown, hts⟩ (k_X4_write l dC dI cI cQ A ad S hD (S 10 0) (S 10 1) (S 10 2) (by exact hA) (by exact h2) (by exact h7) (by omega) (by omega) (by omega)) (cwV 3 hts gX4_does_X4_write rfl rfl rfl (by decide +kernel) ⟨Nat.le_of_ble_eq_true rfl, Nat.le_of_ble_eq_true rfl⟩) (z_preV hK hP (ci := 4) (q0 := 0) rfl rfl rfl) rfl rfl hl.1 rfl (lv_room (Nat.le_of_ble_eq_true rfl)) dX4_does_72 ⟨Nat.zero_le _, Nat.zero_le _⟩) hS (fun _ h => h) (fun H locs hP hS _ _ => ?_)
    exact z_iret hx hb hr hlk hP hS dX4_does_75 (by unfold doesR; first | rw [if_pos (by omega)] | (rw [if_neg (by omega), if_pos (by omega)]) | (rw [if_neg (by omega), if_neg (by omega), if_pos (by omega)]) | (rw [if_neg (by omega), if_neg (by omega), if_neg (by omega)])) (congrArg (tW_X4 ad cI) (by unfold doesM; first | rw [if_pos (by omega)] | (rw [if_neg (by omega), if_pos (by omega)]) | (rw [if_neg (by omega), if_neg (by omega), if_pos (by omega)]) | (rw [if_neg (by omega), if_neg (by omega), if_neg (by omega)])))
  · refine z_lookup (tgt := 87) (off := 86) hx hb dX4_does_1 (by decide +kernel) (by omega) (by simp [Op.lookupswitch.offset] <;> (repeat' split) <;> omega) (by decide) ?_
    refine lv_aload_n hx hb dX4_does_87 rfl (lv_at hl 0 rfl) ?_
    refine z_calli (va_runV (As := []) (rest := []) ⟨hx, hb, hml, hown, hts⟩ (k_X4_cut l dC dI cI cQ A ad S hD (by exact hA) (by exact h2) (by exact h7)) (cwV 0 hts gX4_does_X4_cut rfl rfl rfl (by decide +kernel) ⟨Nat.le_of_ble_eq_true rfl, Nat.le_of_ble_eq_true rfl⟩) (z_preV hK hP (ci := 4) (q0 := 0) rfl rfl rfl) rfl rfl hl.1 rfl (lv_room (Nat.le_of_ble_eq_true rfl)) dX4_does_88 ⟨Nat.zero_le _, Nat.zero_le _⟩) hS (fun _ h => h) (fun H locs hP hS _ _ => ?_)
    exact z_iret hx hb hr hlk hP hS dX4_does_91 (by unfold doesR; first | rw [if_pos (by omega)] | (rw [if_neg (by omega), if_pos (by omega)]) | (rw [if_neg (by omega), if_neg (by omega), if_pos (by omega)]) | (rw [if_neg (by omega), if_neg (by omega), if_neg (by omega)])) (congrArg (tW_X4 ad cI) (by unfold doesM; first | rw [if_pos (by omega)] | (rw [if_neg (by omega), if_pos (by omega)]) | (rw [if_neg (by omega), if_neg (by omega), if_pos (by omega)]) | (rw [if_neg (by omega), if_neg (by omega), if_neg (by omega)])))
theorem in_X4_readsAll : ∀ w ∈ wsX40, w ∈ wsX4_readsAll := fun w h => List.mem_cons_of_mem _ (List.mem_append_right _ h)
set_option maxHeartbeats 4000000 in
set_option maxRecDepth 100000 in
theorem k_X4_readsAll (l : Launch) (dC : Nat → ClassId) (dI : Nat → Nat → Nat) (cI cQ : ClassId) (A : Nat → Prop) (ad : Nat → Nat) (S : Nat → Int → Int) (hD : ∀ S, va_D A (tW_X4 ad cI S)) (hX : TxO S) : Met l yX4_readsAll wsX4_readsAll ({ frames := 3, cells := 0, slots := 0, locals := 66 }) (zPc (dC, dI) vwCl (zT cI cQ) (tW_X4 ad cI S) [.ref (ad 0)]) (zQi (dC, dI) vwCl (tW_X4 ad cI (readsAllM S)) (if (rdF (S 5 0).toNat (up2 S 6 0 0) 0).2 = true then 1 else 0) A) 0 0 A := by
  refine Met.ofW (cc := cX4_readsAll) (maxL := 3) (ret := (some .boolean)) (by decide) rfl ?_
  intro p e s m args below meth c s₁ B hml hv
  obtain ⟨rfl, hP, hK⟩ := hv
  have hx := B.exec
  have hb := B.bytes
  have hr := B.returns
  have hts := atoms_spec (ws := wsX4_readsAll) B.pre
  have hown : s.vm.findClass RX4 = some m.cls := findClass_of_methodNamed B.named
  have hlk := B.notSynchronized
  have hS : va_S A s.heap s.heap [] := va_S.rf
  have hl := lv_entry ([.ref (ad 0)]) (n := 3) (Nat.le_of_ble_eq_true rfl)
  rw [lg_entry_eq]
  generalize (lg_sl ([.ref (ad 0)]) ++ List.replicate (3 - (lg_sl ([.ref (ad 0)])).length) Slot.unset).toArray = ls at hl ⊢
  have hl : lv_has ls 3 [(0, .ref (ad 0))] := hl
  have hin : ∀ w ∈ wsX40, w ∈ wsX4_readsAll := in_X4_readsAll
  refine z_iconst hx hb dX4_readsAll_0 ?_
  refine lv_istore_n (lv' := [(1, .int (zI 0)), (0, .ref (ad 0))]) hx hb dX4_readsAll_1 rfl hl (by decide) rfl (fun ls hl => ?_)
  refine lv_aload_n hx hb dX4_readsAll_2 rfl (lv_at hl 1 rfl) ?_
  refine z_iconst hx hb dX4_readsAll_3 ?_
  refine px_X4_6 hx hb hts hin hown hK hP hD hS (hts _ (List.mem_of_getElem? (i := 1) rfl)) dX4_readsAll_4 (fun H locs hP hS => ?_)
  have hloop7 : ∀ (n : Nat) (d : Int) (S1 : Nat → Int → Int) (f : Nat), (TxOK S1) → (0 ≤ d ∧ d ≤ 3) → (S1 5 0 - S1 6 0 ≤ (f : Int)) → (rdF f S1 d = rdF (S 5 0).toNat (up2 S 6 0 0) 0) → ((f : Int) < (n : Int)) → ∀ (H : Heap) (locs : List Loc), va_P (dC, dI) vwCl (tW_X4 ad cI S1) H → va_S A s.heap H locs → ∀ ls : Array Slot, lv_has ls 3 [(1, .int (zI d)), (0, .ref (ad 0))] → W p l e (headSpec wsX4_readsAll ({ frames := 3, cells := 0, slots := 0, locals := 66 })).room s m ([.ref (ad 0)] : List Value).toArray below meth c H locs 0 0 (MQ below (zQi (dC, dI) vwCl (tW_X4 ad cI (readsAllM S)) (if (rdF (S 5 0).toNat (up2 S 6 0 0) 0).2 = true then 1 else 0) A) ([.ref (ad 0)] : List Value).toArray s 0 0 A) (F0 m 7 ls []) := by
    intro n
    induction n with
    | zero =>
      intro d S1 f iX i0 iF i1 hm
      exfalso
      omega
    | succ n ih =>
      intro d S1 f iX i0 iF i1 hm H locs hP hS ls hl
      have ih7 := ih
      clear ih
      have hT := iX.1
      have x5 := iX.2.1
      have x6 := iX.2.2
      refine lv_aload_n hx hb dX4_readsAll_7 rfl (lv_at hl 1 rfl) ?_
      refine gx_X4_6 hx hb hts hin hown hK hP (hts _ (List.mem_of_getElem? (i := 1) rfl)) dX4_readsAll_8 ?_
      refine lv_aload_n hx hb dX4_readsAll_11 rfl (lv_at hl 1 rfl) ?_
      refine gx_X4_5 hx hb hts hin hown hK hP (hts _ (List.mem_of_getElem? (i := 2) rfl)) dX4_readsAll_12 ?_
      refine z_icmp_ge (tgt := 133) hx hb dX4_readsAll_15 (by decide) (by omega) (by omega) (fun c1 => ?_) (fun c1 => ?_)
      · refine lv_iload_n hx hb dX4_readsAll_133 rfl (lv_at hl 0 rfl) ?_
        refine z_if_ne (tgt := 141) hx hb dX4_readsAll_134 (by decide) (by omega) (fun c2 => ?_) (fun c2 => ?_)
        · refine z_iconst hx hb dX4_readsAll_141 ?_
          exact z_zret hx hb hr hlk hP hS dX4_readsAll_142 (by omega) (by rw [← i1]; first | (exfalso; omega) | (rw [rd_end _ d (by omega)]; simp; try omega) | (rw [rd_letF g d (by omega) (show isLt (sgM S1) by rw [← e_ch]; assumption) (by rw [← e_ch]; assumption)]; rfl) | (rw [rd_opF g d (by omega) (show ¬ isLt (sgM S1) by rw [← e_ch]; assumption) (by omega) (show ¬ (sgM (pcQ S1) = 40 ∧ d ≠ 3) by rw [pcQ_1 ⟨by omega, by omega⟩, sgM_up]; omega)]; rfl) | (rw [rd_opF g d (by omega) (show ¬ isLt (sgM S1) by rw [← e_ch]; assumption) (by omega) (show ¬ (sgM (pcQ S1) = 40 ∧ d ≠ 3) by rw [pcQ_0 (by omega)]; unfold sgM; omega)]; rfl)) (congrArg (tW_X4 ad cI) (by unfold readsAllM; rw [← i1]; first | (exfalso; omega) | rw [rd_end _ d (by omega)] | (rw [rd_letF g d (by omega) (show isLt (sgM S1) by rw [← e_ch]; assumption) (by rw [← e_ch]; assumption), ← e_ch]) | (rw [rd_opF g d (by omega) (show ¬ isLt (sgM S1) by rw [← e_ch]; assumption) (by omega) (show ¬ (sgM (pcQ S1) = 40 ∧ d ≠ 3) by rw [pcQ_1 ⟨by omega, by omega⟩, sgM_up]; omega), pcQ_1 ⟨by omega, by omega⟩]) | (rw [rd_opF g d (by omega) (show ¬ isLt (sgM S1) by rw [← e_ch]; assumption) (by omega) (show ¬ (sgM (pcQ S1) = 40 ∧ d ≠ 3) by rw [pcQ_0 (by omega)]; unfold sgM; omega), pcQ_0 (by omega)]; exact up2_same0 S1)))
        · refine z_iconst hx hb dX4_readsAll_137 ?_
          refine lv_goto (tgt := 142) hx hb dX4_readsAll_138 (by decide) ?_
          exact z_zret hx hb hr hlk hP hS dX4_readsAll_142 (by omega) (by rw [← i1]; first | (exfalso; omega) | (rw [rd_end _ d (by omega)]; simp; try omega) | (rw [rd_letF g d (by omega) (show isLt (sgM S1) by rw [← e_ch]; assumption) (by rw [← e_ch]; assumption)]; rfl) | (rw [rd_opF g d (by omega) (show ¬ isLt (sgM S1) by rw [← e_ch]; assumption) (by omega) (show ¬ (sgM (pcQ S1) = 40 ∧ d ≠ 3) by rw [pcQ_1 ⟨by omega, by omega⟩, sgM_up]; omega)]; rfl) | (rw [rd_opF g d (by omega) (show ¬ isLt (sgM S1) by rw [← e_ch]; assumption) (by omega) (show ¬ (sgM (pcQ S1) = 40 ∧ d ≠ 3) by rw [pcQ_0 (by omega)]; unfold sgM; omega)]; rfl)) (congrArg (tW_X4 ad cI) (by unfold readsAllM; rw [← i1]; first | (exfalso; omega) | rw [rd_end _ d (by omega)] | (rw [rd_letF g d (by omega) (show isLt (sgM S1) by rw [← e_ch]; assumption) (by rw [← e_ch]; assumption), ← e_ch]) | (rw [rd_opF g d (by omega) (show ¬ isLt (sgM S1) by rw [← e_ch]; assumption) (by omega) (show ¬ (sgM (pcQ S1) = 40 ∧ d ≠ 3) by rw [pcQ_1 ⟨by omega, by omega⟩, sgM_up]; omega), pcQ_1 ⟨by omega, by omega⟩]) | (rw [rd_opF g d (by omega) (show ¬ isLt (sgM S1) by rw [← e_ch]; assumption) (by omega) (show ¬ (sgM (pcQ S1) = 40 ∧ d ≠ 3) by rw [pcQ_0 (by omega)]; unfold sgM; omega), pcQ_0 (by omega)]; exact up2_same0 S1)))
      · obtain ⟨g, rfl⟩ : ∃ g, f = g + 1 := ⟨f - 1, by omega⟩
        refine lv_aload_n hx hb dX4_readsAll_18 rfl (lv_at hl 1 rfl) ?_
        refine z_calli (va_runV (As := []) (rest := []) ⟨hx, hb, hml, hown, hts⟩ (k_X4_here l dC dI cI cQ A ad S1 hD (by first | exact ⟨hT, x5, by omega⟩ | (refine ⟨hT, x5, ?_⟩; rw [up2_eq]; omega))) (cwV 0 hts gX4_readsAll_X4_here rfl rfl rfl (by decide +kernel) ⟨Nat.le_of_ble_eq_true rfl, Nat.le_of_ble_eq_true rfl⟩) (z_preV hK hP (ci := 4) (q0 := 0) rfl rfl rfl) rfl rfl hl.1 rfl (lv_room (Nat.le_of_ble_eq_true rfl)) dX4_readsAll_19 ⟨Nat.zero_le _, Nat.zero_le _⟩) hS (fun _ h => h) (fun H locs hP hS _ _ => ?_)
        refine z_top (y := (sgF (S1 4) (S1 5 0) (S1 6 0))) (by exact congrArg (sgF (S1 4) (S1 5 0)) rfl) ?_
        refine z_top (y := sgM S1) (by rfl) ?_
        refine z_name (fun ch e_ch => ?_)
        refine lv_istore_n (lv' := [(2, .int (zI ch)), (1, .int (zI d)), (0, .ref (ad 0))]) hx hb dX4_readsAll_22 rfl hl (by decide) rfl (fun ls hl => ?_)
        have rgc := sgM_rng iX
        rw [← e_ch] at rgc
        refine lv_iload_n hx hb dX4_readsAll_23 rfl (lv_at hl 0 rfl) ?_
        refine z_calli (va_runS (As := [.int (zI ch)]) (rest := []) ⟨hx, hb, hml, hown, hts⟩ (k_X4_isLetter l dC dI cI cQ A (tW_X4 ad cI S1) ch (by omega)) (va_cwS 1 hts gX4_readsAll_X4_isLetter rfl rfl rfl (by decide +kernel) ⟨Nat.le_of_ble_eq_true rfl, Nat.le_of_ble_eq_true rfl⟩) (z_preS hK hP) rfl rfl hl.1 rfl (lv_room (Nat.le_of_ble_eq_true rfl)) dX4_readsAll_24 ⟨Nat.zero_le _, Nat.zero_le _⟩) hS (fun _ h => h) (fun H locs hP hS _ _ => ?_)
        refine z_ifb_eq (tgt := 50) hx hb dX4_readsAll_27 (by decide) (fun c3 => ?_) (fun c3 => ?_)
        · refine lv_iload_n hx hb dX4_readsAll_50 rfl (lv_at hl 0 rfl) ?_
          refine z_bipush (z := 41) hx hb dX4_readsAll_51 (by decide +kernel) ?_
          refine z_icmp_ne (tgt := 76) hx hb dX4_readsAll_53 (by decide) (by omega) (by omega) (fun c4 => ?_) (fun c4 => ?_)
          · refine lv_aload_n hx hb dX4_readsAll_76 rfl (lv_at hl 2 rfl) ?_
            refine lv_dup hx hb dX4_readsAll_77 rfl ?_
            refine gx_X4_6 hx hb hts hin hown hK hP (hts _ (List.mem_of_getElem? (i := 1) rfl)) dX4_readsAll_78 ?_
            refine lv_iload_n hx hb dX4_readsAll_81 rfl (lv_at hl 0 rfl) ?_
            refine z_bipush (z := 50) hx hb dX4_readsAll_82 (by decide +kernel) ?_
            refine z_bipush (z := 57) hx hb dX4_readsAll_84 (by decide +kernel) ?_
            refine z_calli (va_runS (As := [.int (zI ch), .int (zI 50), .int (zI 57)]) (rest := [.int (zI (S1 6 0)), .ref (ad 0)]) ⟨hx, hb, hml, hown, hts⟩ (k_X4_within l dC dI cI cQ A (tW_X4 ad cI S1) ch 50 57 (by omega) (by omega) (by omega)) (va_cwS 3 hts gX4_readsAll_X4_within rfl rfl rfl (by decide +kernel) ⟨Nat.le_of_ble_eq_true rfl, Nat.le_of_ble_eq_true rfl⟩) (z_preS hK hP) rfl rfl hl.1 rfl (lv_room (Nat.le_of_ble_eq_true rfl)) dX4_readsAll_86 ⟨Nat.zero_le _, Nat.zero_le _⟩) hS (fun _ h => h) (fun H locs hP hS _ _ => ?_)
            refine z_ifb_eq (tgt := 96) hx hb dX4_readsAll_89 (by decide) (fun c5 => ?_) (fun c5 => ?_)
            · refine z_iconst hx hb dX4_readsAll_96 ?_
              refine z_iadd hx hb dX4_readsAll_97 ?_
              refine z_top (y := S1 6 0) (by omega) ?_
              refine px_X4_6 hx hb hts hin hown hK hP hD hS (hts _ (List.mem_of_getElem? (i := 1) rfl)) dX4_readsAll_98 (fun H locs hP hS => ?_)
              refine lv_aload_n hx hb dX4_readsAll_101 rfl (lv_at hl 2 rfl) ?_
              refine z_calli (va_runV (As := []) (rest := []) ⟨hx, hb, hml, hown, hts⟩ (k_X4_here l dC dI cI cQ A ad (up2 S1 6 0 (S1 6 0)) hD (by first | exact ⟨hT, x5, by omega⟩ | (refine ⟨hT, x5, ?_⟩; rw [up2_eq]; omega))) (cwV 0 hts gX4_readsAll_X4_here rfl rfl rfl (by decide +kernel) ⟨Nat.le_of_ble_eq_true rfl, Nat.le_of_ble_eq_true rfl⟩) (z_preV hK hP (ci := 4) (q0 := 0) rfl rfl rfl) rfl rfl hl.1 rfl (lv_room (Nat.le_of_ble_eq_true rfl)) dX4_readsAll_102 ⟨Nat.zero_le _, Nat.zero_le _⟩) hS (fun _ h => h) (fun H locs hP hS _ _ => ?_)
              refine z_top (y := (sgF (S1 4) (S1 5 0) (S1 6 0))) (by exact congrArg (sgF (S1 4) (S1 5 0)) (up2_eq _ _ _ _)) ?_
              have rg4 := sgF_rng hT (S1 5 0) (S1 6 0)
              have rg5 := sgF_rng hT (S1 5 0) (S1 6 0 + 1)
              have esg : sgM S1 = sgF (S1 4) (S1 5 0) (S1 6 0) := rfl
              refine z_bipush (z := 40) hx hb dX4_readsAll_105 (by decide +kernel) ?_
              refine z_icmp_ne (tgt := 115) hx hb dX4_readsAll_107 (by decide) (by omega) (by omega) (fun c6 => ?_) (fun c6 => ?_)
              · refine z_iconst hx hb dX4_readsAll_115 ?_
                exact z_zret hx hb hr hlk hP hS dX4_readsAll_116 (by omega) (by rw [← i1]; first | (exfalso; omega) | (rw [rd_end _ d (by omega)]; simp; try omega) | (rw [rd_letF g d (by omega) (show isLt (sgM S1) by rw [← e_ch]; assumption) (by rw [← e_ch]; assumption)]; rfl) | (rw [rd_opF g d (by omega) (show ¬ isLt (sgM S1) by rw [← e_ch]; assumption) (by omega) (show ¬ (sgM (pcQ S1) = 40 ∧ d ≠ 3) by rw [pcQ_1 ⟨by omega, by omega⟩, sgM_up]; omega)]; rfl) | (rw [rd_opF g d (by omega) (show ¬ isLt (sgM S1) by rw [← e_ch]; assumption) (by omega) (show ¬ (sgM (pcQ S1) = 40 ∧ d ≠ 3) by rw [pcQ_0 (by omega)]; unfold sgM; omega)]; rfl)) (congrArg (tW_X4 ad cI) (by unfold readsAllM; rw [← i1]; first | (exfalso; omega) | rw [rd_end _ d (by omega)] | (rw [rd_letF g d (by omega) (show isLt (sgM S1) by rw [← e_ch]; assumption) (by rw [← e_ch]; assumption), ← e_ch]) | (rw [rd_opF g d (by omega) (show ¬ isLt (sgM S1) by rw [← e_ch]; assumption) (by omega) (show ¬ (sgM (pcQ S1) = 40 ∧ d ≠ 3) by rw [pcQ_1 ⟨by omega, by omega⟩, sgM_up]; omega), pcQ_1 ⟨by omega, by omega⟩]) | (rw [rd_opF g d (by omega) (show ¬ isLt (sgM S1) by rw [← e_ch]; assumption) (by omega) (show ¬ (sgM (pcQ S1) = 40 ∧ d ≠ 3) by rw [pcQ_0 (by omega)]; unfold sgM; omega), pcQ_0 (by omega)]; exact up2_same0 S1)))
              · refine lv_iload_n hx hb dX4_readsAll_110 rfl (lv_at hl 1 rfl) ?_
                refine z_iconst hx hb dX4_readsAll_111 ?_
                refine z_icmp_ne (tgt := 117) hx hb dX4_readsAll_112 (by decide) (by omega) (by omega) (fun c7 => ?_) (fun c7 => ?_)
                · refine z_iinc (lv' := [(1, .int (zI (d + 1))), (2, .int (zI ch)), (0, .ref (ad 0))]) hx hb dX4_readsAll_117 hl (k := 1) rfl (by decide) (by rw [show (d : Int) + (1) = (d + 1) from by omega]; rfl) (fun ls hl => ?_)
                  refine lv_aload_n hx hb dX4_readsAll_120 rfl (lv_at hl 2 rfl) ?_
                  refine lv_dup hx hb dX4_readsAll_121 rfl ?_
                  refine gx_X4_6 hx hb hts hin hown hK hP (hts _ (List.mem_of_getElem? (i := 1) rfl)) dX4_readsAll_122 ?_
                  refine z_top (y := S1 6 0) (up2_eq _ _ _ _) ?_
                  refine z_iconst hx hb dX4_readsAll_125 ?_
                  refine z_iadd hx hb dX4_readsAll_126 ?_
                  refine z_top (y := S1 6 0 + 1) (by omega) ?_
                  refine px_X4_6 hx hb hts hin hown hK hP hD hS (hts _ (List.mem_of_getElem? (i := 1) rfl)) dX4_readsAll_127 (fun H locs hP hS => ?_)
                  refine lv_goto (tgt := 7) hx hb dX4_readsAll_130 (by decide) ?_
                  exact ih7 (d + 1) (up2 (up2 S1 6 0 (S1 6 0)) 6 0 (S1 6 0 + 1)) (g) (by first | (exfalso; omega) | exact Tx_ra (Tx_adv iX (by omega)) _ | exact Tx_adv iX (by omega) | (rw [up2_tw]; exact Tx_adv iX (by omega)) | (refine ⟨iX.1, iX.2.1, ?_⟩; rw [up2_eq]; have a1 := @sgF_in (S1 4) (S1 5 0) (S1 6 0 + 1); have a2 := iX.2.2; show 0 ≤ S1 6 0 + 2 ∧ S1 6 0 + 2 ≤ S1 5 0; omega)) (by omega) (by first | omega | (have a1 := ra_at_le (S := up2 S1 6 0 (S1 6 0 + 1)) (Tx_adv iX (by omega)) ch; rw [up2_eq] at a1; have a2 := raM_o (up2 S1 6 0 (S1 6 0 + 1)) ch (i := 5) (by decide) (by decide); have a3 := congrFun a2 0; have a4 : up2 S1 6 0 (S1 6 0 + 1) 5 0 = S1 5 0 := rfl; omega) | (rw [up2_eq]; show S1 5 0 - _ ≤ _; omega)) (by first | (exfalso; omega) | (rw [rd_let g d (by omega) (show isLt (sgM S1) by rw [← e_ch]; assumption) (by rw [← e_ch]; assumption), ← e_ch] at i1; exact i1) | (rw [rd_cl g d (by omega) (show ¬ isLt (sgM S1) by rw [← e_ch]; assumption) ⟨by omega, by omega⟩] at i1; exact i1) | (rw [rd_op g d (by omega) (show ¬ isLt (sgM S1) by rw [← e_ch]; assumption) (by omega) (show sgM (pcQ S1) = 40 ∧ d ≠ 3 by rw [pcQ_1 ⟨by omega, by omega⟩, sgM_up]; omega), pcQ_1 ⟨by omega, by omega⟩, up2_eq, show S1 6 0 + 1 + 1 = S1 6 0 + 2 from by omega] at i1; exact i1) | (rw [rd_op g d (by omega) (show ¬ isLt (sgM S1) by rw [← e_ch]; assumption) (by omega) (show sgM (pcQ S1) = 40 ∧ d ≠ 3 by rw [pcQ_0 (by omega)]; unfold sgM; omega), pcQ_0 (by omega)] at i1; rw [up2_tw]; exact i1)) (by omega) _ _ hP hS ls (lv_sub hl [0, 2] rfl)
                · refine z_iconst hx hb dX4_readsAll_115 ?_
                  exact z_zret hx hb hr hlk hP hS dX4_readsAll_116 (by omega) (by rw [← i1]; first | (exfalso; omega) | (rw [rd_end _ d (by omega)]; simp; try omega) | (rw [rd_letF g d (by omega) (show isLt (sgM S1) by rw [← e_ch]; assumption) (by rw [← e_ch]; assumption)]; rfl) | (rw [rd_opF g d (by omega) (show ¬ isLt (sgM S1) by rw [← e_ch]; assumption) (by omega) (show ¬ (sgM (pcQ S1) = 40 ∧ d ≠ 3) by rw [pcQ_1 ⟨by omega, by omega⟩, sgM_up]; omega)]; rfl) | (rw [rd_opF g d (by omega) (show ¬ isLt (sgM S1) by rw [← e_ch]; assumption) (by omega) (show ¬ (sgM (pcQ S1) = 40 ∧ d ≠ 3) by rw [pcQ_0 (by omega)]; unfold sgM; omega)]; rfl)) (congrArg (tW_X4 ad cI) (by unfold readsAllM; rw [← i1]; first | (exfalso; omega) | rw [rd_end _ d (by omega)] | (rw [rd_letF g d (by omega) (show isLt (sgM S1) by rw [← e_ch]; assumption) (by rw [← e_ch]; assumption), ← e_ch]) | (rw [rd_opF g d (by omega) (show ¬ isLt (sgM S1) by rw [← e_ch]; assumption) (by omega) (show ¬ (sgM (pcQ S1) = 40 ∧ d ≠ 3) by rw [pcQ_1 ⟨by omega, by omega⟩, sgM_up]; omega), pcQ_1 ⟨by omega, by omega⟩]) | (rw [rd_opF g d (by omega) (show ¬ isLt (sgM S1) by rw [← e_ch]; assumption) (by omega) (show ¬ (sgM (pcQ S1) = 40 ∧ d ≠ 3) by rw [pcQ_0 (by omega)]; unfold sgM; omega), pcQ_0 (by omega)]; exact up2_same0 S1)))
            · refine z_iconst hx hb dX4_readsAll_92 ?_
              refine lv_goto (tgt := 97) hx hb dX4_readsAll_93 (by decide) ?_
              refine z_iadd hx hb dX4_readsAll_97 ?_
              refine z_top (y := S1 6 0 + 1) (by omega) ?_
              refine px_X4_6 hx hb hts hin hown hK hP hD hS (hts _ (List.mem_of_getElem? (i := 1) rfl)) dX4_readsAll_98 (fun H locs hP hS => ?_)
              refine lv_aload_n hx hb dX4_readsAll_101 rfl (lv_at hl 2 rfl) ?_
              refine z_calli (va_runV (As := []) (rest := []) ⟨hx, hb, hml, hown, hts⟩ (k_X4_here l dC dI cI cQ A ad (up2 S1 6 0 (S1 6 0 + 1)) hD (by first | exact ⟨hT, x5, by omega⟩ | (refine ⟨hT, x5, ?_⟩; rw [up2_eq]; omega))) (cwV 0 hts gX4_readsAll_X4_here rfl rfl rfl (by decide +kernel) ⟨Nat.le_of_ble_eq_true rfl, Nat.le_of_ble_eq_true rfl⟩) (z_preV hK hP (ci := 4) (q0 := 0) rfl rfl rfl) rfl rfl hl.1 rfl (lv_room (Nat.le_of_ble_eq_true rfl)) dX4_readsAll_102 ⟨Nat.zero_le _, Nat.zero_le _⟩) hS (fun _ h => h) (fun H locs hP hS _ _ => ?_)
              refine z_top (y := (sgF (S1 4) (S1 5 0) (S1 6 0 + 1))) (by exact congrArg (sgF (S1 4) (S1 5 0)) (up2_eq _ _ _ _)) ?_
              have rg4 := sgF_rng hT (S1 5 0) (S1 6 0)
              have rg5 := sgF_rng hT (S1 5 0) (S1 6 0 + 1)
              have esg : sgM S1 = sgF (S1 4) (S1 5 0) (S1 6 0) := rfl
              refine z_bipush (z := 40) hx hb dX4_readsAll_105 (by decide +kernel) ?_
              refine z_icmp_ne (tgt := 115) hx hb dX4_readsAll_107 (by decide) (by omega) (by omega) (fun c8 => ?_) (fun c8 => ?_)
              · refine z_iconst hx hb dX4_readsAll_115 ?_
                exact z_zret hx hb hr hlk hP hS dX4_readsAll_116 (by omega) (by rw [← i1]; first | (exfalso; omega) | (rw [rd_end _ d (by omega)]; simp; try omega) | (rw [rd_letF g d (by omega) (show isLt (sgM S1) by rw [← e_ch]; assumption) (by rw [← e_ch]; assumption)]; rfl) | (rw [rd_opF g d (by omega) (show ¬ isLt (sgM S1) by rw [← e_ch]; assumption) (by omega) (show ¬ (sgM (pcQ S1) = 40 ∧ d ≠ 3) by rw [pcQ_1 ⟨by omega, by omega⟩, sgM_up]; omega)]; rfl) | (rw [rd_opF g d (by omega) (show ¬ isLt (sgM S1) by rw [← e_ch]; assumption) (by omega) (show ¬ (sgM (pcQ S1) = 40 ∧ d ≠ 3) by rw [pcQ_0 (by omega)]; unfold sgM; omega)]; rfl)) (congrArg (tW_X4 ad cI) (by unfold readsAllM; rw [← i1]; first | (exfalso; omega) | rw [rd_end _ d (by omega)] | (rw [rd_letF g d (by omega) (show isLt (sgM S1) by rw [← e_ch]; assumption) (by rw [← e_ch]; assumption), ← e_ch]) | (rw [rd_opF g d (by omega) (show ¬ isLt (sgM S1) by rw [← e_ch]; assumption) (by omega) (show ¬ (sgM (pcQ S1) = 40 ∧ d ≠ 3) by rw [pcQ_1 ⟨by omega, by omega⟩, sgM_up]; omega), pcQ_1 ⟨by omega, by omega⟩]) | (rw [rd_opF g d (by omega) (show ¬ isLt (sgM S1) by rw [← e_ch]; assumption) (by omega) (show ¬ (sgM (pcQ S1) = 40 ∧ d ≠ 3) by rw [pcQ_0 (by omega)]; unfold sgM; omega), pcQ_0 (by omega)]; exact up2_same0 S1)))
              · refine lv_iload_n hx hb dX4_readsAll_110 rfl (lv_at hl 1 rfl) ?_
                refine z_iconst hx hb dX4_readsAll_111 ?_
                refine z_icmp_ne (tgt := 117) hx hb dX4_readsAll_112 (by decide) (by omega) (by omega) (fun c9 => ?_) (fun c9 => ?_)
                · refine z_iinc (lv' := [(1, .int (zI (d + 1))), (2, .int (zI ch)), (0, .ref (ad 0))]) hx hb dX4_readsAll_117 hl (k := 1) rfl (by decide) (by rw [show (d : Int) + (1) = (d + 1) from by omega]; rfl) (fun ls hl => ?_)
                  refine lv_aload_n hx hb dX4_readsAll_120 rfl (lv_at hl 2 rfl) ?_
                  refine lv_dup hx hb dX4_readsAll_121 rfl ?_
                  refine gx_X4_6 hx hb hts hin hown hK hP (hts _ (List.mem_of_getElem? (i := 1) rfl)) dX4_readsAll_122 ?_
                  refine z_top (y := S1 6 0 + 1) (up2_eq _ _ _ _) ?_
                  refine z_iconst hx hb dX4_readsAll_125 ?_
                  refine z_iadd hx hb dX4_readsAll_126 ?_
                  refine z_top (y := S1 6 0 + 2) (by omega) ?_
                  refine px_X4_6 hx hb hts hin hown hK hP hD hS (hts _ (List.mem_of_getElem? (i := 1) rfl)) dX4_readsAll_127 (fun H locs hP hS => ?_)
                  refine lv_goto (tgt := 7) hx hb dX4_readsAll_130 (by decide) ?_
                  exact ih7 (d + 1) (up2 (up2 S1 6 0 (S1 6 0 + 1)) 6 0 (S1 6 0 + 2)) (g) (by first | (exfalso; omega) | exact Tx_ra (Tx_adv iX (by omega)) _ | exact Tx_adv iX (by omega) | (rw [up2_tw]; exact Tx_adv iX (by omega)) | (refine ⟨iX.1, iX.2.1, ?_⟩; rw [up2_eq]; have a1 := @sgF_in (S1 4) (S1 5 0) (S1 6 0 + 1); have a2 := iX.2.2; show 0 ≤ S1 6 0 + 2 ∧ S1 6 0 + 2 ≤ S1 5 0; omega)) (by omega) (by first | omega | (have a1 := ra_at_le (S := up2 S1 6 0 (S1 6 0 + 1)) (Tx_adv iX (by omega)) ch; rw [up2_eq] at a1; have a2 := raM_o (up2 S1 6 0 (S1 6 0 + 1)) ch (i := 5) (by decide) (by decide); have a3 := congrFun a2 0; have a4 : up2 S1 6 0 (S1 6 0 + 1) 5 0 = S1 5 0 := rfl; omega) | (rw [up2_eq]; show S1 5 0 - _ ≤ _; omega)) (by first | (exfalso; omega) | (rw [rd_let g d (by omega) (show isLt (sgM S1) by rw [← e_ch]; assumption) (by rw [← e_ch]; assumption), ← e_ch] at i1; exact i1) | (rw [rd_cl g d (by omega) (show ¬ isLt (sgM S1) by rw [← e_ch]; assumption) ⟨by omega, by omega⟩] at i1; exact i1) | (rw [rd_op g d (by omega) (show ¬ isLt (sgM S1) by rw [← e_ch]; assumption) (by omega) (show sgM (pcQ S1) = 40 ∧ d ≠ 3 by rw [pcQ_1 ⟨by omega, by omega⟩, sgM_up]; omega), pcQ_1 ⟨by omega, by omega⟩, up2_eq, show S1 6 0 + 1 + 1 = S1 6 0 + 2 from by omega] at i1; exact i1) | (rw [rd_op g d (by omega) (show ¬ isLt (sgM S1) by rw [← e_ch]; assumption) (by omega) (show sgM (pcQ S1) = 40 ∧ d ≠ 3 by rw [pcQ_0 (by omega)]; unfold sgM; omega), pcQ_0 (by omega)] at i1; rw [up2_tw]; exact i1)) (by omega) _ _ hP hS ls (lv_sub hl [0, 2] rfl)
                · refine z_iconst hx hb dX4_readsAll_115 ?_
                  exact z_zret hx hb hr hlk hP hS dX4_readsAll_116 (by omega) (by rw [← i1]; first | (exfalso; omega) | (rw [rd_end _ d (by omega)]; simp; try omega) | (rw [rd_letF g d (by omega) (show isLt (sgM S1) by rw [← e_ch]; assumption) (by rw [← e_ch]; assumption)]; rfl) | (rw [rd_opF g d (by omega) (show ¬ isLt (sgM S1) by rw [← e_ch]; assumption) (by omega) (show ¬ (sgM (pcQ S1) = 40 ∧ d ≠ 3) by rw [pcQ_1 ⟨by omega, by omega⟩, sgM_up]; omega)]; rfl) | (rw [rd_opF g d (by omega) (show ¬ isLt (sgM S1) by rw [← e_ch]; assumption) (by omega) (show ¬ (sgM (pcQ S1) = 40 ∧ d ≠ 3) by rw [pcQ_0 (by omega)]; unfold sgM; omega)]; rfl)) (congrArg (tW_X4 ad cI) (by unfold readsAllM; rw [← i1]; first | (exfalso; omega) | rw [rd_end _ d (by omega)] | (rw [rd_letF g d (by omega) (show isLt (sgM S1) by rw [← e_ch]; assumption) (by rw [← e_ch]; assumption), ← e_ch]) | (rw [rd_opF g d (by omega) (show ¬ isLt (sgM S1) by rw [← e_ch]; assumption) (by omega) (show ¬ (sgM (pcQ S1) = 40 ∧ d ≠ 3) by rw [pcQ_1 ⟨by omega, by omega⟩, sgM_up]; omega), pcQ_1 ⟨by omega, by omega⟩]) | (rw [rd_opF g d (by omega) (show ¬ isLt (sgM S1) by rw [← e_ch]; assumption) (by omega) (show ¬ (sgM (pcQ S1) = 40 ∧ d ≠ 3) by rw [pcQ_0 (by omega)]; unfold sgM; omega), pcQ_0 (by omega)]; exact up2_same0 S1)))
          · refine lv_iload_n hx hb dX4_readsAll_56 rfl (lv_at hl 1 rfl) ?_
            refine z_if_le (tgt := 76) hx hb dX4_readsAll_57 (by decide) (by omega) (fun c10 => ?_) (fun c10 => ?_)
            · refine lv_aload_n hx hb dX4_readsAll_76 rfl (lv_at hl 2 rfl) ?_
              refine lv_dup hx hb dX4_readsAll_77 rfl ?_
              refine gx_X4_6 hx hb hts hin hown hK hP (hts _ (List.mem_of_getElem? (i := 1) rfl)) dX4_readsAll_78 ?_
              refine lv_iload_n hx hb dX4_readsAll_81 rfl (lv_at hl 0 rfl) ?_
              refine z_bipush (z := 50) hx hb dX4_readsAll_82 (by decide +kernel) ?_
              refine z_bipush (z := 57) hx hb dX4_readsAll_84 (by decide +kernel) ?_
              refine z_calli (va_runS (As := [.int (zI ch), .int (zI 50), .int (zI 57)]) (rest := [.int (zI (S1 6 0)), .ref (ad 0)]) ⟨hx, hb, hml, hown, hts⟩ (k_X4_within l dC dI cI cQ A (tW_X4 ad cI S1) ch 50 57 (by omega) (by omega) (by omega)) (va_cwS 3 hts gX4_readsAll_X4_within rfl rfl rfl (by decide +kernel) ⟨Nat.le_of_ble_eq_true rfl, Nat.le_of_ble_eq_true rfl⟩) (z_preS hK hP) rfl rfl hl.1 rfl (lv_room (Nat.le_of_ble_eq_true rfl)) dX4_readsAll_86 ⟨Nat.zero_le _, Nat.zero_le _⟩) hS (fun _ h => h) (fun H locs hP hS _ _ => ?_)
              refine z_ifb_eq (tgt := 96) hx hb dX4_readsAll_89 (by decide) (fun c11 => ?_) (fun c11 => ?_)
              · refine z_iconst hx hb dX4_readsAll_96 ?_
                refine z_iadd hx hb dX4_readsAll_97 ?_
                refine z_top (y := S1 6 0) (by omega) ?_
                refine px_X4_6 hx hb hts hin hown hK hP hD hS (hts _ (List.mem_of_getElem? (i := 1) rfl)) dX4_readsAll_98 (fun H locs hP hS => ?_)
                refine lv_aload_n hx hb dX4_readsAll_101 rfl (lv_at hl 2 rfl) ?_
                refine z_calli (va_runV (As := []) (rest := []) ⟨hx, hb, hml, hown, hts⟩ (k_X4_here l dC dI cI cQ A ad (up2 S1 6 0 (S1 6 0)) hD (by first | exact ⟨hT, x5, by omega⟩ | (refine ⟨hT, x5, ?_⟩; rw [up2_eq]; omega))) (cwV 0 hts gX4_readsAll_X4_here rfl rfl rfl (by decide +kernel) ⟨Nat.le_of_ble_eq_true rfl, Nat.le_of_ble_eq_true rfl⟩) (z_preV hK hP (ci := 4) (q0 := 0) rfl rfl rfl) rfl rfl hl.1 rfl (lv_room (Nat.le_of_ble_eq_true rfl)) dX4_readsAll_102 ⟨Nat.zero_le _, Nat.zero_le _⟩) hS (fun _ h => h) (fun H locs hP hS _ _ => ?_)
                refine z_top (y := (sgF (S1 4) (S1 5 0) (S1 6 0))) (by exact congrArg (sgF (S1 4) (S1 5 0)) (up2_eq _ _ _ _)) ?_
                have rg4 := sgF_rng hT (S1 5 0) (S1 6 0)
                have rg5 := sgF_rng hT (S1 5 0) (S1 6 0 + 1)
                have esg : sgM S1 = sgF (S1 4) (S1 5 0) (S1 6 0) := rfl
                refine z_bipush (z := 40) hx hb dX4_readsAll_105 (by decide +kernel) ?_
                refine z_icmp_ne (tgt := 115) hx hb dX4_readsAll_107 (by decide) (by omega) (by omega) (fun c12 => ?_) (fun c12 => ?_)
                · refine z_iconst hx hb dX4_readsAll_115 ?_
                  exact z_zret hx hb hr hlk hP hS dX4_readsAll_116 (by omega) (by rw [← i1]; first | (exfalso; omega) | (rw [rd_end _ d (by omega)]; simp; try omega) | (rw [rd_letF g d (by omega) (show isLt (sgM S1) by rw [← e_ch]; assumption) (by rw [← e_ch]; assumption)]; rfl) | (rw [rd_opF g d (by omega) (show ¬ isLt (sgM S1) by rw [← e_ch]; assumption) (by omega) (show ¬ (sgM (pcQ S1) = 40 ∧ d ≠ 3) by rw [pcQ_1 ⟨by omega, by omega⟩, sgM_up]; omega)]; rfl) | (rw [rd_opF g d (by omega) (show ¬ isLt (sgM S1) by rw [← e_ch]; assumption) (by omega) (show ¬ (sgM (pcQ S1) = 40 ∧ d ≠ 3) by rw [pcQ_0 (by omega)]; unfold sgM; omega)]; rfl)) (congrArg (tW_X4 ad cI) (by unfold readsAllM; rw [← i1]; first | (exfalso; omega) | rw [rd_end _ d (by omega)] | (rw [rd_letF g d (by omega) (show isLt (sgM S1) by rw [← e_ch]; assumption) (by rw [← e_ch]; assumption), ← e_ch]) | (rw [rd_opF g d (by omega) (show ¬ isLt (sgM S1) by rw [← e_ch]; assumption) (by omega) (show ¬ (sgM (pcQ S1) = 40 ∧ d ≠ 3) by rw [pcQ_1 ⟨by omega, by omega⟩, sgM_up]; omega), pcQ_1 ⟨by omega, by omega⟩]) | (rw [rd_opF g d (by omega) (show ¬ isLt (sgM S1) by rw [← e_ch]; assumption) (by omega) (show ¬ (sgM (pcQ S1) = 40 ∧ d ≠ 3) by rw [pcQ_0 (by omega)]; unfold sgM; omega), pcQ_0 (by omega)]; exact up2_same0 S1)))
                · refine lv_iload_n hx hb dX4_readsAll_110 rfl (lv_at hl 1 rfl) ?_
                  refine z_iconst hx hb dX4_readsAll_111 ?_
                  refine z_icmp_ne (tgt := 117) hx hb dX4_readsAll_112 (by decide) (by omega) (by omega) (fun c13 => ?_) (fun c13 => ?_)
                  · refine z_iinc (lv' := [(1, .int (zI (d + 1))), (2, .int (zI ch)), (0, .ref (ad 0))]) hx hb dX4_readsAll_117 hl (k := 1) rfl (by decide) (by rw [show (d : Int) + (1) = (d + 1) from by omega]; rfl) (fun ls hl => ?_)
                    refine lv_aload_n hx hb dX4_readsAll_120 rfl (lv_at hl 2 rfl) ?_
                    refine lv_dup hx hb dX4_readsAll_121 rfl ?_
                    refine gx_X4_6 hx hb hts hin hown hK hP (hts _ (List.mem_of_getElem? (i := 1) rfl)) dX4_readsAll_122 ?_
                    refine z_top (y := S1 6 0) (up2_eq _ _ _ _) ?_
                    refine z_iconst hx hb dX4_readsAll_125 ?_
                    refine z_iadd hx hb dX4_readsAll_126 ?_
                    refine z_top (y := S1 6 0 + 1) (by omega) ?_
                    refine px_X4_6 hx hb hts hin hown hK hP hD hS (hts _ (List.mem_of_getElem? (i := 1) rfl)) dX4_readsAll_127 (fun H locs hP hS => ?_)
                    refine lv_goto (tgt := 7) hx hb dX4_readsAll_130 (by decide) ?_
                    exact ih7 (d + 1) (up2 (up2 S1 6 0 (S1 6 0)) 6 0 (S1 6 0 + 1)) (g) (by first | (exfalso; omega) | exact Tx_ra (Tx_adv iX (by omega)) _ | exact Tx_adv iX (by omega) | (rw [up2_tw]; exact Tx_adv iX (by omega)) | (refine ⟨iX.1, iX.2.1, ?_⟩; rw [up2_eq]; have a1 := @sgF_in (S1 4) (S1 5 0) (S1 6 0 + 1); have a2 := iX.2.2; show 0 ≤ S1 6 0 + 2 ∧ S1 6 0 + 2 ≤ S1 5 0; omega)) (by omega) (by first | omega | (have a1 := ra_at_le (S := up2 S1 6 0 (S1 6 0 + 1)) (Tx_adv iX (by omega)) ch; rw [up2_eq] at a1; have a2 := raM_o (up2 S1 6 0 (S1 6 0 + 1)) ch (i := 5) (by decide) (by decide); have a3 := congrFun a2 0; have a4 : up2 S1 6 0 (S1 6 0 + 1) 5 0 = S1 5 0 := rfl; omega) | (rw [up2_eq]; show S1 5 0 - _ ≤ _; omega)) (by first | (exfalso; omega) | (rw [rd_let g d (by omega) (show isLt (sgM S1) by rw [← e_ch]; assumption) (by rw [← e_ch]; assumption), ← e_ch] at i1; exact i1) | (rw [rd_cl g d (by omega) (show ¬ isLt (sgM S1) by rw [← e_ch]; assumption) ⟨by omega, by omega⟩] at i1; exact i1) | (rw [rd_op g d (by omega) (show ¬ isLt (sgM S1) by rw [← e_ch]; assumption) (by omega) (show sgM (pcQ S1) = 40 ∧ d ≠ 3 by rw [pcQ_1 ⟨by omega, by omega⟩, sgM_up]; omega), pcQ_1 ⟨by omega, by omega⟩, up2_eq, show S1 6 0 + 1 + 1 = S1 6 0 + 2 from by omega] at i1; exact i1) | (rw [rd_op g d (by omega) (show ¬ isLt (sgM S1) by rw [← e_ch]; assumption) (by omega) (show sgM (pcQ S1) = 40 ∧ d ≠ 3 by rw [pcQ_0 (by omega)]; unfold sgM; omega), pcQ_0 (by omega)] at i1; rw [up2_tw]; exact i1)) (by omega) _ _ hP hS ls (lv_sub hl [0, 2] rfl)
                  · refine z_iconst hx hb dX4_readsAll_115 ?_
                    exact z_zret hx hb hr hlk hP hS dX4_readsAll_116 (by omega) (by rw [← i1]; first | (exfalso; omega) | (rw [rd_end _ d (by omega)]; simp; try omega) | (rw [rd_letF g d (by omega) (show isLt (sgM S1) by rw [← e_ch]; assumption) (by rw [← e_ch]; assumption)]; rfl) | (rw [rd_opF g d (by omega) (show ¬ isLt (sgM S1) by rw [← e_ch]; assumption) (by omega) (show ¬ (sgM (pcQ S1) = 40 ∧ d ≠ 3) by rw [pcQ_1 ⟨by omega, by omega⟩, sgM_up]; omega)]; rfl) | (rw [rd_opF g d (by omega) (show ¬ isLt (sgM S1) by rw [← e_ch]; assumption) (by omega) (show ¬ (sgM (pcQ S1) = 40 ∧ d ≠ 3) by rw [pcQ_0 (by omega)]; unfold sgM; omega)]; rfl)) (congrArg (tW_X4 ad cI) (by unfold readsAllM; rw [← i1]; first | (exfalso; omega) | rw [rd_end _ d (by omega)] | (rw [rd_letF g d (by omega) (show isLt (sgM S1) by rw [← e_ch]; assumption) (by rw [← e_ch]; assumption), ← e_ch]) | (rw [rd_opF g d (by omega) (show ¬ isLt (sgM S1) by rw [← e_ch]; assumption) (by omega) (show ¬ (sgM (pcQ S1) = 40 ∧ d ≠ 3) by rw [pcQ_1 ⟨by omega, by omega⟩, sgM_up]; omega), pcQ_1 ⟨by omega, by omega⟩]) | (rw [rd_opF g d (by omega) (show ¬ isLt (sgM S1) by rw [← e_ch]; assumption) (by omega) (show ¬ (sgM (pcQ S1) = 40 ∧ d ≠ 3) by rw [pcQ_0 (by omega)]; unfold sgM; omega), pcQ_0 (by omega)]; exact up2_same0 S1)))
              · refine z_iconst hx hb dX4_readsAll_92 ?_
                refine lv_goto (tgt := 97) hx hb dX4_readsAll_93 (by decide) ?_
                refine z_iadd hx hb dX4_readsAll_97 ?_
                refine z_top (y := S1 6 0 + 1) (by omega) ?_
                refine px_X4_6 hx hb hts hin hown hK hP hD hS (hts _ (List.mem_of_getElem? (i := 1) rfl)) dX4_readsAll_98 (fun H locs hP hS => ?_)
                refine lv_aload_n hx hb dX4_readsAll_101 rfl (lv_at hl 2 rfl) ?_
                refine z_calli (va_runV (As := []) (rest := []) ⟨hx, hb, hml, hown, hts⟩ (k_X4_here l dC dI cI cQ A ad (up2 S1 6 0 (S1 6 0 + 1)) hD (by first | exact ⟨hT, x5, by omega⟩ | (refine ⟨hT, x5, ?_⟩; rw [up2_eq]; omega))) (cwV 0 hts gX4_readsAll_X4_here rfl rfl rfl (by decide +kernel) ⟨Nat.le_of_ble_eq_true rfl, Nat.le_of_ble_eq_true rfl⟩) (z_preV hK hP (ci := 4) (q0 := 0) rfl rfl rfl) rfl rfl hl.1 rfl (lv_room (Nat.le_of_ble_eq_true rfl)) dX4_readsAll_102 ⟨Nat.zero_le _, Nat.zero_le _⟩) hS (fun _ h => h) (fun H locs hP hS _ _ => ?_)
                refine z_top (y := (sgF (S1 4) (S1 5 0) (S1 6 0 + 1))) (by exact congrArg (sgF (S1 4) (S1 5 0)) (up2_eq _ _ _ _)) ?_
                have rg4 := sgF_rng hT (S1 5 0) (S1 6 0)
                have rg5 := sgF_rng hT (S1 5 0) (S1 6 0 + 1)
                have esg : sgM S1 = sgF (S1 4) (S1 5 0) (S1 6 0) := rfl
                refine z_bipush (z := 40) hx hb dX4_readsAll_105 (by decide +kernel) ?_
                refine z_icmp_ne (tgt := 115) hx hb dX4_readsAll_107 (by decide) (by omega) (by omega) (fun c14 => ?_) (fun c14 => ?_)
                · refine z_iconst hx hb dX4_readsAll_115 ?_
                  exact z_zret hx hb hr hlk hP hS dX4_readsAll_116 (by omega) (by rw [← i1]; first | (exfalso; omega) | (rw [rd_end _ d (by omega)]; simp; try omega) | (rw [rd_letF g d (by omega) (show isLt (sgM S1) by rw [← e_ch]; assumption) (by rw [← e_ch]; assumption)]; rfl) | (rw [rd_opF g d (by omega) (show ¬ isLt (sgM S1) by rw [← e_ch]; assumption) (by omega) (show ¬ (sgM (pcQ S1) = 40 ∧ d ≠ 3) by rw [pcQ_1 ⟨by omega, by omega⟩, sgM_up]; omega)]; rfl) | (rw [rd_opF g d (by omega) (show ¬ isLt (sgM S1) by rw [← e_ch]; assumption) (by omega) (show ¬ (sgM (pcQ S1) = 40 ∧ d ≠ 3) by rw [pcQ_0 (by omega)]; unfold sgM; omega)]; rfl)) (congrArg (tW_X4 ad cI) (by unfold readsAllM; rw [← i1]; first | (exfalso; omega) | rw [rd_end _ d (by omega)] | (rw [rd_letF g d (by omega) (show isLt (sgM S1) by rw [← e_ch]; assumption) (by rw [← e_ch]; assumption), ← e_ch]) | (rw [rd_opF g d (by omega) (show ¬ isLt (sgM S1) by rw [← e_ch]; assumption) (by omega) (show ¬ (sgM (pcQ S1) = 40 ∧ d ≠ 3) by rw [pcQ_1 ⟨by omega, by omega⟩, sgM_up]; omega), pcQ_1 ⟨by omega, by omega⟩]) | (rw [rd_opF g d (by omega) (show ¬ isLt (sgM S1) by rw [← e_ch]; assumption) (by omega) (show ¬ (sgM (pcQ S1) = 40 ∧ d ≠ 3) by rw [pcQ_0 (by omega)]; unfold sgM; omega), pcQ_0 (by omega)]; exact up2_same0 S1)))
                · refine lv_iload_n hx hb dX4_readsAll_110 rfl (lv_at hl 1 rfl) ?_
                  refine z_iconst hx hb dX4_readsAll_111 ?_
                  refine z_icmp_ne (tgt := 117) hx hb dX4_readsAll_112 (by decide) (by omega) (by omega) (fun c15 => ?_) (fun c15 => ?_)
                  · refine z_iinc (lv' := [(1, .int (zI (d + 1))), (2, .int (zI ch)), (0, .ref (ad 0))]) hx hb dX4_readsAll_117 hl (k := 1) rfl (by decide) (by rw [show (d : Int) + (1) = (d + 1) from by omega]; rfl) (fun ls hl => ?_)
                    refine lv_aload_n hx hb dX4_readsAll_120 rfl (lv_at hl 2 rfl) ?_
                    refine lv_dup hx hb dX4_readsAll_121 rfl ?_
                    refine gx_X4_6 hx hb hts hin hown hK hP (hts _ (List.mem_of_getElem? (i := 1) rfl)) dX4_readsAll_122 ?_
                    refine z_top (y := S1 6 0 + 1) (up2_eq _ _ _ _) ?_
                    refine z_iconst hx hb dX4_readsAll_125 ?_
                    refine z_iadd hx hb dX4_readsAll_126 ?_
                    refine z_top (y := S1 6 0 + 2) (by omega) ?_
                    refine px_X4_6 hx hb hts hin hown hK hP hD hS (hts _ (List.mem_of_getElem? (i := 1) rfl)) dX4_readsAll_127 (fun H locs hP hS => ?_)
                    refine lv_goto (tgt := 7) hx hb dX4_readsAll_130 (by decide) ?_
                    exact ih7 (d + 1) (up2 (up2 S1 6 0 (S1 6 0 + 1)) 6 0 (S1 6 0 + 2)) (g) (by first | (exfalso; omega) | exact Tx_ra (Tx_adv iX (by omega)) _ | exact Tx_adv iX (by omega) | (rw [up2_tw]; exact Tx_adv iX (by omega)) | (refine ⟨iX.1, iX.2.1, ?_⟩; rw [up2_eq]; have a1 := @sgF_in (S1 4) (S1 5 0) (S1 6 0 + 1); have a2 := iX.2.2; show 0 ≤ S1 6 0 + 2 ∧ S1 6 0 + 2 ≤ S1 5 0; omega)) (by omega) (by first | omega | (have a1 := ra_at_le (S := up2 S1 6 0 (S1 6 0 + 1)) (Tx_adv iX (by omega)) ch; rw [up2_eq] at a1; have a2 := raM_o (up2 S1 6 0 (S1 6 0 + 1)) ch (i := 5) (by decide) (by decide); have a3 := congrFun a2 0; have a4 : up2 S1 6 0 (S1 6 0 + 1) 5 0 = S1 5 0 := rfl; omega) | (rw [up2_eq]; show S1 5 0 - _ ≤ _; omega)) (by first | (exfalso; omega) | (rw [rd_let g d (by omega) (show isLt (sgM S1) by rw [← e_ch]; assumption) (by rw [← e_ch]; assumption), ← e_ch] at i1; exact i1) | (rw [rd_cl g d (by omega) (show ¬ isLt (sgM S1) by rw [← e_ch]; assumption) ⟨by omega, by omega⟩] at i1; exact i1) | (rw [rd_op g d (by omega) (show ¬ isLt (sgM S1) by rw [← e_ch]; assumption) (by omega) (show sgM (pcQ S1) = 40 ∧ d ≠ 3 by rw [pcQ_1 ⟨by omega, by omega⟩, sgM_up]; omega), pcQ_1 ⟨by omega, by omega⟩, up2_eq, show S1 6 0 + 1 + 1 = S1 6 0 + 2 from by omega] at i1; exact i1) | (rw [rd_op g d (by omega) (show ¬ isLt (sgM S1) by rw [← e_ch]; assumption) (by omega) (show sgM (pcQ S1) = 40 ∧ d ≠ 3 by rw [pcQ_0 (by omega)]; unfold sgM; omega), pcQ_0 (by omega)] at i1; rw [up2_tw]; exact i1)) (by omega) _ _ hP hS ls (lv_sub hl [0, 2] rfl)
                  · refine z_iconst hx hb dX4_readsAll_115 ?_
                    exact z_zret hx hb hr hlk hP hS dX4_readsAll_116 (by omega) (by rw [← i1]; first | (exfalso; omega) | (rw [rd_end _ d (by omega)]; simp; try omega) | (rw [rd_letF g d (by omega) (show isLt (sgM S1) by rw [← e_ch]; assumption) (by rw [← e_ch]; assumption)]; rfl) | (rw [rd_opF g d (by omega) (show ¬ isLt (sgM S1) by rw [← e_ch]; assumption) (by omega) (show ¬ (sgM (pcQ S1) = 40 ∧ d ≠ 3) by rw [pcQ_1 ⟨by omega, by omega⟩, sgM_up]; omega)]; rfl) | (rw [rd_opF g d (by omega) (show ¬ isLt (sgM S1) by rw [← e_ch]; assumption) (by omega) (show ¬ (sgM (pcQ S1) = 40 ∧ d ≠ 3) by rw [pcQ_0 (by omega)]; unfold sgM; omega)]; rfl)) (congrArg (tW_X4 ad cI) (by unfold readsAllM; rw [← i1]; first | (exfalso; omega) | rw [rd_end _ d (by omega)] | (rw [rd_letF g d (by omega) (show isLt (sgM S1) by rw [← e_ch]; assumption) (by rw [← e_ch]; assumption), ← e_ch]) | (rw [rd_opF g d (by omega) (show ¬ isLt (sgM S1) by rw [← e_ch]; assumption) (by omega) (show ¬ (sgM (pcQ S1) = 40 ∧ d ≠ 3) by rw [pcQ_1 ⟨by omega, by omega⟩, sgM_up]; omega), pcQ_1 ⟨by omega, by omega⟩]) | (rw [rd_opF g d (by omega) (show ¬ isLt (sgM S1) by rw [← e_ch]; assumption) (by omega) (show ¬ (sgM (pcQ S1) = 40 ∧ d ≠ 3) by rw [pcQ_0 (by omega)]; unfold sgM; omega), pcQ_0 (by omega)]; exact up2_same0 S1)))
            · refine z_iinc (lv' := [(1, .int (zI (d - 1))), (2, .int (zI ch)), (0, .ref (ad 0))]) hx hb dX4_readsAll_60 hl (k := 1) rfl (by decide) (by rw [show (d : Int) + (-1) = (d - 1) from by omega]; rfl) (fun ls hl => ?_)
              refine lv_aload_n hx hb dX4_readsAll_63 rfl (lv_at hl 2 rfl) ?_
              refine lv_dup hx hb dX4_readsAll_64 rfl ?_
              refine gx_X4_6 hx hb hts hin hown hK hP (hts _ (List.mem_of_getElem? (i := 1) rfl)) dX4_readsAll_65 ?_
              refine z_iconst hx hb dX4_readsAll_68 ?_
              refine z_iadd hx hb dX4_readsAll_69 ?_
              refine z_top (y := S1 6 0 + 1) (by omega) ?_
              refine px_X4_6 hx hb hts hin hown hK hP hD hS (hts _ (List.mem_of_getElem? (i := 1) rfl)) dX4_readsAll_70 (fun H locs hP hS => ?_)
              refine lv_goto (tgt := 130) hx hb dX4_readsAll_73 (by decide) ?_
              refine lv_goto (tgt := 7) hx hb dX4_readsAll_130 (by decide) ?_
              exact ih7 (d - 1) (up2 S1 6 0 (S1 6 0 + 1)) (g) (by first | (exfalso; omega) | exact Tx_ra (Tx_adv iX (by omega)) _ | exact Tx_adv iX (by omega) | (rw [up2_tw]; exact Tx_adv iX (by omega)) | (refine ⟨iX.1, iX.2.1, ?_⟩; rw [up2_eq]; have a1 := @sgF_in (S1 4) (S1 5 0) (S1 6 0 + 1); have a2 := iX.2.2; show 0 ≤ S1 6 0 + 2 ∧ S1 6 0 + 2 ≤ S1 5 0; omega)) (by omega) (by first | omega | (have a1 := ra_at_le (S := up2 S1 6 0 (S1 6 0 + 1)) (Tx_adv iX (by omega)) ch; rw [up2_eq] at a1; have a2 := raM_o (up2 S1 6 0 (S1 6 0 + 1)) ch (i := 5) (by decide) (by decide); have a3 := congrFun a2 0; have a4 : up2 S1 6 0 (S1 6 0 + 1) 5 0 = S1 5 0 := rfl; omega) | (rw [up2_eq]; show S1 5 0 - _ ≤ _; omega)) (by first | (exfalso; omega) | (rw [rd_let g d (by omega) (show isLt (sgM S1) by rw [← e_ch]; assumption) (by rw [← e_ch]; assumption), ← e_ch] at i1; exact i1) | (rw [rd_cl g d (by omega) (show ¬ isLt (sgM S1) by rw [← e_ch]; assumption) ⟨by omega, by omega⟩] at i1; exact i1) | (rw [rd_op g d (by omega) (show ¬ isLt (sgM S1) by rw [← e_ch]; assumption) (by omega) (show sgM (pcQ S1) = 40 ∧ d ≠ 3 by rw [pcQ_1 ⟨by omega, by omega⟩, sgM_up]; omega), pcQ_1 ⟨by omega, by omega⟩, up2_eq, show S1 6 0 + 1 + 1 = S1 6 0 + 2 from by omega] at i1; exact i1) | (rw [rd_op g d (by omega) (show ¬ isLt (sgM S1) by rw [← e_ch]; assumption) (by omega) (show sgM (pcQ S1) = 40 ∧ d ≠ 3 by rw [pcQ_0 (by omega)]; unfold sgM; omega), pcQ_0 (by omega)] at i1; rw [up2_tw]; exact i1)) (by omega) _ _ hP hS ls (lv_sub hl [0, 2] rfl)
        · refine lv_aload_n hx hb dX4_readsAll_30 rfl (lv_at hl 2 rfl) ?_
          refine lv_dup hx hb dX4_readsAll_31 rfl ?_
          refine gx_X4_6 hx hb hts hin hown hK hP (hts _ (List.mem_of_getElem? (i := 1) rfl)) dX4_readsAll_32 ?_
          refine z_iconst hx hb dX4_readsAll_35 ?_
          refine z_iadd hx hb dX4_readsAll_36 ?_
          refine z_top (y := S1 6 0 + 1) (by omega) ?_
          refine px_X4_6 hx hb hts hin hown hK hP hD hS (hts _ (List.mem_of_getElem? (i := 1) rfl)) dX4_readsAll_37 (fun H locs hP hS => ?_)
          refine lv_aload_n hx hb dX4_readsAll_40 rfl (lv_at hl 2 rfl) ?_
          refine lv_iload_n hx hb dX4_readsAll_41 rfl (lv_at hl 0 rfl) ?_
          refine z_calli (va_runV (As := [.int (zI ch)]) (rest := []) ⟨hx, hb, hml, hown, hts⟩ (k_X4_readsAct l dC dI cI cQ A ad (up2 S1 6 0 (S1 6 0 + 1)) hD ch (by exact Tx_adv iX (by omega)) (by omega)) (cwV 1 hts gX4_readsAll_X4_readsAct rfl rfl rfl (by decide +kernel) ⟨Nat.le_of_ble_eq_true rfl, Nat.le_of_ble_eq_true rfl⟩) (z_preV hK hP (ci := 4) (q0 := 0) rfl rfl rfl) rfl rfl hl.1 rfl (lv_room (Nat.le_of_ble_eq_true rfl)) dX4_readsAll_42 ⟨Nat.zero_le _, Nat.zero_le _⟩) hS (fun _ h => h) (fun H locs hP hS _ _ => ?_)
          refine z_ifb_ne (tgt := 130) hx hb dX4_readsAll_45 (by decide) (fun c16 => ?_) (fun c16 => ?_)
          · refine lv_goto (tgt := 7) hx hb dX4_readsAll_130 (by decide) ?_
            exact ih7 d (raM (up2 S1 6 0 (S1 6 0 + 1)) ch) (g) (by first | (exfalso; omega) | exact Tx_ra (Tx_adv iX (by omega)) _ | exact Tx_adv iX (by omega) | (rw [up2_tw]; exact Tx_adv iX (by omega)) | (refine ⟨iX.1, iX.2.1, ?_⟩; rw [up2_eq]; have a1 := @sgF_in (S1 4) (S1 5 0) (S1 6 0 + 1); have a2 := iX.2.2; show 0 ≤ S1 6 0 + 2 ∧ S1 6 0 + 2 ≤ S1 5 0; omega)) (by omega) (by first | omega | (have a1 := ra_at_le (S := up2 S1 6 0 (S1 6 0 + 1)) (Tx_adv iX (by omega)) ch; rw [up2_eq] at a1; have a2 := raM_o (up2 S1 6 0 (S1 6 0 + 1)) ch (i := 5) (by decide) (by decide); have a3 := congrFun a2 0; have a4 : up2 S1 6 0 (S1 6 0 + 1) 5 0 = S1 5 0 := rfl; omega) | (rw [up2_eq]; show S1 5 0 - _ ≤ _; omega)) (by first | (exfalso; omega) | (rw [rd_let g d (by omega) (show isLt (sgM S1) by rw [← e_ch]; assumption) (by rw [← e_ch]; assumption), ← e_ch] at i1; exact i1) | (rw [rd_cl g d (by omega) (show ¬ isLt (sgM S1) by rw [← e_ch]; assumption) ⟨by omega, by omega⟩] at i1; exact i1) | (rw [rd_op g d (by omega) (show ¬ isLt (sgM S1) by rw [← e_ch]; assumption) (by omega) (show sgM (pcQ S1) = 40 ∧ d ≠ 3 by rw [pcQ_1 ⟨by omega, by omega⟩, sgM_up]; omega), pcQ_1 ⟨by omega, by omega⟩, up2_eq, show S1 6 0 + 1 + 1 = S1 6 0 + 2 from by omega] at i1; exact i1) | (rw [rd_op g d (by omega) (show ¬ isLt (sgM S1) by rw [← e_ch]; assumption) (by omega) (show sgM (pcQ S1) = 40 ∧ d ≠ 3 by rw [pcQ_0 (by omega)]; unfold sgM; omega), pcQ_0 (by omega)] at i1; rw [up2_tw]; exact i1)) (by omega) _ _ hP hS ls (lv_sub hl [1, 2] rfl)
          · refine z_iconst hx hb dX4_readsAll_48 ?_
            exact z_zret hx hb hr hlk hP hS dX4_readsAll_49 (by omega) (by rw [← i1]; first | (exfalso; omega) | (rw [rd_end _ d (by omega)]; simp; try omega) | (rw [rd_letF g d (by omega) (show isLt (sgM S1) by rw [← e_ch]; assumption) (by rw [← e_ch]; assumption)]; rfl) | (rw [rd_opF g d (by omega) (show ¬ isLt (sgM S1) by rw [← e_ch]; assumption) (by omega) (show ¬ (sgM (pcQ S1) = 40 ∧ d ≠ 3) by rw [pcQ_1 ⟨by omega, by omega⟩, sgM_up]; omega)]; rfl) | (rw [rd_opF g d (by omega) (show ¬ isLt (sgM S1) by rw [← e_ch]; assumption) (by omega) (show ¬ (sgM (pcQ S1) = 40 ∧ d ≠ 3) by rw [pcQ_0 (by omega)]; unfold sgM; omega)]; rfl)) (congrArg (tW_X4 ad cI) (by unfold readsAllM; rw [← i1]; first | (exfalso; omega) | rw [rd_end _ d (by omega)] | (rw [rd_letF g d (by omega) (show isLt (sgM S1) by rw [← e_ch]; assumption) (by rw [← e_ch]; assumption), ← e_ch]) | (rw [rd_opF g d (by omega) (show ¬ isLt (sgM S1) by rw [← e_ch]; assumption) (by omega) (show ¬ (sgM (pcQ S1) = 40 ∧ d ≠ 3) by rw [pcQ_1 ⟨by omega, by omega⟩, sgM_up]; omega), pcQ_1 ⟨by omega, by omega⟩]) | (rw [rd_opF g d (by omega) (show ¬ isLt (sgM S1) by rw [← e_ch]; assumption) (by omega) (show ¬ (sgM (pcQ S1) = 40 ∧ d ≠ 3) by rw [pcQ_0 (by omega)]; unfold sgM; omega), pcQ_0 (by omega)]; exact up2_same0 S1)))
  exact hloop7 ((((S 5 0).toNat : Int) : Int) + 1).toNat 0 (up2 S 6 0 0) ((S 5 0).toNat) (by exact ⟨hX.1, hX.2, by rw [up2_eq]; show (0 : Int) ≤ 0 ∧ 0 ≤ S 5 0; exact ⟨by omega, hX.2.1⟩⟩) (by omega) (by rw [up2_eq]; show S 5 0 - 0 ≤ _; have := hX.2; omega) (by rfl) (by omega) _ _ hP hS ls (lv_sub hl [0, 1] rfl)
