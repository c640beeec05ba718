/-! small facts for the reading of numbers -/
def TxOK9 (S : Nat → Int → Int) : Prop := (∀ j : Int, 0 ≤ S 4 j ∧ S 4 j ≤ 255) ∧ (0 ≤ S 5 0 ∧ S 5 0 ≤ 80) ∧ 0 ≤ S 6 0 ∧ S 6 0 ≤ 1000
theorem up2_same0 (S : Nat → Int → Int) : up2 S 6 0 (S 6 0) = S := by
  unfold up2
  rw [up1_self, upR_self]
theorem up2_cm (S : Nat → Int → Int) {k k' : Nat} (h : k ≠ k') (e e' v v' : Int) : up2 (up2 S k e v) k' e' v' = up2 (up2 S k' e' v') k e v := by
  funext i j
  simp only [up2_app]
  by_cases h1 : i = k ∧ j = e
  · simp only [if_pos h1, if_neg (show ¬ (i = k' ∧ j = e') from fun q => h (h1.1.symm.trans q.1))]
  · simp only [if_neg h1]
theorem up2_tw (S : Nat → Int → Int) (k : Nat) (e v v' : Int) : up2 (up2 S k e v) k e v' = up2 S k e v' := by
  funext i j
  simp only [up2_app]
  by_cases h1 : i = k ∧ j = e
  · simp only [if_pos h1]
  · simp only [if_neg h1]
theorem nm_c1 (S : Nat → Int → Int) (k v0 v1 a : Int) : up2 (up2 (up2 S 10 k v0) 10 k v1) 6 0 a = up2 (up2 S 10 k v1) 6 0 a := by
  rw [up2_tw]
theorem nm_c2 (S : Nat → Int → Int) (k v0 v1 a1 a : Int) {v2 v2' : Int} (h : v2 = v2') : up2 (up2 (up2 (up2 (up2 S 10 k v0) 10 k v1) 6 0 a1) 10 k v2) 6 0 a = up2 (up2 S 10 k v2') 6 0 a := by
  rw [up2_tw, up2_cm (up2 S 10 k v1) (by decide : (6 : Nat) ≠ 10), up2_tw, up2_tw, h]
theorem nm_c3 (S : Nat → Int → Int) (k v0 v1 a1 a2 : Int) {v2 v3 v3' a : Int} (h : v3 = v3') : up2 (up2 (up2 (up2 (up2 (up2 (up2 S 10 k v0) 10 k v1) 6 0 a1) 10 k v2) 6 0 a2) 10 k v3) 6 0 a = up2 (up2 S 10 k v3') 6 0 a := by
  rw [up2_tw, up2_cm (up2 S 10 k v1) (by decide : (6 : Nat) ≠ 10), up2_tw, up2_tw, up2_cm (up2 S 10 k v2) (by decide : (6 : Nat) ≠ 10), up2_tw, up2_tw, h]

theorem in_X4_here : ∀ w ∈ wsX40, w ∈ wsX4_here := fun w h => List.mem_cons_of_mem _ (List.mem_append_right _ h)
set_option maxHeartbeats 4000000 in
set_option maxRecDepth 100000 in
theorem k_X4_here (l : Launch) (dC : Nat → ClassId) (dI : Nat → Nat → Nat) (cI cQ : ClassId) (A : Nat → Prop) (ad : Nat → Nat) (S : Nat → Int → Int) (hD : ∀ S, va_D A (tW_X4 ad cI S)) (hX : TxOK9 S) : Met l yX4_here wsX4_here ({ frames := 0, cells := 0, slots := 0, locals := 0 }) (zPc (dC, dI) vwCl (zT cI cQ) (tW_X4 ad cI S) [.ref (ad 0)]) (zQi (dC, dI) vwCl (tW_X4 ad cI S) (sgF (S 4) (S 5 0) (S 6 0)) A) 0 0 A := by
  refine Met.ofW (cc := cX4_here) (maxL := 1) (ret := (some .int)) (by decide) rfl ?_
  intro p e s m args below meth c s₁ B hml hv
  obtain ⟨rfl, hP, hK⟩ := hv
  have hx := B.exec
  have hb := B.bytes
  have hr := B.returns
  have hts := atoms_spec (ws := wsX4_here) B.pre
  have hown : s.vm.findClass RX4 = some m.cls := findClass_of_methodNamed B.named
  have hlk := B.notSynchronized
  have hS : va_S A s.heap s.heap [] := va_S.rf
  have hl := lv_entry ([.ref (ad 0)]) (n := 1) (Nat.le_of_ble_eq_true rfl)
  rw [lg_entry_eq]
  generalize (lg_sl ([.ref (ad 0)]) ++ List.replicate (1 - (lg_sl ([.ref (ad 0)])).length) Slot.unset).toArray = ls at hl ⊢
  have hl : lv_has ls 1 [(0, .ref (ad 0))] := hl
  have hin : ∀ w ∈ wsX40, w ∈ wsX4_here := in_X4_here
  obtain ⟨hT, h5, h6⟩ := id hX
  refine lv_aload_n hx hb dX4_here_0 rfl (lv_at hl 0 rfl) ?_
  refine gx_X4_6 hx hb hts hin hown hK hP (hts _ (List.mem_of_getElem? (i := 1) rfl)) dX4_here_1 ?_
  refine lv_aload_n hx hb dX4_here_4 rfl (lv_at hl 0 rfl) ?_
  refine gx_X4_5 hx hb hts hin hown hK hP (hts _ (List.mem_of_getElem? (i := 2) rfl)) dX4_here_5 ?_
  refine z_icmp_ge (tgt := 23) hx hb dX4_here_8 (by decide) (by omega) (by omega) (fun c1 => ?_) (fun c1 => ?_)
  · refine z_iconst hx hb dX4_here_23 ?_
    exact z_iret hx hb hr hlk hP hS dX4_here_24 (by unfold sgF; first | rw [if_pos (by omega)] | rw [if_neg (by omega)]) rfl
  · refine lv_aload_n hx hb dX4_here_11 rfl (lv_at hl 0 rfl) ?_
    refine gx_X4_4 hx hb hts hin hown hK hP (hts _ (List.mem_of_getElem? (i := 3) rfl)) dX4_here_12 ?_
    refine lv_aload_n hx hb dX4_here_15 rfl (lv_at hl 0 rfl) ?_
    refine gx_X4_6 hx hb hts hin hown hK hP (hts _ (List.mem_of_getElem? (i := 1) rfl)) dX4_here_16 ?_
    refine ld_X4_4 (v := S 4 (S 6 0)) hx hb hK hP (by omega) rfl dX4_here_19 ?_
    refine lv_goto (tgt := 24) hx hb dX4_here_20 (by decide) ?_
    exact z_iret hx hb hr hlk hP hS dX4_here_24 (by unfold sgF; first | rw [if_pos (by omega)] | rw [if_neg (by omega)]) rfl
theorem in_X4_number : ∀ w ∈ wsX40, w ∈ wsX4_number := fun w h => List.mem_cons_of_mem _ (List.mem_append_right _ h)
set_option maxHeartbeats 4000000 in
set_option maxRecDepth 100000 in
theorem k_X4_number (l : Launch) (dC : Nat → ClassId) (dI : Nat → Nat → Nat) (cI cQ : ClassId) (A : Nat → Prop) (ad : Nat → Nat) (S : Nat → Int → Int) (hD : ∀ S, va_D A (tW_X4 ad cI S)) (k : Int) (hX : TxOK S) (hk : 0 ≤ k ∧ k < 3) : Met l yX4_number wsX4_number ({ frames := 1, cells := 0, slots := 0, locals := 22 }) (zPc (dC, dI) vwCl (zT cI cQ) (tW_X4 ad cI S) [.ref (ad 0), .int (zI k)]) (zQi (dC, dI) vwCl (tW_X4 ad cI (nmM S k)) (if 48 ≤ sgM S ∧ sgM S ≤ 57 then 1 else 0) A) 0 0 A := by
  refine Met.ofW (cc := cX4_number) (maxL := 4) (ret := (some .boolean)) (by decide) rfl ?_
  intro p e s m args below meth c s₁ B hml hv
  obtain ⟨rfl, hP, hK⟩ := hv
  have hx := B.exec
  have hb := B.bytes
  have hr := B.returns
  have hts := atoms_spec (ws := wsX4_number) B.pre
  have hown : s.vm.findClass RX4 = some m.cls := findClass_of_methodNamed B.named
  have hlk := B.notSynchronized
  have hS : va_S A s.heap s.heap [] := va_S.rf
  have hl := lv_entry ([.ref (ad 0), .int (zI k)]) (n := 4) (Nat.le_of_ble_eq_true rfl)
  rw [lg_entry_eq]
  generalize (lg_sl ([.ref (ad 0), .int (zI k)]) ++ List.replicate (4 - (lg_sl ([.ref (ad 0), .int (zI k)])).length) Slot.unset).toArray = ls at hl ⊢
  have hl : lv_has ls 4 [(0, .ref (ad 0)), (1, .int (zI k))] := hl
  have hin : ∀ w ∈ wsX40, w ∈ wsX4_number := in_X4_number
  obtain ⟨hT, h5, h6⟩ := id hX
  have g0 := sgF_rng hT (S 5 0) (S 6 0)
  have g1 := sgF_rng hT (S 5 0) (S 6 0 + 1)
  have g2 := sgF_rng hT (S 5 0) (S 6 0 + 2)
  have i0 := @sgF_in (S 4) (S 5 0) (S 6 0)
  have i1 := @sgF_in (S 4) (S 5 0) (S 6 0 + 1)
  have i2 := @sgF_in (S 4) (S 5 0) (S 6 0 + 2)
  refine lv_aload_n hx hb dX4_number_0 rfl (lv_at hl 0 rfl) ?_
  refine z_calli (va_runV (As := []) (rest := []) ⟨hx, hb, hml, hown, hts⟩ (k_X4_here l dC dI cI cQ A ad S hD (by refine ⟨hT, h5, ?_⟩; first | omega | (simp [up2_app]; omega))) (cwV 0 hts gX4_number_X4_here rfl rfl rfl (by decide +kernel) ⟨Nat.le_of_ble_eq_true rfl, Nat.le_of_ble_eq_true rfl⟩) (z_preV hK hP (ci := 4) (q0 := 0) rfl rfl rfl) rfl rfl hl.1 rfl (lv_room (Nat.le_of_ble_eq_true rfl)) dX4_number_1 ⟨Nat.zero_le _, Nat.zero_le _⟩) hS (fun _ h => h) (fun H locs hP hS _ _ => ?_)
  refine z_top (y := (sgF (S 4) (S 5 0) (S 6 0))) (by exact congrArg (sgF (S 4) (S 5 0)) rfl) ?_
  refine z_bipush (z := 48) hx hb dX4_number_4 (by decide +kernel) ?_
  refine z_bipush (z := 57) hx hb dX4_number_6 (by decide +kernel) ?_
  refine z_calli (va_runS (As := [.int (zI (sgF (S 4) (S 5 0) (S 6 0))), .int (zI 48), .int (zI 57)]) (rest := []) ⟨hx, hb, hml, hown, hts⟩ (k_X4_within l dC dI cI cQ A (tW_X4 ad cI S) (sgF (S 4) (S 5 0) (S 6 0)) 48 57 (by omega) (by omega) (by omega)) (va_cwS 3 hts gX4_number_X4_within rfl rfl rfl (by decide +kernel) ⟨Nat.le_of_ble_eq_true rfl, Nat.le_of_ble_eq_true rfl⟩) (z_preS hK hP) rfl rfl hl.1 rfl (lv_room (Nat.le_of_ble_eq_true rfl)) dX4_number_8 ⟨Nat.zero_le _, Nat.zero_le _⟩) hS (fun _ h => h) (fun H locs hP hS _ _ => ?_)
  refine z_ifb_ne (tgt := 16) hx hb dX4_number_11 (by decide) (fun c1 => ?_) (fun c1 => ?_)
  · refine lv_aload_n hx hb dX4_number_16 rfl (lv_at hl 0 rfl) ?_
    refine z_calli (va_runV (As := []) (rest := []) ⟨hx, hb, hml, hown, hts⟩ (k_X4_here l dC dI cI cQ A ad S hD (by refine ⟨hT, h5, ?_⟩; first | omega | (simp [up2_app]; omega))) (cwV 0 hts gX4_number_X4_here rfl rfl rfl (by decide +kernel) ⟨Nat.le_of_ble_eq_true rfl, Nat.le_of_ble_eq_true rfl⟩) (z_preV hK hP (ci := 4) (q0 := 0) rfl rfl rfl) rfl rfl hl.1 rfl (lv_room (Nat.le_of_ble_eq_true rfl)) dX4_number_17 ⟨Nat.zero_le _, Nat.zero_le _⟩) hS (fun _ h => h) (fun H locs hP hS _ _ => ?_)
    refine z_top (y := (sgF (S 4) (S 5 0) (S 6 0))) (by exact congrArg (sgF (S 4) (S 5 0)) rfl) ?_
    refine z_bipush (z := 48) hx hb dX4_number_20 (by decide +kernel) ?_
    refine z_icmp_ne (tgt := 29) hx hb dX4_number_22 (by decide) (by omega) (by omega) (fun c2 => ?_) (fun c2 => ?_)
    · refine z_iconst hx hb dX4_number_29 ?_
      refine lv_istore_n (lv' := [(2, .int (zI 3)), (0, .ref (ad 0)), (1, .int (zI k))]) hx hb dX4_number_30 rfl hl (by decide) rfl (fun ls hl => ?_)
      refine lv_aload_n hx hb dX4_number_31 rfl (lv_at hl 1 rfl) ?_
      refine gx_X4_6 hx hb hts hin hown hK hP (hts _ (List.mem_of_getElem? (i := 1) rfl)) dX4_number_32 ?_
      refine lv_istore_n (lv' := [(3, .int (zI (S 6 0))), (2, .int (zI 3)), (0, .ref (ad 0)), (1, .int (zI k))]) hx hb dX4_number_35 rfl hl (by decide) rfl (fun ls hl => ?_)
      refine lv_aload_n hx hb dX4_number_36 rfl (lv_at hl 2 rfl) ?_
      refine gx_X4_10 hx hb hts hin hown hK hP (hts _ (List.mem_of_getElem? (i := 2) rfl)) dX4_number_37 ?_
      refine lv_iload_n hx hb dX4_number_40 rfl (lv_at hl 3 rfl) ?_
      refine z_iconst hx hb dX4_number_41 ?_
      refine st_X4_10 hx hb hK hP hD hS (by omega) dX4_number_42 (fun H locs hP hS => ?_)
      refine lv_aload_n hx hb dX4_number_43 rfl (lv_at hl 2 rfl) ?_
      refine gx_X4_6 hx hb hts hin hown hK hP (hts _ (List.mem_of_getElem? (i := 1) rfl)) dX4_number_44 ?_
      refine z_top (y := S 6 0) (rfl) ?_
      refine lv_iload_n hx hb dX4_number_47 rfl (lv_at hl 0 rfl) ?_
      refine z_isub hx hb dX4_number_48 ?_
      refine z_top (y := 0) (by omega) ?_
      refine lv_iload_n hx hb dX4_number_49 rfl (lv_at hl 1 rfl) ?_
      refine z_icmp_ge (tgt := 103) hx hb dX4_number_50 (by decide) (by omega) (by omega) (fun q => absurd q (by omega)) (fun _ => ?_)
      refine lv_aload_n hx hb dX4_number_53 rfl (lv_at hl 2 rfl) ?_
      refine z_calli (va_runV (As := []) (rest := []) ⟨hx, hb, hml, hown, hts⟩ (k_X4_here l dC dI cI cQ A ad (up2 S 10 k 0) hD (by refine ⟨hT, h5, ?_⟩; first | omega | (simp [up2_app]; omega))) (cwV 0 hts gX4_number_X4_here rfl rfl rfl (by decide +kernel) ⟨Nat.le_of_ble_eq_true rfl, Nat.le_of_ble_eq_true rfl⟩) (z_preV hK hP (ci := 4) (q0 := 0) rfl rfl rfl) rfl rfl hl.1 rfl (lv_room (Nat.le_of_ble_eq_true rfl)) dX4_number_54 ⟨Nat.zero_le _, Nat.zero_le _⟩) hS (fun _ h => h) (fun H locs hP hS _ _ => ?_)
      refine z_top (y := (sgF (S 4) (S 5 0) (S 6 0))) (by exact congrArg (sgF (S 4) (S 5 0)) rfl) ?_
      refine z_bipush (z := 48) hx hb dX4_number_57 (by decide +kernel) ?_
      refine z_bipush (z := 57) hx hb dX4_number_59 (by decide +kernel) ?_
      refine z_calli (va_runS (As := [.int (zI (sgF (S 4) (S 5 0) (S 6 0))), .int (zI 48), .int (zI 57)]) (rest := []) ⟨hx, hb, hml, hown, hts⟩ (k_X4_within l dC dI cI cQ A (tW_X4 ad cI (up2 S 10 k 0)) (sgF (S 4) (S 5 0) (S 6 0)) 48 57 (by omega) (by omega) (by omega)) (va_cwS 3 hts gX4_number_X4_within rfl rfl rfl (by decide +kernel) ⟨Nat.le_of_ble_eq_true rfl, Nat.le_of_ble_eq_true rfl⟩) (z_preS hK hP) rfl rfl hl.1 rfl (lv_room (Nat.le_of_ble_eq_true rfl)) dX4_number_61 ⟨Nat.zero_le _, Nat.zero_le _⟩) hS (fun _ h => h) (fun H locs hP hS _ _ => ?_)
      refine z_ifb_eq (tgt := 103) hx hb dX4_number_64 (by decide) (fun c4 => ?_) (fun c4 => ?_)
      · refine z_iconst hx hb dX4_number_103 ?_
        exact z_zret hx hb hr hlk hP hS dX4_number_104 (by omega) (by unfold sgM; first | rw [if_pos (by omega)] | rw [if_neg (by omega)]) (congrArg (tW_X4 ad cI) (by unfold nmM sgM; first | (exfalso; omega) | rw [if_neg (by omega)] | (rw [if_pos (by omega)]; first | (rw [show nmLen (S 4) (S 5 0) (S 6 0) = 1 from by (unfold nmLen; (repeat' split) <;> omega), show nmVal (S 4) (S 5 0) (S 6 0) = sgF (S 4) (S 5 0) (S 6 0) - 48 from by (unfold nmVal; rw [show nmLen (S 4) (S 5 0) (S 6 0) = 1 from by (unfold nmLen; (repeat' split) <;> omega)]; rfl)]; first | exact nm_c1 S k _ _ _ | exact nm_c2 S k _ _ _ _ (by omega) | exact nm_c3 S k _ _ _ _ (by omega)) | (rw [show nmLen (S 4) (S 5 0) (S 6 0) = 2 from by (unfold nmLen; (repeat' split) <;> omega), show nmVal (S 4) (S 5 0) (S 6 0) = 10 * sgF (S 4) (S 5 0) (S 6 0) + sgF (S 4) (S 5 0) (S 6 0 + 1) - 528 from by (unfold nmVal; rw [show nmLen (S 4) (S 5 0) (S 6 0) = 2 from by (unfold nmLen; (repeat' split) <;> omega)]; rfl)]; first | exact nm_c1 S k _ _ _ | exact nm_c2 S k _ _ _ _ (by omega) | exact nm_c3 S k _ _ _ _ (by omega)) | (rw [show nmLen (S 4) (S 5 0) (S 6 0) = 3 from by (unfold nmLen; (repeat' split) <;> omega), show nmVal (S 4) (S 5 0) (S 6 0) = 100 * sgF (S 4) (S 5 0) (S 6 0) + 10 * sgF (S 4) (S 5 0) (S 6 0 + 1) + sgF (S 4) (S 5 0) (S 6 0 + 2) - 5328 from by (unfold nmVal; rw [show nmLen (S 4) (S 5 0) (S 6 0) = 3 from by (unfold nmLen; (repeat' split) <;> omega)]; rfl)]; first | exact nm_c1 S k _ _ _ | exact nm_c2 S k _ _ _ _ (by omega) | exact nm_c3 S k _ _ _ _ (by omega)))))
      · refine lv_aload_n hx hb dX4_number_67 rfl (lv_at hl 2 rfl) ?_
        refine gx_X4_10 hx hb hts hin hown hK hP (hts _ (List.mem_of_getElem? (i := 2) rfl)) dX4_number_68 ?_
        refine lv_iload_n hx hb dX4_number_71 rfl (lv_at hl 3 rfl) ?_
        refine z_bipush (z := 10) hx hb dX4_number_72 (by decide +kernel) ?_
        refine lv_aload_n hx hb dX4_number_74 rfl (lv_at hl 2 rfl) ?_
        refine gx_X4_10 hx hb hts hin hown hK hP (hts _ (List.mem_of_getElem? (i := 2) rfl)) dX4_number_75 ?_
        refine lv_iload_n hx hb dX4_number_78 rfl (lv_at hl 3 rfl) ?_
        refine ld_X4_10 (v := 0) hx hb hK hP (by omega) (up2_eq _ _ _ _) dX4_number_79 ?_
        refine z_imul hx hb dX4_number_80 ?_
        refine z_top (y := 0) (by omega) ?_
        refine lv_aload_n hx hb dX4_number_81 rfl (lv_at hl 2 rfl) ?_
        refine z_calli (va_runV (As := []) (rest := [.int (zI 0), .int (zI k), .ref (ad 7)]) ⟨hx, hb, hml, hown, hts⟩ (k_X4_here l dC dI cI cQ A ad (up2 S 10 k 0) hD (by refine ⟨hT, h5, ?_⟩; first | omega | (simp [up2_app]; omega))) (cwV 0 hts gX4_number_X4_here rfl rfl rfl (by decide +kernel) ⟨Nat.le_of_ble_eq_true rfl, Nat.le_of_ble_eq_true rfl⟩) (z_preV hK hP (ci := 4) (q0 := 0) rfl rfl rfl) rfl rfl hl.1 rfl (lv_room (Nat.le_of_ble_eq_true rfl)) dX4_number_82 ⟨Nat.zero_le _, Nat.zero_le _⟩) hS (fun _ h => h) (fun H locs hP hS _ _ => ?_)
        refine z_top (y := (sgF (S 4) (S 5 0) (S 6 0))) (by exact congrArg (sgF (S 4) (S 5 0)) rfl) ?_
        refine z_iadd hx hb dX4_number_85 ?_
        refine z_top (y := (sgF (S 4) (S 5 0) (S 6 0))) (by omega) ?_
        refine z_bipush (z := 48) hx hb dX4_number_86 (by decide +kernel) ?_
        refine z_isub hx hb dX4_number_88 ?_
        refine st_X4_10 hx hb hK hP hD hS (by omega) dX4_number_89 (fun H locs hP hS => ?_)
        refine lv_aload_n hx hb dX4_number_90 rfl (lv_at hl 2 rfl) ?_
        refine lv_dup hx hb dX4_number_91 rfl ?_
        refine gx_X4_6 hx hb hts hin hown hK hP (hts _ (List.mem_of_getElem? (i := 1) rfl)) dX4_number_92 ?_
        refine z_top (y := S 6 0) (rfl) ?_
        refine z_iconst hx hb dX4_number_95 ?_
        refine z_iadd hx hb dX4_number_96 ?_
        refine z_top (y := S 6 0 + 1) (by omega) ?_
        refine px_X4_6 hx hb hts hin hown hK hP hD hS (hts _ (List.mem_of_getElem? (i := 1) rfl)) dX4_number_97 (fun H locs hP hS => ?_)
        refine lv_goto (tgt := 43) hx hb dX4_number_100 (by decide) ?_
        refine lv_aload_n hx hb dX4_number_43 rfl (lv_at hl 2 rfl) ?_
        refine gx_X4_6 hx hb hts hin hown hK hP (hts _ (List.mem_of_getElem? (i := 1) rfl)) dX4_number_44 ?_
        refine z_top (y := S 6 0 + 1) (up2_eq _ _ _ _) ?_
        refine lv_iload_n hx hb dX4_number_47 rfl (lv_at hl 0 rfl) ?_
        refine z_isub hx hb dX4_number_48 ?_
        refine z_top (y := 1) (by omega) ?_
        refine lv_iload_n hx hb dX4_number_49 rfl (lv_at hl 1 rfl) ?_
        refine z_icmp_ge (tgt := 103) hx hb dX4_number_50 (by decide) (by omega) (by omega) (fun q => absurd q (by omega)) (fun _ => ?_)
        refine lv_aload_n hx hb dX4_number_53 rfl (lv_at hl 2 rfl) ?_
        refine z_calli (va_runV (As := []) (rest := []) ⟨hx, hb, hml, hown, hts⟩ (k_X4_here l dC dI cI cQ A ad (up2 (up2 (up2 S 10 k 0) 10 k ((sgF (S 4) (S 5 0) (S 6 0)) - 48)) 6 0 (S 6 0 + 1)) hD (by refine ⟨hT, h5, ?_⟩; first | omega | (simp [up2_app]; omega))) (cwV 0 hts gX4_number_X4_here rfl rfl rfl (by decide +kernel) ⟨Nat.le_of_ble_eq_true rfl, Nat.le_of_ble_eq_true rfl⟩) (z_preV hK hP (ci := 4) (q0 := 0) rfl rfl rfl) rfl rfl hl.1 rfl (lv_room (Nat.le_of_ble_eq_true rfl)) dX4_number_54 ⟨Nat.zero_le _, Nat.zero_le _⟩) hS (fun _ h => h) (fun H locs hP hS _ _ => ?_)
        refine z_top (y := (sgF (S 4) (S 5 0) (S 6 0 + 1))) (by exact congrArg (sgF (S 4) (S 5 0)) (up2_eq _ _ _ _)) ?_
        refine z_bipush (z := 48) hx hb dX4_number_57 (by decide +kernel) ?_
        refine z_bipush (z := 57) hx hb dX4_number_59 (by decide +kernel) ?_
        refine z_calli (va_runS (As := [.int (zI (sgF (S 4) (S 5 0) (S 6 0 + 1))), .int (zI 48), .int (zI 57)]) (rest := []) ⟨hx, hb, hml, hown, hts⟩ (k_X4_within l dC dI cI cQ A (tW_X4 ad cI (up2 (up2 (up2 S 10 k 0) 10 k ((sgF (S 4) (S 5 0) (S 6 0)) - 48)) 6 0 (S 6 0 + 1))) (sgF (S 4) (S 5 0) (S 6 0 + 1)) 48 57 (by omega) (by omega) (by omega)) (va_cwS 3 hts gX4_number_X4_within rfl rfl rfl (by decide +kernel) ⟨Nat.le_of_ble_eq_true rfl, Nat.le_of_ble_eq_true rfl⟩) (z_preS hK hP) rfl rfl hl.1 rfl (lv_room (Nat.le_of_ble_eq_true rfl)) dX4_number_61 ⟨Nat.zero_le _, Nat.zero_le _⟩) hS (fun _ h => h) (fun H locs hP hS _ _ => ?_)
        refine z_ifb_eq (tgt := 103) hx hb dX4_number_64 (by decide) (fun c6 => ?_) (fun c6 => ?_)
        · refine z_iconst hx hb dX4_number_103 ?_
          exact z_zret hx hb hr hlk hP hS dX4_number_104 (by omega) (by unfold sgM; first | rw [if_pos (by omega)] | rw [if_neg (by omega)]) (congrArg (tW_X4 ad cI) (by unfold nmM sgM; first | (exfalso; omega) | rw [if_neg (by omega)] | (rw [if_pos (by omega)]; first | (rw [show nmLen (S 4) (S 5 0) (S 6 0) = 1 from by (unfold nmLen; (repeat' split) <;> omega), show nmVal (S 4) (S 5 0) (S 6 0) = sgF (S 4) (S 5 0) (S 6 0) - 48 from by (unfold nmVal; rw [show nmLen (S 4) (S 5 0) (S 6 0) = 1 from by (unfold nmLen; (repeat' split) <;> omega)]; rfl)]; first | exact nm_c1 S k _ _ _ | exact nm_c2 S k _ _ _ _ (by omega) | exact nm_c3 S k _ _ _ _ (by omega)) | (rw [show nmLen (S 4) (S 5 0) (S 6 0) = 2 from by (unfold nmLen; (repeat' split) <;> omega), show nmVal (S 4) (S 5 0) (S 6 0) = 10 * sgF (S 4) (S 5 0) (S 6 0) + sgF (S 4) (S 5 0) (S 6 0 + 1) - 528 from by (unfold nmVal; rw [show nmLen (S 4) (S 5 0) (S 6 0) = 2 from by (unfold nmLen; (repeat' split) <;> omega)]; rfl)]; first | exact nm_c1 S k _ _ _ | exact nm_c2 S k _ _ _ _ (by omega) | exact nm_c3 S k _ _ _ _ (by omega)) | (rw [show nmLen (S 4) (S 5 0) (S 6 0) = 3 from by (unfold nmLen; (repeat' split) <;> omega), show nmVal (S 4) (S 5 0) (S 6 0) = 100 * sgF (S 4) (S 5 0) (S 6 0) + 10 * sgF (S 4) (S 5 0) (S 6 0 + 1) + sgF (S 4) (S 5 0) (S 6 0 + 2) - 5328 from by (unfold nmVal; rw [show nmLen (S 4) (S 5 0) (S 6 0) = 3 from by (unfold nmLen; (repeat' split) <;> omega)]; rfl)]; first | exact nm_c1 S k _ _ _ | exact nm_c2 S k _ _ _ _ (by omega) | exact nm_c3 S k _ _ _ _ (by omega)))))
        · refine lv_aload_n hx hb dX4_number_67 rfl (lv_at hl 2 rfl) ?_
          refine gx_X4_10 hx hb hts hin hown hK hP (hts _ (List.mem_of_getElem? (i := 2) rfl)) dX4_number_68 ?_
          refine lv_iload_n hx hb dX4_number_71 rfl (lv_at hl 3 rfl) ?_
          refine z_bipush (z := 10) hx hb dX4_number_72 (by decide +kernel) ?_
          refine lv_aload_n hx hb dX4_number_74 rfl (lv_at hl 2 rfl) ?_
          refine gx_X4_10 hx hb hts hin hown hK hP (hts _ (List.mem_of_getElem? (i := 2) rfl)) dX4_number_75 ?_
          refine lv_iload_n hx hb dX4_number_78 rfl (lv_at hl 3 rfl) ?_
          refine ld_X4_10 (v := (sgF (S 4) (S 5 0) (S 6 0)) - 48) hx hb hK hP (by omega) (((congrFun (up2_nr (by decide)) _).trans (up2_eq _ _ _ _))) dX4_number_79 ?_
          refine z_imul hx hb dX4_number_80 ?_
          refine z_top (y := 10 * (sgF (S 4) (S 5 0) (S 6 0)) - 480) (by omega) ?_
          refine lv_aload_n hx hb dX4_number_81 rfl (lv_at hl 2 rfl) ?_
          refine z_calli (va_runV (As := []) (rest := [.int (zI (10 * (sgF (S 4) (S 5 0) (S 6 0)) - 480)), .int (zI k), .ref (ad 7)]) ⟨hx, hb, hml, hown, hts⟩ (k_X4_here l dC dI cI cQ A ad (up2 (up2 (up2 S 10 k 0) 10 k ((sgF (S 4) (S 5 0) (S 6 0)) - 48)) 6 0 (S 6 0 + 1)) hD (by refine ⟨hT, h5, ?_⟩; first | omega | (simp [up2_app]; omega))) (cwV 0 hts gX4_number_X4_here rfl rfl rfl (by decide +kernel) ⟨Nat.le_of_ble_eq_true rfl, Nat.le_of_ble_eq_true rfl⟩) (z_preV hK hP (ci := 4) (q0 := 0) rfl rfl rfl) rfl rfl hl.1 rfl (lv_room (Nat.le_of_ble_eq_true rfl)) dX4_number_82 ⟨Nat.zero_le _, Nat.zero_le _⟩) hS (fun _ h => h) (fun H locs hP hS _ _ => ?_)
          refine z_top (y := (sgF (S 4) (S 5 0) (S 6 0 + 1))) (by exact congrArg (sgF (S 4) (S 5 0)) (up2_eq _ _ _ _)) ?_
          refine z_iadd hx hb dX4_number_85 ?_
          refine z_top (y := 10 * (sgF (S 4) (S 5 0) (S 6 0)) + (sgF (S 4) (S 5 0) (S 6 0 + 1)) - 480) (by omega) ?_
          refine z_bipush (z := 48) hx hb dX4_number_86 (by decide +kernel) ?_
          refine z_isub hx hb dX4_number_88 ?_
          refine z_top (y := 10 * (sgF (S 4) (S 5 0) (S 6 0)) + (sgF (S 4) (S 5 0) (S 6 0 + 1)) - 528) (by omega) ?_
          refine st_X4_10 hx hb hK hP hD hS (by omega) dX4_number_89 (fun H locs hP hS => ?_)
          refine lv_aload_n hx hb dX4_number_90 rfl (lv_at hl 2 rfl) ?_
          refine lv_dup hx hb dX4_number_91 rfl ?_
          refine gx_X4_6 hx hb hts hin hown hK hP (hts _ (List.mem_of_getElem? (i := 1) rfl)) dX4_number_92 ?_
          refine z_top (y := S 6 0 + 1) (((congrFun (up2_nr (by decide)) _).trans (up2_eq _ _ _ _))) ?_
          refine z_iconst hx hb dX4_number_95 ?_
          refine z_iadd hx hb dX4_number_96 ?_
          refine z_top (y := S 6 0 + 2) (by omega) ?_
          refine px_X4_6 hx hb hts hin hown hK hP hD hS (hts _ (List.mem_of_getElem? (i := 1) rfl)) dX4_number_97 (fun H locs hP hS => ?_)
          refine lv_goto (tgt := 43) hx hb dX4_number_100 (by decide) ?_
          refine lv_aload_n hx hb dX4_number_43 rfl (lv_at hl 2 rfl) ?_
          refine gx_X4_6 hx hb hts hin hown hK hP (hts _ (List.mem_of_getElem? (i := 1) rfl)) dX4_number_44 ?_
          refine z_top (y := S 6 0 + 2) (up2_eq _ _ _ _) ?_
          refine lv_iload_n hx hb dX4_number_47 rfl (lv_at hl 0 rfl) ?_
          refine z_isub hx hb dX4_number_48 ?_
          refine z_top (y := 2) (by omega) ?_
          refine lv_iload_n hx hb dX4_number_49 rfl (lv_at hl 1 rfl) ?_
          refine z_icmp_ge (tgt := 103) hx hb dX4_number_50 (by decide) (by omega) (by omega) (fun q => absurd q (by omega)) (fun _ => ?_)
          refine lv_aload_n hx hb dX4_number_53 rfl (lv_at hl 2 rfl) ?_
          refine z_calli (va_runV (As := []) (rest := []) ⟨hx, hb, hml, hown, hts⟩ (k_X4_here l dC dI cI cQ A ad (up2 (up2 (up2 (up2 (up2 S 10 k 0) 10 k ((sgF (S 4) (S 5 0) (S 6 0)) - 48)) 6 0 (S 6 0 + 1)) 10 k (10 * (sgF (S 4) (S 5 0) (S 6 0)) + (sgF (S 4) (S 5 0) (S 6 0 + 1)) - 528)) 6 0 (S 6 0 + 2)) hD (by refine ⟨hT, h5, ?_⟩; first | omega | (simp [up2_app]; omega))) (cwV 0 hts gX4_number_X4_here rfl rfl rfl (by decide +kernel) ⟨Nat.le_of_ble_eq_true rfl, Nat.le_of_ble_eq_true rfl⟩) (z_preV hK hP (ci := 4) (q0 := 0) rfl rfl rfl) rfl rfl hl.1 rfl (lv_room (Nat.le_of_ble_eq_true rfl)) dX4_number_54 ⟨Nat.zero_le _, Nat.zero_le _⟩) hS (fun _ h => h) (fun H locs hP hS _ _ => ?_)
          refine z_top (y := (sgF (S 4) (S 5 0) (S 6 0 + 2))) (by exact congrArg (sgF (S 4) (S 5 0)) (up2_eq _ _ _ _)) ?_
          refine z_bipush (z := 48) hx hb dX4_number_57 (by decide +kernel) ?_
          refine z_bipush (z := 57) hx hb dX4_number_59 (by decide +kernel) ?_
          refine z_calli (va_runS (As := [.int (zI (sgF (S 4) (S 5 0) (S 6 0 + 2))), .int (zI 48), .int (zI 57)]) (rest := []) ⟨hx, hb, hml, hown, hts⟩ (k_X4_within l dC dI cI cQ A (tW_X4 ad cI (up2 (up2 (up2 (up2 (up2 S 10 k 0) 10 k ((sgF (S 4) (S 5 0) (S 6 0)) - 48)) 6 0 (S 6 0 + 1)) 10 k (10 * (sgF (S 4) (S 5 0) (S 6 0)) + (sgF (S 4) (S 5 0) (S 6 0 + 1)) - 528)) 6 0 (S 6 0 + 2))) (sgF (S 4) (S 5 0) (S 6 0 + 2)) 48 57 (by omega) (by omega) (by omega)) (va_cwS 3 hts gX4_number_X4_within rfl rfl rfl (by decide +kernel) ⟨Nat.le_of_ble_eq_true rfl, Nat.le_of_ble_eq_true rfl⟩) (z_preS hK hP) rfl rfl hl.1 rfl (lv_room (Nat.le_of_ble_eq_true rfl)) dX4_number_61 ⟨Nat.zero_le _, Nat.zero_le _⟩) hS (fun _ h => h) (fun H locs hP hS _ _ => ?_)
          refine z_ifb_eq (tgt := 103) hx hb dX4_number_64 (by decide) (fun c8 => ?_) (fun c8 => ?_)
          · refine z_iconst hx hb dX4_number_103 ?_
            exact z_zret hx hb hr hlk hP hS dX4_number_104 (by omega) (by unfold sgM; first | rw [if_pos (by omega)] | rw [if_neg (by omega)]) (congrArg (tW_X4 ad cI) (by unfold nmM sgM; first | (exfalso; omega) | rw [if_neg (by omega)] | (rw [if_pos (by omega)]; first | (rw [show nmLen (S 4) (S 5 0) (S 6 0) = 1 from by (unfold nmLen; (repeat' split) <;> omega), show nmVal (S 4) (S 5 0) (S 6 0) = sgF (S 4) (S 5 0) (S 6 0) - 48 from by (unfold nmVal; rw [show nmLen (S 4) (S 5 0) (S 6 0) = 1 from by (unfold nmLen; (repeat' split) <;> omega)]; rfl)]; first | exact nm_c1 S k _ _ _ | exact nm_c2 S k _ _ _ _ (by omega) | exact nm_c3 S k _ _ _ _ (by omega)) | (rw [show nmLen (S 4) (S 5 0) (S 6 0) = 2 from by (unfold nmLen; (repeat' split) <;> omega), show nmVal (S 4) (S 5 0) (S 6 0) = 10 * sgF (S 4) (S 5 0) (S 6 0) + sgF (S 4) (S 5 0) (S 6 0 + 1) - 528 from by (unfold nmVal; rw [show nmLen (S 4) (S 5 0) (S 6 0) = 2 from by (unfold nmLen; (repeat' split) <;> omega)]; rfl)]; first | exact nm_c1 S k _ _ _ | exact nm_c2 S k _ _ _ _ (by omega) | exact nm_c3 S k _ _ _ _ (by omega)) | (rw [show nmLen (S 4) (S 5 0) (S 6 0) = 3 from by (unfold nmLen; (repeat' split) <;> omega), show nmVal (S 4) (S 5 0) (S 6 0) = 100 * sgF (S 4) (S 5 0) (S 6 0) + 10 * sgF (S 4) (S 5 0) (S 6 0 + 1) + sgF (S 4) (S 5 0) (S 6 0 + 2) - 5328 from by (unfold nmVal; rw [show nmLen (S 4) (S 5 0) (S 6 0) = 3 from by (unfold nmLen; (repeat' split) <;> omega)]; rfl)]; first | exact nm_c1 S k _ _ _ | exact nm_c2 S k _ _ _ _ (by omega) | exact nm_c3 S k _ _ _ _ (by omega)))))
          · refine lv_aload_n hx hb dX4_number_67 rfl (lv_at hl 2 rfl) ?_
            refine gx_X4_10 hx hb hts hin hown hK hP (hts _ (List.mem_of_getElem? (i := 2) rfl)) dX4_number_68 ?_
            refine lv_iload_n hx hb dX4_number_71 rfl (lv_at hl 3 rfl) ?_
            refine z_bipush (z := 10) hx hb dX4_number_72 (by decide +kernel) ?_
            refine lv_aload_n hx hb dX4_number_74 rfl (lv_at hl 2 rfl) ?_
            refine gx_X4_10 hx hb hts hin hown hK hP (hts _ (List.mem_of_getElem? (i := 2) rfl)) dX4_number_75 ?_
            refine lv_iload_n hx hb dX4_number_78 rfl (lv_at hl 3 rfl) ?_
            refine ld_X4_10 (v := 10 * (sgF (S 4) (S 5 0) (S 6 0)) + (sgF (S 4) (S 5 0) (S 6 0 + 1)) - 528) hx hb hK hP (by omega) (((congrFun (up2_nr (by decide)) _).trans (up2_eq _ _ _ _))) dX4_number_79 ?_
            refine z_imul hx hb dX4_number_80 ?_
            refine z_top (y := 100 * (sgF (S 4) (S 5 0) (S 6 0)) + 10 * (sgF (S 4) (S 5 0) (S 6 0 + 1)) - 5280) (by omega) ?_
            refine lv_aload_n hx hb dX4_number_81 rfl (lv_at hl 2 rfl) ?_
            refine z_calli (va_runV (As := []) (rest := [.int (zI (100 * (sgF (S 4) (S 5 0) (S 6 0)) + 10 * (sgF (S 4) (S 5 0) (S 6 0 + 1)) - 5280)), .int (zI k), .ref (ad 7)]) ⟨hx, hb, hml, hown, hts⟩ (k_X4_here l dC dI cI cQ A ad (up2 (up2 (up2 (up2 (up2 S 10 k 0) 10 k ((sgF (S 4) (S 5 0) (S 6 0)) - 48)) 6 0 (S 6 0 + 1)) 10 k (10 * (sgF (S 4) (S 5 0) (S 6 0)) + (sgF (S 4) (S 5 0) (S 6 0 + 1)) - 528)) 6 0 (S 6 0 + 2)) hD (by refine ⟨hT, h5, ?_⟩; first | omega | (simp [up2_app]; omega))) (cwV 0 hts gX4_number_X4_here rfl rfl rfl (by decide +kernel) ⟨Nat.le_of_ble_eq_true rfl, Nat.le_of_ble_eq_true rfl⟩) (z_preV hK hP (ci := 4) (q0 := 0) rfl rfl rfl) rfl rfl hl.1 rfl (lv_room (Nat.le_of_ble_eq_true rfl)) dX4_number_82 ⟨Nat.zero_le _, Nat.zero_le _⟩) hS (fun _ h => h) (fun H locs hP hS _ _ => ?_)
            refine z_top (y := (sgF (S 4) (S 5 0) (S 6 0 + 2))) (by exact congrArg (sgF (S 4) (S 5 0)) (up2_eq _ _ _ _)) ?_
            refine z_iadd hx hb dX4_number_85 ?_
            refine z_top (y := 100 * (sgF (S 4) (S 5 0) (S 6 0)) + 10 * (sgF (S 4) (S 5 0) (S 6 0 + 1)) + (sgF (S 4) (S 5 0) (S 6 0 + 2)) - 5280) (by omega) ?_
            refine z_bipush (z := 48) hx hb dX4_number_86 (by decide +kernel) ?_
            refine z_isub hx hb dX4_number_88 ?_
            refine z_top (y := 100 * (sgF (S 4) (S 5 0) (S 6 0)) + 10 * (sgF (S 4) (S 5 0) (S 6 0 + 1)) + (sgF (S 4) (S 5 0) (S 6 0 + 2)) - 5328) (by omega) ?_
            refine st_X4_10 hx hb hK hP hD hS (by omega) dX4_number_89 (fun H locs hP hS => ?_)
            refine lv_aload_n hx hb dX4_number_90 rfl (lv_at hl 2 rfl) ?_
            refine lv_dup hx hb dX4_number_91 rfl ?_
            refine gx_X4_6 hx hb hts hin hown hK hP (hts _ (List.mem_of_getElem? (i := 1) rfl)) dX4_number_92 ?_
            refine z_top (y := S 6 0 + 2) (((congrFun (up2_nr (by decide)) _).trans (up2_eq _ _ _ _))) ?_
            refine z_iconst hx hb dX4_number_95 ?_
            refine z_iadd hx hb dX4_number_96 ?_
            refine z_top (y := S 6 0 + 3) (by omega) ?_
            refine px_X4_6 hx hb hts hin hown hK hP hD hS (hts _ (List.mem_of_getElem? (i := 1) rfl)) dX4_number_97 (fun H locs hP hS => ?_)
            refine lv_goto (tgt := 43) hx hb dX4_number_100 (by decide) ?_
            refine lv_aload_n hx hb dX4_number_43 rfl (lv_at hl 2 rfl) ?_
            refine gx_X4_6 hx hb hts hin hown hK hP (hts _ (List.mem_of_getElem? (i := 1) rfl)) dX4_number_44 ?_
            refine z_top (y := S 6 0 + 3) (up2_eq _ _ _ _) ?_
            refine lv_iload_n hx hb dX4_number_47 rfl (lv_at hl 0 rfl) ?_
            refine z_isub hx hb dX4_number_48 ?_
            refine z_top (y := 3) (by omega) ?_
            refine lv_iload_n hx hb dX4_number_49 rfl (lv_at hl 1 rfl) ?_
            refine z_icmp_ge (tgt := 103) hx hb dX4_number_50 (by decide) (by omega) (by omega) (fun _ => ?_) (fun q => absurd (by omega) q)
            refine z_iconst hx hb dX4_number_103 ?_
            exact z_zret hx hb hr hlk hP hS dX4_number_104 (by omega) (by unfold sgM; first | rw [if_pos (by omega)] | rw [if_neg (by omega)]) (congrArg (tW_X4 ad cI) (by unfold nmM sgM; first | (exfalso; omega) | rw [if_neg (by omega)] | (rw [if_pos (by omega)]; first | (rw [show nmLen (S 4) (S 5 0) (S 6 0) = 1 from by (unfold nmLen; (repeat' split) <;> omega), show nmVal (S 4) (S 5 0) (S 6 0) = sgF (S 4) (S 5 0) (S 6 0) - 48 from by (unfold nmVal; rw [show nmLen (S 4) (S 5 0) (S 6 0) = 1 from by (unfold nmLen; (repeat' split) <;> omega)]; rfl)]; first | exact nm_c1 S k _ _ _ | exact nm_c2 S k _ _ _ _ (by omega) | exact nm_c3 S k _ _ _ _ (by omega)) | (rw [show nmLen (S 4) (S 5 0) (S 6 0) = 2 from by (unfold nmLen; (repeat' split) <;> omega), show nmVal (S 4) (S 5 0) (S 6 0) = 10 * sgF (S 4) (S 5 0) (S 6 0) + sgF (S 4) (S 5 0) (S 6 0 + 1) - 528 from by (unfold nmVal; rw [show nmLen (S 4) (S 5 0) (S 6 0) = 2 from by (unfold nmLen; (repeat' split) <;> omega)]; rfl)]; first | exact nm_c1 S k _ _ _ | exact nm_c2 S k _ _ _ _ (by omega) | exact nm_c3 S k _ _ _ _ (by omega)) | (rw [show nmLen (S 4) (S 5 0) (S 6 0) = 3 from by (unfold nmLen; (repeat' split) <;> omega), show nmVal (S 4) (S 5 0) (S 6 0) = 100 * sgF (S 4) (S 5 0) (S 6 0) + 10 * sgF (S 4) (S 5 0) (S 6 0 + 1) + sgF (S 4) (S 5 0) (S 6 0 + 2) - 5328 from by (unfold nmVal; rw [show nmLen (S 4) (S 5 0) (S 6 0) = 3 from by (unfold nmLen; (repeat' split) <;> omega)]; rfl)]; first | exact nm_c1 S k _ _ _ | exact nm_c2 S k _ _ _ _ (by omega) | exact nm_c3 S k _ _ _ _ (by omega)))))
    · refine z_iconst hx hb dX4_number_25 ?_
      refine lv_goto (tgt := 30) hx hb dX4_number_26 (by decide) ?_
      refine lv_istore_n (lv' := [(2, .int (zI 1)), (0, .ref (ad 0)), (1, .int (zI k))]) hx hb dX4_number_30 rfl hl (by decide) rfl (fun ls hl => ?_)
      refine lv_aload_n hx hb dX4_number_31 rfl (lv_at hl 1 rfl) ?_
      refine gx_X4_6 hx hb hts hin hown hK hP (hts _ (List.mem_of_getElem? (i := 1) rfl)) dX4_number_32 ?_
      refine lv_istore_n (lv' := [(3, .int (zI (S 6 0))), (2, .int (zI 1)), (0, .ref (ad 0)), (1, .int (zI k))]) hx hb dX4_number_35 rfl hl (by decide) rfl (fun ls hl => ?_)
      refine lv_aload_n hx hb dX4_number_36 rfl (lv_at hl 2 rfl) ?_
      refine gx_X4_10 hx hb hts hin hown hK hP (hts _ (List.mem_of_getElem? (i := 2) rfl)) dX4_number_37 ?_
      refine lv_iload_n hx hb dX4_number_40 rfl (lv_at hl 3 rfl) ?_
      refine z_iconst hx hb dX4_number_41 ?_
      refine st_X4_10 hx hb hK hP hD hS (by omega) dX4_number_42 (fun H locs hP hS => ?_)
      refine lv_aload_n hx hb dX4_number_43 rfl (lv_at hl 2 rfl) ?_
      refine gx_X4_6 hx hb hts hin hown hK hP (hts _ (List.mem_of_getElem? (i := 1) rfl)) dX4_number_44 ?_
      refine z_top (y := S 6 0) (rfl) ?_
      refine lv_iload_n hx hb dX4_number_47 rfl (lv_at hl 0 rfl) ?_
      refine z_isub hx hb dX4_number_48 ?_
      refine z_top (y := 0) (by omega) ?_
      refine lv_iload_n hx hb dX4_number_49 rfl (lv_at hl 1 rfl) ?_
      refine z_icmp_ge (tgt := 103) hx hb dX4_number_50 (by decide) (by omega) (by omega) (fun q => absurd q (by omega)) (fun _ => ?_)
      refine lv_aload_n hx hb dX4_number_53 rfl (lv_at hl 2 rfl) ?_
      refine z_calli (va_runV (As := []) (rest := []) ⟨hx, hb, hml, hown, hts⟩ (k_X4_here l dC dI cI cQ A ad (up2 S 10 k 0) hD (by refine ⟨hT, h5, ?_⟩; first | omega | (simp [up2_app]; omega))) (cwV 0 hts gX4_number_X4_here rfl rfl rfl (by decide +kernel) ⟨Nat.le_of_ble_eq_true rfl, Nat.le_of_ble_eq_true rfl⟩) (z_preV hK hP (ci := 4) (q0 := 0) rfl rfl rfl) rfl rfl hl.1 rfl (lv_room (Nat.le_of_ble_eq_true rfl)) dX4_number_54 ⟨Nat.zero_le _, Nat.zero_le _⟩) hS (fun _ h => h) (fun H locs hP hS _ _ => ?_)
      refine z_top (y := (sgF (S 4) (S 5 0) (S 6 0))) (by exact congrArg (sgF (S 4) (S 5 0)) rfl) ?_
      refine z_bipush (z := 48) hx hb dX4_number_57 (by decide +kernel) ?_
      refine z_bipush (z := 57) hx hb dX4_number_59 (by decide +kernel) ?_
      refine z_calli (va_runS (As := [.int (zI (sgF (S 4) (S 5 0) (S 6 0))), .int (zI 48), .int (zI 57)]) (rest := []) ⟨hx, hb, hml, hown, hts⟩ (k_X4_within l dC dI cI cQ A (tW_X4 ad cI (up2 S 10 k 0)) (sgF (S 4) (S 5 0) (S 6 0)) 48 57 (by omega) (by omega) (by omega)) (va_cwS 3 hts gX4_number_X4_within rfl rfl rfl (by decide +kernel) ⟨Nat.le_of_ble_eq_true rfl, Nat.le_of_ble_eq_true rfl⟩) (z_preS hK hP) rfl rfl hl.1 rfl (lv_room (Nat.le_of_ble_eq_true rfl)) dX4_number_61 ⟨Nat.zero_le _, Nat.zero_le _⟩) hS (fun _ h => h) (fun H locs hP hS _ _ => ?_)
      refine z_ifb_eq (tgt := 103) hx hb dX4_number_64 (by decide) (fun c11 => ?_) (fun c11 => ?_)
      · refine z_iconst hx hb dX4_number_103 ?_
        exact z_zret hx hb hr hlk hP hS dX4_number_104 (by omega) (by unfold sgM; first | rw [if_pos (by omega)] | rw [if_neg (by omega)]) (congrArg (tW_X4 ad cI) (by unfold nmM sgM; first | (exfalso; omega) | rw [if_neg (by omega)] | (rw [if_pos (by omega)]; first | (rw [show nmLen (S 4) (S 5 0) (S 6 0) = 1 from by (unfold nmLen; (repeat' split) <;> omega), show nmVal (S 4) (S 5 0) (S 6 0) = sgF (S 4) (S 5 0) (S 6 0) - 48 from by (unfold nmVal; rw [show nmLen (S 4) (S 5 0) (S 6 0) = 1 from by (unfold nmLen; (repeat' split) <;> omega)]; rfl)]; first | exact nm_c1 S k _ _ _ | exact nm_c2 S k _ _ _ _ (by omega) | exact nm_c3 S k _ _ _ _ (by omega)) | (rw [show nmLen (S 4) (S 5 0) (S 6 0) = 2 from by (unfold nmLen; (repeat' split) <;> omega), show nmVal (S 4) (S 5 0) (S 6 0) = 10 * sgF (S 4) (S 5 0) (S 6 0) + sgF (S 4) (S 5 0) (S 6 0 + 1) - 528 from by (unfold nmVal; rw [show nmLen (S 4) (S 5 0) (S 6 0) = 2 from by (unfold nmLen; (repeat' split) <;> omega)]; rfl)]; first | exact nm_c1 S k _ _ _ | exact nm_c2 S k _ _ _ _ (by omega) | exact nm_c3 S k _ _ _ _ (by omega)) | (rw [show nmLen (S 4) (S 5 0) (S 6 0) = 3 from by (unfold nmLen; (repeat' split) <;> omega), show nmVal (S 4) (S 5 0) (S 6 0) = 100 * sgF (S 4) (S 5 0) (S 6 0) + 10 * sgF (S 4) (S 5 0) (S 6 0 + 1) + sgF (S 4) (S 5 0) (S 6 0 + 2) - 5328 from by (unfold nmVal; rw [show nmLen (S 4) (S 5 0) (S 6 0) = 3 from by (unfold nmLen; (repeat' split) <;> omega)]; rfl)]; first | exact nm_c1 S k _ _ _ | exact nm_c2 S k _ _ _ _ (by omega) | exact nm_c3 S k _ _ _ _ (by omega)))))
      · refine lv_aload_n hx hb dX4_number_67 rfl (lv_at hl 2 rfl) ?_
        refine gx_X4_10 hx hb hts hin hown hK hP (hts _ (List.mem_of_getElem? (i := 2) rfl)) dX4_number_68 ?_
        refine lv_iload_n hx hb dX4_number_71 rfl (lv_at hl 3 rfl) ?_
        refine z_bipush (z := 10) hx hb dX4_number_72 (by decide +kernel) ?_
        refine lv_aload_n hx hb dX4_number_74 rfl (lv_at hl 2 rfl) ?_
        refine gx_X4_10 hx hb hts hin hown hK hP (hts _ (List.mem_of_getElem? (i := 2) rfl)) dX4_number_75 ?_
        refine lv_iload_n hx hb dX4_number_78 rfl (lv_at hl 3 rfl) ?_
        refine ld_X4_10 (v := 0) hx hb hK hP (by omega) (up2_eq _ _ _ _) dX4_number_79 ?_
        refine z_imul hx hb dX4_number_80 ?_
        refine z_top (y := 0) (by omega) ?_
        refine lv_aload_n hx hb dX4_number_81 rfl (lv_at hl 2 rfl) ?_
        refine z_calli (va_runV (As := []) (rest := [.int (zI 0), .int (zI k), .ref (ad 7)]) ⟨hx, hb, hml, hown, hts⟩ (k_X4_here l dC dI cI cQ A ad (up2 S 10 k 0) hD (by refine ⟨hT, h5, ?_⟩; first | omega | (simp [up2_app]; omega))) (cwV 0 hts gX4_number_X4_here rfl rfl rfl (by decide +kernel) ⟨Nat.le_of_ble_eq_true rfl, Nat.le_of_ble_eq_true rfl⟩) (z_preV hK hP (ci := 4) (q0 := 0) rfl rfl rfl) rfl rfl hl.1 rfl (lv_room (Nat.le_of_ble_eq_true rfl)) dX4_number_82 ⟨Nat.zero_le _, Nat.zero_le _⟩) hS (fun _ h => h) (fun H locs hP hS _ _ => ?_)
        refine z_top (y := (sgF (S 4) (S 5 0) (S 6 0))) (by exact congrArg (sgF (S 4) (S 5 0)) rfl) ?_
        refine z_iadd hx hb dX4_number_85 ?_
        refine z_top (y := (sgF (S 4) (S 5 0) (S 6 0))) (by omega) ?_
        refine z_bipush (z := 48) hx hb dX4_number_86 (by decide +kernel) ?_
        refine z_isub hx hb dX4_number_88 ?_
        refine st_X4_10 hx hb hK hP hD hS (by omega) dX4_number_89 (fun H locs hP hS => ?_)
        refine lv_aload_n hx hb dX4_number_90 rfl (lv_at hl 2 rfl) ?_
        refine lv_dup hx hb dX4_number_91 rfl ?_
        refine gx_X4_6 hx hb hts hin hown hK hP (hts _ (List.mem_of_getElem? (i := 1) rfl)) dX4_number_92 ?_
        refine z_top (y := S 6 0) (rfl) ?_
        refine z_iconst hx hb dX4_number_95 ?_
        refine z_iadd hx hb dX4_number_96 ?_
        refine z_top (y := S 6 0 + 1) (by omega) ?_
        refine px_X4_6 hx hb hts hin hown hK hP hD hS (hts _ (List.mem_of_getElem? (i := 1) rfl)) dX4_number_97 (fun H locs hP hS => ?_)
        refine lv_goto (tgt := 43) hx hb dX4_number_100 (by decide) ?_
        refine lv_aload_n hx hb dX4_number_43 rfl (lv_at hl 2 rfl) ?_
        refine gx_X4_6 hx hb hts hin hown hK hP (hts _ (List.mem_of_getElem? (i := 1) rfl)) dX4_number_44 ?_
        refine z_top (y := S 6 0 + 1) (up2_eq _ _ _ _) ?_
        refine lv_iload_n hx hb dX4_number_47 rfl (lv_at hl 0 rfl) ?_
        refine z_isub hx hb dX4_number_48 ?_
        refine z_top (y := 1) (by omega) ?_
        refine lv_iload_n hx hb dX4_number_49 rfl (lv_at hl 1 rfl) ?_
        refine z_icmp_ge (tgt := 103) hx hb dX4_number_50 (by decide) (by omega) (by omega) (fun _ => ?_) (fun q => absurd (by omega) q)
        refine z_iconst hx hb dX4_number_103 ?_
        exact z_zret hx hb hr hlk hP hS dX4_number_104 (by omega) (by unfold sgM; first | rw [if_pos (by omega)] | rw [if_neg (by omega)]) (congrArg (tW_X4 ad cI) (by unfold nmM sgM; first | (exfalso; omega) | rw [if_neg (by omega)] | (rw [if_pos (by omega)]; first | (rw [show nmLen (S 4) (S 5 0) (S 6 0) = 1 from by (unfold nmLen; (repeat' split) <;> omega), show nmVal (S 4) (S 5 0) (S 6 0) = sgF (S 4) (S 5 0) (S 6 0) - 48 from by (unfold nmVal; rw [show nmLen (S 4) (S 5 0) (S 6 0) = 1 from by (unfold nmLen; (repeat' split) <;> omega)]; rfl)]; first | exact nm_c1 S k _ _ _ | exact nm_c2 S k _ _ _ _ (by omega) | exact nm_c3 S k _ _ _ _ (by omega)) | (rw [show nmLen (S 4) (S 5 0) (S 6 0) = 2 from by (unfold nmLen; (repeat' split) <;> omega), show nmVal (S 4) (S 5 0) (S 6 0) = 10 * sgF (S 4) (S 5 0) (S 6 0) + sgF (S 4) (S 5 0) (S 6 0 + 1) - 528 from by (unfold nmVal; rw [show nmLen (S 4) (S 5 0) (S 6 0) = 2 from by (unfold nmLen; (repeat' split) <;> omega)]; rfl)]; first | exact nm_c1 S k _ _ _ | exact nm_c2 S k _ _ _ _ (by omega) | exact nm_c3 S k _ _ _ _ (by omega)) | (rw [show nmLen (S 4) (S 5 0) (S 6 0) = 3 from by (unfold nmLen; (repeat' split) <;> omega), show nmVal (S 4) (S 5 0) (S 6 0) = 100 * sgF (S 4) (S 5 0) (S 6 0) + 10 * sgF (S 4) (S 5 0) (S 6 0 + 1) + sgF (S 4) (S 5 0) (S 6 0 + 2) - 5328 from by (unfold nmVal; rw [show nmLen (S 4) (S 5 0) (S 6 0) = 3 from by (unfold nmLen; (repeat' split) <;> omega)]; rfl)]; first | exact nm_c1 S k _ _ _ | exact nm_c2 S k _ _ _ _ (by omega) | exact nm_c3 S k _ _ _ _ (by omega)))))
  · refine z_iconst hx hb dX4_number_14 ?_
    exact z_zret hx hb hr hlk hP hS dX4_number_15 (by omega) (by unfold sgM; first | rw [if_pos (by omega)] | rw [if_neg (by omega)]) (congrArg (tW_X4 ad cI) (by unfold nmM sgM; first | (exfalso; omega) | rw [if_neg (by omega)] | (rw [if_pos (by omega)]; first | (rw [show nmLen (S 4) (S 5 0) (S 6 0) = 1 from by (unfold nmLen; (repeat' split) <;> omega), show nmVal (S 4) (S 5 0) (S 6 0) = sgF (S 4) (S 5 0) (S 6 0) - 48 from by (unfold nmVal; rw [show nmLen (S 4) (S 5 0) (S 6 0) = 1 from by (unfold nmLen; (repeat' split) <;> omega)]; rfl)]; first | exact nm_c1 S k _ _ _ | exact nm_c2 S k _ _ _ _ (by omega) | exact nm_c3 S k _ _ _ _ (by omega)) | (rw [show nmLen (S 4) (S 5 0) (S 6 0) = 2 from by (unfold nmLen; (repeat' split) <;> omega), show nmVal (S 4) (S 5 0) (S 6 0) = 10 * sgF (S 4) (S 5 0) (S 6 0) + sgF (S 4) (S 5 0) (S 6 0 + 1) - 528 from by (unfold nmVal; rw [show nmLen (S 4) (S 5 0) (S 6 0) = 2 from by (unfold nmLen; (repeat' split) <;> omega)]; rfl)]; first | exact nm_c1 S k _ _ _ | exact nm_c2 S k _ _ _ _ (by omega) | exact nm_c3 S k _ _ _ _ (by omega)) | (rw [show nmLen (S 4) (S 5 0) (S 6 0) = 3 from by (unfold nmLen; (repeat' split) <;> omega), show nmVal (S 4) (S 5 0) (S 6 0) = 100 * sgF (S 4) (S 5 0) (S 6 0) + 10 * sgF (S 4) (S 5 0) (S 6 0 + 1) + sgF (S 4) (S 5 0) (S 6 0 + 2) - 5328 from by (unfold nmVal; rw [show nmLen (S 4) (S 5 0) (S 6 0) = 3 from by (unfold nmLen; (repeat' split) <;> omega)]; rfl)]; first | exact nm_c1 S k _ _ _ | exact nm_c2 S k _ _ _ _ (by omega) | exact nm_c3 S k _ _ _ _ (by omega)))))
theorem in_X4_passesSign : ∀ w ∈ wsX40, w ∈ wsX4_passesSign := fun w h => List.mem_cons_of_mem _ (List.mem_append_right _ h)
set_option maxHeartbeats 4000000 in
set_option maxRecDepth 100000 in
theorem k_X4_passesSign (l : Launch) (dC : Nat → ClassId) (dI : Nat → Nat → Nat) (cI cQ : ClassId) (A : Nat → Prop) (ad : Nat → Nat) (S : Nat → Int → Int) (hD : ∀ S, va_D A (tW_X4 ad cI S)) (ch : Int) (hX : TxOK S) (q0 : -2147483648 ≤ ch ∧ ch < 2147483648) : Met l yX4_passesSign wsX4_passesSign ({ frames := 1, cells := 0, slots := 0, locals := 20 }) (zPc (dC, dI) vwCl (zT cI cQ) (tW_X4 ad cI S) [.ref (ad 0), .int (zI ch)]) (zQi (dC, dI) vwCl (tW_X4 ad cI (psM S ch)) (if sgM S = ch then 1 else 0) A) 0 0 A := by
  refine Met.ofW (cc := cX4_passesSign) (maxL := 3) (ret := (some .boolean)) (by decide) rfl ?_
  intro p e s m args below meth c s₁ B hml hv
  obtain ⟨rfl, hP, hK⟩ := hv
  have hx := B.exec
  have hb := B.bytes
  have hr := B.returns
  have hts := atoms_spec (ws := wsX4_passesSign) B.pre
  have hown : s.vm.findClass RX4 = some m.cls := findClass_of_methodNamed B.named
  have hlk := B.notSynchronized
  have hS : va_S A s.heap s.heap [] := va_S.rf
  have hl := lv_entry ([.ref (ad 0), .int (zI ch)]) (n := 3) (Nat.le_of_ble_eq_true rfl)
  rw [lg_entry_eq]
  generalize (lg_sl ([.ref (ad 0), .int (zI ch)]) ++ List.replicate (3 - (lg_sl ([.ref (ad 0), .int (zI ch)])).length) Slot.unset).toArray = ls at hl ⊢
  have hl : lv_has ls 3 [(0, .ref (ad 0)), (1, .int (zI ch))] := hl
  have hin : ∀ w ∈ wsX40, w ∈ wsX4_passesSign := in_X4_passesSign
  obtain ⟨hT, h5, h6⟩ := id hX
  have g0 := sgF_rng hT (S 5 0) (S 6 0)
  refine lv_aload_n hx hb dX4_passesSign_0 rfl (lv_at hl 0 rfl) ?_
  refine z_calli (va_runV (As := []) (rest := []) ⟨hx, hb, hml, hown, hts⟩ (k_X4_here l dC dI cI cQ A ad S hD (by refine ⟨hT, h5, ?_⟩; omega)) (cwV 0 hts gX4_passesSign_X4_here rfl rfl rfl (by decide +kernel) ⟨Nat.le_of_ble_eq_true rfl, Nat.le_of_ble_eq_true rfl⟩) (z_preV hK hP (ci := 4) (q0 := 0) rfl rfl rfl) rfl rfl hl.1 rfl (lv_room (Nat.le_of_ble_eq_true rfl)) dX4_passesSign_1 ⟨Nat.zero_le _, Nat.zero_le _⟩) hS (fun _ h => h) (fun H locs hP hS _ _ => ?_)
  refine z_top (y := (sgF (S 4) (S 5 0) (S 6 0))) (by exact congrArg (sgF (S 4) (S 5 0)) rfl) ?_
  refine lv_iload_n hx hb dX4_passesSign_4 rfl (lv_at hl 1 rfl) ?_
  refine z_icmp_ne (tgt := 12) hx hb dX4_passesSign_5 (by decide) (by omega) (by omega) (fun c1 => ?_) (fun c1 => ?_)
  · refine z_iconst hx hb dX4_passesSign_12 ?_
    refine lv_istore_n (lv' := [(2, .int (zI 0)), (0, .ref (ad 0)), (1, .int (zI ch))]) hx hb dX4_passesSign_13 rfl hl (by decide) rfl (fun ls hl => ?_)
    refine lv_aload_n hx hb dX4_passesSign_14 rfl (lv_at hl 1 rfl) ?_
    refine lv_dup hx hb dX4_passesSign_15 rfl ?_
    refine gx_X4_6 hx hb hts hin hown hK hP (hts _ (List.mem_of_getElem? (i := 1) rfl)) dX4_passesSign_16 ?_
    refine lv_iload_n hx hb dX4_passesSign_19 rfl (lv_at hl 0 rfl) ?_
    refine z_if_eq (tgt := 27) hx hb dX4_passesSign_20 (by decide) (by omega) (fun _ => ?_) (fun q => absurd (by omega) q)
    refine z_iconst hx hb dX4_passesSign_27 ?_
    refine z_iadd hx hb dX4_passesSign_28 ?_
    refine z_top (y := S 6 0) (by omega) ?_
    refine px_X4_6 hx hb hts hin hown hK hP hD hS (hts _ (List.mem_of_getElem? (i := 1) rfl)) dX4_passesSign_29 (fun H locs hP hS => ?_)
    refine lv_iload_n hx hb dX4_passesSign_32 rfl (lv_at hl 0 rfl) ?_
    exact z_zret hx hb hr hlk hP hS dX4_passesSign_33 (by omega) (by unfold sgM; first | rw [if_pos (by omega)] | rw [if_neg (by omega)]) (congrArg (tW_X4 ad cI) (by unfold psM sgM; first | rw [if_pos (by omega)] | (rw [if_neg (by omega)]; exact up2_same0 S)))
  · refine z_iconst hx hb dX4_passesSign_8 ?_
    refine lv_goto (tgt := 13) hx hb dX4_passesSign_9 (by decide) ?_
    refine lv_istore_n (lv' := [(2, .int (zI 1)), (0, .ref (ad 0)), (1, .int (zI ch))]) hx hb dX4_passesSign_13 rfl hl (by decide) rfl (fun ls hl => ?_)
    refine lv_aload_n hx hb dX4_passesSign_14 rfl (lv_at hl 1 rfl) ?_
    refine lv_dup hx hb dX4_passesSign_15 rfl ?_
    refine gx_X4_6 hx hb hts hin hown hK hP (hts _ (List.mem_of_getElem? (i := 1) rfl)) dX4_passesSign_16 ?_
    refine lv_iload_n hx hb dX4_passesSign_19 rfl (lv_at hl 0 rfl) ?_
    refine z_if_eq (tgt := 27) hx hb dX4_passesSign_20 (by decide) (by omega) (fun q => absurd q (by omega)) (fun _ => ?_)
    refine z_iconst hx hb dX4_passesSign_23 ?_
    refine lv_goto (tgt := 28) hx hb dX4_passesSign_24 (by decide) ?_
    refine z_iadd hx hb dX4_passesSign_28 ?_
    refine z_top (y := S 6 0 + 1) (by omega) ?_
    refine px_X4_6 hx hb hts hin hown hK hP hD hS (hts _ (List.mem_of_getElem? (i := 1) rfl)) dX4_passesSign_29 (fun H locs hP hS => ?_)
    refine lv_iload_n hx hb dX4_passesSign_32 rfl (lv_at hl 0 rfl) ?_
    exact z_zret hx hb hr hlk hP hS dX4_passesSign_33 (by omega) (by unfold sgM; first | rw [if_pos (by omega)] | rw [if_neg (by omega)]) (congrArg (tW_X4 ad cI) (by unfold psM sgM; first | rw [if_pos (by omega)] | (rw [if_neg (by omega)]; exact up2_same0 S)))
theorem in_X4_readsAct : ∀ w ∈ wsX40, w ∈ wsX4_readsAct := fun w h => List.mem_cons_of_mem _ (List.mem_append_right _ h)
set_option maxHeartbeats 4000000 in
set_option maxRecDepth 100000 in
theorem k_X4_readsAct (l : Launch) (dC : Nat → ClassId) (dI : Nat → Nat → Nat) (cI cQ : ClassId) (A : Nat → Prop) (ad : Nat → Nat) (S : Nat → Int → Int) (hD : ∀ S, va_D A (tW_X4 ad cI S)) (le : Int) (hX : TxOK S) (q0 : -2147483648 ≤ le ∧ le < 2147483648) : Met l yX4_readsAct wsX4_readsAct ({ frames := 2, cells := 0, slots := 0, locals := 45 }) (zPc (dC, dI) vwCl (zT cI cQ) (tW_X4 ad cI S) [.ref (ad 0), .int (zI le)]) (zQi (dC, dI) vwCl (tW_X4 ad cI (raM S le)) (if raP S le then 1 else 0) A) 0 0 A := by
  refine Met.ofW (cc := cX4_readsAct) (maxL := 2) (ret := (some .boolean)) (by decide) rfl ?_
  intro p e s m args below meth c s₁ B hml hv
  obtain ⟨rfl, hP, hK⟩ := hv
  have hx := B.exec
  have hb := B.bytes
  have hr := B.returns
  have hts := atoms_spec (ws := wsX4_readsAct) B.pre
  have hown : s.vm.findClass RX4 = some m.cls := findClass_of_methodNamed B.named
  have hlk := B.notSynchronized
  have hS : va_S A s.heap s.heap [] := va_S.rf
  have hl := lv_entry ([.ref (ad 0), .int (zI le)]) (n := 2) (Nat.le_of_ble_eq_true rfl)
  rw [lg_entry_eq]
  generalize (lg_sl ([.ref (ad 0), .int (zI le)]) ++ List.replicate (2 - (lg_sl ([.ref (ad 0), .int (zI le)])).length) Slot.unset).toArray = ls at hl ⊢
  have hl : lv_has ls 2 [(0, .ref (ad 0)), (1, .int (zI le))] := hl
  have hin : ∀ w ∈ wsX40, w ∈ wsX4_readsAct := in_X4_readsAct
  refine lv_iload_n hx hb dX4_readsAct_0 rfl (lv_at hl 1 rfl) ?_
  refine z_bipush (z := 120) hx hb dX4_readsAct_1 (by decide +kernel) ?_
  refine z_icmp_ne (tgt := 13) hx hb dX4_readsAct_3 (by decide) (by omega) (by omega) (fun c1 => ?_) (fun c1 => ?_)
  · refine lv_aload_n hx hb dX4_readsAct_13 rfl (lv_at hl 0 rfl) ?_
    refine z_iconst hx hb dX4_readsAct_14 ?_
    refine z_calli (va_runV (As := [.int (zI 0)]) (rest := []) ⟨hx, hb, hml, hown, hts⟩ (k_X4_number l dC dI cI cQ A ad S hD 0 (by repeat (first | exact hX | apply Tx_nm | (refine Tx_ps ?_ (by decide)))) (by omega)) (cwV 1 hts gX4_readsAct_X4_number rfl rfl rfl (by decide +kernel) ⟨Nat.le_of_ble_eq_true rfl, Nat.le_of_ble_eq_true rfl⟩) (z_preV hK hP (ci := 4) (q0 := 0) rfl rfl rfl) rfl rfl hl.1 rfl (lv_room (Nat.le_of_ble_eq_true rfl)) dX4_readsAct_15 ⟨Nat.zero_le _, Nat.zero_le _⟩) hS (fun _ h => h) (fun H locs hP hS _ _ => ?_)
    refine z_ifb_ne (tgt := 23) hx hb dX4_readsAct_18 (by decide) (fun c2 => ?_) (fun c2 => ?_)
    · refine lv_iload_n hx hb dX4_readsAct_23 rfl (lv_at hl 1 rfl) ?_
      refine z_bipush (z := 116) hx hb dX4_readsAct_24 (by decide +kernel) ?_
      refine z_icmp_ne (tgt := 36) hx hb dX4_readsAct_26 (by decide) (by omega) (by omega) (fun c3 => ?_) (fun c3 => ?_)
      · refine lv_aload_n hx hb dX4_readsAct_36 rfl (lv_at hl 0 rfl) ?_
        refine z_bipush (z := 44) hx hb dX4_readsAct_37 (by decide +kernel) ?_
        refine z_calli (va_runV (As := [.int (zI 44)]) (rest := []) ⟨hx, hb, hml, hown, hts⟩ (k_X4_passesSign l dC dI cI cQ A ad (nmM S 0) hD 44 (by repeat (first | exact hX | apply Tx_nm | (refine Tx_ps ?_ (by decide)))) (by omega)) (cwV 1 hts gX4_readsAct_X4_passesSign rfl rfl rfl (by decide +kernel) ⟨Nat.le_of_ble_eq_true rfl, Nat.le_of_ble_eq_true rfl⟩) (z_preV hK hP (ci := 4) (q0 := 0) rfl rfl rfl) rfl rfl hl.1 rfl (lv_room (Nat.le_of_ble_eq_true rfl)) dX4_readsAct_39 ⟨Nat.zero_le _, Nat.zero_le _⟩) hS (fun _ h => h) (fun H locs hP hS _ _ => ?_)
        refine z_ifb_eq (tgt := 53) hx hb dX4_readsAct_42 (by decide) (fun c4 => ?_) (fun c4 => ?_)
        · refine z_iconst hx hb dX4_readsAct_53 ?_
          exact z_zret hx hb hr hlk hP hS dX4_readsAct_54 (by omega) (by first | (exfalso; omega) | (exact b01 (by unfold raP; (repeat' split) <;> first | exact Iff.rfl | (exfalso; omega))) | (rw [if_neg (show ¬ raP S le from by first | exact raP_n1 (by omega) (fun q => by have a := q.1; have b := q.2; omega) | exact raP_n2 (by omega) ⟨by omega, by omega⟩ (by omega) (by omega) | exact raP_n3 (by omega) ⟨by omega, by omega⟩ (by omega) (by omega) (fun q => by have a := q.1; have b := q.2; omega) | exact raP_n4 (by omega) ⟨by omega, by omega⟩ (by omega) (by omega) ⟨by omega, by omega⟩ (by omega) (by omega) | exact raP_n5 (by omega) ⟨by omega, by omega⟩ (by omega) (by omega) ⟨by omega, by omega⟩ (by omega) (by omega) (fun q => by have a := q.1; have b := q.2; omega) | exact fun q => absurd ((raP_e (by omega) ⟨by omega, by omega⟩ (by omega) (by omega) ⟨by omega, by omega⟩ (by omega) (by omega) ⟨by omega, by omega⟩).mp q) (by omega))]) | (rw [if_pos (show raP S le from (raP_e (by omega) ⟨by omega, by omega⟩ (by omega) (by omega) ⟨by omega, by omega⟩ (by omega) (by omega) ⟨by omega, by omega⟩).mpr (by omega))])) (congrArg (tW_X4 ad cI) (by unfold raM; (repeat' split) <;> first | rfl | (exfalso; omega)))
        · refine lv_aload_n hx hb dX4_readsAct_45 rfl (lv_at hl 0 rfl) ?_
          refine z_iconst hx hb dX4_readsAct_46 ?_
          refine z_calli (va_runV (As := [.int (zI 1)]) (rest := []) ⟨hx, hb, hml, hown, hts⟩ (k_X4_number l dC dI cI cQ A ad (psM (nmM S 0) 44) hD 1 (by repeat (first | exact hX | apply Tx_nm | (refine Tx_ps ?_ (by decide)))) (by omega)) (cwV 1 hts gX4_readsAct_X4_number rfl rfl rfl (by decide +kernel) ⟨Nat.le_of_ble_eq_true rfl, Nat.le_of_ble_eq_true rfl⟩) (z_preV hK hP (ci := 4) (q0 := 0) rfl rfl rfl) rfl rfl hl.1 rfl (lv_room (Nat.le_of_ble_eq_true rfl)) dX4_readsAct_47 ⟨Nat.zero_le _, Nat.zero_le _⟩) hS (fun _ h => h) (fun H locs hP hS _ _ => ?_)
          refine z_ifb_ne (tgt := 55) hx hb dX4_readsAct_50 (by decide) (fun c5 => ?_) (fun c5 => ?_)
          · refine lv_iload_n hx hb dX4_readsAct_55 rfl (lv_at hl 1 rfl) ?_
            refine z_bipush (z := 114) hx hb dX4_readsAct_56 (by decide +kernel) ?_
            refine z_icmp_ne (tgt := 70) hx hb dX4_readsAct_58 (by decide) (by omega) (by omega) (fun c6 => ?_) (fun c6 => ?_)
            · refine lv_aload_n hx hb dX4_readsAct_70 rfl (lv_at hl 0 rfl) ?_
              refine z_bipush (z := 61) hx hb dX4_readsAct_71 (by decide +kernel) ?_
              refine z_calli (va_runV (As := [.int (zI 61)]) (rest := []) ⟨hx, hb, hml, hown, hts⟩ (k_X4_passesSign l dC dI cI cQ A ad (nmM (psM (nmM S 0) 44) 1) hD 61 (by repeat (first | exact hX | apply Tx_nm | (refine Tx_ps ?_ (by decide)))) (by omega)) (cwV 1 hts gX4_readsAct_X4_passesSign rfl rfl rfl (by decide +kernel) ⟨Nat.le_of_ble_eq_true rfl, Nat.le_of_ble_eq_true rfl⟩) (z_preV hK hP (ci := 4) (q0 := 0) rfl rfl rfl) rfl rfl hl.1 rfl (lv_room (Nat.le_of_ble_eq_true rfl)) dX4_readsAct_73 ⟨Nat.zero_le _, Nat.zero_le _⟩) hS (fun _ h => h) (fun H locs hP hS _ _ => ?_)
              refine z_ifb_eq (tgt := 100) hx hb dX4_readsAct_76 (by decide) (fun c7 => ?_) (fun c7 => ?_)
              · refine z_iconst hx hb dX4_readsAct_100 ?_
                exact z_zret hx hb hr hlk hP hS dX4_readsAct_101 (by omega) (by first | (exfalso; omega) | (exact b01 (by unfold raP; (repeat' split) <;> first | exact Iff.rfl | (exfalso; omega))) | (rw [if_neg (show ¬ raP S le from by first | exact raP_n1 (by omega) (fun q => by have a := q.1; have b := q.2; omega) | exact raP_n2 (by omega) ⟨by omega, by omega⟩ (by omega) (by omega) | exact raP_n3 (by omega) ⟨by omega, by omega⟩ (by omega) (by omega) (fun q => by have a := q.1; have b := q.2; omega) | exact raP_n4 (by omega) ⟨by omega, by omega⟩ (by omega) (by omega) ⟨by omega, by omega⟩ (by omega) (by omega) | exact raP_n5 (by omega) ⟨by omega, by omega⟩ (by omega) (by omega) ⟨by omega, by omega⟩ (by omega) (by omega) (fun q => by have a := q.1; have b := q.2; omega) | exact fun q => absurd ((raP_e (by omega) ⟨by omega, by omega⟩ (by omega) (by omega) ⟨by omega, by omega⟩ (by omega) (by omega) ⟨by omega, by omega⟩).mp q) (by omega))]) | (rw [if_pos (show raP S le from (raP_e (by omega) ⟨by omega, by omega⟩ (by omega) (by omega) ⟨by omega, by omega⟩ (by omega) (by omega) ⟨by omega, by omega⟩).mpr (by omega))])) (congrArg (tW_X4 ad cI) (by unfold raM; (repeat' split) <;> first | rfl | (exfalso; omega)))
              · refine lv_aload_n hx hb dX4_readsAct_79 rfl (lv_at hl 0 rfl) ?_
                refine z_iconst hx hb dX4_readsAct_80 ?_
                refine z_calli (va_runV (As := [.int (zI 2)]) (rest := []) ⟨hx, hb, hml, hown, hts⟩ (k_X4_number l dC dI cI cQ A ad (psM (nmM (psM (nmM S 0) 44) 1) 61) hD 2 (by repeat (first | exact hX | apply Tx_nm | (refine Tx_ps ?_ (by decide)))) (by omega)) (cwV 1 hts gX4_readsAct_X4_number rfl rfl rfl (by decide +kernel) ⟨Nat.le_of_ble_eq_true rfl, Nat.le_of_ble_eq_true rfl⟩) (z_preV hK hP (ci := 4) (q0 := 0) rfl rfl rfl) rfl rfl hl.1 rfl (lv_room (Nat.le_of_ble_eq_true rfl)) dX4_readsAct_81 ⟨Nat.zero_le _, Nat.zero_le _⟩) hS (fun _ h => h) (fun H locs hP hS _ _ => ?_)
                refine z_ifb_eq (tgt := 100) hx hb dX4_readsAct_84 (by decide) (fun c8 => ?_) (fun c8 => ?_)
                · refine z_iconst hx hb dX4_readsAct_100 ?_
                  exact z_zret hx hb hr hlk hP hS dX4_readsAct_101 (by omega) (by first | (exfalso; omega) | (exact b01 (by unfold raP; (repeat' split) <;> first | exact Iff.rfl | (exfalso; omega))) | (rw [if_neg (show ¬ raP S le from by first | exact raP_n1 (by omega) (fun q => by have a := q.1; have b := q.2; omega) | exact raP_n2 (by omega) ⟨by omega, by omega⟩ (by omega) (by omega) | exact raP_n3 (by omega) ⟨by omega, by omega⟩ (by omega) (by omega) (fun q => by have a := q.1; have b := q.2; omega) | exact raP_n4 (by omega) ⟨by omega, by omega⟩ (by omega) (by omega) ⟨by omega, by omega⟩ (by omega) (by omega) | exact raP_n5 (by omega) ⟨by omega, by omega⟩ (by omega) (by omega) ⟨by omega, by omega⟩ (by omega) (by omega) (fun q => by have a := q.1; have b := q.2; omega) | exact fun q => absurd ((raP_e (by omega) ⟨by omega, by omega⟩ (by omega) (by omega) ⟨by omega, by omega⟩ (by omega) (by omega) ⟨by omega, by omega⟩).mp q) (by omega))]) | (rw [if_pos (show raP S le from (raP_e (by omega) ⟨by omega, by omega⟩ (by omega) (by omega) ⟨by omega, by omega⟩ (by omega) (by omega) ⟨by omega, by omega⟩).mpr (by omega))])) (congrArg (tW_X4 ad cI) (by unfold raM; (repeat' split) <;> first | rfl | (exfalso; omega)))
                · refine lv_aload_n hx hb dX4_readsAct_87 rfl (lv_at hl 0 rfl) ?_
                  refine z_bipush (z := 59) hx hb dX4_readsAct_88 (by decide +kernel) ?_
                  refine z_calli (va_runV (As := [.int (zI 59)]) (rest := []) ⟨hx, hb, hml, hown, hts⟩ (k_X4_passesSign l dC dI cI cQ A ad (nmM (psM (nmM (psM (nmM S 0) 44) 1) 61) 2) hD 59 (by repeat (first | exact hX | apply Tx_nm | (refine Tx_ps ?_ (by decide)))) (by omega)) (cwV 1 hts gX4_readsAct_X4_passesSign rfl rfl rfl (by decide +kernel) ⟨Nat.le_of_ble_eq_true rfl, Nat.le_of_ble_eq_true rfl⟩) (z_preV hK hP (ci := 4) (q0 := 0) rfl rfl rfl) rfl rfl hl.1 rfl (lv_room (Nat.le_of_ble_eq_true rfl)) dX4_readsAct_90 ⟨Nat.zero_le _, Nat.zero_le _⟩) hS (fun _ h => h) (fun H locs hP hS _ _ => ?_)
                  refine z_ifb_eq (tgt := 100) hx hb dX4_readsAct_93 (by decide) (fun c9 => ?_) (fun c9 => ?_)
                  · refine z_iconst hx hb dX4_readsAct_100 ?_
                    exact z_zret hx hb hr hlk hP hS dX4_readsAct_101 (by omega) (by first | (exfalso; omega) | (exact b01 (by unfold raP; (repeat' split) <;> first | exact Iff.rfl | (exfalso; omega))) | (rw [if_neg (show ¬ raP S le from by first | exact raP_n1 (by omega) (fun q => by have a := q.1; have b := q.2; omega) | exact raP_n2 (by omega) ⟨by omega, by omega⟩ (by omega) (by omega) | exact raP_n3 (by omega) ⟨by omega, by omega⟩ (by omega) (by omega) (fun q => by have a := q.1; have b := q.2; omega) | exact raP_n4 (by omega) ⟨by omega, by omega⟩ (by omega) (by omega) ⟨by omega, by omega⟩ (by omega) (by omega) | exact raP_n5 (by omega) ⟨by omega, by omega⟩ (by omega) (by omega) ⟨by omega, by omega⟩ (by omega) (by omega) (fun q => by have a := q.1; have b := q.2; omega) | exact fun q => absurd ((raP_e (by omega) ⟨by omega, by omega⟩ (by omega) (by omega) ⟨by omega, by omega⟩ (by omega) (by omega) ⟨by omega, by omega⟩).mp q) (by omega))]) | (rw [if_pos (show raP S le from (raP_e (by omega) ⟨by omega, by omega⟩ (by omega) (by omega) ⟨by omega, by omega⟩ (by omega) (by omega) ⟨by omega, by omega⟩).mpr (by omega))])) (congrArg (tW_X4 ad cI) (by unfold raM; (repeat' split) <;> first | rfl | (exfalso; omega)))
                  · refine z_iconst hx hb dX4_readsAct_96 ?_
                    refine lv_goto (tgt := 101) hx hb dX4_readsAct_97 (by decide) ?_
                    exact z_zret hx hb hr hlk hP hS dX4_readsAct_101 (by omega) (by first | (exfalso; omega) | (exact b01 (by unfold raP; (repeat' split) <;> first | exact Iff.rfl | (exfalso; omega))) | (rw [if_neg (show ¬ raP S le from by first | exact raP_n1 (by omega) (fun q => by have a := q.1; have b := q.2; omega) | exact raP_n2 (by omega) ⟨by omega, by omega⟩ (by omega) (by omega) | exact raP_n3 (by omega) ⟨by omega, by omega⟩ (by omega) (by omega) (fun q => by have a := q.1; have b := q.2; omega) | exact raP_n4 (by omega) ⟨by omega, by omega⟩ (by omega) (by omega) ⟨by omega, by omega⟩ (by omega) (by omega) | exact raP_n5 (by omega) ⟨by omega, by omega⟩ (by omega) (by omega) ⟨by omega, by omega⟩ (by omega) (by omega) (fun q => by have a := q.1; have b := q.2; omega) | exact fun q => absurd ((raP_e (by omega) ⟨by omega, by omega⟩ (by omega) (by omega) ⟨by omega, by omega⟩ (by omega) (by omega) ⟨by omega, by omega⟩).mp q) (by omega))]) | (rw [if_pos (show raP S le from (raP_e (by omega) ⟨by omega, by omega⟩ (by omega) (by omega) ⟨by omega, by omega⟩ (by omega) (by omega) ⟨by omega, by omega⟩).mpr (by omega))])) (congrArg (tW_X4 ad cI) (by unfold raM; (repeat' split) <;> first | rfl | (exfalso; omega)))
            · refine lv_aload_n hx hb dX4_readsAct_61 rfl (lv_at hl 0 rfl) ?_
              refine z_bipush (z := 59) hx hb dX4_readsAct_62 (by decide +kernel) ?_
              refine z_calli (va_runV (As := [.int (zI 59)]) (rest := []) ⟨hx, hb, hml, hown, hts⟩ (k_X4_passesSign l dC dI cI cQ A ad (nmM (psM (nmM S 0) 44) 1) hD 59 (by repeat (first | exact hX | apply Tx_nm | (refine Tx_ps ?_ (by decide)))) (by omega)) (cwV 1 hts gX4_readsAct_X4_passesSign rfl rfl rfl (by decide +kernel) ⟨Nat.le_of_ble_eq_true rfl, Nat.le_of_ble_eq_true rfl⟩) (z_preV hK hP (ci := 4) (q0 := 0) rfl rfl rfl) rfl rfl hl.1 rfl (lv_room (Nat.le_of_ble_eq_true rfl)) dX4_readsAct_64 ⟨Nat.zero_le _, Nat.zero_le _⟩) hS (fun _ h => h) (fun H locs hP hS _ _ => ?_)
              refine lv_goto (tgt := 101) hx hb dX4_readsAct_67 (by decide) ?_
              exact z_zret hx hb hr hlk hP hS dX4_readsAct_101 (by split <;> simp) (by first | (exfalso; omega) | (exact b01 (by unfold raP; (repeat' split) <;> first | exact Iff.rfl | (exfalso; omega))) | (rw [if_neg (show ¬ raP S le from by first | exact raP_n1 (by omega) (fun q => by have a := q.1; have b := q.2; omega) | exact raP_n2 (by omega) ⟨by omega, by omega⟩ (by omega) (by omega) | exact raP_n3 (by omega) ⟨by omega, by omega⟩ (by omega) (by omega) (fun q => by have a := q.1; have b := q.2; omega) | exact raP_n4 (by omega) ⟨by omega, by omega⟩ (by omega) (by omega) ⟨by omega, by omega⟩ (by omega) (by omega) | exact raP_n5 (by omega) ⟨by omega, by omega⟩ (by omega) (by omega) ⟨by omega, by omega⟩ (by omega) (by omega) (fun q => by have a := q.1; have b := q.2; omega) | exact fun q => absurd ((raP_e (by omega) ⟨by omega, by omega⟩ (by omega) (by omega) ⟨by omega, by omega⟩ (by omega) (by omega) ⟨by omega, by omega⟩).mp q) (by omega))]) | (rw [if_pos (show raP S le from (raP_e (by omega) ⟨by omega, by omega⟩ (by omega) (by omega) ⟨by omega, by omega⟩ (by omega) (by omega) ⟨by omega, by omega⟩).mpr (by omega))])) (congrArg (tW_X4 ad cI) (by unfold raM; (repeat' split) <;> first | rfl | (exfalso; omega)))
          · refine z_iconst hx hb dX4_readsAct_53 ?_
            exact z_zret hx hb hr hlk hP hS dX4_readsAct_54 (by omega) (by first | (exfalso; omega) | (exact b01 (by unfold raP; (repeat' split) <;> first | exact Iff.rfl | (exfalso; omega))) | (rw [if_neg (show ¬ raP S le from by first | exact raP_n1 (by omega) (fun q => by have a := q.1; have b := q.2; omega) | exact raP_n2 (by omega) ⟨by omega, by omega⟩ (by omega) (by omega) | exact raP_n3 (by omega) ⟨by omega, by omega⟩ (by omega) (by omega) (fun q => by have a := q.1; have b := q.2; omega) | exact raP_n4 (by omega) ⟨by omega, by omega⟩ (by omega) (by omega) ⟨by omega, by omega⟩ (by omega) (by omega) | exact raP_n5 (by omega) ⟨by omega, by omega⟩ (by omega) (by omega) ⟨by omega, by omega⟩ (by omega) (by omega) (fun q => by have a := q.1; have b := q.2; omega) | exact fun q => absurd ((raP_e (by omega) ⟨by omega, by omega⟩ (by omega) (by omega) ⟨by omega, by omega⟩ (by omega) (by omega) ⟨by omega, by omega⟩).mp q) (by omega))]) | (rw [if_pos (show raP S le from (raP_e (by omega) ⟨by omega, by omega⟩ (by omega) (by omega) ⟨by omega, by omega⟩ (by omega) (by omega) ⟨by omega, by omega⟩).mpr (by omega))])) (congrArg (tW_X4 ad cI) (by unfold raM; (repeat' split) <;> first | rfl | (exfalso; omega)))
      · refine lv_aload_n hx hb dX4_readsAct_29 rfl (lv_at hl 0 rfl) ?_
        refine z_bipush (z := 59) hx hb dX4_readsAct_30 (by decide +kernel) ?_
        refine z_calli (va_runV (As := [.int (zI 59)]) (rest := []) ⟨hx, hb, hml, hown, hts⟩ (k_X4_passesSign l dC dI cI cQ A ad (nmM S 0) hD 59 (by repeat (first | exact hX | apply Tx_nm | (refine Tx_ps ?_ (by decide)))) (by omega)) (cwV 1 hts gX4_readsAct_X4_passesSign rfl rfl rfl (by decide +kernel) ⟨Nat.le_of_ble_eq_true rfl, Nat.le_of_ble_eq_true rfl⟩) (z_preV hK hP (ci := 4) (q0 := 0) rfl rfl rfl) rfl rfl hl.1 rfl (lv_room (Nat.le_of_ble_eq_true rfl)) dX4_readsAct_32 ⟨Nat.zero_le _, Nat.zero_le _⟩) hS (fun _ h => h) (fun H locs hP hS _ _ => ?_)
        exact z_zret hx hb hr hlk hP hS dX4_readsAct_35 (by split <;> simp) (by first | (exfalso; omega) | (exact b01 (by unfold raP; (repeat' split) <;> first | exact Iff.rfl | (exfalso; omega))) | (rw [if_neg (show ¬ raP S le from by first | exact raP_n1 (by omega) (fun q => by have a := q.1; have b := q.2; omega) | exact raP_n2 (by omega) ⟨by omega, by omega⟩ (by omega) (by omega) | exact raP_n3 (by omega) ⟨by omega, by omega⟩ (by omega) (by omega) (fun q => by have a := q.1; have b := q.2; omega) | exact raP_n4 (by omega) ⟨by omega, by omega⟩ (by omega) (by omega) ⟨by omega, by omega⟩ (by omega) (by omega) | exact raP_n5 (by omega) ⟨by omega, by omega⟩ (by omega) (by omega) ⟨by omega, by omega⟩ (by omega) (by omega) (fun q => by have a := q.1; have b := q.2; omega) | exact fun q => absurd ((raP_e (by omega) ⟨by omega, by omega⟩ (by omega) (by omega) ⟨by omega, by omega⟩ (by omega) (by omega) ⟨by omega, by omega⟩).mp q) (by omega))]) | (rw [if_pos (show raP S le from (raP_e (by omega) ⟨by omega, by omega⟩ (by omega) (by omega) ⟨by omega, by omega⟩ (by omega) (by omega) ⟨by omega, by omega⟩).mpr (by omega))])) (congrArg (tW_X4 ad cI) (by unfold raM; (repeat' split) <;> first | rfl | (exfalso; omega)))
    · refine z_iconst hx hb dX4_readsAct_21 ?_
      exact z_zret hx hb hr hlk hP hS dX4_readsAct_22 (by omega) (by first | (exfalso; omega) | (exact b01 (by unfold raP; (repeat' split) <;> first | exact Iff.rfl | (exfalso; omega))) | (rw [if_neg (show ¬ raP S le from by first | exact raP_n1 (by omega) (fun q => by have a := q.1; have b := q.2; omega) | exact raP_n2 (by omega) ⟨by omega, by omega⟩ (by omega) (by omega) | exact raP_n3 (by omega) ⟨by omega, by omega⟩ (by omega) (by omega) (fun q => by have a := q.1; have b := q.2; omega) | exact raP_n4 (by omega) ⟨by omega, by omega⟩ (by omega) (by omega) ⟨by omega, by omega⟩ (by omega) (by omega) | exact raP_n5 (by omega) ⟨by omega, by omega⟩ (by omega) (by omega) ⟨by omega, by omega⟩ (by omega) (by omega) (fun q => by have a := q.1; have b := q.2; omega) | exact fun q => absurd ((raP_e (by omega) ⟨by omega, by omega⟩ (by omega) (by omega) ⟨by omega, by omega⟩ (by omega) (by omega) ⟨by omega, by omega⟩).mp q) (by omega))]) | (rw [if_pos (show raP S le from (raP_e (by omega) ⟨by omega, by omega⟩ (by omega) (by omega) ⟨by omega, by omega⟩ (by omega) (by omega) ⟨by omega, by omega⟩).mpr (by omega))])) (congrArg (tW_X4 ad cI) (by unfold raM; (repeat' split) <;> first | rfl | (exfalso; omega)))
  · refine lv_aload_n hx hb dX4_readsAct_6 rfl (lv_at hl 0 rfl) ?_
    refine z_bipush (z := 59) hx hb dX4_readsAct_7 (by decide +kernel) ?_
    refine z_calli (va_runV (As := [.int (zI 59)]) (rest := []) ⟨hx, hb, hml, hown, hts⟩ (k_X4_passesSign l dC dI cI cQ A ad S hD 59 (by repeat (first | exact hX | apply Tx_nm | (refine Tx_ps ?_ (by decide)))) (by omega)) (cwV 1 hts gX4_readsAct_X4_passesSign rfl rfl rfl (by decide +kernel) ⟨Nat.le_of_ble_eq_true rfl, Nat.le_of_ble_eq_true rfl⟩) (z_preV hK hP (ci := 4) (q0 := 0) rfl rfl rfl) rfl rfl hl.1 rfl (lv_room (Nat.le_of_ble_eq_true rfl)) dX4_readsAct_9 ⟨Nat.zero_le _, Nat.zero_le _⟩) hS (fun _ h => h) (fun H locs hP hS _ _ => ?_)
    exact z_zret hx hb hr hlk hP hS dX4_readsAct_12 (by split <;> simp) (by first | (exfalso; omega) | (exact b01 (by unfold raP; (repeat' split) <;> first | exact Iff.rfl | (exfalso; omega))) | (rw [if_neg (show ¬ raP S le from by first | exact raP_n1 (by omega) (fun q => by have a := q.1; have b := q.2; omega) | exact raP_n2 (by omega) ⟨by omega, by omega⟩ (by omega) (by omega) | exact raP_n3 (by omega) ⟨by omega, by omega⟩ (by omega) (by omega) (fun q => by have a := q.1; have b := q.2; omega) | exact raP_n4 (by omega) ⟨by omega, by omega⟩ (by omega) (by omega) ⟨by omega, by omega⟩ (by omega) (by omega) | exact raP_n5 (by omega) ⟨by omega, by omega⟩ (by omega) (by omega) ⟨by omega, by omega⟩ (by omega) (by omega) (fun q => by have a := q.1; have b := q.2; omega) | exact fun q => absurd ((raP_e (by omega) ⟨by omega, by omega⟩ (by omega) (by omega) ⟨by omega, by omega⟩ (by omega) (by omega) ⟨by omega, by omega⟩).mp q) (by omega))]) | (rw [if_pos (show raP S le from (raP_e (by omega) ⟨by omega, by omega⟩ (by omega) (by omega) ⟨by omega, by omega⟩ (by omega) (by omega) ⟨by omega, by omega⟩).mpr (by omega))])) (congrArg (tW_X4 ad cI) (by unfold raM; (repeat' split) <;> first | rfl | (exfalso; omega)))
set_option maxHeartbeats 4000000 in
set_option maxRecDepth 100000 in
theorem k_X4_isLetter (l : Launch) (dC : Nat → ClassId) (dI : Nat → Nat → Nat) (cI cQ : ClassId) (A : Nat → Prop) (ws : va_W) (ch : Int) (q0 : -2147483648 ≤ ch ∧ ch < 2147483648) : Met l yX4_isLetter wsX4_isLetter ({ frames := 0, cells := 0, slots := 0, locals := 0 }) (zPc (dC, dI) vwCl (zT cI cQ) ws [.int (zI ch)]) (zQi (dC, dI) vwCl ws (if ch = 114 ∨ ch = 119 ∨ ch = 116 ∨ ch = 120 then 1 else 0) A) 0 0 A := by
  refine Met.ofW (cc := cX4_isLetter) (maxL := 1) (ret := (some .boolean)) (by decide) rfl ?_
  intro p e s m args below meth c s₁ B hml hv
  obtain ⟨rfl, hP, hK⟩ := hv
  have hx := B.exec
  have hb := B.bytes
  have hr := B.returns
  have hts := atoms_spec (ws := wsX4_isLetter) B.pre
  have hown : s.vm.findClass RX4 = some m.cls := findClass_of_methodNamed B.named
  have hlk := B.notSynchronized
  have hS : va_S A s.heap s.heap [] := va_S.rf
  have hl := lv_entry ([.int (zI ch)]) (n := 1) (Nat.le_of_ble_eq_true rfl)
  rw [lg_entry_eq]
  generalize (lg_sl ([.int (zI ch)]) ++ List.replicate (1 - (lg_sl ([.int (zI ch)])).length) Slot.unset).toArray = ls at hl ⊢
  have hl : lv_has ls 1 [(0, .int (zI ch))] := hl
  refine lv_iload_n hx hb dX4_isLetter_0 rfl (lv_at hl 0 rfl) ?_
  refine z_bipush (z := 114) hx hb dX4_isLetter_1 (by decide +kernel) ?_
  refine z_icmp_eq (tgt := 24) hx hb dX4_isLetter_3 (by decide) (by omega) (by omega) (fun c1 => ?_) (fun c1 => ?_)
  · refine z_iconst hx hb dX4_isLetter_24 ?_
    refine lv_goto (tgt := 29) hx hb dX4_isLetter_25 (by decide) ?_
    exact z_zret hx hb hr hlk hP hS dX4_isLetter_29 (by omega) (by first | rw [if_pos (by omega)] | rw [if_neg (by omega)]) rfl
  · refine lv_iload_n hx hb dX4_isLetter_6 rfl (lv_at hl 0 rfl) ?_
    refine z_bipush (z := 119) hx hb dX4_isLetter_7 (by decide +kernel) ?_
    refine z_icmp_eq (tgt := 24) hx hb dX4_isLetter_9 (by decide) (by omega) (by omega) (fun c2 => ?_) (fun c2 => ?_)
    · refine z_iconst hx hb dX4_isLetter_24 ?_
      refine lv_goto (tgt := 29) hx hb dX4_isLetter_25 (by decide) ?_
      exact z_zret hx hb hr hlk hP hS dX4_isLetter_29 (by omega) (by first | rw [if_pos (by omega)] | rw [if_neg (by omega)]) rfl
    · refine lv_iload_n hx hb dX4_isLetter_12 rfl (lv_at hl 0 rfl) ?_
      refine z_bipush (z := 116) hx hb dX4_isLetter_13 (by decide +kernel) ?_
      refine z_icmp_eq (tgt := 24) hx hb dX4_isLetter_15 (by decide) (by omega) (by omega) (fun c3 => ?_) (fun c3 => ?_)
      · refine z_iconst hx hb dX4_isLetter_24 ?_
        refine lv_goto (tgt := 29) hx hb dX4_isLetter_25 (by decide) ?_
        exact z_zret hx hb hr hlk hP hS dX4_isLetter_29 (by omega) (by first | rw [if_pos (by omega)] | rw [if_neg (by omega)]) rfl
      · refine lv_iload_n hx hb dX4_isLetter_18 rfl (lv_at hl 0 rfl) ?_
        refine z_bipush (z := 120) hx hb dX4_isLetter_19 (by decide +kernel) ?_
        refine z_icmp_ne (tgt := 28) hx hb dX4_isLetter_21 (by decide) (by omega) (by omega) (fun c4 => ?_) (fun c4 => ?_)
        · refine z_iconst hx hb dX4_isLetter_28 ?_
          exact z_zret hx hb hr hlk hP hS dX4_isLetter_29 (by omega) (by first | rw [if_pos (by omega)] | rw [if_neg (by omega)]) rfl
        · refine z_iconst hx hb dX4_isLetter_24 ?_
          refine lv_goto (tgt := 29) hx hb dX4_isLetter_25 (by decide) ?_
          exact z_zret hx hb hr hlk hP hS dX4_isLetter_29 (by omega) (by first | rw [if_pos (by omega)] | rw [if_neg (by omega)]) rfl
