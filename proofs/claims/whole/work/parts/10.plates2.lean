/-! loops that fill rows -/
theorem dropO_at (S : Nat → Int → Int) (k : Int) : dropOS S k 1 (8 * k + 3) = S 1 (8 * k + 3) := by
  unfold dropOS
  rw [upR_eq, if_neg (by omega)]
theorem dropO_0 (S : Nat → Int → Int) : dropOS S 0 = S := upR_id (fun j => if_neg (by omega))
theorem dropO_set (S : Nat → Int → Int) {k : Int} (h : 0 ≤ k) (h2 : S 1 (8 * k + 3) = 0) : up2 (dropOS S k) 1 (8 * k + 3) 2 = dropOS S (k + 1) := by
  unfold dropOS
  rw [up2_upR]
  refine upR_cg (fun j => ?_)
  unfold up1
  dsimp only
  by_cases q : j = 8 * k + 3
  · rw [if_pos q, if_pos ⟨by omega, by omega, by omega, by rw [q]; exact h2⟩]
  · rw [if_neg q]
    by_cases q2 : j % 8 = 3 ∧ 0 ≤ j ∧ j < 8 * k ∧ S 1 j = 0
    · rw [if_pos q2, if_pos ⟨q2.1, q2.2.1, by omega, q2.2.2.2⟩]
    · rw [if_neg q2, if_neg (by omega)]
theorem dropO_skip (S : Nat → Int → Int) {k : Int} (h : 0 ≤ k) (h2 : S 1 (8 * k + 3) ≠ 0) : dropOS S k = dropOS S (k + 1) := by
  unfold dropOS
  refine upR_cg (fun j => ?_)
  by_cases q : j = 8 * k + 3
  · rw [if_neg (by omega), if_neg (by rw [q]; exact fun z => h2 z.2.2.2)]
  · by_cases q2 : j % 8 = 3 ∧ 0 ≤ j ∧ j < 8 * k ∧ S 1 j = 0
    · rw [if_pos q2, if_pos ⟨q2.1, q2.2.1, by omega, q2.2.2.2⟩]
    · rw [if_neg q2, if_neg (by omega)]
theorem dropB_0 (S : Nat → Int → Int) : dropBS S 0 = S := by
  unfold dropBS
  rw [upR_id (S := S) (k := 0) (fun j => if_neg (by omega))]
  exact upR_id (fun j => if_neg (by omega))
theorem dropB_succ (S : Nat → Int → Int) {k : Int} (h : 0 ≤ k ∧ k < 48) : up2 (up2 (up2 (dropBS S k) 0 (4 * k + 3) 0) 0 (4 * k + 195) 0) 3 k 0 = dropBS S (k + 1) := by
  funext i j
  simp only [up2_app]
  unfold dropBS upR
  by_cases i3 : i = 3
  · subst i3; simp only [if_true, true_and, show ¬ ((3 : Nat) = 0) by decide, false_and, if_false]; (repeat' split) <;> first | rfl | (exfalso; omega)
  · by_cases i0 : i = 0
    · subst i0; simp only [if_true, true_and, show ¬ ((0 : Nat) = 3) by decide, false_and, if_false]; (repeat' split) <;> first | rfl | (exfalso; omega)
    · simp only [i3, i0, false_and, if_false]
theorem dropT_0 (S : Nat → Int → Int) : dropTS S 0 = S := upR_id (fun j => if_neg (by omega))
theorem dropT_succ (S : Nat → Int → Int) {k : Int} (h : 0 ≤ k) : up2 (dropTS S k) 4 k 0 = dropTS S (k + 1) := by
  unfold dropTS
  rw [up2_upR]
  refine upR_cg (fun j => ?_)
  unfold up1
  dsimp only
  (repeat' split) <;> first | rfl | (exfalso; omega)
theorem tear_1 (side : Int) (S : Nat → Int → Int) : tearS side S 2 = S 2 := by
  unfold tearS
  split <;> rfl
theorem tearN_2 (S : Nat → Int → Int) : ∀ n : Nat, ixN tearS n S 2 = S 2
  | 0 => rfl
  | n + 1 => by rw [ixN, tear_1, tearN_2 S n]
theorem tear_2 (k : Int) (S : Nat → Int → Int) : ixZ tearS k S 2 = S 2 := tearN_2 S k.toNat
theorem tear_step (S : Nat → Int → Int) {side : Int} (h : 0 ≤ side) : ixZ tearS (side + 1) S = if S 2 side ≠ -1 ∧ ixZ tearS side S 0 (S 2 side + 2) = 0 then up2 (ixZ tearS side S) 0 (S 2 side + 2) 1 else ixZ tearS side S := by
  rw [ixZ_succ _ _ h]
  show (if ixZ tearS side S 2 side ≠ -1 ∧ ixZ tearS side S 0 (ixZ tearS side S 2 side + 2) = 0 then up2 (ixZ tearS side S) 0 (ixZ tearS side S 2 side + 2) 1 else ixZ tearS side S) = _
  rw [tear_2]

theorem in_X1_doWrite : ∀ w ∈ wsX10, w ∈ wsX1_doWrite := fun w h => List.mem_cons_of_mem _ (List.mem_append_right _ h)
set_option maxHeartbeats 4000000 in
set_option maxRecDepth 100000 in
theorem k_X1_doWrite (l : Launch) (dC : Nat → ClassId) (dI : Nat → Nat → Nat) (cI cQ : ClassId) (A : Nat → Prop) (ad : Nat → Nat) (S : Nat → Int → Int) (hD : ∀ S, va_D A (tW_X1 ad cI S)) (o side here there : Int) (hB : zB S) (h : 0 ≤ o ∧ o < 60) (hs : 0 ≤ side ∧ side ≤ 1) (hh : 0 ≤ here ∧ here ≤ 380) (ht : 0 ≤ there ∧ there ≤ 380) (ha : 0 ≤ S 6 0 ∧ S 6 0 < 4) (h1 : 0 ≤ S 1 (8 * o + 1) ∧ S 1 (8 * o + 1) < 4) (h2 : 0 ≤ S 1 (8 * o + 2) ∧ S 1 (8 * o + 2) < 12) : Met l yX1_doWrite wsX1_doWrite ({ frames := 1, cells := 0, slots := 0, locals := 24 }) (zPc (dC, dI) vwCl (zT cI cQ) (tW_X1 ad cI S) [.ref (ad 0), .int (zI o), .int (zI side), .int (zI here), .int (zI there)]) (zQv (dC, dI) vwCl (tW_X1 ad cI (doWrS S o side here there)) A) 0 0 A := by
  refine Met.ofW (cc := cX1_doWrite) (maxL := 7) (ret := none) (by decide) rfl ?_
  intro p e s m args below meth c s₁ B hml hv
  obtain ⟨rfl, hP, hK⟩ := hv
  have hx := B.exec
  have hb := B.bytes
  have hr := B.returns
  have hts := atoms_spec (ws := wsX1_doWrite) B.pre
  have hown : s.vm.findClass RX1 = some m.cls := findClass_of_methodNamed B.named
  have hlk := B.notSynchronized
  have hS : va_S A s.heap s.heap [] := va_S.rf
  have hl := lv_entry ([.ref (ad 0), .int (zI o), .int (zI side), .int (zI here), .int (zI there)]) (n := 7) (Nat.le_of_ble_eq_true rfl)
  rw [lg_entry_eq]
  generalize (lg_sl ([.ref (ad 0), .int (zI o), .int (zI side), .int (zI here), .int (zI there)]) ++ List.replicate (7 - (lg_sl ([.ref (ad 0), .int (zI o), .int (zI side), .int (zI here), .int (zI there)])).length) Slot.unset).toArray = ls at hl ⊢
  have hl : lv_has ls 7 [(0, .ref (ad 0)), (1, .int (zI o)), (2, .int (zI side)), (3, .int (zI here)), (4, .int (zI there))] := hl
  have hin : ∀ w ∈ wsX10, w ∈ wsX1_doWrite := in_X1_doWrite
  refine lv_aload_n hx hb dX1_doWrite_0 rfl (lv_at hl 0 rfl) ?_
  refine lv_iload_n hx hb dX1_doWrite_1 rfl (lv_at hl 1 rfl) ?_
  refine z_bipush (z := 7) hx hb dX1_doWrite_2 (by decide +kernel) ?_
  refine z_calli (va_runV (As := [.int (zI o), .int (zI 7)]) (rest := []) ⟨hx, hb, hml, hown, hts⟩ (k_X1_ofOrder l dC dI cI cQ A ad S hD o 7 (by omega)) (cwV 2 hts gX1_doWrite_X1_ofOrder rfl rfl rfl (by decide +kernel) ⟨Nat.le_of_ble_eq_true rfl, Nat.le_of_ble_eq_true rfl⟩) (z_preV hK hP (ci := 1) (q0 := 0) rfl rfl rfl) rfl rfl hl.1 rfl (lv_room (Nat.le_of_ble_eq_true rfl)) dX1_doWrite_4 ⟨Nat.zero_le _, Nat.zero_le _⟩) hS (fun _ h => h) (fun H locs hP hS _ _ => ?_)
  have b1 := hB 1 (8 * o + 7) (Or.inl (by decide))
  refine lv_istore (lv' := [(5, .int (zI (S 1 (8 * o + 7)))), (0, .ref (ad 0)), (1, .int (zI o)), (2, .int (zI side)), (3, .int (zI here)), (4, .int (zI there))]) hx hb dX1_doWrite_7 hl (by decide) rfl (fun ls hl => ?_)
  refine lv_aload_n hx hb dX1_doWrite_9 rfl (lv_at hl 1 rfl) ?_
  refine gx_X1_0 hx hb hts hin hown hK hP (hts _ (List.mem_of_getElem? (i := 1) rfl)) dX1_doWrite_10 ?_
  refine lv_iload_n hx hb dX1_doWrite_13 rfl (lv_at hl 4 rfl) ?_
  refine z_iconst hx hb dX1_doWrite_14 ?_
  refine z_iadd hx hb dX1_doWrite_15 ?_
  refine ld_X1_0 (v := S 0 (here + 1)) hx hb hK hP (by omega) rfl dX1_doWrite_16 ?_
  have b2 := hB 0 (here + 1) (Or.inl (by decide))
  refine lv_aload_n hx hb dX1_doWrite_17 rfl (lv_at hl 1 rfl) ?_
  refine gx_X1_0 hx hb hts hin hown hK hP (hts _ (List.mem_of_getElem? (i := 1) rfl)) dX1_doWrite_18 ?_
  refine lv_iload hx hb dX1_doWrite_21 (lv_at hl 5 rfl) ?_
  refine z_iconst hx hb dX1_doWrite_23 ?_
  refine z_iadd hx hb dX1_doWrite_24 ?_
  refine ld_X1_0 (v := S 0 (there + 1)) hx hb hK hP (by omega) rfl dX1_doWrite_25 ?_
  have b3 := hB 0 (there + 1) (Or.inl (by decide))
  refine z_mmax hx hb (hml.trans hl.1.symm) hown (hts _ (List.mem_of_getElem? (i := 2) rfl)) (hts _ (List.mem_of_getElem? (i := 3) rfl)) (hts _ (List.mem_of_getElem? (i := 4) rfl)) (hts _ (List.mem_of_getElem? (i := 5) rfl)) (Nat.le_of_ble_eq_true rfl) (Nat.le_of_ble_eq_true rfl) (Nat.zero_le _) (Nat.zero_le _) (by omega) (by omega) dX1_doWrite_26 ?_
  refine z_iconst hx hb dX1_doWrite_29 ?_
  refine z_iadd hx hb dX1_doWrite_30 ?_
  refine lv_istore (lv' := [(6, .int (zI ((max (S 0 (here + 1)) (S 0 (there + 1))) + 1))), (5, .int (zI (S 1 (8 * o + 7)))), (0, .ref (ad 0)), (1, .int (zI o)), (2, .int (zI side)), (3, .int (zI here)), (4, .int (zI there))]) hx hb dX1_doWrite_31 hl (by decide) rfl (fun ls hl => ?_)
  refine lv_aload_n hx hb dX1_doWrite_33 rfl (lv_at hl 2 rfl) ?_
  refine lv_iload_n hx hb dX1_doWrite_34 rfl (lv_at hl 5 rfl) ?_
  refine lv_iload hx hb dX1_doWrite_35 (lv_at hl 1 rfl) ?_
  refine lv_iload hx hb dX1_doWrite_37 (lv_at hl 0 rfl) ?_
  refine z_callv (va_runV (As := [.int (zI here), .int (zI (S 1 (8 * o + 7))), .int (zI ((max (S 0 (here + 1)) (S 0 (there + 1))) + 1))]) (rest := []) ⟨hx, hb, hml, hown, hts⟩ (k_X1_setWhole l dC dI cI cQ A ad S hD here (S 1 (8 * o + 7)) ((max (S 0 (here + 1)) (S 0 (there + 1))) + 1) (by omega)) (cwV 3 hts gX1_doWrite_X1_setWhole rfl rfl rfl (by decide +kernel) ⟨Nat.le_of_ble_eq_true rfl, Nat.le_of_ble_eq_true rfl⟩) (z_preV hK hP (ci := 1) (q0 := 0) rfl rfl rfl) rfl rfl hl.1 rfl (lv_room (Nat.le_of_ble_eq_true rfl)) dX1_doWrite_39 ⟨Nat.zero_le _, Nat.zero_le _⟩) hS (fun _ h => h) (fun H locs hP hS _ _ => ?_)
  refine lv_aload_n hx hb dX1_doWrite_42 rfl (lv_at hl 2 rfl) ?_
  refine lv_iload_n hx hb dX1_doWrite_43 rfl (lv_at hl 5 rfl) ?_
  refine z_iconst hx hb dX1_doWrite_44 ?_
  refine z_callv (va_runV (As := [.int (zI here), .int (zI 0)]) (rest := []) ⟨hx, hb, hml, hown, hts⟩ (k_X1_setLate l dC dI cI cQ A ad (setWS S here (S 1 (8 * o + 7)) ((max (S 0 (here + 1)) (S 0 (there + 1))) + 1)) hD here 0 (by omega) (by exact ha)) (cwV 2 hts gX1_doWrite_X1_setLate rfl rfl rfl (by decide +kernel) ⟨Nat.le_of_ble_eq_true rfl, Nat.le_of_ble_eq_true rfl⟩) (z_preV hK hP (ci := 1) (q0 := 0) rfl rfl rfl) rfl rfl hl.1 rfl (lv_room (Nat.le_of_ble_eq_true rfl)) dX1_doWrite_45 ⟨Nat.zero_le _, Nat.zero_le _⟩) hS (fun _ h => h) (fun H locs hP hS _ _ => ?_)
  refine lv_aload_n hx hb dX1_doWrite_48 rfl (lv_at hl 2 rfl) ?_
  refine lv_iload hx hb dX1_doWrite_49 (lv_at hl 6 rfl) ?_
  refine z_iconst hx hb dX1_doWrite_51 ?_
  refine z_callv (va_runV (As := [.int (zI there), .int (zI 1)]) (rest := []) ⟨hx, hb, hml, hown, hts⟩ (k_X1_setLate l dC dI cI cQ A ad (setLS (setWS S here (S 1 (8 * o + 7)) ((max (S 0 (here + 1)) (S 0 (there + 1))) + 1)) here 0) hD there 1 (by omega) (by exact ha)) (cwV 2 hts gX1_doWrite_X1_setLate rfl rfl rfl (by decide +kernel) ⟨Nat.le_of_ble_eq_true rfl, Nat.le_of_ble_eq_true rfl⟩) (z_preV hK hP (ci := 1) (q0 := 0) rfl rfl rfl) rfl rfl hl.1 rfl (lv_room (Nat.le_of_ble_eq_true rfl)) dX1_doWrite_52 ⟨Nat.zero_le _, Nat.zero_le _⟩) hS (fun _ h => h) (fun H locs hP hS _ _ => ?_)
  refine lv_aload_n hx hb dX1_doWrite_55 rfl (lv_at hl 2 rfl) ?_
  refine gx_X1_2 hx hb hts hin hown hK hP (hts _ (List.mem_of_getElem? (i := 6) rfl)) dX1_doWrite_56 ?_
  refine lv_iload_n hx hb dX1_doWrite_59 rfl (lv_at hl 4 rfl) ?_
  refine lv_iload_n hx hb dX1_doWrite_60 rfl (lv_at hl 5 rfl) ?_
  refine st_X1_2 hx hb hK hP hD hS (by omega) dX1_doWrite_61 (fun H locs hP hS => ?_)
  refine lv_aload_n hx hb dX1_doWrite_62 rfl (lv_at hl 2 rfl) ?_
  refine lv_iload_n hx hb dX1_doWrite_63 rfl (lv_at hl 3 rfl) ?_
  refine lv_iload_n hx hb dX1_doWrite_64 rfl (lv_at hl 4 rfl) ?_
  refine lv_iload hx hb dX1_doWrite_65 (lv_at hl 1 rfl) ?_
  refine z_callv (va_runV (As := [.int (zI o), .int (zI side), .int (zI (S 1 (8 * o + 7)))]) (rest := []) ⟨hx, hb, hml, hown, hts⟩ (k_X1_finish l dC dI cI cQ A ad (up2 (setLS (setLS (setWS S here (S 1 (8 * o + 7)) ((max (S 0 (here + 1)) (S 0 (there + 1))) + 1)) here 0) there 1) 2 side here) hD o side (S 1 (8 * o + 7)) (by omega) (by exact h1) (by exact h2)) (cwV 3 hts gX1_doWrite_X1_finish rfl rfl rfl (by decide +kernel) ⟨Nat.le_of_ble_eq_true rfl, Nat.le_of_ble_eq_true rfl⟩) (z_preV hK hP (ci := 1) (q0 := 0) rfl rfl rfl) rfl rfl hl.1 rfl (lv_room (Nat.le_of_ble_eq_true rfl)) dX1_doWrite_67 ⟨Nat.zero_le _, Nat.zero_le _⟩) hS (fun _ h => h) (fun H locs hP hS _ _ => ?_)
  exact z_vret hx hb hr hlk hP hS dX1_doWrite_70 (congrArg (tW_X1 ad cI) (by rfl))
theorem in_X1_useHead : ∀ w ∈ wsX10, w ∈ wsX1_useHead := fun w h => List.mem_cons_of_mem _ (List.mem_append_right _ h)
set_option maxHeartbeats 4000000 in
set_option maxRecDepth 100000 in
theorem k_X1_useHead (l : Launch) (dC : Nat → ClassId) (dI : Nat → Nat → Nat) (cI cQ : ClassId) (A : Nat → Prop) (ad : Nat → Nat) (S : Nat → Int → Int) (hD : ∀ S, va_D A (tW_X1 ad cI S)) (side : Int) (hW : WF S) (hs : 0 ≤ side ∧ side ≤ 1) : Met l yX1_useHead wsX1_useHead ({ frames := 2, cells := 0, slots := 0, locals := 50 }) (zPc (dC, dI) vwCl (zT cI cQ) (tW_X1 ad cI S) [.ref (ad 0), .int (zI side)]) (zQv (dC, dI) vwCl (tW_X1 ad cI (useHdS S side)) A) 0 0 A := by
  refine Met.ofW (cc := cX1_useHead) (maxL := 8) (ret := none) (by decide) rfl ?_
  intro p e s m args below meth c s₁ B hml hv
  obtain ⟨rfl, hP, hK⟩ := hv
  have hx := B.exec
  have hb := B.bytes
  have hr := B.returns
  have hts := atoms_spec (ws := wsX1_useHead) B.pre
  have hown : s.vm.findClass RX1 = some m.cls := findClass_of_methodNamed B.named
  have hlk := B.notSynchronized
  have hS : va_S A s.heap s.heap [] := va_S.rf
  have hl := lv_entry ([.ref (ad 0), .int (zI side)]) (n := 8) (Nat.le_of_ble_eq_true rfl)
  rw [lg_entry_eq]
  generalize (lg_sl ([.ref (ad 0), .int (zI side)]) ++ List.replicate (8 - (lg_sl ([.ref (ad 0), .int (zI side)])).length) Slot.unset).toArray = ls at hl ⊢
  have hl : lv_has ls 8 [(0, .ref (ad 0)), (1, .int (zI side))] := hl
  have hin : ∀ w ∈ wsX10, w ∈ wsX1_useHead := in_X1_useHead
  obtain ⟨hB, w5, w6, w7, wo1, w2⟩ := id hW
  have b50 := hB 5 0 (Or.inr ⟨by decide, rfl⟩)
  refine lv_aload_n hx hb dX1_useHead_0 rfl (lv_at hl 0 rfl) ?_
  refine lv_iload_n hx hb dX1_useHead_1 rfl (lv_at hl 1 rfl) ?_
  refine z_calli (va_runV (As := [.int (zI side)]) (rest := []) ⟨hx, hb, hml, hown, hts⟩ (k_X1_sectorUnder l dC dI cI cQ A ad S hD side (by omega)) (cwV 1 hts gX1_useHead_X1_sectorUnder rfl rfl rfl (by decide +kernel) ⟨Nat.le_of_ble_eq_true rfl, Nat.le_of_ble_eq_true rfl⟩) (z_preV hK hP (ci := 1) (q0 := 0) rfl rfl rfl) rfl rfl hl.1 rfl (lv_room (Nat.le_of_ble_eq_true rfl)) dX1_useHead_2 ⟨Nat.zero_le _, Nat.zero_le _⟩) hS (fun _ h => h) (fun H locs hP hS _ _ => ?_)
  refine z_name (fun sec e_sec => ?_)
  refine lv_istore_n (lv' := [(2, .int (zI sec)), (0, .ref (ad 0)), (1, .int (zI side))]) hx hb dX1_useHead_5 rfl hl (by decide) rfl (fun ls hl => ?_)
  refine lv_aload_n hx hb dX1_useHead_6 rfl (lv_at hl 1 rfl) ?_
  refine gx_X1_6 hx hb hts hin hown hK hP (hts _ (List.mem_of_getElem? (i := 1) rfl)) dX1_useHead_7 ?_
  have b1 := hB 6 0 (Or.inr ⟨by decide, rfl⟩)
  refine lv_iload_n hx hb dX1_useHead_10 rfl (lv_at hl 0 rfl) ?_
  refine z_calli (va_runS (As := [.int (zI (S 6 0)), .int (zI sec)]) (rest := []) ⟨hx, hb, hml, hown, hts⟩ (k_X1_blockAt l dC dI cI cQ A (tW_X1 ad cI S) (S 6 0) sec) (va_cwS 2 hts gX1_useHead_X1_blockAt rfl rfl rfl (by decide +kernel) ⟨Nat.le_of_ble_eq_true rfl, Nat.le_of_ble_eq_true rfl⟩) (z_preS hK hP) rfl rfl hl.1 rfl (lv_room (Nat.le_of_ble_eq_true rfl)) dX1_useHead_11 ⟨Nat.zero_le _, Nat.zero_le _⟩) hS (fun _ h => h) (fun H locs hP hS _ _ => ?_)
  refine z_top (y := 12 * S 6 0 + sec) (by omega) ?_
  refine lv_istore_n (lv' := [(3, .int (zI (12 * S 6 0 + sec))), (2, .int (zI sec)), (0, .ref (ad 0)), (1, .int (zI side))]) hx hb dX1_useHead_14 rfl hl (by decide) rfl (fun ls hl => ?_)
  refine lv_iload_n hx hb dX1_useHead_15 rfl (lv_at hl 3 rfl) ?_
  refine lv_iload_n hx hb dX1_useHead_16 rfl (lv_at hl 0 rfl) ?_
  refine z_calli (va_runS (As := [.int (zI side), .int (zI (12 * S 6 0 + sec))]) (rest := []) ⟨hx, hb, hml, hown, hts⟩ (k_X1_cellOf l dC dI cI cQ A (tW_X1 ad cI S) side (12 * S 6 0 + sec)) (va_cwS 2 hts gX1_useHead_X1_cellOf rfl rfl rfl (by decide +kernel) ⟨Nat.le_of_ble_eq_true rfl, Nat.le_of_ble_eq_true rfl⟩) (z_preS hK hP) rfl rfl hl.1 rfl (lv_room (Nat.le_of_ble_eq_true rfl)) dX1_useHead_17 ⟨Nat.zero_le _, Nat.zero_le _⟩) hS (fun _ h => h) (fun H locs hP hS _ _ => ?_)
  refine z_top (y := 192 * side + 48 * S 6 0 + 4 * sec) (by omega) ?_
  refine z_name (fun here e_here => ?_)
  refine lv_istore (lv' := [(4, .int (zI here)), (3, .int (zI (12 * S 6 0 + sec))), (2, .int (zI sec)), (0, .ref (ad 0)), (1, .int (zI side))]) hx hb dX1_useHead_20 hl (by decide) rfl (fun ls hl => ?_)
  refine z_iconst hx hb dX1_useHead_22 ?_
  refine lv_iload_n hx hb dX1_useHead_23 rfl (lv_at hl 4 rfl) ?_
  refine z_isub hx hb dX1_useHead_24 ?_
  refine z_top (y := -side + 1) (by omega) ?_
  refine lv_iload_n hx hb dX1_useHead_25 rfl (lv_at hl 1 rfl) ?_
  refine z_calli (va_runS (As := [.int (zI (-side + 1)), .int (zI (12 * S 6 0 + sec))]) (rest := []) ⟨hx, hb, hml, hown, hts⟩ (k_X1_cellOf l dC dI cI cQ A (tW_X1 ad cI S) (-side + 1) (12 * S 6 0 + sec)) (va_cwS 2 hts gX1_useHead_X1_cellOf rfl rfl rfl (by decide +kernel) ⟨Nat.le_of_ble_eq_true rfl, Nat.le_of_ble_eq_true rfl⟩) (z_preS hK hP) rfl rfl hl.1 rfl (lv_room (Nat.le_of_ble_eq_true rfl)) dX1_useHead_26 ⟨Nat.zero_le _, Nat.zero_le _⟩) hS (fun _ h => h) (fun H locs hP hS _ _ => ?_)
  refine z_top (y := 48 * S 6 0 + 4 * sec - 192 * side + 192) (by omega) ?_
  refine z_name (fun there e_there => ?_)
  refine lv_istore (lv' := [(5, .int (zI there)), (4, .int (zI here)), (3, .int (zI (12 * S 6 0 + sec))), (2, .int (zI sec)), (0, .ref (ad 0)), (1, .int (zI side))]) hx hb dX1_useHead_29 hl (by decide) rfl (fun ls hl => ?_)
  refine lv_aload_n hx hb dX1_useHead_31 rfl (lv_at hl 4 rfl) ?_
  refine gx_X1_0 hx hb hts hin hown hK hP (hts _ (List.mem_of_getElem? (i := 2) rfl)) dX1_useHead_32 ?_
  refine lv_iload hx hb dX1_useHead_35 (lv_at hl 1 rfl) ?_
  refine z_iconst hx hb dX1_useHead_37 ?_
  refine z_iadd hx hb dX1_useHead_38 ?_
  refine ld_X1_0 (v := S 0 (here + 3)) hx hb hK hP (by omega) rfl dX1_useHead_39 ?_
  have b2 := hB 0 (here + 3) (Or.inl (by decide))
  refine z_if_eq (tgt := 79) hx hb dX1_useHead_40 (by decide) (by omega) (fun c1 => ?_) (fun c1 => ?_)
  · refine lv_aload_n hx hb dX1_useHead_79 rfl (lv_at hl 4 rfl) ?_
    refine gx_X1_3 hx hb hts hin hown hK hP (hts _ (List.mem_of_getElem? (i := 4) rfl)) dX1_useHead_80 ?_
    refine lv_iload_n hx hb dX1_useHead_83 rfl (lv_at hl 2 rfl) ?_
    refine ld_X1_3 (v := S 3 (12 * S 6 0 + sec)) hx hb hK hP (by omega) rfl dX1_useHead_84 ?_
    have b3 := hB 3 (12 * S 6 0 + sec) (Or.inl (by decide))
    refine z_if_ne (tgt := 89) hx hb dX1_useHead_85 (by decide) (by omega) (fun c2 => ?_) (fun c2 => ?_)
    · refine lv_aload_n hx hb dX1_useHead_89 rfl (lv_at hl 4 rfl) ?_
      refine z_iconst hx hb dX1_useHead_90 ?_
      refine lv_aload_n hx hb dX1_useHead_91 rfl (lv_at hl 4 rfl) ?_
      refine gx_X1_6 hx hb hts hin hown hK hP (hts _ (List.mem_of_getElem? (i := 1) rfl)) dX1_useHead_92 ?_
      have b4 := hB 6 0 (Or.inr ⟨by decide, rfl⟩)
      refine lv_iload_n hx hb dX1_useHead_95 rfl (lv_at hl 3 rfl) ?_
      refine z_calli (va_runV (As := [.int (zI 1), .int (zI (S 6 0)), .int (zI sec)]) (rest := []) ⟨hx, hb, hml, hown, hts⟩ (k_X1_firstWaiting l dC dI cI cQ A ad S hD 1 (S 6 0) sec (by exact hB) (by exact w7) (by omega) (by omega) (by omega)) (cwV 3 hts gX1_useHead_X1_firstWaiting rfl rfl rfl (by decide +kernel) ⟨Nat.le_of_ble_eq_true rfl, Nat.le_of_ble_eq_true rfl⟩) (z_preV hK hP (ci := 1) (q0 := 0) rfl rfl rfl) rfl rfl hl.1 rfl (lv_room (Nat.le_of_ble_eq_true rfl)) dX1_useHead_96 ⟨Nat.zero_le _, Nat.zero_le _⟩) hS (fun _ h => h) (fun H locs hP hS _ _ => ?_)
      refine z_name (fun fw e_fw => ?_)
      refine lv_istore (lv' := [(6, .int (zI fw)), (5, .int (zI there)), (4, .int (zI here)), (3, .int (zI (12 * S 6 0 + sec))), (2, .int (zI sec)), (0, .ref (ad 0)), (1, .int (zI side))]) hx hb dX1_useHead_99 hl (by decide) rfl (fun ls hl => ?_)
      have rg1 := firstWF_rng w7.1 1 (S 6 0) sec
      rw [← e_fw] at rg1
      have wt1 := wo1 fw
      refine lv_iload hx hb dX1_useHead_101 (lv_at hl 0 rfl) ?_
      refine z_bipush (z := (-9)) hx hb dX1_useHead_103 (by decide +kernel) ?_
      refine z_icmp_eq (tgt := 120) hx hb dX1_useHead_105 (by decide) (by omega) (by omega) (fun c3 => ?_) (fun c3 => ?_)
      · refine lv_aload_n hx hb dX1_useHead_120 rfl (lv_at hl 5 rfl) ?_
        refine z_iconst hx hb dX1_useHead_121 ?_
        refine lv_aload_n hx hb dX1_useHead_122 rfl (lv_at hl 5 rfl) ?_
        refine gx_X1_6 hx hb hts hin hown hK hP (hts _ (List.mem_of_getElem? (i := 1) rfl)) dX1_useHead_123 ?_
        have b5 := hB 6 0 (Or.inr ⟨by decide, rfl⟩)
        refine lv_iload_n hx hb dX1_useHead_126 rfl (lv_at hl 4 rfl) ?_
        refine z_calli (va_runV (As := [.int (zI 0), .int (zI (S 6 0)), .int (zI sec)]) (rest := []) ⟨hx, hb, hml, hown, hts⟩ (k_X1_firstWaiting l dC dI cI cQ A ad S hD 0 (S 6 0) sec (by exact hB) (by exact w7) (by omega) (by omega) (by omega)) (cwV 3 hts gX1_useHead_X1_firstWaiting rfl rfl rfl (by decide +kernel) ⟨Nat.le_of_ble_eq_true rfl, Nat.le_of_ble_eq_true rfl⟩) (z_preV hK hP (ci := 1) (q0 := 0) rfl rfl rfl) rfl rfl hl.1 rfl (lv_room (Nat.le_of_ble_eq_true rfl)) dX1_useHead_127 ⟨Nat.zero_le _, Nat.zero_le _⟩) hS (fun _ h => h) (fun H locs hP hS _ _ => ?_)
        refine z_name (fun fr e_fr => ?_)
        refine lv_istore (lv' := [(7, .int (zI fr)), (6, .int (zI fw)), (5, .int (zI there)), (4, .int (zI here)), (3, .int (zI (12 * S 6 0 + sec))), (2, .int (zI sec)), (0, .ref (ad 0)), (1, .int (zI side))]) hx hb dX1_useHead_130 hl (by decide) rfl (fun ls hl => ?_)
        have rg2 := firstWF_rng w7.1 0 (S 6 0) sec
        rw [← e_fr] at rg2
        have wt2 := wo1 fr
        refine lv_iload hx hb dX1_useHead_132 (lv_at hl 0 rfl) ?_
        refine z_bipush (z := (-9)) hx hb dX1_useHead_134 (by decide +kernel) ?_
        refine z_icmp_eq (tgt := 179) hx hb dX1_useHead_136 (by decide) (by omega) (by omega) (fun c4 => ?_) (fun c4 => ?_)
        · exact z_vret hx hb hr hlk hP hS dX1_useHead_179 (congrArg (tW_X1 ad cI) (by unfold useHdS; rw [show secF S side = sec from e_sec.symm, show 192 * side + 48 * S 6 0 + 4 * sec = here from by omega, show 192 - 192 * side + 48 * S 6 0 + 4 * sec = there from by omega]; unfold useHdB; (try rw [← e_fw]); (try rw [← e_fr]); (repeat' split) <;> first | (exfalso; omega) | rfl))
        · refine lv_aload_n hx hb dX1_useHead_139 rfl (lv_at hl 6 rfl) ?_
          refine gx_X1_0 hx hb hts hin hown hK hP (hts _ (List.mem_of_getElem? (i := 2) rfl)) dX1_useHead_140 ?_
          refine lv_iload hx hb dX1_useHead_143 (lv_at hl 3 rfl) ?_
          refine z_iconst hx hb dX1_useHead_145 ?_
          refine z_iadd hx hb dX1_useHead_146 ?_
          refine ld_X1_0 (v := S 0 (here + 3)) hx hb hK hP (by omega) rfl dX1_useHead_147 ?_
          have b6 := hB 0 (here + 3) (Or.inl (by decide))
          refine z_if_ne (tgt := 179) hx hb dX1_useHead_148 (by decide) (by omega) (fun c5 => ?_) (fun c5 => ?_)
          · exact z_vret hx hb hr hlk hP hS dX1_useHead_179 (congrArg (tW_X1 ad cI) (by unfold useHdS; rw [show secF S side = sec from e_sec.symm, show 192 * side + 48 * S 6 0 + 4 * sec = here from by omega, show 192 - 192 * side + 48 * S 6 0 + 4 * sec = there from by omega]; unfold useHdB; (try rw [← e_fw]); (try rw [← e_fr]); (repeat' split) <;> first | (exfalso; omega) | rfl))
          · refine lv_aload_n hx hb dX1_useHead_151 rfl (lv_at hl 6 rfl) ?_
            refine gx_X1_0 hx hb hts hin hown hK hP (hts _ (List.mem_of_getElem? (i := 2) rfl)) dX1_useHead_152 ?_
            refine lv_iload hx hb dX1_useHead_155 (lv_at hl 3 rfl) ?_
            refine z_iconst hx hb dX1_useHead_157 ?_
            refine z_iadd hx hb dX1_useHead_158 ?_
            refine ld_X1_0 (v := S 0 (here + 2)) hx hb hK hP (by omega) rfl dX1_useHead_159 ?_
            have b7 := hB 0 (here + 2) (Or.inl (by decide))
            refine z_if_ne (tgt := 179) hx hb dX1_useHead_160 (by decide) (by omega) (fun c6 => ?_) (fun c6 => ?_)
            · exact z_vret hx hb hr hlk hP hS dX1_useHead_179 (congrArg (tW_X1 ad cI) (by unfold useHdS; rw [show secF S side = sec from e_sec.symm, show 192 * side + 48 * S 6 0 + 4 * sec = here from by omega, show 192 - 192 * side + 48 * S 6 0 + 4 * sec = there from by omega]; unfold useHdB; (try rw [← e_fw]); (try rw [← e_fr]); (repeat' split) <;> first | (exfalso; omega) | rfl))
            · refine lv_aload_n hx hb dX1_useHead_163 rfl (lv_at hl 6 rfl) ?_
              refine lv_iload hx hb dX1_useHead_164 (lv_at hl 0 rfl) ?_
              refine lv_iload_n hx hb dX1_useHead_166 rfl (lv_at hl 7 rfl) ?_
              refine lv_aload_n hx hb dX1_useHead_167 rfl (lv_at hl 6 rfl) ?_
              refine gx_X1_0 hx hb hts hin hown hK hP (hts _ (List.mem_of_getElem? (i := 2) rfl)) dX1_useHead_168 ?_
              refine lv_iload hx hb dX1_useHead_171 (lv_at hl 3 rfl) ?_
              refine z_iconst hx hb dX1_useHead_173 ?_
              refine z_iadd hx hb dX1_useHead_174 ?_
              refine z_top (y := here) (by omega) ?_
              refine ld_X1_0 (v := S 0 here) hx hb hK hP (by omega) rfl dX1_useHead_175 ?_
              have b8 := hB 0 here (Or.inl (by decide))
              refine z_callv (va_runV (As := [.int (zI fr), .int (zI side), .int (zI (S 0 here))]) (rest := []) ⟨hx, hb, hml, hown, hts⟩ (k_X1_finish l dC dI cI cQ A ad S hD fr side (S 0 here) (by omega) (by exact wt2.1) (by exact wt2.2)) (cwV 3 hts gX1_useHead_X1_finish rfl rfl rfl (by decide +kernel) ⟨Nat.le_of_ble_eq_true rfl, Nat.le_of_ble_eq_true rfl⟩) (z_preV hK hP (ci := 1) (q0 := 0) rfl rfl rfl) rfl rfl hl.1 rfl (lv_room (Nat.le_of_ble_eq_true rfl)) dX1_useHead_176 ⟨Nat.zero_le _, Nat.zero_le _⟩) hS (fun _ h => h) (fun H locs hP hS _ _ => ?_)
              exact z_vret hx hb hr hlk hP hS dX1_useHead_179 (congrArg (tW_X1 ad cI) (by unfold useHdS; rw [show secF S side = sec from e_sec.symm, show 192 * side + 48 * S 6 0 + 4 * sec = here from by omega, show 192 - 192 * side + 48 * S 6 0 + 4 * sec = there from by omega]; unfold useHdB; (try rw [← e_fw]); (try rw [← e_fr]); (repeat' split) <;> first | (exfalso; omega) | rfl))
      · refine lv_aload_n hx hb dX1_useHead_108 rfl (lv_at hl 5 rfl) ?_
        refine lv_iload hx hb dX1_useHead_109 (lv_at hl 0 rfl) ?_
        refine lv_iload_n hx hb dX1_useHead_111 rfl (lv_at hl 6 rfl) ?_
        refine lv_iload hx hb dX1_useHead_112 (lv_at hl 2 rfl) ?_
        refine lv_iload hx hb dX1_useHead_114 (lv_at hl 1 rfl) ?_
        refine z_callv (va_runV (As := [.int (zI fw), .int (zI side), .int (zI here), .int (zI there)]) (rest := []) ⟨hx, hb, hml, hown, hts⟩ (k_X1_doWrite l dC dI cI cQ A ad S hD fw side here there (by exact hB) (by omega) (by omega) (by omega) (by omega) (by exact w6) (by exact wt1.1) (by exact wt1.2)) (cwV 4 hts gX1_useHead_X1_doWrite rfl rfl rfl (by decide +kernel) ⟨Nat.le_of_ble_eq_true rfl, Nat.le_of_ble_eq_true rfl⟩) (z_preV hK hP (ci := 1) (q0 := 0) rfl rfl rfl) rfl rfl hl.1 rfl (lv_room (Nat.le_of_ble_eq_true rfl)) dX1_useHead_116 ⟨Nat.zero_le _, Nat.zero_le _⟩) hS (fun _ h => h) (fun H locs hP hS _ _ => ?_)
        exact z_vret hx hb hr hlk hP hS dX1_useHead_119 (congrArg (tW_X1 ad cI) (by unfold useHdS; rw [show secF S side = sec from e_sec.symm, show 192 * side + 48 * S 6 0 + 4 * sec = here from by omega, show 192 - 192 * side + 48 * S 6 0 + 4 * sec = there from by omega]; unfold useHdB; (try rw [← e_fw]); (try rw [← e_fr]); (repeat' split) <;> first | (exfalso; omega) | rfl))
    · exact z_vret hx hb hr hlk hP hS dX1_useHead_88 (congrArg (tW_X1 ad cI) (by unfold useHdS; rw [show secF S side = sec from e_sec.symm, show 192 * side + 48 * S 6 0 + 4 * sec = here from by omega, show 192 - 192 * side + 48 * S 6 0 + 4 * sec = there from by omega]; unfold useHdB; (try rw [← e_fw]); (try rw [← e_fr]); (repeat' split) <;> first | (exfalso; omega) | rfl))
  · refine lv_aload_n hx hb dX1_useHead_43 rfl (lv_at hl 4 rfl) ?_
    refine gx_X1_0 hx hb hts hin hown hK hP (hts _ (List.mem_of_getElem? (i := 2) rfl)) dX1_useHead_44 ?_
    refine lv_iload hx hb dX1_useHead_47 (lv_at hl 0 rfl) ?_
    refine z_iconst hx hb dX1_useHead_49 ?_
    refine z_iadd hx hb dX1_useHead_50 ?_
    refine ld_X1_0 (v := S 0 (there + 2)) hx hb hK hP (by omega) rfl dX1_useHead_51 ?_
    have b9 := hB 0 (there + 2) (Or.inl (by decide))
    refine z_if_ne (tgt := 79) hx hb dX1_useHead_52 (by decide) (by omega) (fun c7 => ?_) (fun c7 => ?_)
    · refine lv_aload_n hx hb dX1_useHead_79 rfl (lv_at hl 4 rfl) ?_
      refine gx_X1_3 hx hb hts hin hown hK hP (hts _ (List.mem_of_getElem? (i := 4) rfl)) dX1_useHead_80 ?_
      refine lv_iload_n hx hb dX1_useHead_83 rfl (lv_at hl 2 rfl) ?_
      refine ld_X1_3 (v := S 3 (12 * S 6 0 + sec)) hx hb hK hP (by omega) rfl dX1_useHead_84 ?_
      have b10 := hB 3 (12 * S 6 0 + sec) (Or.inl (by decide))
      refine z_if_ne (tgt := 89) hx hb dX1_useHead_85 (by decide) (by omega) (fun c8 => ?_) (fun c8 => ?_)
      · refine lv_aload_n hx hb dX1_useHead_89 rfl (lv_at hl 4 rfl) ?_
        refine z_iconst hx hb dX1_useHead_90 ?_
        refine lv_aload_n hx hb dX1_useHead_91 rfl (lv_at hl 4 rfl) ?_
        refine gx_X1_6 hx hb hts hin hown hK hP (hts _ (List.mem_of_getElem? (i := 1) rfl)) dX1_useHead_92 ?_
        have b11 := hB 6 0 (Or.inr ⟨by decide, rfl⟩)
        refine lv_iload_n hx hb dX1_useHead_95 rfl (lv_at hl 3 rfl) ?_
        refine z_calli (va_runV (As := [.int (zI 1), .int (zI (S 6 0)), .int (zI sec)]) (rest := []) ⟨hx, hb, hml, hown, hts⟩ (k_X1_firstWaiting l dC dI cI cQ A ad S hD 1 (S 6 0) sec (by exact hB) (by exact w7) (by omega) (by omega) (by omega)) (cwV 3 hts gX1_useHead_X1_firstWaiting rfl rfl rfl (by decide +kernel) ⟨Nat.le_of_ble_eq_true rfl, Nat.le_of_ble_eq_true rfl⟩) (z_preV hK hP (ci := 1) (q0 := 0) rfl rfl rfl) rfl rfl hl.1 rfl (lv_room (Nat.le_of_ble_eq_true rfl)) dX1_useHead_96 ⟨Nat.zero_le _, Nat.zero_le _⟩) hS (fun _ h => h) (fun H locs hP hS _ _ => ?_)
        refine z_name (fun fw e_fw => ?_)
        refine lv_istore (lv' := [(6, .int (zI fw)), (5, .int (zI there)), (4, .int (zI here)), (3, .int (zI (12 * S 6 0 + sec))), (2, .int (zI sec)), (0, .ref (ad 0)), (1, .int (zI side))]) hx hb dX1_useHead_99 hl (by decide) rfl (fun ls hl => ?_)
        have rg1 := firstWF_rng w7.1 1 (S 6 0) sec
        rw [← e_fw] at rg1
        have wt1 := wo1 fw
        refine lv_iload hx hb dX1_useHead_101 (lv_at hl 0 rfl) ?_
        refine z_bipush (z := (-9)) hx hb dX1_useHead_103 (by decide +kernel) ?_
        refine z_icmp_eq (tgt := 120) hx hb dX1_useHead_105 (by decide) (by omega) (by omega) (fun c9 => ?_) (fun c9 => ?_)
        · refine lv_aload_n hx hb dX1_useHead_120 rfl (lv_at hl 5 rfl) ?_
          refine z_iconst hx hb dX1_useHead_121 ?_
          refine lv_aload_n hx hb dX1_useHead_122 rfl (lv_at hl 5 rfl) ?_
          refine gx_X1_6 hx hb hts hin hown hK hP (hts _ (List.mem_of_getElem? (i := 1) rfl)) dX1_useHead_123 ?_
          have b12 := hB 6 0 (Or.inr ⟨by decide, rfl⟩)
          refine lv_iload_n hx hb dX1_useHead_126 rfl (lv_at hl 4 rfl) ?_
          refine z_calli (va_runV (As := [.int (zI 0), .int (zI (S 6 0)), .int (zI sec)]) (rest := []) ⟨hx, hb, hml, hown, hts⟩ (k_X1_firstWaiting l dC dI cI cQ A ad S hD 0 (S 6 0) sec (by exact hB) (by exact w7) (by omega) (by omega) (by omega)) (cwV 3 hts gX1_useHead_X1_firstWaiting rfl rfl rfl (by decide +kernel) ⟨Nat.le_of_ble_eq_true rfl, Nat.le_of_ble_eq_true rfl⟩) (z_preV hK hP (ci := 1) (q0 := 0) rfl rfl rfl) rfl rfl hl.1 rfl (lv_room (Nat.le_of_ble_eq_true rfl)) dX1_useHead_127 ⟨Nat.zero_le _, Nat.zero_le _⟩) hS (fun _ h => h) (fun H locs hP hS _ _ => ?_)
          refine z_name (fun fr e_fr => ?_)
          refine lv_istore (lv' := [(7, .int (zI fr)), (6, .int (zI fw)), (5, .int (zI there)), (4, .int (zI here)), (3, .int (zI (12 * S 6 0 + sec))), (2, .int (zI sec)), (0, .ref (ad 0)), (1, .int (zI side))]) hx hb dX1_useHead_130 hl (by decide) rfl (fun ls hl => ?_)
          have rg2 := firstWF_rng w7.1 0 (S 6 0) sec
          rw [← e_fr] at rg2
          have wt2 := wo1 fr
          refine lv_iload hx hb dX1_useHead_132 (lv_at hl 0 rfl) ?_
          refine z_bipush (z := (-9)) hx hb dX1_useHead_134 (by decide +kernel) ?_
          refine z_icmp_eq (tgt := 179) hx hb dX1_useHead_136 (by decide) (by omega) (by omega) (fun c10 => ?_) (fun c10 => ?_)
          · exact z_vret hx hb hr hlk hP hS dX1_useHead_179 (congrArg (tW_X1 ad cI) (by unfold useHdS; rw [show secF S side = sec from e_sec.symm, show 192 * side + 48 * S 6 0 + 4 * sec = here from by omega, show 192 - 192 * side + 48 * S 6 0 + 4 * sec = there from by omega]; unfold useHdB; (try rw [← e_fw]); (try rw [← e_fr]); (repeat' split) <;> first | (exfalso; omega) | rfl))
          · refine lv_aload_n hx hb dX1_useHead_139 rfl (lv_at hl 6 rfl) ?_
            refine gx_X1_0 hx hb hts hin hown hK hP (hts _ (List.mem_of_getElem? (i := 2) rfl)) dX1_useHead_140 ?_
            refine lv_iload hx hb dX1_useHead_143 (lv_at hl 3 rfl) ?_
            refine z_iconst hx hb dX1_useHead_145 ?_
            refine z_iadd hx hb dX1_useHead_146 ?_
            refine ld_X1_0 (v := S 0 (here + 3)) hx hb hK hP (by omega) rfl dX1_useHead_147 ?_
            have b13 := hB 0 (here + 3) (Or.inl (by decide))
            refine z_if_ne (tgt := 179) hx hb dX1_useHead_148 (by decide) (by omega) (fun c11 => ?_) (fun c11 => ?_)
            · exact z_vret hx hb hr hlk hP hS dX1_useHead_179 (congrArg (tW_X1 ad cI) (by unfold useHdS; rw [show secF S side = sec from e_sec.symm, show 192 * side + 48 * S 6 0 + 4 * sec = here from by omega, show 192 - 192 * side + 48 * S 6 0 + 4 * sec = there from by omega]; unfold useHdB; (try rw [← e_fw]); (try rw [← e_fr]); (repeat' split) <;> first | (exfalso; omega) | rfl))
            · refine lv_aload_n hx hb dX1_useHead_151 rfl (lv_at hl 6 rfl) ?_
              refine gx_X1_0 hx hb hts hin hown hK hP (hts _ (List.mem_of_getElem? (i := 2) rfl)) dX1_useHead_152 ?_
              refine lv_iload hx hb dX1_useHead_155 (lv_at hl 3 rfl) ?_
              refine z_iconst hx hb dX1_useHead_157 ?_
              refine z_iadd hx hb dX1_useHead_158 ?_
              refine ld_X1_0 (v := S 0 (here + 2)) hx hb hK hP (by omega) rfl dX1_useHead_159 ?_
              have b14 := hB 0 (here + 2) (Or.inl (by decide))
              refine z_if_ne (tgt := 179) hx hb dX1_useHead_160 (by decide) (by omega) (fun c12 => ?_) (fun c12 => ?_)
              · exact z_vret hx hb hr hlk hP hS dX1_useHead_179 (congrArg (tW_X1 ad cI) (by unfold useHdS; rw [show secF S side = sec from e_sec.symm, show 192 * side + 48 * S 6 0 + 4 * sec = here from by omega, show 192 - 192 * side + 48 * S 6 0 + 4 * sec = there from by omega]; unfold useHdB; (try rw [← e_fw]); (try rw [← e_fr]); (repeat' split) <;> first | (exfalso; omega) | rfl))
              · refine lv_aload_n hx hb dX1_useHead_163 rfl (lv_at hl 6 rfl) ?_
                refine lv_iload hx hb dX1_useHead_164 (lv_at hl 0 rfl) ?_
                refine lv_iload_n hx hb dX1_useHead_166 rfl (lv_at hl 7 rfl) ?_
                refine lv_aload_n hx hb dX1_useHead_167 rfl (lv_at hl 6 rfl) ?_
                refine gx_X1_0 hx hb hts hin hown hK hP (hts _ (List.mem_of_getElem? (i := 2) rfl)) dX1_useHead_168 ?_
                refine lv_iload hx hb dX1_useHead_171 (lv_at hl 3 rfl) ?_
                refine z_iconst hx hb dX1_useHead_173 ?_
                refine z_iadd hx hb dX1_useHead_174 ?_
                refine z_top (y := here) (by omega) ?_
                refine ld_X1_0 (v := S 0 here) hx hb hK hP (by omega) rfl dX1_useHead_175 ?_
                have b15 := hB 0 here (Or.inl (by decide))
                refine z_callv (va_runV (As := [.int (zI fr), .int (zI side), .int (zI (S 0 here))]) (rest := []) ⟨hx, hb, hml, hown, hts⟩ (k_X1_finish l dC dI cI cQ A ad S hD fr side (S 0 here) (by omega) (by exact wt2.1) (by exact wt2.2)) (cwV 3 hts gX1_useHead_X1_finish rfl rfl rfl (by decide +kernel) ⟨Nat.le_of_ble_eq_true rfl, Nat.le_of_ble_eq_true rfl⟩) (z_preV hK hP (ci := 1) (q0 := 0) rfl rfl rfl) rfl rfl hl.1 rfl (lv_room (Nat.le_of_ble_eq_true rfl)) dX1_useHead_176 ⟨Nat.zero_le _, Nat.zero_le _⟩) hS (fun _ h => h) (fun H locs hP hS _ _ => ?_)
                exact z_vret hx hb hr hlk hP hS dX1_useHead_179 (congrArg (tW_X1 ad cI) (by unfold useHdS; rw [show secF S side = sec from e_sec.symm, show 192 * side + 48 * S 6 0 + 4 * sec = here from by omega, show 192 - 192 * side + 48 * S 6 0 + 4 * sec = there from by omega]; unfold useHdB; (try rw [← e_fw]); (try rw [← e_fr]); (repeat' split) <;> first | (exfalso; omega) | rfl))
        · refine lv_aload_n hx hb dX1_useHead_108 rfl (lv_at hl 5 rfl) ?_
          refine lv_iload hx hb dX1_useHead_109 (lv_at hl 0 rfl) ?_
          refine lv_iload_n hx hb dX1_useHead_111 rfl (lv_at hl 6 rfl) ?_
          refine lv_iload hx hb dX1_useHead_112 (lv_at hl 2 rfl) ?_
          refine lv_iload hx hb dX1_useHead_114 (lv_at hl 1 rfl) ?_
          refine z_callv (va_runV (As := [.int (zI fw), .int (zI side), .int (zI here), .int (zI there)]) (rest := []) ⟨hx, hb, hml, hown, hts⟩ (k_X1_doWrite l dC dI cI cQ A ad S hD fw side here there (by exact hB) (by omega) (by omega) (by omega) (by omega) (by exact w6) (by exact wt1.1) (by exact wt1.2)) (cwV 4 hts gX1_useHead_X1_doWrite rfl rfl rfl (by decide +kernel) ⟨Nat.le_of_ble_eq_true rfl, Nat.le_of_ble_eq_true rfl⟩) (z_preV hK hP (ci := 1) (q0 := 0) rfl rfl rfl) rfl rfl hl.1 rfl (lv_room (Nat.le_of_ble_eq_true rfl)) dX1_useHead_116 ⟨Nat.zero_le _, Nat.zero_le _⟩) hS (fun _ h => h) (fun H locs hP hS _ _ => ?_)
          exact z_vret hx hb hr hlk hP hS dX1_useHead_119 (congrArg (tW_X1 ad cI) (by unfold useHdS; rw [show secF S side = sec from e_sec.symm, show 192 * side + 48 * S 6 0 + 4 * sec = here from by omega, show 192 - 192 * side + 48 * S 6 0 + 4 * sec = there from by omega]; unfold useHdB; (try rw [← e_fw]); (try rw [← e_fr]); (repeat' split) <;> first | (exfalso; omega) | rfl))
      · exact z_vret hx hb hr hlk hP hS dX1_useHead_88 (congrArg (tW_X1 ad cI) (by unfold useHdS; rw [show secF S side = sec from e_sec.symm, show 192 * side + 48 * S 6 0 + 4 * sec = here from by omega, show 192 - 192 * side + 48 * S 6 0 + 4 * sec = there from by omega]; unfold useHdB; (try rw [← e_fw]); (try rw [← e_fr]); (repeat' split) <;> first | (exfalso; omega) | rfl))
    · refine lv_aload_n hx hb dX1_useHead_55 rfl (lv_at hl 4 rfl) ?_
      refine lv_iload hx hb dX1_useHead_56 (lv_at hl 1 rfl) ?_
      refine lv_iload hx hb dX1_useHead_58 (lv_at hl 0 rfl) ?_
      refine z_callv (va_runV (As := [.int (zI here), .int (zI there)]) (rest := []) ⟨hx, hb, hml, hown, hts⟩ (k_X1_takeOver l dC dI cI cQ A ad S hD here there (by omega) (by omega)) (cwV 2 hts gX1_useHead_X1_takeOver rfl rfl rfl (by decide +kernel) ⟨Nat.le_of_ble_eq_true rfl, Nat.le_of_ble_eq_true rfl⟩) (z_preV hK hP (ci := 1) (q0 := 0) rfl rfl rfl) rfl rfl hl.1 rfl (lv_room (Nat.le_of_ble_eq_true rfl)) dX1_useHead_60 ⟨Nat.zero_le _, Nat.zero_le _⟩) hS (fun _ h => h) (fun H locs hP hS _ _ => ?_)
      refine lv_aload_n hx hb dX1_useHead_63 rfl (lv_at hl 4 rfl) ?_
      refine lv_iload hx hb dX1_useHead_64 (lv_at hl 1 rfl) ?_
      refine z_iconst hx hb dX1_useHead_66 ?_
      refine z_callv (va_runV (As := [.int (zI here), .int (zI 0)]) (rest := []) ⟨hx, hb, hml, hown, hts⟩ (k_X1_setLate l dC dI cI cQ A ad (takeOS S here there) hD here 0 (by omega) (by exact w6)) (cwV 2 hts gX1_useHead_X1_setLate rfl rfl rfl (by decide +kernel) ⟨Nat.le_of_ble_eq_true rfl, Nat.le_of_ble_eq_true rfl⟩) (z_preV hK hP (ci := 1) (q0 := 0) rfl rfl rfl) rfl rfl hl.1 rfl (lv_room (Nat.le_of_ble_eq_true rfl)) dX1_useHead_67 ⟨Nat.zero_le _, Nat.zero_le _⟩) hS (fun _ h => h) (fun H locs hP hS _ _ => ?_)
      refine lv_aload_n hx hb dX1_useHead_70 rfl (lv_at hl 4 rfl) ?_
      refine gx_X1_2 hx hb hts hin hown hK hP (hts _ (List.mem_of_getElem? (i := 3) rfl)) dX1_useHead_71 ?_
      refine lv_iload_n hx hb dX1_useHead_74 rfl (lv_at hl 5 rfl) ?_
      refine lv_iload hx hb dX1_useHead_75 (lv_at hl 1 rfl) ?_
      refine st_X1_2 hx hb hK hP hD hS (by omega) dX1_useHead_77 (fun H locs hP hS => ?_)
      exact z_vret hx hb hr hlk hP hS dX1_useHead_78 (congrArg (tW_X1 ad cI) (by unfold useHdS; rw [show secF S side = sec from e_sec.symm, show 192 * side + 48 * S 6 0 + 4 * sec = here from by omega, show 192 - 192 * side + 48 * S 6 0 + 4 * sec = there from by omega]; unfold useHdB; (try rw [← e_fw]); (try rw [← e_fr]); (repeat' split) <;> first | (exfalso; omega) | rfl))
theorem in_X1_moveArm : ∀ w ∈ wsX10, w ∈ wsX1_moveArm := fun w h => List.mem_cons_of_mem _ (List.mem_append_right _ h)
set_option maxHeartbeats 4000000 in
set_option maxRecDepth 100000 in
theorem k_X1_moveArm (l : Launch) (dC : Nat → ClassId) (dI : Nat → Nat → Nat) (cI cQ : ClassId) (A : Nat → Prop) (ad : Nat → Nat) (S : Nat → Int → Int) (hD : ∀ S, va_D A (tW_X1 ad cI S)) (hW : WF S) : Met l yX1_moveArm wsX1_moveArm ({ frames := 0, cells := 0, slots := 0, locals := 0 }) (zPc (dC, dI) vwCl (zT cI cQ) (tW_X1 ad cI S) [.ref (ad 0)]) (zQv (dC, dI) vwCl (tW_X1 ad cI (mvArmS S)) A) 0 0 A := by
  refine Met.ofW (cc := cX1_moveArm) (maxL := 2) (ret := none) (by decide) rfl ?_
  intro p e s m args below meth c s₁ B hml hv
  obtain ⟨rfl, hP, hK⟩ := hv
  have hx := B.exec
  have hb := B.bytes
  have hr := B.returns
  have hts := atoms_spec (ws := wsX1_moveArm) B.pre
  have hown : s.vm.findClass RX1 = some m.cls := findClass_of_methodNamed B.named
  have hlk := B.notSynchronized
  have hS : va_S A s.heap s.heap [] := va_S.rf
  have hl := lv_entry ([.ref (ad 0)]) (n := 2) (Nat.le_of_ble_eq_true rfl)
  rw [lg_entry_eq]
  generalize (lg_sl ([.ref (ad 0)]) ++ List.replicate (2 - (lg_sl ([.ref (ad 0)])).length) Slot.unset).toArray = ls at hl ⊢
  have hl : lv_has ls 2 [(0, .ref (ad 0))] := hl
  have hin : ∀ w ∈ wsX10, w ∈ wsX1_moveArm := in_X1_moveArm
  obtain ⟨hB, w5, w6, w7, wo1, w2⟩ := id hW
  have b50 := hB 5 0 (Or.inr ⟨by decide, rfl⟩)
  refine z_iconst hx hb dX1_moveArm_0 ?_
  refine lv_istore_n (lv' := [(1, .int (zI 1)), (0, .ref (ad 0))]) hx hb dX1_moveArm_1 rfl hl (by decide) rfl (fun ls hl => ?_)
  have hloop2 : ∀ (n : Nat) (d : Int), (1 ≤ d ∧ d ≤ 4) → ((1 < d → ¬ (0 ≤ S 6 0 - 1 ∧ 0 < S 4 (S 6 0 - 1)) ∧ ¬ (S 6 0 + 1 < 4 ∧ 0 < S 4 (S 6 0 + 1))) ∧ (2 < d → ¬ (0 ≤ S 6 0 - 2 ∧ 0 < S 4 (S 6 0 - 2)) ∧ ¬ (S 6 0 + 2 < 4 ∧ 0 < S 4 (S 6 0 + 2))) ∧ (3 < d → ¬ (0 ≤ S 6 0 - 3 ∧ 0 < S 4 (S 6 0 - 3)) ∧ ¬ (S 6 0 + 3 < 4 ∧ 0 < S 4 (S 6 0 + 3)))) → (4 - d < (n : Int)) → ∀ (H : Heap) (locs : List Loc), va_P (dC, dI) vwCl (tW_X1 ad cI S) H → va_S A s.heap H locs → ∀ ls : Array Slot, lv_has ls 2 [(1, .int (zI d)), (0, .ref (ad 0))] → W p l e (headSpec wsX1_moveArm ({ frames := 0, cells := 0, slots := 0, locals := 0 })).room s m ([.ref (ad 0)] : List Value).toArray below meth c H locs 0 0 (MQ below (zQv (dC, dI) vwCl (tW_X1 ad cI (mvArmS S)) A) ([.ref (ad 0)] : List Value).toArray s 0 0 A) (F0 m 2 ls []) := by
    intro n
    induction n with
    | zero =>
      intro d i0 i1 hm
      exfalso
      omega
    | succ n ih =>
      intro d i0 i1 hm H locs hP hS ls hl
      have ih2 := ih
      clear ih
      refine lv_iload_n hx hb dX1_moveArm_2 rfl (lv_at hl 0 rfl) ?_
      refine z_iconst hx hb dX1_moveArm_3 ?_
      refine z_icmp_ge (tgt := 102) hx hb dX1_moveArm_4 (by decide) (by omega) (by omega) (fun c1 => ?_) (fun c1 => ?_)
      · have hd : mvDir S = 0 := by (unfold mvDir; (repeat' split) <;> omega)
        exact z_vret hx hb hr hlk hP hS dX1_moveArm_102 (congrArg (tW_X1 ad cI) (by unfold mvArmS; rw [hd, if_pos rfl]))
      · refine lv_aload_n hx hb dX1_moveArm_7 rfl (lv_at hl 1 rfl) ?_
        refine gx_X1_6 hx hb hts hin hown hK hP (hts _ (List.mem_of_getElem? (i := 1) rfl)) dX1_moveArm_8 ?_
        have b1 := hB 6 0 (Or.inr ⟨by decide, rfl⟩)
        refine lv_iload_n hx hb dX1_moveArm_11 rfl (lv_at hl 0 rfl) ?_
        refine z_isub hx hb dX1_moveArm_12 ?_
        refine z_top (y := S 6 0 - d) (by omega) ?_
        refine z_if_lt (tgt := 51) hx hb dX1_moveArm_13 (by decide) (by omega) (fun c2 => ?_) (fun c2 => ?_)
        · refine lv_aload_n hx hb dX1_moveArm_51 rfl (lv_at hl 1 rfl) ?_
          refine gx_X1_6 hx hb hts hin hown hK hP (hts _ (List.mem_of_getElem? (i := 1) rfl)) dX1_moveArm_52 ?_
          have b2 := hB 6 0 (Or.inr ⟨by decide, rfl⟩)
          refine lv_iload_n hx hb dX1_moveArm_55 rfl (lv_at hl 0 rfl) ?_
          refine z_iadd hx hb dX1_moveArm_56 ?_
          refine z_top (y := S 6 0 + d) (by omega) ?_
          refine z_iconst hx hb dX1_moveArm_57 ?_
          refine z_icmp_ge (tgt := 96) hx hb dX1_moveArm_58 (by decide) (by omega) (by omega) (fun c3 => ?_) (fun c3 => ?_)
          · refine z_iinc (lv' := [(1, .int (zI (d + 1))), (0, .ref (ad 0))]) hx hb dX1_moveArm_96 hl (k := 0) rfl (by decide) (by rw [show (d : Int) + (1) = (d + 1) from by omega]; rfl) (fun ls hl => ?_)
            refine lv_goto (tgt := 2) hx hb dX1_moveArm_99 (by decide) ?_
            exact ih2 (d + 1) (by omega) (by rcases (show d = 1 ∨ d = 2 ∨ d = 3 by omega) with rfl | rfl | rfl <;> omega) (by omega) _ _ hP hS ls (lv_sub hl [0, 1] rfl)
          · refine lv_aload_n hx hb dX1_moveArm_61 rfl (lv_at hl 1 rfl) ?_
            refine gx_X1_4 hx hb hts hin hown hK hP (hts _ (List.mem_of_getElem? (i := 2) rfl)) dX1_moveArm_62 ?_
            refine lv_aload_n hx hb dX1_moveArm_65 rfl (lv_at hl 1 rfl) ?_
            refine gx_X1_6 hx hb hts hin hown hK hP (hts _ (List.mem_of_getElem? (i := 1) rfl)) dX1_moveArm_66 ?_
            have b3 := hB 6 0 (Or.inr ⟨by decide, rfl⟩)
            refine lv_iload_n hx hb dX1_moveArm_69 rfl (lv_at hl 0 rfl) ?_
            refine z_iadd hx hb dX1_moveArm_70 ?_
            refine z_top (y := S 6 0 + d) (by omega) ?_
            refine ld_X1_4 (v := S 4 (S 6 0 + d)) hx hb hK hP (by omega) rfl dX1_moveArm_71 ?_
            have b4 := hB 4 (S 6 0 + d) (Or.inl (by decide))
            refine z_if_le (tgt := 96) hx hb dX1_moveArm_72 (by decide) (by omega) (fun c4 => ?_) (fun c4 => ?_)
            · refine z_iinc (lv' := [(1, .int (zI (d + 1))), (0, .ref (ad 0))]) hx hb dX1_moveArm_96 hl (k := 0) rfl (by decide) (by rw [show (d : Int) + (1) = (d + 1) from by omega]; rfl) (fun ls hl => ?_)
              refine lv_goto (tgt := 2) hx hb dX1_moveArm_99 (by decide) ?_
              exact ih2 (d + 1) (by omega) (by rcases (show d = 1 ∨ d = 2 ∨ d = 3 by omega) with rfl | rfl | rfl <;> omega) (by omega) _ _ hP hS ls (lv_sub hl [0, 1] rfl)
            · refine lv_aload_n hx hb dX1_moveArm_75 rfl (lv_at hl 1 rfl) ?_
              refine lv_dup hx hb dX1_moveArm_76 rfl ?_
              refine gx_X1_6 hx hb hts hin hown hK hP (hts _ (List.mem_of_getElem? (i := 1) rfl)) dX1_moveArm_77 ?_
              have b5 := hB 6 0 (Or.inr ⟨by decide, rfl⟩)
              refine z_iconst hx hb dX1_moveArm_80 ?_
              refine z_iadd hx hb dX1_moveArm_81 ?_
              refine z_top (y := S 6 0 + 1) (by omega) ?_
              refine px_X1_6 hx hb hts hin hown hK hP hD hS (hts _ (List.mem_of_getElem? (i := 1) rfl)) dX1_moveArm_82 (fun H locs hP hS => ?_)
              refine lv_aload_n hx hb dX1_moveArm_85 rfl (lv_at hl 1 rfl) ?_
              refine lv_dup hx hb dX1_moveArm_86 rfl ?_
              refine gx_X1_10 hx hb hts hin hown hK hP (hts _ (List.mem_of_getElem? (i := 3) rfl)) dX1_moveArm_87 ?_
              refine z_top (y := S 10 0) (rfl) ?_
              refine z_iconst hx hb dX1_moveArm_90 ?_
              refine z_iadd hx hb dX1_moveArm_91 ?_
              refine z_top (y := S 10 0 + 1) (by omega) ?_
              refine px_X1_10 hx hb hts hin hown hK hP hD hS (hts _ (List.mem_of_getElem? (i := 3) rfl)) dX1_moveArm_92 (fun H locs hP hS => ?_)
              have hd : mvDir S = 1 := by (unfold mvDir; rcases (show d = 1 ∨ d = 2 ∨ d = 3 by omega) with rfl | rfl | rfl <;> (repeat' split) <;> omega)
              exact z_vret hx hb hr hlk hP hS dX1_moveArm_95 (congrArg (tW_X1 ad cI) (by unfold mvArmS; rw [hd, if_neg (by decide)]))
        · refine lv_aload_n hx hb dX1_moveArm_16 rfl (lv_at hl 1 rfl) ?_
          refine gx_X1_4 hx hb hts hin hown hK hP (hts _ (List.mem_of_getElem? (i := 2) rfl)) dX1_moveArm_17 ?_
          refine lv_aload_n hx hb dX1_moveArm_20 rfl (lv_at hl 1 rfl) ?_
          refine gx_X1_6 hx hb hts hin hown hK hP (hts _ (List.mem_of_getElem? (i := 1) rfl)) dX1_moveArm_21 ?_
          have b7 := hB 6 0 (Or.inr ⟨by decide, rfl⟩)
          refine lv_iload_n hx hb dX1_moveArm_24 rfl (lv_at hl 0 rfl) ?_
          refine z_isub hx hb dX1_moveArm_25 ?_
          refine z_top (y := S 6 0 - d) (by omega) ?_
          refine ld_X1_4 (v := S 4 (S 6 0 - d)) hx hb hK hP (by omega) rfl dX1_moveArm_26 ?_
          have b8 := hB 4 (S 6 0 - d) (Or.inl (by decide))
          refine z_if_le (tgt := 51) hx hb dX1_moveArm_27 (by decide) (by omega) (fun c5 => ?_) (fun c5 => ?_)
          · refine lv_aload_n hx hb dX1_moveArm_51 rfl (lv_at hl 1 rfl) ?_
            refine gx_X1_6 hx hb hts hin hown hK hP (hts _ (List.mem_of_getElem? (i := 1) rfl)) dX1_moveArm_52 ?_
            have b9 := hB 6 0 (Or.inr ⟨by decide, rfl⟩)
            refine lv_iload_n hx hb dX1_moveArm_55 rfl (lv_at hl 0 rfl) ?_
            refine z_iadd hx hb dX1_moveArm_56 ?_
            refine z_top (y := S 6 0 + d) (by omega) ?_
            refine z_iconst hx hb dX1_moveArm_57 ?_
            refine z_icmp_ge (tgt := 96) hx hb dX1_moveArm_58 (by decide) (by omega) (by omega) (fun c6 => ?_) (fun c6 => ?_)
            · refine z_iinc (lv' := [(1, .int (zI (d + 1))), (0, .ref (ad 0))]) hx hb dX1_moveArm_96 hl (k := 0) rfl (by decide) (by rw [show (d : Int) + (1) = (d + 1) from by omega]; rfl) (fun ls hl => ?_)
              refine lv_goto (tgt := 2) hx hb dX1_moveArm_99 (by decide) ?_
              exact ih2 (d + 1) (by omega) (by rcases (show d = 1 ∨ d = 2 ∨ d = 3 by omega) with rfl | rfl | rfl <;> omega) (by omega) _ _ hP hS ls (lv_sub hl [0, 1] rfl)
            · refine lv_aload_n hx hb dX1_moveArm_61 rfl (lv_at hl 1 rfl) ?_
              refine gx_X1_4 hx hb hts hin hown hK hP (hts _ (List.mem_of_getElem? (i := 2) rfl)) dX1_moveArm_62 ?_
              refine lv_aload_n hx hb dX1_moveArm_65 rfl (lv_at hl 1 rfl) ?_
              refine gx_X1_6 hx hb hts hin hown hK hP (hts _ (List.mem_of_getElem? (i := 1) rfl)) dX1_moveArm_66 ?_
              have b10 := hB 6 0 (Or.inr ⟨by decide, rfl⟩)
              refine lv_iload_n hx hb dX1_moveArm_69 rfl (lv_at hl 0 rfl) ?_
              refine z_iadd hx hb dX1_moveArm_70 ?_
              refine z_top (y := S 6 0 + d) (by omega) ?_
              refine ld_X1_4 (v := S 4 (S 6 0 + d)) hx hb hK hP (by omega) rfl dX1_moveArm_71 ?_
              have b11 := hB 4 (S 6 0 + d) (Or.inl (by decide))
              refine z_if_le (tgt := 96) hx hb dX1_moveArm_72 (by decide) (by omega) (fun c7 => ?_) (fun c7 => ?_)
              · refine z_iinc (lv' := [(1, .int (zI (d + 1))), (0, .ref (ad 0))]) hx hb dX1_moveArm_96 hl (k := 0) rfl (by decide) (by rw [show (d : Int) + (1) = (d + 1) from by omega]; rfl) (fun ls hl => ?_)
                refine lv_goto (tgt := 2) hx hb dX1_moveArm_99 (by decide) ?_
                exact ih2 (d + 1) (by omega) (by rcases (show d = 1 ∨ d = 2 ∨ d = 3 by omega) with rfl | rfl | rfl <;> omega) (by omega) _ _ hP hS ls (lv_sub hl [0, 1] rfl)
              · refine lv_aload_n hx hb dX1_moveArm_75 rfl (lv_at hl 1 rfl) ?_
                refine lv_dup hx hb dX1_moveArm_76 rfl ?_
                refine gx_X1_6 hx hb hts hin hown hK hP (hts _ (List.mem_of_getElem? (i := 1) rfl)) dX1_moveArm_77 ?_
                have b12 := hB 6 0 (Or.inr ⟨by decide, rfl⟩)
                refine z_iconst hx hb dX1_moveArm_80 ?_
                refine z_iadd hx hb dX1_moveArm_81 ?_
                refine z_top (y := S 6 0 + 1) (by omega) ?_
                refine px_X1_6 hx hb hts hin hown hK hP hD hS (hts _ (List.mem_of_getElem? (i := 1) rfl)) dX1_moveArm_82 (fun H locs hP hS => ?_)
                refine lv_aload_n hx hb dX1_moveArm_85 rfl (lv_at hl 1 rfl) ?_
                refine lv_dup hx hb dX1_moveArm_86 rfl ?_
                refine gx_X1_10 hx hb hts hin hown hK hP (hts _ (List.mem_of_getElem? (i := 3) rfl)) dX1_moveArm_87 ?_
                refine z_top (y := S 10 0) (rfl) ?_
                refine z_iconst hx hb dX1_moveArm_90 ?_
                refine z_iadd hx hb dX1_moveArm_91 ?_
                refine z_top (y := S 10 0 + 1) (by omega) ?_
                refine px_X1_10 hx hb hts hin hown hK hP hD hS (hts _ (List.mem_of_getElem? (i := 3) rfl)) dX1_moveArm_92 (fun H locs hP hS => ?_)
                have hd : mvDir S = 1 := by (unfold mvDir; rcases (show d = 1 ∨ d = 2 ∨ d = 3 by omega) with rfl | rfl | rfl <;> (repeat' split) <;> omega)
                exact z_vret hx hb hr hlk hP hS dX1_moveArm_95 (congrArg (tW_X1 ad cI) (by unfold mvArmS; rw [hd, if_neg (by decide)]))
          · refine lv_aload_n hx hb dX1_moveArm_30 rfl (lv_at hl 1 rfl) ?_
            refine lv_dup hx hb dX1_moveArm_31 rfl ?_
            refine gx_X1_6 hx hb hts hin hown hK hP (hts _ (List.mem_of_getElem? (i := 1) rfl)) dX1_moveArm_32 ?_
            have b14 := hB 6 0 (Or.inr ⟨by decide, rfl⟩)
            refine z_iconst hx hb dX1_moveArm_35 ?_
            refine z_isub hx hb dX1_moveArm_36 ?_
            refine z_top (y := S 6 0 - 1) (by omega) ?_
            refine px_X1_6 hx hb hts hin hown hK hP hD hS (hts _ (List.mem_of_getElem? (i := 1) rfl)) dX1_moveArm_37 (fun H locs hP hS => ?_)
            refine lv_aload_n hx hb dX1_moveArm_40 rfl (lv_at hl 1 rfl) ?_
            refine lv_dup hx hb dX1_moveArm_41 rfl ?_
            refine gx_X1_10 hx hb hts hin hown hK hP (hts _ (List.mem_of_getElem? (i := 3) rfl)) dX1_moveArm_42 ?_
            refine z_top (y := S 10 0) (rfl) ?_
            refine z_iconst hx hb dX1_moveArm_45 ?_
            refine z_iadd hx hb dX1_moveArm_46 ?_
            refine z_top (y := S 10 0 + 1) (by omega) ?_
            refine px_X1_10 hx hb hts hin hown hK hP hD hS (hts _ (List.mem_of_getElem? (i := 3) rfl)) dX1_moveArm_47 (fun H locs hP hS => ?_)
            have hd : mvDir S = -1 := by (unfold mvDir; rcases (show d = 1 ∨ d = 2 ∨ d = 3 by omega) with rfl | rfl | rfl <;> (repeat' split) <;> omega)
            exact z_vret hx hb hr hlk hP hS dX1_moveArm_50 (congrArg (tW_X1 ad cI) (by unfold mvArmS; rw [hd, if_neg (by decide), show S 6 0 + -1 = S 6 0 - 1 from by omega]))
  exact hloop2 ((4 - 1 : Int) + 1).toNat 1 (by omega) (by omega) (by omega) _ _ hP hS ls (lv_sub hl [0, 1] rfl)
theorem in_X1_doTick : ∀ w ∈ wsX10, w ∈ wsX1_doTick := fun w h => List.mem_cons_of_mem _ (List.mem_append_right _ h)
set_option maxHeartbeats 4000000 in
set_option maxRecDepth 100000 in
theorem k_X1_doTick (l : Launch) (dC : Nat → ClassId) (dI : Nat → Nat → Nat) (cI cQ : ClassId) (A : Nat → Prop) (ad : Nat → Nat) (S : Nat → Int → Int) (hD : ∀ S, va_D A (tW_X1 ad cI S)) (h0 : WF S) (h1 : WF (forgS S)) (h2 : 0 < S 4 (S 6 0) → WF (useHdS (forgS S) 0)) : Met l yX1_doTick wsX1_doTick ({ frames := 3, cells := 0, slots := 0, locals := 77 }) (zPc (dC, dI) vwCl (zT cI cQ) (tW_X1 ad cI S) [.ref (ad 0)]) (zQv (dC, dI) vwCl (tW_X1 ad cI (doTickS S)) A) 0 0 A := by
  refine Met.ofW (cc := cX1_doTick) (maxL := 1) (ret := none) (by decide) rfl ?_
  intro p e s m args below meth c s₁ B hml hv
  obtain ⟨rfl, hP, hK⟩ := hv
  have hx := B.exec
  have hb := B.bytes
  have hr := B.returns
  have hts := atoms_spec (ws := wsX1_doTick) B.pre
  have hown : s.vm.findClass RX1 = some m.cls := findClass_of_methodNamed B.named
  have hlk := B.notSynchronized
  have hS : va_S A s.heap s.heap [] := va_S.rf
  have hl := lv_entry ([.ref (ad 0)]) (n := 1) (Nat.le_of_ble_eq_true rfl)
  rw [lg_entry_eq]
  generalize (lg_sl ([.ref (ad 0)]) ++ List.replicate (1 - (lg_sl ([.ref (ad 0)])).length) Slot.unset).toArray = ls at hl ⊢
  have hl : lv_has ls 1 [(0, .ref (ad 0))] := hl
  have hin : ∀ w ∈ wsX10, w ∈ wsX1_doTick := in_X1_doTick
  obtain ⟨hB, w5, w6, w7, wo1, w2⟩ := id h0
  refine lv_aload_n hx hb dX1_doTick_0 rfl (lv_at hl 0 rfl) ?_
  refine z_callv (va_runV (As := []) (rest := []) ⟨hx, hb, hml, hown, hts⟩ (k_X1_forgetWritten l dC dI cI cQ A ad S hD) (cwV 0 hts gX1_doTick_X1_forgetWritten rfl rfl rfl (by decide +kernel) ⟨Nat.le_of_ble_eq_true rfl, Nat.le_of_ble_eq_true rfl⟩) (z_preV hK hP (ci := 1) (q0 := 0) rfl rfl rfl) rfl rfl hl.1 rfl (lv_room (Nat.le_of_ble_eq_true rfl)) dX1_doTick_1 ⟨Nat.zero_le _, Nat.zero_le _⟩) hS (fun _ h => h) (fun H locs hP hS _ _ => ?_)
  refine lv_aload_n hx hb dX1_doTick_4 rfl (lv_at hl 0 rfl) ?_
  refine gx_X1_4 hx hb hts hin hown hK hP (hts _ (List.mem_of_getElem? (i := 1) rfl)) dX1_doTick_5 ?_
  refine lv_aload_n hx hb dX1_doTick_8 rfl (lv_at hl 0 rfl) ?_
  refine gx_X1_6 hx hb hts hin hown hK hP (hts _ (List.mem_of_getElem? (i := 2) rfl)) dX1_doTick_9 ?_
  refine z_top (y := S 6 0) (rfl) ?_
  have b1 := hB 6 0 (Or.inr ⟨by decide, rfl⟩)
  refine ld_X1_4 (v := S 4 (S 6 0)) hx hb hK hP (by omega) rfl dX1_doTick_12 ?_
  have b2 := hB 4 (S 6 0) (Or.inl (by decide))
  refine z_if_le (tgt := 29) hx hb dX1_doTick_13 (by decide) (by omega) (fun c1 => ?_) (fun c1 => ?_)
  · refine lv_aload_n hx hb dX1_doTick_29 rfl (lv_at hl 0 rfl) ?_
    refine z_callv (va_runV (As := []) (rest := []) ⟨hx, hb, hml, hown, hts⟩ (k_X1_moveArm l dC dI cI cQ A ad (forgS S) hD (by exact h1)) (cwV 0 hts gX1_doTick_X1_moveArm rfl rfl rfl (by decide +kernel) ⟨Nat.le_of_ble_eq_true rfl, Nat.le_of_ble_eq_true rfl⟩) (z_preV hK hP (ci := 1) (q0 := 0) rfl rfl rfl) rfl rfl hl.1 rfl (lv_room (Nat.le_of_ble_eq_true rfl)) dX1_doTick_30 ⟨Nat.zero_le _, Nat.zero_le _⟩) hS (fun _ h => h) (fun H locs hP hS _ _ => ?_)
    refine lv_aload_n hx hb dX1_doTick_33 rfl (lv_at hl 0 rfl) ?_
    refine lv_dup hx hb dX1_doTick_34 rfl ?_
    refine gx_X1_5 hx hb hts hin hown hK hP (hts _ (List.mem_of_getElem? (i := 3) rfl)) dX1_doTick_35 ?_
    refine z_iconst hx hb dX1_doTick_38 ?_
    refine z_iadd hx hb dX1_doTick_39 ?_
    refine z_top (y := (mvArmS (forgS S)) 5 0 + 1) (by omega) ?_
    refine px_X1_5 hx hb hts hin hown hK hP hD hS (hts _ (List.mem_of_getElem? (i := 3) rfl)) dX1_doTick_40 (fun H locs hP hS => ?_)
    exact z_vret hx hb hr hlk hP hS dX1_doTick_43 (congrArg (tW_X1 ad cI) (by unfold doTickS doTickH; first | rw [if_pos (by omega)] | rw [if_neg (by omega)]))
  · refine lv_aload_n hx hb dX1_doTick_16 rfl (lv_at hl 0 rfl) ?_
    refine z_iconst hx hb dX1_doTick_17 ?_
    refine z_callv (va_runV (As := [.int (zI 0)]) (rest := []) ⟨hx, hb, hml, hown, hts⟩ (k_X1_useHead l dC dI cI cQ A ad (forgS S) hD 0 (by first | exact h1 | exact h2 (by omega)) (by omega)) (cwV 1 hts gX1_doTick_X1_useHead rfl rfl rfl (by decide +kernel) ⟨Nat.le_of_ble_eq_true rfl, Nat.le_of_ble_eq_true rfl⟩) (z_preV hK hP (ci := 1) (q0 := 0) rfl rfl rfl) rfl rfl hl.1 rfl (lv_room (Nat.le_of_ble_eq_true rfl)) dX1_doTick_18 ⟨Nat.zero_le _, Nat.zero_le _⟩) hS (fun _ h => h) (fun H locs hP hS _ _ => ?_)
    refine lv_aload_n hx hb dX1_doTick_21 rfl (lv_at hl 0 rfl) ?_
    refine z_iconst hx hb dX1_doTick_22 ?_
    refine z_callv (va_runV (As := [.int (zI 1)]) (rest := []) ⟨hx, hb, hml, hown, hts⟩ (k_X1_useHead l dC dI cI cQ A ad (useHdS (forgS S) 0) hD 1 (by first | exact h1 | exact h2 (by omega)) (by omega)) (cwV 1 hts gX1_doTick_X1_useHead rfl rfl rfl (by decide +kernel) ⟨Nat.le_of_ble_eq_true rfl, Nat.le_of_ble_eq_true rfl⟩) (z_preV hK hP (ci := 1) (q0 := 0) rfl rfl rfl) rfl rfl hl.1 rfl (lv_room (Nat.le_of_ble_eq_true rfl)) dX1_doTick_23 ⟨Nat.zero_le _, Nat.zero_le _⟩) hS (fun _ h => h) (fun H locs hP hS _ _ => ?_)
    refine lv_goto (tgt := 33) hx hb dX1_doTick_26 (by decide) ?_
    refine lv_aload_n hx hb dX1_doTick_33 rfl (lv_at hl 0 rfl) ?_
    refine lv_dup hx hb dX1_doTick_34 rfl ?_
    refine gx_X1_5 hx hb hts hin hown hK hP (hts _ (List.mem_of_getElem? (i := 3) rfl)) dX1_doTick_35 ?_
    refine z_iconst hx hb dX1_doTick_38 ?_
    refine z_iadd hx hb dX1_doTick_39 ?_
    refine z_top (y := (useHdS (useHdS (forgS S) 0) 1) 5 0 + 1) (by omega) ?_
    refine px_X1_5 hx hb hts hin hown hK hP hD hS (hts _ (List.mem_of_getElem? (i := 3) rfl)) dX1_doTick_40 (fun H locs hP hS => ?_)
    exact z_vret hx hb hr hlk hP hS dX1_doTick_43 (congrArg (tW_X1 ad cI) (by unfold doTickS doTickH; first | rw [if_pos (by omega)] | rw [if_neg (by omega)]))
theorem in_X1_letPass : ∀ w ∈ wsX10, w ∈ wsX1_letPass := fun w h => List.mem_cons_of_mem _ (List.mem_append_right _ h)
set_option maxHeartbeats 4000000 in
set_option maxRecDepth 100000 in
theorem k_X1_letPass (l : Launch) (dC : Nat → ClassId) (dI : Nat → Nat → Nat) (cI cQ : ClassId) (A : Nat → Prop) (ad : Nat → Nat) (S : Nat → Int → Int) (hD : ∀ S, va_D A (tW_X1 ad cI S)) (ticks : Int) (hW : WF S) (q0 : -2147483648 ≤ ticks ∧ ticks < 2147483648) (hall : (1 ≤ ticks ∧ ticks ≤ 200) ∧ S 5 0 + ticks ≤ 20000 → ∀ k : Int, 0 ≤ k → k < ticks → WF (itZ doTickS k S) ∧ WF (forgS (itZ doTickS k S)) ∧ (0 < itZ doTickS k S 4 (itZ doTickS k S 6 0) → WF (useHdS (forgS (itZ doTickS k S)) 0))) : Met l yX1_letPass wsX1_letPass ({ frames := 4, cells := 0, slots := 0, locals := 97 }) (zPc (dC, dI) vwCl (zT cI cQ) (tW_X1 ad cI S) [.ref (ad 0), .int (zI ticks)]) (zQi (dC, dI) vwCl (tW_X1 ad cI (letPassS S ticks)) (letPassR S ticks) A) 0 0 A := by
  refine Met.ofW (cc := cX1_letPass) (maxL := 4) (ret := (some .int)) (by decide) rfl ?_
  intro p e s m args below meth c s₁ B hml hv
  obtain ⟨rfl, hP, hK⟩ := hv
  have hx := B.exec
  have hb := B.bytes
  have hr := B.returns
  have hts := atoms_spec (ws := wsX1_letPass) B.pre
  have hown : s.vm.findClass RX1 = some m.cls := findClass_of_methodNamed B.named
  have hlk := B.notSynchronized
  have hS : va_S A s.heap s.heap [] := va_S.rf
  have hl := lv_entry ([.ref (ad 0), .int (zI ticks)]) (n := 4) (Nat.le_of_ble_eq_true rfl)
  rw [lg_entry_eq]
  generalize (lg_sl ([.ref (ad 0), .int (zI ticks)]) ++ List.replicate (4 - (lg_sl ([.ref (ad 0), .int (zI ticks)])).length) Slot.unset).toArray = ls at hl ⊢
  have hl : lv_has ls 4 [(0, .ref (ad 0)), (1, .int (zI ticks))] := hl
  have hin : ∀ w ∈ wsX10, w ∈ wsX1_letPass := in_X1_letPass
  obtain ⟨hB, w5, w6, w7, wo1, w2⟩ := id hW
  have b50 := hB 5 0 (Or.inr ⟨by decide, rfl⟩)
  refine lv_iload_n hx hb dX1_letPass_0 rfl (lv_at hl 1 rfl) ?_
  refine z_iconst hx hb dX1_letPass_1 ?_
  refine z_icmp_lt (tgt := 12) hx hb dX1_letPass_2 (by decide) (by omega) (by omega) (fun c1 => ?_) (fun c1 => ?_)
  · refine z_iconst hx hb dX1_letPass_12 ?_
    exact z_iret hx hb hr hlk hP hS dX1_letPass_13 (by unfold letPassR; first | rw [if_pos (by omega), if_pos (by omega)] | rw [if_pos (by omega), if_neg (by omega)] | rw [if_neg (by omega)]) (congrArg (tW_X1 ad cI) (by unfold letPassS; first | rw [if_pos (by omega)] | rw [if_neg (by omega)]))
  · refine lv_iload_n hx hb dX1_letPass_5 rfl (lv_at hl 1 rfl) ?_
    refine z_sipush (z := 200) hx hb dX1_letPass_6 (by decide +kernel) ?_
    refine z_icmp_le (tgt := 14) hx hb dX1_letPass_9 (by decide) (by omega) (by omega) (fun c2 => ?_) (fun c2 => ?_)
    · refine lv_aload_n hx hb dX1_letPass_14 rfl (lv_at hl 0 rfl) ?_
      refine gx_X1_5 hx hb hts hin hown hK hP (hts _ (List.mem_of_getElem? (i := 1) rfl)) dX1_letPass_15 ?_
      have b1 := hB 5 0 (Or.inr ⟨by decide, rfl⟩)
      refine lv_iload_n hx hb dX1_letPass_18 rfl (lv_at hl 1 rfl) ?_
      refine z_iadd hx hb dX1_letPass_19 ?_
      refine z_top (y := S 5 0 + ticks) (by omega) ?_
      refine z_sipush (z := 20000) hx hb dX1_letPass_20 (by decide +kernel) ?_
      refine z_icmp_le (tgt := 29) hx hb dX1_letPass_23 (by decide) (by omega) (by omega) (fun c3 => ?_) (fun c3 => ?_)
      · refine lv_aload_n hx hb dX1_letPass_29 rfl (lv_at hl 0 rfl) ?_
        refine gx_X1_8 hx hb hts hin hown hK hP (hts _ (List.mem_of_getElem? (i := 2) rfl)) dX1_letPass_30 ?_
        have b2 := hB 8 0 (Or.inr ⟨by decide, rfl⟩)
        refine lv_istore_n (lv' := [(2, .int (zI (S 8 0))), (0, .ref (ad 0)), (1, .int (zI ticks))]) hx hb dX1_letPass_33 rfl hl (by decide) rfl (fun ls hl => ?_)
        refine z_iconst hx hb dX1_letPass_34 ?_
        refine lv_istore_n (lv' := [(3, .int (zI 0)), (2, .int (zI (S 8 0))), (0, .ref (ad 0)), (1, .int (zI ticks))]) hx hb dX1_letPass_35 rfl hl (by decide) rfl (fun ls hl => ?_)
        have hloop36 : ∀ (n : Nat) (passed : Int) (S1 : Nat → Int → Int), (0 ≤ passed ∧ passed ≤ ticks) → (S1 = itZ doTickS passed S) → (ticks - passed < (n : Int)) → ∀ (H : Heap) (locs : List Loc), va_P (dC, dI) vwCl (tW_X1 ad cI S1) H → va_S A s.heap H locs → ∀ ls : Array Slot, lv_has ls 4 [(3, .int (zI passed)), (2, .int (zI (S 8 0))), (0, .ref (ad 0)), (1, .int (zI ticks))] → W p l e (headSpec wsX1_letPass ({ frames := 4, cells := 0, slots := 0, locals := 97 })).room s m ([.ref (ad 0), .int (zI ticks)] : List Value).toArray below meth c H locs 0 0 (MQ below (zQi (dC, dI) vwCl (tW_X1 ad cI (letPassS S ticks)) (letPassR S ticks) A) ([.ref (ad 0), .int (zI ticks)] : List Value).toArray s 0 0 A) (F0 m 36 ls []) := by
          intro n
          induction n with
          | zero =>
            intro passed S1 i0 i1 hm
            exfalso
            omega
          | succ n ih =>
            intro passed S1 i0 i1 hm H locs hP hS ls hl
            have ih36 := ih
            clear ih
            subst i1
            refine lv_iload_n hx hb dX1_letPass_36 rfl (lv_at hl 0 rfl) ?_
            refine lv_iload_n hx hb dX1_letPass_37 rfl (lv_at hl 3 rfl) ?_
            refine z_icmp_ge (tgt := 51) hx hb dX1_letPass_38 (by decide) (by omega) (by omega) (fun c4 => ?_) (fun c4 => ?_)
            · refine lv_iload_n hx hb dX1_letPass_51 rfl (lv_at hl 1 rfl) ?_
              refine lv_aload_n hx hb dX1_letPass_52 rfl (lv_at hl 2 rfl) ?_
              refine gx_X1_8 hx hb hts hin hown hK hP (hts _ (List.mem_of_getElem? (i := 2) rfl)) dX1_letPass_53 ?_
              refine z_isub hx hb dX1_letPass_56 ?_
              refine z_top (y := S 8 0 - (itZ doTickS passed S) 8 0) (by omega) ?_
              obtain rfl : ticks = passed := by omega
              exact z_iret hx hb hr hlk hP hS dX1_letPass_57 (by unfold letPassR; first | rw [if_pos (by omega), if_pos (by omega)] | rw [if_pos (by omega), if_neg (by omega)] | rw [if_neg (by omega)]) (congrArg (tW_X1 ad cI) (by unfold letPassS; first | rw [if_pos (by omega)] | rw [if_neg (by omega)]))
            · refine lv_aload_n hx hb dX1_letPass_41 rfl (lv_at hl 2 rfl) ?_
              refine z_callv (va_runV (As := []) (rest := []) ⟨hx, hb, hml, hown, hts⟩ (k_X1_doTick l dC dI cI cQ A ad (itZ doTickS passed S) hD (by exact (hall (by omega) passed (by omega) (by omega)).1) (by exact (hall (by omega) passed (by omega) (by omega)).2.1) (by exact (hall (by omega) passed (by omega) (by omega)).2.2)) (cwV 0 hts gX1_letPass_X1_doTick rfl rfl rfl (by decide +kernel) ⟨Nat.le_of_ble_eq_true rfl, Nat.le_of_ble_eq_true rfl⟩) (z_preV hK hP (ci := 1) (q0 := 0) rfl rfl rfl) rfl rfl hl.1 rfl (lv_room (Nat.le_of_ble_eq_true rfl)) dX1_letPass_42 ⟨Nat.zero_le _, Nat.zero_le _⟩) hS (fun _ h => h) (fun H locs hP hS _ _ => ?_)
              refine z_iinc (lv' := [(3, .int (zI (passed + 1))), (2, .int (zI (S 8 0))), (0, .ref (ad 0)), (1, .int (zI ticks))]) hx hb dX1_letPass_45 hl (k := 0) rfl (by decide) (by rw [show (passed : Int) + (1) = (passed + 1) from by omega]; rfl) (fun ls hl => ?_)
              refine lv_goto (tgt := 36) hx hb dX1_letPass_48 (by decide) ?_
              exact ih36 (passed + 1) (doTickS (itZ doTickS passed S)) (by omega) (by exact (itZ_succ _ _ (by omega)).symm) (by omega) _ _ hP hS ls (lv_sub hl [0, 1, 2, 3] rfl)
        exact hloop36 ((ticks - 0 : Int) + 1).toNat 0 S (by omega) (by rfl) (by omega) _ _ hP hS ls (lv_sub hl [0, 1, 2, 3] rfl)
      · refine z_bipush (z := (-2)) hx hb dX1_letPass_26 (by decide +kernel) ?_
        exact z_iret hx hb hr hlk hP hS dX1_letPass_28 (by unfold letPassR; first | rw [if_pos (by omega), if_pos (by omega)] | rw [if_pos (by omega), if_neg (by omega)] | rw [if_neg (by omega)]) (congrArg (tW_X1 ad cI) (by unfold letPassS; first | rw [if_pos (by omega)] | rw [if_neg (by omega)]))
    · refine z_iconst hx hb dX1_letPass_12 ?_
      exact z_iret hx hb hr hlk hP hS dX1_letPass_13 (by unfold letPassR; first | rw [if_pos (by omega), if_pos (by omega)] | rw [if_pos (by omega), if_neg (by omega)] | rw [if_neg (by omega)]) (congrArg (tW_X1 ad cI) (by unfold letPassS; first | rw [if_pos (by omega)] | rw [if_neg (by omega)]))
theorem in_X1_dropWork : ∀ w ∈ wsX10, w ∈ wsX1_dropWork := fun w h => List.mem_cons_of_mem _ (List.mem_append_right _ h)
set_option maxHeartbeats 4000000 in
set_option maxRecDepth 100000 in
theorem k_X1_dropWork (l : Launch) (dC : Nat → ClassId) (dI : Nat → Nat → Nat) (cI cQ : ClassId) (A : Nat → Prop) (ad : Nat → Nat) (S : Nat → Int → Int) (hD : ∀ S, va_D A (tW_X1 ad cI S)) (hW : WF S) : Met l yX1_dropWork wsX1_dropWork ({ frames := 2, cells := 0, slots := 0, locals := 43 }) (zPc (dC, dI) vwCl (zT cI cQ) (tW_X1 ad cI S) [.ref (ad 0)]) (zQv (dC, dI) vwCl (tW_X1 ad cI (dropWS S)) A) 0 0 A := by
  refine Met.ofW (cc := cX1_dropWork) (maxL := 2) (ret := none) (by decide) rfl ?_
  intro p e s m args below meth c s₁ B hml hv
  obtain ⟨rfl, hP, hK⟩ := hv
  have hx := B.exec
  have hb := B.bytes
  have hr := B.returns
  have hts := atoms_spec (ws := wsX1_dropWork) B.pre
  have hown : s.vm.findClass RX1 = some m.cls := findClass_of_methodNamed B.named
  have hlk := B.notSynchronized
  have hS : va_S A s.heap s.heap [] := va_S.rf
  have hl := lv_entry ([.ref (ad 0)]) (n := 2) (Nat.le_of_ble_eq_true rfl)
  rw [lg_entry_eq]
  generalize (lg_sl ([.ref (ad 0)]) ++ List.replicate (2 - (lg_sl ([.ref (ad 0)])).length) Slot.unset).toArray = ls at hl ⊢
  have hl : lv_has ls 2 [(0, .ref (ad 0))] := hl
  have hin : ∀ w ∈ wsX10, w ∈ wsX1_dropWork := in_X1_dropWork
  obtain ⟨hB, w5, w6, w7, wo1, w2⟩ := id hW
  have b50 := hB 5 0 (Or.inr ⟨by decide, rfl⟩)
  refine z_iconst hx hb dX1_dropWork_0 ?_
  refine lv_istore_n (lv' := [(1, .int (zI 0)), (0, .ref (ad 0))]) hx hb dX1_dropWork_1 rfl hl (by decide) rfl (fun ls hl => ?_)
  have hloop2 : ∀ (n : Nat) (order : Int) (S1 : Nat → Int → Int), (0 ≤ order ∧ order ≤ S 7 0) → (S1 = dropOS S order) → (S 7 0 - order < (n : Int)) → ∀ (H : Heap) (locs : List Loc), va_P (dC, dI) vwCl (tW_X1 ad cI S1) H → va_S A s.heap H locs → ∀ ls : Array Slot, lv_has ls 2 [(1, .int (zI order)), (0, .ref (ad 0))] → W p l e (headSpec wsX1_dropWork ({ frames := 2, cells := 0, slots := 0, locals := 43 })).room s m ([.ref (ad 0)] : List Value).toArray below meth c H locs 0 0 (MQ below (zQv (dC, dI) vwCl (tW_X1 ad cI (dropWS S)) A) ([.ref (ad 0)] : List Value).toArray s 0 0 A) (F0 m 2 ls []) := by
    intro n
    induction n with
    | zero =>
      intro order S1 i0 i1 hm
      exfalso
      omega
    | succ n ih =>
      intro order S1 i0 i1 hm H locs hP hS ls hl
      have ih2 := ih
      clear ih
      subst i1
      have fo : dropOS S order 1 (8 * order + 3) = S 1 (8 * order + 3) := dropO_at S order
      have b9 := hB 1 (8 * order + 3) (Or.inl (by decide))
      refine lv_iload_n hx hb dX1_dropWork_2 rfl (lv_at hl 0 rfl) ?_
      refine lv_aload_n hx hb dX1_dropWork_3 rfl (lv_at hl 1 rfl) ?_
      refine gx_X1_7 hx hb hts hin hown hK hP (hts _ (List.mem_of_getElem? (i := 1) rfl)) dX1_dropWork_4 ?_
      refine z_top (y := S 7 0) (rfl) ?_
      have b1 := hB 7 0 (Or.inr ⟨by decide, rfl⟩)
      refine z_icmp_ge (tgt := 36) hx hb dX1_dropWork_7 (by decide) (by omega) (by omega) (fun c1 => ?_) (fun c1 => ?_)
      · refine lv_aload_n hx hb dX1_dropWork_36 rfl (lv_at hl 1 rfl) ?_
        refine z_iconst hx hb dX1_dropWork_37 ?_
        refine px_X1_8 hx hb hts hin hown hK hP hD hS (hts _ (List.mem_of_getElem? (i := 3) rfl)) dX1_dropWork_38 (fun H locs hP hS => ?_)
        refine z_iconst hx hb dX1_dropWork_41 ?_
        refine lv_istore_n (lv' := [(1, .int (zI 0)), (0, .ref (ad 0))]) hx hb dX1_dropWork_42 rfl hl (by decide) rfl (fun ls hl => ?_)
        have hloop43 : ∀ (n : Nat) (block : Int) (S1 : Nat → Int → Int), (0 ≤ block ∧ block ≤ 48) → (S1 = dropBS (up2 (dropOS S order) 8 0 0) block) → (48 - block < (n : Int)) → ∀ (H : Heap) (locs : List Loc), va_P (dC, dI) vwCl (tW_X1 ad cI S1) H → va_S A s.heap H locs → ∀ ls : Array Slot, lv_has ls 2 [(1, .int (zI block)), (0, .ref (ad 0))] → W p l e (headSpec wsX1_dropWork ({ frames := 2, cells := 0, slots := 0, locals := 43 })).room s m ([.ref (ad 0)] : List Value).toArray below meth c H locs 0 0 (MQ below (zQv (dC, dI) vwCl (tW_X1 ad cI (dropWS S)) A) ([.ref (ad 0)] : List Value).toArray s 0 0 A) (F0 m 43 ls []) := by
          intro n
          induction n with
          | zero =>
            intro block S1 i0 i1 hm
            exfalso
            omega
          | succ n ih =>
            intro block S1 i0 i1 hm H locs hP hS ls hl
            have ih43 := ih
            clear ih
            subst i1
            refine lv_iload_n hx hb dX1_dropWork_43 rfl (lv_at hl 0 rfl) ?_
            refine z_bipush (z := 48) hx hb dX1_dropWork_44 (by decide +kernel) ?_
            refine z_icmp_ge (tgt := 88) hx hb dX1_dropWork_46 (by decide) (by omega) (by omega) (fun c2 => ?_) (fun c2 => ?_)
            · refine z_iconst hx hb dX1_dropWork_88 ?_
              refine lv_istore_n (lv' := [(1, .int (zI 0)), (0, .ref (ad 0))]) hx hb dX1_dropWork_89 rfl hl (by decide) rfl (fun ls hl => ?_)
              have hloop90 : ∀ (n : Nat) (track : Int) (S1 : Nat → Int → Int), (0 ≤ track ∧ track ≤ 4) → (S1 = dropTS (dropBS (up2 (dropOS S order) 8 0 0) block) track) → (4 - track < (n : Int)) → ∀ (H : Heap) (locs : List Loc), va_P (dC, dI) vwCl (tW_X1 ad cI S1) H → va_S A s.heap H locs → ∀ ls : Array Slot, lv_has ls 2 [(1, .int (zI track)), (0, .ref (ad 0))] → W p l e (headSpec wsX1_dropWork ({ frames := 2, cells := 0, slots := 0, locals := 43 })).room s m ([.ref (ad 0)] : List Value).toArray below meth c H locs 0 0 (MQ below (zQv (dC, dI) vwCl (tW_X1 ad cI (dropWS S)) A) ([.ref (ad 0)] : List Value).toArray s 0 0 A) (F0 m 90 ls []) := by
                intro n
                induction n with
                | zero =>
                  intro track S1 i0 i1 hm
                  exfalso
                  omega
                | succ n ih =>
                  intro track S1 i0 i1 hm H locs hP hS ls hl
                  have ih90 := ih
                  clear ih
                  subst i1
                  refine lv_iload_n hx hb dX1_dropWork_90 rfl (lv_at hl 0 rfl) ?_
                  refine z_iconst hx hb dX1_dropWork_91 ?_
                  refine z_icmp_ge (tgt := 108) hx hb dX1_dropWork_92 (by decide) (by omega) (by omega) (fun c3 => ?_) (fun c3 => ?_)
                  · obtain rfl : order = S 7 0 := by omega
                    obtain rfl : block = 48 := by omega
                    obtain rfl : track = 4 := by omega
                    exact z_vret hx hb hr hlk hP hS dX1_dropWork_108 (congrArg (tW_X1 ad cI) (by rfl))
                  · refine lv_aload_n hx hb dX1_dropWork_95 rfl (lv_at hl 1 rfl) ?_
                    refine gx_X1_4 hx hb hts hin hown hK hP (hts _ (List.mem_of_getElem? (i := 6) rfl)) dX1_dropWork_96 ?_
                    refine lv_iload_n hx hb dX1_dropWork_99 rfl (lv_at hl 0 rfl) ?_
                    refine z_iconst hx hb dX1_dropWork_100 ?_
                    refine st_X1_4 hx hb hK hP hD hS (by omega) dX1_dropWork_101 (fun H locs hP hS => ?_)
                    refine z_iinc (lv' := [(1, .int (zI (track + 1))), (0, .ref (ad 0))]) hx hb dX1_dropWork_102 hl (k := 0) rfl (by decide) (by rw [show (track : Int) + (1) = (track + 1) from by omega]; rfl) (fun ls hl => ?_)
                    refine lv_goto (tgt := 90) hx hb dX1_dropWork_105 (by decide) ?_
                    exact ih90 (track + 1) (up2 (dropTS (dropBS (up2 (dropOS S order) 8 0 0) block) track) 4 track 0) (by omega) (by exact dropT_succ _ (by omega)) (by omega) _ _ hP hS ls (lv_sub hl [0, 1] rfl)
              exact hloop90 ((4 - 0 : Int) + 1).toNat 0 (dropBS (up2 (dropOS S order) 8 0 0) block) (by omega) (by exact (dropT_0 _).symm) (by omega) _ _ hP hS ls (lv_sub hl [0, 1] rfl)
            · refine lv_aload_n hx hb dX1_dropWork_49 rfl (lv_at hl 1 rfl) ?_
              refine gx_X1_0 hx hb hts hin hown hK hP (hts _ (List.mem_of_getElem? (i := 4) rfl)) dX1_dropWork_50 ?_
              refine z_iconst hx hb dX1_dropWork_53 ?_
              refine lv_iload_n hx hb dX1_dropWork_54 rfl (lv_at hl 0 rfl) ?_
              refine z_calli (va_runS (As := [.int (zI 0), .int (zI block)]) (rest := [.ref (ad 1)]) ⟨hx, hb, hml, hown, hts⟩ (k_X1_cellOf l dC dI cI cQ A (tW_X1 ad cI (dropBS (up2 (dropOS S order) 8 0 0) block)) 0 block) (va_cwS 2 hts gX1_dropWork_X1_cellOf rfl rfl rfl (by decide +kernel) ⟨Nat.le_of_ble_eq_true rfl, Nat.le_of_ble_eq_true rfl⟩) (z_preS hK hP) rfl rfl hl.1 rfl (lv_room (Nat.le_of_ble_eq_true rfl)) dX1_dropWork_55 ⟨Nat.zero_le _, Nat.zero_le _⟩) hS (fun _ h => h) (fun H locs hP hS _ _ => ?_)
              refine z_top (y := 4 * block) (by omega) ?_
              refine z_iconst hx hb dX1_dropWork_58 ?_
              refine z_iadd hx hb dX1_dropWork_59 ?_
              refine z_top (y := 4 * block + 3) (by omega) ?_
              refine z_iconst hx hb dX1_dropWork_60 ?_
              refine st_X1_0 hx hb hK hP hD hS (by omega) dX1_dropWork_61 (fun H locs hP hS => ?_)
              refine lv_aload_n hx hb dX1_dropWork_62 rfl (lv_at hl 1 rfl) ?_
              refine gx_X1_0 hx hb hts hin hown hK hP (hts _ (List.mem_of_getElem? (i := 4) rfl)) dX1_dropWork_63 ?_
              refine z_iconst hx hb dX1_dropWork_66 ?_
              refine lv_iload_n hx hb dX1_dropWork_67 rfl (lv_at hl 0 rfl) ?_
              refine z_calli (va_runS (As := [.int (zI 1), .int (zI block)]) (rest := [.ref (ad 1)]) ⟨hx, hb, hml, hown, hts⟩ (k_X1_cellOf l dC dI cI cQ A (tW_X1 ad cI (up2 (dropBS (up2 (dropOS S order) 8 0 0) block) 0 (4 * block + 3) 0)) 1 block) (va_cwS 2 hts gX1_dropWork_X1_cellOf rfl rfl rfl (by decide +kernel) ⟨Nat.le_of_ble_eq_true rfl, Nat.le_of_ble_eq_true rfl⟩) (z_preS hK hP) rfl rfl hl.1 rfl (lv_room (Nat.le_of_ble_eq_true rfl)) dX1_dropWork_68 ⟨Nat.zero_le _, Nat.zero_le _⟩) hS (fun _ h => h) (fun H locs hP hS _ _ => ?_)
              refine z_top (y := 4 * block + 192) (by omega) ?_
              refine z_iconst hx hb dX1_dropWork_71 ?_
              refine z_iadd hx hb dX1_dropWork_72 ?_
              refine z_top (y := 4 * block + 195) (by omega) ?_
              refine z_iconst hx hb dX1_dropWork_73 ?_
              refine st_X1_0 hx hb hK hP hD hS (by omega) dX1_dropWork_74 (fun H locs hP hS => ?_)
              refine lv_aload_n hx hb dX1_dropWork_75 rfl (lv_at hl 1 rfl) ?_
              refine gx_X1_3 hx hb hts hin hown hK hP (hts _ (List.mem_of_getElem? (i := 5) rfl)) dX1_dropWork_76 ?_
              refine lv_iload_n hx hb dX1_dropWork_79 rfl (lv_at hl 0 rfl) ?_
              refine z_iconst hx hb dX1_dropWork_80 ?_
              refine st_X1_3 hx hb hK hP hD hS (by omega) dX1_dropWork_81 (fun H locs hP hS => ?_)
              refine z_iinc (lv' := [(1, .int (zI (block + 1))), (0, .ref (ad 0))]) hx hb dX1_dropWork_82 hl (k := 0) rfl (by decide) (by rw [show (block : Int) + (1) = (block + 1) from by omega]; rfl) (fun ls hl => ?_)
              refine lv_goto (tgt := 43) hx hb dX1_dropWork_85 (by decide) ?_
              exact ih43 (block + 1) (up2 (up2 (up2 (dropBS (up2 (dropOS S order) 8 0 0) block) 0 (4 * block + 3) 0) 0 (4 * block + 195) 0) 3 block 0) (by omega) (by exact dropB_succ _ (by omega)) (by omega) _ _ hP hS ls (lv_sub hl [0, 1] rfl)
        exact hloop43 ((48 - 0 : Int) + 1).toNat 0 (up2 (dropOS S order) 8 0 0) (by omega) (by exact (dropB_0 _).symm) (by omega) _ _ hP hS ls (lv_sub hl [0, 1] rfl)
      · refine lv_aload_n hx hb dX1_dropWork_10 rfl (lv_at hl 1 rfl) ?_
        refine lv_iload_n hx hb dX1_dropWork_11 rfl (lv_at hl 0 rfl) ?_
        refine z_calli (va_runV (As := [.int (zI order)]) (rest := []) ⟨hx, hb, hml, hown, hts⟩ (k_X1_statusOf l dC dI cI cQ A ad (dropOS S order) hD order (by omega)) (cwV 1 hts gX1_dropWork_X1_statusOf rfl rfl rfl (by decide +kernel) ⟨Nat.le_of_ble_eq_true rfl, Nat.le_of_ble_eq_true rfl⟩) (z_preV hK hP (ci := 1) (q0 := 0) rfl rfl rfl) rfl rfl hl.1 rfl (lv_room (Nat.le_of_ble_eq_true rfl)) dX1_dropWork_12 ⟨Nat.zero_le _, Nat.zero_le _⟩) hS (fun _ h => h) (fun H locs hP hS _ _ => ?_)
        refine z_if_ne (tgt := 30) hx hb dX1_dropWork_15 (by decide) (by omega) (fun c4 => ?_) (fun c4 => ?_)
        · refine z_iinc (lv' := [(1, .int (zI (order + 1))), (0, .ref (ad 0))]) hx hb dX1_dropWork_30 hl (k := 0) rfl (by decide) (by rw [show (order : Int) + (1) = (order + 1) from by omega]; rfl) (fun ls hl => ?_)
          refine lv_goto (tgt := 2) hx hb dX1_dropWork_33 (by decide) ?_
          exact ih2 (order + 1) (dropOS S order) (by omega) (by first | exact dropO_set S (by omega) (by omega) | exact dropO_skip S (by omega) (by omega)) (by omega) _ _ hP hS ls (lv_sub hl [0, 1] rfl)
        · refine lv_aload_n hx hb dX1_dropWork_18 rfl (lv_at hl 1 rfl) ?_
          refine gx_X1_1 hx hb hts hin hown hK hP (hts _ (List.mem_of_getElem? (i := 2) rfl)) dX1_dropWork_19 ?_
          refine lv_iload_n hx hb dX1_dropWork_22 rfl (lv_at hl 0 rfl) ?_
          refine z_bipush (z := 8) hx hb dX1_dropWork_23 (by decide +kernel) ?_
          refine z_imul hx hb dX1_dropWork_25 ?_
          refine z_top (y := 8 * order) (by omega) ?_
          refine z_iconst hx hb dX1_dropWork_26 ?_
          refine z_iadd hx hb dX1_dropWork_27 ?_
          refine z_top (y := 8 * order + 3) (by omega) ?_
          refine z_iconst hx hb dX1_dropWork_28 ?_
          refine st_X1_1 hx hb hK hP hD hS (by omega) dX1_dropWork_29 (fun H locs hP hS => ?_)
          refine z_iinc (lv' := [(1, .int (zI (order + 1))), (0, .ref (ad 0))]) hx hb dX1_dropWork_30 hl (k := 0) rfl (by decide) (by rw [show (order : Int) + (1) = (order + 1) from by omega]; rfl) (fun ls hl => ?_)
          refine lv_goto (tgt := 2) hx hb dX1_dropWork_33 (by decide) ?_
          exact ih2 (order + 1) (up2 (dropOS S order) 1 (8 * order + 3) 2) (by omega) (by first | exact dropO_set S (by omega) (by omega) | exact dropO_skip S (by omega) (by omega)) (by omega) _ _ hP hS ls (lv_sub hl [0, 1] rfl)
  exact hloop2 ((S 7 0 - 0 : Int) + 1).toNat 0 S (by omega) (by exact (dropO_0 S).symm) (by omega) _ _ hP hS ls (lv_sub hl [0, 1] rfl)
theorem in_X1_cutPower : ∀ w ∈ wsX10, w ∈ wsX1_cutPower := fun w h => List.mem_cons_of_mem _ (List.mem_append_right _ h)
set_option maxHeartbeats 4000000 in
set_option maxRecDepth 100000 in
theorem k_X1_cutPower (l : Launch) (dC : Nat → ClassId) (dI : Nat → Nat → Nat) (cI cQ : ClassId) (A : Nat → Prop) (ad : Nat → Nat) (S : Nat → Int → Int) (hD : ∀ S, va_D A (tW_X1 ad cI S)) (hW : WF S) (hW2 : ∀ k : Int, 0 ≤ k → k ≤ 2 → WF (ixZ tearS k S)) : Met l yX1_cutPower wsX1_cutPower ({ frames := 3, cells := 0, slots := 0, locals := 64 }) (zPc (dC, dI) vwCl (zT cI cQ) (tW_X1 ad cI S) [.ref (ad 0)]) (zQi (dC, dI) vwCl (tW_X1 ad cI (cutS S)) (cutR S) A) 0 0 A := by
  refine Met.ofW (cc := cX1_cutPower) (maxL := 4) (ret := (some .int)) (by decide) rfl ?_
  intro p e s m args below meth c s₁ B hml hv
  obtain ⟨rfl, hP, hK⟩ := hv
  have hx := B.exec
  have hb := B.bytes
  have hr := B.returns
  have hts := atoms_spec (ws := wsX1_cutPower) B.pre
  have hown : s.vm.findClass RX1 = some m.cls := findClass_of_methodNamed B.named
  have hlk := B.notSynchronized
  have hS : va_S A s.heap s.heap [] := va_S.rf
  have hl := lv_entry ([.ref (ad 0)]) (n := 4) (Nat.le_of_ble_eq_true rfl)
  rw [lg_entry_eq]
  generalize (lg_sl ([.ref (ad 0)]) ++ List.replicate (4 - (lg_sl ([.ref (ad 0)])).length) Slot.unset).toArray = ls at hl ⊢
  have hl : lv_has ls 4 [(0, .ref (ad 0))] := hl
  have hin : ∀ w ∈ wsX10, w ∈ wsX1_cutPower := in_X1_cutPower
  obtain ⟨hB, w5, w6, w7, wo1, w2⟩ := id hW
  have b50 := hB 5 0 (Or.inr ⟨by decide, rfl⟩)
  refine z_iconst hx hb dX1_cutPower_0 ?_
  refine lv_istore_n (lv' := [(1, .int (zI 0)), (0, .ref (ad 0))]) hx hb dX1_cutPower_1 rfl hl (by decide) rfl (fun ls hl => ?_)
  refine z_iconst hx hb dX1_cutPower_2 ?_
  refine lv_istore_n (lv' := [(2, .int (zI 0)), (1, .int (zI 0)), (0, .ref (ad 0))]) hx hb dX1_cutPower_3 rfl hl (by decide) rfl (fun ls hl => ?_)
  have hloop4 : ∀ (n : Nat) (torn side : Int) (S1 : Nat → Int → Int), (0 ≤ side ∧ side ≤ 2) → (S1 = ixZ tearS side S) → (torn = sumZ (tearR S) side) → (2 - side < (n : Int)) → ∀ (H : Heap) (locs : List Loc), va_P (dC, dI) vwCl (tW_X1 ad cI S1) H → va_S A s.heap H locs → ∀ ls : Array Slot, lv_has ls 4 [(2, .int (zI side)), (1, .int (zI torn)), (0, .ref (ad 0))] → W p l e (headSpec wsX1_cutPower ({ frames := 3, cells := 0, slots := 0, locals := 64 })).room s m ([.ref (ad 0)] : List Value).toArray below meth c H locs 0 0 (MQ below (zQi (dC, dI) vwCl (tW_X1 ad cI (cutS S)) (cutR S) A) ([.ref (ad 0)] : List Value).toArray s 0 0 A) (F0 m 4 ls []) := by
    intro n
    induction n with
    | zero =>
      intro torn side S1 i0 i1 i2 hm
      exfalso
      omega
    | succ n ih =>
      intro torn side S1 i0 i1 i2 hm H locs hP hS ls hl
      have ih4 := ih
      clear ih
      subst i1
      have hBt := (hW2 side i0.1 i0.2).1
      have wq := w2 side
      refine lv_iload_n hx hb dX1_cutPower_4 rfl (lv_at hl 0 rfl) ?_
      refine z_iconst hx hb dX1_cutPower_5 ?_
      refine z_icmp_ge (tgt := 50) hx hb dX1_cutPower_6 (by decide) (by omega) (by omega) (fun c1 => ?_) (fun c1 => ?_)
      · refine lv_aload_n hx hb dX1_cutPower_50 rfl (lv_at hl 2 rfl) ?_
        refine z_callv (va_runV (As := []) (rest := []) ⟨hx, hb, hml, hown, hts⟩ (k_X1_dropWork l dC dI cI cQ A ad (ixZ tearS side S) hD (by exact hW2 side i0.1 i0.2)) (cwV 0 hts gX1_cutPower_X1_dropWork rfl rfl rfl (by decide +kernel) ⟨Nat.le_of_ble_eq_true rfl, Nat.le_of_ble_eq_true rfl⟩) (z_preV hK hP (ci := 1) (q0 := 0) rfl rfl rfl) rfl rfl hl.1 rfl (lv_room (Nat.le_of_ble_eq_true rfl)) dX1_cutPower_51 ⟨Nat.zero_le _, Nat.zero_le _⟩) hS (fun _ h => h) (fun H locs hP hS _ _ => ?_)
        refine lv_iload_n hx hb dX1_cutPower_54 rfl (lv_at hl 1 rfl) ?_
        obtain rfl : side = 2 := by omega
        exact z_iret hx hb hr hlk hP hS dX1_cutPower_55 (by exact i2) (congrArg (tW_X1 ad cI) (by rfl))
      · refine lv_aload_n hx hb dX1_cutPower_9 rfl (lv_at hl 2 rfl) ?_
        refine gx_X1_2 hx hb hts hin hown hK hP (hts _ (List.mem_of_getElem? (i := 1) rfl)) dX1_cutPower_10 ?_
        refine lv_iload_n hx hb dX1_cutPower_13 rfl (lv_at hl 0 rfl) ?_
        refine ld_X1_2 (v := (ixZ tearS side S) 2 side) hx hb hK hP (by omega) rfl dX1_cutPower_14 ?_
        have b1 := hBt 2 side (Or.inl (by decide))
        refine z_top (y := S 2 side) (by exact congrFun (tear_2 side S) side) ?_
        refine lv_istore_n (lv' := [(3, .int (zI (S 2 side))), (2, .int (zI side)), (1, .int (zI torn)), (0, .ref (ad 0))]) hx hb dX1_cutPower_15 rfl hl (by decide) rfl (fun ls hl => ?_)
        refine lv_iload_n hx hb dX1_cutPower_16 rfl (lv_at hl 0 rfl) ?_
        refine z_iconst hx hb dX1_cutPower_17 ?_
        refine z_icmp_eq (tgt := 44) hx hb dX1_cutPower_18 (by decide) (by omega) (by omega) (fun c2 => ?_) (fun c2 => ?_)
        · refine z_iinc (lv' := [(2, .int (zI (side + 1))), (3, .int (zI (S 2 side))), (1, .int (zI torn)), (0, .ref (ad 0))]) hx hb dX1_cutPower_44 hl (k := 1) rfl (by decide) (by rw [show (side : Int) + (1) = (side + 1) from by omega]; rfl) (fun ls hl => ?_)
          refine lv_goto (tgt := 4) hx hb dX1_cutPower_47 (by decide) ?_
          exact ih4 torn (side + 1) (ixZ tearS side S) (by omega) (by rw [tear_step S (by omega)]; first | rw [if_pos ⟨by omega, by omega⟩] | rw [if_neg (by omega)]) (by rw [sumZ_succ _ (by omega), ← i2]; unfold tearR; split <;> omega) (by omega) _ _ hP hS ls (lv_sub hl [0, 2, 3] rfl)
        · refine lv_aload_n hx hb dX1_cutPower_21 rfl (lv_at hl 3 rfl) ?_
          refine gx_X1_0 hx hb hts hin hown hK hP (hts _ (List.mem_of_getElem? (i := 2) rfl)) dX1_cutPower_22 ?_
          refine lv_iload_n hx hb dX1_cutPower_25 rfl (lv_at hl 0 rfl) ?_
          refine z_iconst hx hb dX1_cutPower_26 ?_
          refine z_iadd hx hb dX1_cutPower_27 ?_
          refine z_top (y := S 2 side + 2) (by omega) ?_
          refine ld_X1_0 (v := (ixZ tearS side S) 0 (S 2 side + 2)) hx hb hK hP (by omega) rfl dX1_cutPower_28 ?_
          have b2 := hBt 0 (S 2 side + 2) (Or.inl (by decide))
          refine z_if_ne (tgt := 44) hx hb dX1_cutPower_29 (by decide) (by omega) (fun c3 => ?_) (fun c3 => ?_)
          · refine z_iinc (lv' := [(2, .int (zI (side + 1))), (3, .int (zI (S 2 side))), (1, .int (zI torn)), (0, .ref (ad 0))]) hx hb dX1_cutPower_44 hl (k := 1) rfl (by decide) (by rw [show (side : Int) + (1) = (side + 1) from by omega]; rfl) (fun ls hl => ?_)
            refine lv_goto (tgt := 4) hx hb dX1_cutPower_47 (by decide) ?_
            exact ih4 torn (side + 1) (ixZ tearS side S) (by omega) (by rw [tear_step S (by omega)]; first | rw [if_pos ⟨by omega, by omega⟩] | rw [if_neg (by omega)]) (by rw [sumZ_succ _ (by omega), ← i2]; unfold tearR; split <;> omega) (by omega) _ _ hP hS ls (lv_sub hl [0, 2, 3] rfl)
          · refine lv_aload_n hx hb dX1_cutPower_32 rfl (lv_at hl 3 rfl) ?_
            refine gx_X1_0 hx hb hts hin hown hK hP (hts _ (List.mem_of_getElem? (i := 2) rfl)) dX1_cutPower_33 ?_
            refine lv_iload_n hx hb dX1_cutPower_36 rfl (lv_at hl 0 rfl) ?_
            refine z_iconst hx hb dX1_cutPower_37 ?_
            refine z_iadd hx hb dX1_cutPower_38 ?_
            refine z_top (y := S 2 side + 2) (by omega) ?_
            refine z_iconst hx hb dX1_cutPower_39 ?_
            refine st_X1_0 hx hb hK hP hD hS (by omega) dX1_cutPower_40 (fun H locs hP hS => ?_)
            refine z_iinc (lv' := [(1, .int (zI (torn + 1))), (3, .int (zI (S 2 side))), (2, .int (zI side)), (0, .ref (ad 0))]) hx hb dX1_cutPower_41 hl (k := 2) rfl (by decide) (by rw [show (torn : Int) + (1) = (torn + 1) from by omega]; rfl) (fun ls hl => ?_)
            refine z_iinc (lv' := [(2, .int (zI (side + 1))), (1, .int (zI (torn + 1))), (3, .int (zI (S 2 side))), (0, .ref (ad 0))]) hx hb dX1_cutPower_44 hl (k := 2) rfl (by decide) (by rw [show (side : Int) + (1) = (side + 1) from by omega]; rfl) (fun ls hl => ?_)
            refine lv_goto (tgt := 4) hx hb dX1_cutPower_47 (by decide) ?_
            exact ih4 (torn + 1) (side + 1) (up2 (ixZ tearS side S) 0 (S 2 side + 2) 1) (by omega) (by rw [tear_step S (by omega)]; first | rw [if_pos ⟨by omega, by omega⟩] | rw [if_neg (by omega)]) (by rw [sumZ_succ _ (by omega), ← i2]; unfold tearR; split <;> omega) (by omega) _ _ hP hS ls (lv_sub hl [0, 1, 3] rfl)
  exact hloop4 ((2 - 0 : Int) + 1).toNat 0 0 S (by omega) (by rfl) (by rfl) (by omega) _ _ hP hS ls (lv_sub hl [0, 1, 2] rfl)
theorem in_X1_repair : ∀ w ∈ wsX10, w ∈ wsX1_repair := fun w h => List.mem_cons_of_mem _ (List.mem_append_right _ h)
set_option maxHeartbeats 4000000 in
set_option maxRecDepth 100000 in
theorem k_X1_repair (l : Launch) (dC : Nat → ClassId) (dI : Nat → Nat → Nat) (cI cQ : ClassId) (A : Nat → Prop) (ad : Nat → Nat) (S : Nat → Int → Int) (hD : ∀ S, va_D A (tW_X1 ad cI S)) (a b : Int) (hB : zB S) (ha : 0 ≤ a ∧ a ≤ 380) (hb2 : 0 ≤ b ∧ b ≤ 380) : Met l yX1_repair wsX1_repair ({ frames := 2, cells := 0, slots := 0, locals := 45 }) (zPc (dC, dI) vwCl (zT cI cQ) (tW_X1 ad cI S) [.ref (ad 0), .int (zI a), .int (zI b)]) (zQi (dC, dI) vwCl (tW_X1 ad cI (repS S a b)) (repR S a b) A) 0 0 A := by
  refine Met.ofW (cc := cX1_repair) (maxL := 7) (ret := (some .int)) (by decide) rfl ?_
  intro p e s m args below meth c s₁ B hml hv
  obtain ⟨rfl, hP, hK⟩ := hv
  have hx := B.exec
  have hb := B.bytes
  have hr := B.returns
  have hts := atoms_spec (ws := wsX1_repair) B.pre
  have hown : s.vm.findClass RX1 = some m.cls := findClass_of_methodNamed B.named
  have hlk := B.notSynchronized
  have hS : va_S A s.heap s.heap [] := va_S.rf
  have hl := lv_entry ([.ref (ad 0), .int (zI a), .int (zI b)]) (n := 7) (Nat.le_of_ble_eq_true rfl)
  rw [lg_entry_eq]
  generalize (lg_sl ([.ref (ad 0), .int (zI a), .int (zI b)]) ++ List.replicate (7 - (lg_sl ([.ref (ad 0), .int (zI a), .int (zI b)])).length) Slot.unset).toArray = ls at hl ⊢
  have hl : lv_has ls 7 [(0, .ref (ad 0)), (1, .int (zI a)), (2, .int (zI b))] := hl
  have hin : ∀ w ∈ wsX10, w ∈ wsX1_repair := in_X1_repair
  refine lv_aload_n hx hb dX1_repair_0 rfl (lv_at hl 0 rfl) ?_
  refine gx_X1_0 hx hb hts hin hown hK hP (hts _ (List.mem_of_getElem? (i := 1) rfl)) dX1_repair_1 ?_
  refine lv_iload_n hx hb dX1_repair_4 rfl (lv_at hl 1 rfl) ?_
  refine z_iconst hx hb dX1_repair_5 ?_
  refine z_iadd hx hb dX1_repair_6 ?_
  refine ld_X1_0 (v := S 0 (a + 2)) hx hb hK hP (by omega) rfl dX1_repair_7 ?_
  have b1 := hB 0 (a + 2) (Or.inl (by decide))
  refine z_if_eq (tgt := 15) hx hb dX1_repair_8 (by decide) (by omega) (fun c1 => ?_) (fun c1 => ?_)
  · refine z_iconst hx hb dX1_repair_15 ?_
    refine lv_istore_n (lv' := [(3, .int (zI 0)), (0, .ref (ad 0)), (1, .int (zI a)), (2, .int (zI b))]) hx hb dX1_repair_16 rfl hl (by decide) rfl (fun ls hl => ?_)
    refine lv_aload_n hx hb dX1_repair_17 rfl (lv_at hl 1 rfl) ?_
    refine gx_X1_0 hx hb hts hin hown hK hP (hts _ (List.mem_of_getElem? (i := 1) rfl)) dX1_repair_18 ?_
    refine lv_iload_n hx hb dX1_repair_21 rfl (lv_at hl 3 rfl) ?_
    refine z_iconst hx hb dX1_repair_22 ?_
    refine z_iadd hx hb dX1_repair_23 ?_
    refine ld_X1_0 (v := S 0 (b + 2)) hx hb hK hP (by omega) rfl dX1_repair_24 ?_
    have b2 := hB 0 (b + 2) (Or.inl (by decide))
    refine z_if_eq (tgt := 32) hx hb dX1_repair_25 (by decide) (by omega) (fun c2 => ?_) (fun c2 => ?_)
    · refine z_iconst hx hb dX1_repair_32 ?_
      refine lv_istore (lv' := [(4, .int (zI 0)), (3, .int (zI 0)), (0, .ref (ad 0)), (1, .int (zI a)), (2, .int (zI b))]) hx hb dX1_repair_33 hl (by decide) rfl (fun ls hl => ?_)
      refine lv_iload_n hx hb dX1_repair_35 rfl (lv_at hl 1 rfl) ?_
      refine z_if_eq (tgt := 70) hx hb dX1_repair_36 (by decide) (by omega) (fun _ => ?_) (fun q => absurd (by omega) q)
      refine lv_iload_n hx hb dX1_repair_70 rfl (lv_at hl 1 rfl) ?_
      refine z_if_ne (tgt := 83) hx hb dX1_repair_71 (by decide) (by omega) (fun q => absurd q (by omega)) (fun _ => ?_)
      refine lv_iload hx hb dX1_repair_74 (lv_at hl 0 rfl) ?_
      refine z_if_ne (tgt := 83) hx hb dX1_repair_76 (by decide) (by omega) (fun q => absurd q (by omega)) (fun _ => ?_)
      refine z_iconst hx hb dX1_repair_79 ?_
      refine lv_goto (tgt := 84) hx hb dX1_repair_80 (by decide) ?_
      refine lv_istore (lv' := [(5, .int (zI 1)), (4, .int (zI 0)), (3, .int (zI 0)), (0, .ref (ad 0)), (1, .int (zI a)), (2, .int (zI b))]) hx hb dX1_repair_84 hl (by decide) rfl (fun ls hl => ?_)
      refine lv_aload_n hx hb dX1_repair_86 rfl (lv_at hl 3 rfl) ?_
      refine gx_X1_0 hx hb hts hin hown hK hP (hts _ (List.mem_of_getElem? (i := 1) rfl)) dX1_repair_87 ?_
      refine lv_iload_n hx hb dX1_repair_90 rfl (lv_at hl 4 rfl) ?_
      refine z_iconst hx hb dX1_repair_91 ?_
      refine z_iadd hx hb dX1_repair_92 ?_
      refine ld_X1_0 (v := S 0 (a + 1)) hx hb hK hP (by omega) rfl dX1_repair_93 ?_
      have b3 := hB 0 (a + 1) (Or.inl (by decide))
      refine lv_aload_n hx hb dX1_repair_94 rfl (lv_at hl 3 rfl) ?_
      refine gx_X1_0 hx hb hts hin hown hK hP (hts _ (List.mem_of_getElem? (i := 1) rfl)) dX1_repair_95 ?_
      refine lv_iload_n hx hb dX1_repair_98 rfl (lv_at hl 5 rfl) ?_
      refine z_iconst hx hb dX1_repair_99 ?_
      refine z_iadd hx hb dX1_repair_100 ?_
      refine ld_X1_0 (v := S 0 (b + 1)) hx hb hK hP (by omega) rfl dX1_repair_101 ?_
      have b4 := hB 0 (b + 1) (Or.inl (by decide))
      refine z_isub hx hb dX1_repair_102 ?_
      refine z_top (y := S 0 (a + 1) - S 0 (b + 1)) (by omega) ?_
      refine lv_istore (lv' := [(6, .int (zI (S 0 (a + 1) - S 0 (b + 1)))), (5, .int (zI 1)), (4, .int (zI 0)), (3, .int (zI 0)), (0, .ref (ad 0)), (1, .int (zI a)), (2, .int (zI b))]) hx hb dX1_repair_103 hl (by decide) rfl (fun ls hl => ?_)
      refine lv_iload_n hx hb dX1_repair_105 rfl (lv_at hl 3 rfl) ?_
      refine z_if_ne (tgt := 119) hx hb dX1_repair_106 (by decide) (by omega) (fun q => absurd q (by omega)) (fun _ => ?_)
      refine lv_iload hx hb dX1_repair_109 (lv_at hl 1 rfl) ?_
      refine z_if_eq (tgt := 127) hx hb dX1_repair_111 (by decide) (by omega) (fun q => absurd q (by omega)) (fun _ => ?_)
      refine lv_iload hx hb dX1_repair_114 (lv_at hl 0 rfl) ?_
      refine z_if_ge (tgt := 127) hx hb dX1_repair_116 (by decide) (by omega) (fun c8 => ?_) (fun c8 => ?_)
      · refine lv_iload hx hb dX1_repair_127 (lv_at hl 2 rfl) ?_
        refine z_if_ne (tgt := 142) hx hb dX1_repair_129 (by decide) (by omega) (fun q => absurd q (by omega)) (fun _ => ?_)
        refine lv_iload hx hb dX1_repair_132 (lv_at hl 1 rfl) ?_
        refine z_if_eq (tgt := 150) hx hb dX1_repair_134 (by decide) (by omega) (fun q => absurd q (by omega)) (fun _ => ?_)
        refine lv_iload hx hb dX1_repair_137 (lv_at hl 0 rfl) ?_
        refine z_if_le (tgt := 150) hx hb dX1_repair_139 (by decide) (by omega) (fun c11 => ?_) (fun c11 => ?_)
        · refine z_iconst hx hb dX1_repair_150 ?_
          exact z_iret hx hb hr hlk hP hS dX1_repair_151 (by unfold repR; (repeat' split) <;> omega) (congrArg (tW_X1 ad cI) (by unfold repS; (repeat' split) <;> first | (exfalso; omega) | rfl))
        · refine lv_aload_n hx hb dX1_repair_142 rfl (lv_at hl 4 rfl) ?_
          refine lv_iload_n hx hb dX1_repair_143 rfl (lv_at hl 6 rfl) ?_
          refine lv_iload_n hx hb dX1_repair_144 rfl (lv_at hl 5 rfl) ?_
          refine z_callv (va_runV (As := [.int (zI b), .int (zI a)]) (rest := []) ⟨hx, hb, hml, hown, hts⟩ (k_X1_takeOver l dC dI cI cQ A ad S hD b a (by omega) (by omega)) (cwV 2 hts gX1_repair_X1_takeOver rfl rfl rfl (by decide +kernel) ⟨Nat.le_of_ble_eq_true rfl, Nat.le_of_ble_eq_true rfl⟩) (z_preV hK hP (ci := 1) (q0 := 0) rfl rfl rfl) rfl rfl hl.1 rfl (lv_room (Nat.le_of_ble_eq_true rfl)) dX1_repair_145 ⟨Nat.zero_le _, Nat.zero_le _⟩) hS (fun _ h => h) (fun H locs hP hS _ _ => ?_)
          refine z_iconst hx hb dX1_repair_148 ?_
          exact z_iret hx hb hr hlk hP hS dX1_repair_149 (by unfold repR; (repeat' split) <;> omega) (congrArg (tW_X1 ad cI) (by unfold repS; (repeat' split) <;> first | (exfalso; omega) | rfl))
      · refine lv_aload_n hx hb dX1_repair_119 rfl (lv_at hl 4 rfl) ?_
        refine lv_iload_n hx hb dX1_repair_120 rfl (lv_at hl 5 rfl) ?_
        refine lv_iload_n hx hb dX1_repair_121 rfl (lv_at hl 6 rfl) ?_
        refine z_callv (va_runV (As := [.int (zI a), .int (zI b)]) (rest := []) ⟨hx, hb, hml, hown, hts⟩ (k_X1_takeOver l dC dI cI cQ A ad S hD a b (by omega) (by omega)) (cwV 2 hts gX1_repair_X1_takeOver rfl rfl rfl (by decide +kernel) ⟨Nat.le_of_ble_eq_true rfl, Nat.le_of_ble_eq_true rfl⟩) (z_preV hK hP (ci := 1) (q0 := 0) rfl rfl rfl) rfl rfl hl.1 rfl (lv_room (Nat.le_of_ble_eq_true rfl)) dX1_repair_122 ⟨Nat.zero_le _, Nat.zero_le _⟩) hS (fun _ h => h) (fun H locs hP hS _ _ => ?_)
        refine z_iconst hx hb dX1_repair_125 ?_
        exact z_iret hx hb hr hlk hP hS dX1_repair_126 (by unfold repR; (repeat' split) <;> omega) (congrArg (tW_X1 ad cI) (by unfold repS; (repeat' split) <;> first | (exfalso; omega) | rfl))
    · refine z_iconst hx hb dX1_repair_28 ?_
      refine lv_goto (tgt := 33) hx hb dX1_repair_29 (by decide) ?_
      refine lv_istore (lv' := [(4, .int (zI 1)), (3, .int (zI 0)), (0, .ref (ad 0)), (1, .int (zI a)), (2, .int (zI b))]) hx hb dX1_repair_33 hl (by decide) rfl (fun ls hl => ?_)
      refine lv_iload_n hx hb dX1_repair_35 rfl (lv_at hl 1 rfl) ?_
      refine z_if_eq (tgt := 70) hx hb dX1_repair_36 (by decide) (by omega) (fun _ => ?_) (fun q => absurd (by omega) q)
      refine lv_iload_n hx hb dX1_repair_70 rfl (lv_at hl 1 rfl) ?_
      refine z_if_ne (tgt := 83) hx hb dX1_repair_71 (by decide) (by omega) (fun q => absurd q (by omega)) (fun _ => ?_)
      refine lv_iload hx hb dX1_repair_74 (lv_at hl 0 rfl) ?_
      refine z_if_ne (tgt := 83) hx hb dX1_repair_76 (by decide) (by omega) (fun _ => ?_) (fun q => absurd (by omega) q)
      refine z_iconst hx hb dX1_repair_83 ?_
      refine lv_istore (lv' := [(5, .int (zI 0)), (4, .int (zI 1)), (3, .int (zI 0)), (0, .ref (ad 0)), (1, .int (zI a)), (2, .int (zI b))]) hx hb dX1_repair_84 hl (by decide) rfl (fun ls hl => ?_)
      refine lv_aload_n hx hb dX1_repair_86 rfl (lv_at hl 3 rfl) ?_
      refine gx_X1_0 hx hb hts hin hown hK hP (hts _ (List.mem_of_getElem? (i := 1) rfl)) dX1_repair_87 ?_
      refine lv_iload_n hx hb dX1_repair_90 rfl (lv_at hl 4 rfl) ?_
      refine z_iconst hx hb dX1_repair_91 ?_
      refine z_iadd hx hb dX1_repair_92 ?_
      refine ld_X1_0 (v := S 0 (a + 1)) hx hb hK hP (by omega) rfl dX1_repair_93 ?_
      have b5 := hB 0 (a + 1) (Or.inl (by decide))
      refine lv_aload_n hx hb dX1_repair_94 rfl (lv_at hl 3 rfl) ?_
      refine gx_X1_0 hx hb hts hin hown hK hP (hts _ (List.mem_of_getElem? (i := 1) rfl)) dX1_repair_95 ?_
      refine lv_iload_n hx hb dX1_repair_98 rfl (lv_at hl 5 rfl) ?_
      refine z_iconst hx hb dX1_repair_99 ?_
      refine z_iadd hx hb dX1_repair_100 ?_
      refine ld_X1_0 (v := S 0 (b + 1)) hx hb hK hP (by omega) rfl dX1_repair_101 ?_
      have b6 := hB 0 (b + 1) (Or.inl (by decide))
      refine z_isub hx hb dX1_repair_102 ?_
      refine z_top (y := S 0 (a + 1) - S 0 (b + 1)) (by omega) ?_
      refine lv_istore (lv' := [(6, .int (zI (S 0 (a + 1) - S 0 (b + 1)))), (5, .int (zI 0)), (4, .int (zI 1)), (3, .int (zI 0)), (0, .ref (ad 0)), (1, .int (zI a)), (2, .int (zI b))]) hx hb dX1_repair_103 hl (by decide) rfl (fun ls hl => ?_)
      refine lv_iload_n hx hb dX1_repair_105 rfl (lv_at hl 3 rfl) ?_
      refine z_if_ne (tgt := 119) hx hb dX1_repair_106 (by decide) (by omega) (fun q => absurd q (by omega)) (fun _ => ?_)
      refine lv_iload hx hb dX1_repair_109 (lv_at hl 1 rfl) ?_
      refine z_if_eq (tgt := 127) hx hb dX1_repair_111 (by decide) (by omega) (fun _ => ?_) (fun q => absurd (by omega) q)
      refine lv_iload hx hb dX1_repair_127 (lv_at hl 2 rfl) ?_
      refine z_if_ne (tgt := 142) hx hb dX1_repair_129 (by decide) (by omega) (fun _ => ?_) (fun q => absurd (by omega) q)
      refine lv_aload_n hx hb dX1_repair_142 rfl (lv_at hl 4 rfl) ?_
      refine lv_iload_n hx hb dX1_repair_143 rfl (lv_at hl 6 rfl) ?_
      refine lv_iload_n hx hb dX1_repair_144 rfl (lv_at hl 5 rfl) ?_
      refine z_callv (va_runV (As := [.int (zI b), .int (zI a)]) (rest := []) ⟨hx, hb, hml, hown, hts⟩ (k_X1_takeOver l dC dI cI cQ A ad S hD b a (by omega) (by omega)) (cwV 2 hts gX1_repair_X1_takeOver rfl rfl rfl (by decide +kernel) ⟨Nat.le_of_ble_eq_true rfl, Nat.le_of_ble_eq_true rfl⟩) (z_preV hK hP (ci := 1) (q0 := 0) rfl rfl rfl) rfl rfl hl.1 rfl (lv_room (Nat.le_of_ble_eq_true rfl)) dX1_repair_145 ⟨Nat.zero_le _, Nat.zero_le _⟩) hS (fun _ h => h) (fun H locs hP hS _ _ => ?_)
      refine z_iconst hx hb dX1_repair_148 ?_
      exact z_iret hx hb hr hlk hP hS dX1_repair_149 (by unfold repR; (repeat' split) <;> omega) (congrArg (tW_X1 ad cI) (by unfold repS; (repeat' split) <;> first | (exfalso; omega) | rfl))
  · refine z_iconst hx hb dX1_repair_11 ?_
    refine lv_goto (tgt := 16) hx hb dX1_repair_12 (by decide) ?_
    refine lv_istore_n (lv' := [(3, .int (zI 1)), (0, .ref (ad 0)), (1, .int (zI a)), (2, .int (zI b))]) hx hb dX1_repair_16 rfl hl (by decide) rfl (fun ls hl => ?_)
    refine lv_aload_n hx hb dX1_repair_17 rfl (lv_at hl 1 rfl) ?_
    refine gx_X1_0 hx hb hts hin hown hK hP (hts _ (List.mem_of_getElem? (i := 1) rfl)) dX1_repair_18 ?_
    refine lv_iload_n hx hb dX1_repair_21 rfl (lv_at hl 3 rfl) ?_
    refine z_iconst hx hb dX1_repair_22 ?_
    refine z_iadd hx hb dX1_repair_23 ?_
    refine ld_X1_0 (v := S 0 (b + 2)) hx hb hK hP (by omega) rfl dX1_repair_24 ?_
    have b7 := hB 0 (b + 2) (Or.inl (by decide))
    refine z_if_eq (tgt := 32) hx hb dX1_repair_25 (by decide) (by omega) (fun c18 => ?_) (fun c18 => ?_)
    · refine z_iconst hx hb dX1_repair_32 ?_
      refine lv_istore (lv' := [(4, .int (zI 0)), (3, .int (zI 1)), (0, .ref (ad 0)), (1, .int (zI a)), (2, .int (zI b))]) hx hb dX1_repair_33 hl (by decide) rfl (fun ls hl => ?_)
      refine lv_iload_n hx hb dX1_repair_35 rfl (lv_at hl 1 rfl) ?_
      refine z_if_eq (tgt := 70) hx hb dX1_repair_36 (by decide) (by omega) (fun q => absurd q (by omega)) (fun _ => ?_)
      refine lv_iload hx hb dX1_repair_39 (lv_at hl 0 rfl) ?_
      refine z_if_eq (tgt := 70) hx hb dX1_repair_41 (by decide) (by omega) (fun _ => ?_) (fun q => absurd (by omega) q)
      refine lv_iload_n hx hb dX1_repair_70 rfl (lv_at hl 1 rfl) ?_
      refine z_if_ne (tgt := 83) hx hb dX1_repair_71 (by decide) (by omega) (fun _ => ?_) (fun q => absurd (by omega) q)
      refine z_iconst hx hb dX1_repair_83 ?_
      refine lv_istore (lv' := [(5, .int (zI 0)), (4, .int (zI 0)), (3, .int (zI 1)), (0, .ref (ad 0)), (1, .int (zI a)), (2, .int (zI b))]) hx hb dX1_repair_84 hl (by decide) rfl (fun ls hl => ?_)
      refine lv_aload_n hx hb dX1_repair_86 rfl (lv_at hl 3 rfl) ?_
      refine gx_X1_0 hx hb hts hin hown hK hP (hts _ (List.mem_of_getElem? (i := 1) rfl)) dX1_repair_87 ?_
      refine lv_iload_n hx hb dX1_repair_90 rfl (lv_at hl 4 rfl) ?_
      refine z_iconst hx hb dX1_repair_91 ?_
      refine z_iadd hx hb dX1_repair_92 ?_
      refine ld_X1_0 (v := S 0 (a + 1)) hx hb hK hP (by omega) rfl dX1_repair_93 ?_
      have b8 := hB 0 (a + 1) (Or.inl (by decide))
      refine lv_aload_n hx hb dX1_repair_94 rfl (lv_at hl 3 rfl) ?_
      refine gx_X1_0 hx hb hts hin hown hK hP (hts _ (List.mem_of_getElem? (i := 1) rfl)) dX1_repair_95 ?_
      refine lv_iload_n hx hb dX1_repair_98 rfl (lv_at hl 5 rfl) ?_
      refine z_iconst hx hb dX1_repair_99 ?_
      refine z_iadd hx hb dX1_repair_100 ?_
      refine ld_X1_0 (v := S 0 (b + 1)) hx hb hK hP (by omega) rfl dX1_repair_101 ?_
      have b9 := hB 0 (b + 1) (Or.inl (by decide))
      refine z_isub hx hb dX1_repair_102 ?_
      refine z_top (y := S 0 (a + 1) - S 0 (b + 1)) (by omega) ?_
      refine lv_istore (lv' := [(6, .int (zI (S 0 (a + 1) - S 0 (b + 1)))), (5, .int (zI 0)), (4, .int (zI 0)), (3, .int (zI 1)), (0, .ref (ad 0)), (1, .int (zI a)), (2, .int (zI b))]) hx hb dX1_repair_103 hl (by decide) rfl (fun ls hl => ?_)
      refine lv_iload_n hx hb dX1_repair_105 rfl (lv_at hl 3 rfl) ?_
      refine z_if_ne (tgt := 119) hx hb dX1_repair_106 (by decide) (by omega) (fun _ => ?_) (fun q => absurd (by omega) q)
      refine lv_aload_n hx hb dX1_repair_119 rfl (lv_at hl 4 rfl) ?_
      refine lv_iload_n hx hb dX1_repair_120 rfl (lv_at hl 5 rfl) ?_
      refine lv_iload_n hx hb dX1_repair_121 rfl (lv_at hl 6 rfl) ?_
      refine z_callv (va_runV (As := [.int (zI a), .int (zI b)]) (rest := []) ⟨hx, hb, hml, hown, hts⟩ (k_X1_takeOver l dC dI cI cQ A ad S hD a b (by omega) (by omega)) (cwV 2 hts gX1_repair_X1_takeOver rfl rfl rfl (by decide +kernel) ⟨Nat.le_of_ble_eq_true rfl, Nat.le_of_ble_eq_true rfl⟩) (z_preV hK hP (ci := 1) (q0 := 0) rfl rfl rfl) rfl rfl hl.1 rfl (lv_room (Nat.le_of_ble_eq_true rfl)) dX1_repair_122 ⟨Nat.zero_le _, Nat.zero_le _⟩) hS (fun _ h => h) (fun H locs hP hS _ _ => ?_)
      refine z_iconst hx hb dX1_repair_125 ?_
      exact z_iret hx hb hr hlk hP hS dX1_repair_126 (by unfold repR; (repeat' split) <;> omega) (congrArg (tW_X1 ad cI) (by unfold repS; (repeat' split) <;> first | (exfalso; omega) | rfl))
    · refine z_iconst hx hb dX1_repair_28 ?_
      refine lv_goto (tgt := 33) hx hb dX1_repair_29 (by decide) ?_
      refine lv_istore (lv' := [(4, .int (zI 1)), (3, .int (zI 1)), (0, .ref (ad 0)), (1, .int (zI a)), (2, .int (zI b))]) hx hb dX1_repair_33 hl (by decide) rfl (fun ls hl => ?_)
      refine lv_iload_n hx hb dX1_repair_35 rfl (lv_at hl 1 rfl) ?_
      refine z_if_eq (tgt := 70) hx hb dX1_repair_36 (by decide) (by omega) (fun q => absurd q (by omega)) (fun _ => ?_)
      refine lv_iload hx hb dX1_repair_39 (lv_at hl 0 rfl) ?_
      refine z_if_eq (tgt := 70) hx hb dX1_repair_41 (by decide) (by omega) (fun q => absurd q (by omega)) (fun _ => ?_)
      refine lv_aload_n hx hb dX1_repair_44 rfl (lv_at hl 2 rfl) ?_
      refine lv_iload_n hx hb dX1_repair_45 rfl (lv_at hl 3 rfl) ?_
      refine z_iconst hx hb dX1_repair_46 ?_
      refine z_iconst hx hb dX1_repair_47 ?_
      refine z_callv (va_runV (As := [.int (zI a), .int (zI 0), .int (zI 0)]) (rest := []) ⟨hx, hb, hml, hown, hts⟩ (k_X1_setWhole l dC dI cI cQ A ad S hD a 0 0 (by omega)) (cwV 3 hts gX1_repair_X1_setWhole rfl rfl rfl (by decide +kernel) ⟨Nat.le_of_ble_eq_true rfl, Nat.le_of_ble_eq_true rfl⟩) (z_preV hK hP (ci := 1) (q0 := 0) rfl rfl rfl) rfl rfl hl.1 rfl (lv_room (Nat.le_of_ble_eq_true rfl)) dX1_repair_48 ⟨Nat.zero_le _, Nat.zero_le _⟩) hS (fun _ h => h) (fun H locs hP hS _ _ => ?_)
      refine lv_aload_n hx hb dX1_repair_51 rfl (lv_at hl 2 rfl) ?_
      refine lv_iload_n hx hb dX1_repair_52 rfl (lv_at hl 4 rfl) ?_
      refine z_iconst hx hb dX1_repair_53 ?_
      refine z_iconst hx hb dX1_repair_54 ?_
      refine z_callv (va_runV (As := [.int (zI b), .int (zI 0), .int (zI 0)]) (rest := []) ⟨hx, hb, hml, hown, hts⟩ (k_X1_setWhole l dC dI cI cQ A ad (setWS S a 0 0) hD b 0 0 (by omega)) (cwV 3 hts gX1_repair_X1_setWhole rfl rfl rfl (by decide +kernel) ⟨Nat.le_of_ble_eq_true rfl, Nat.le_of_ble_eq_true rfl⟩) (z_preV hK hP (ci := 1) (q0 := 0) rfl rfl rfl) rfl rfl hl.1 rfl (lv_room (Nat.le_of_ble_eq_true rfl)) dX1_repair_55 ⟨Nat.zero_le _, Nat.zero_le _⟩) hS (fun _ h => h) (fun H locs hP hS _ _ => ?_)
      refine lv_aload_n hx hb dX1_repair_58 rfl (lv_at hl 2 rfl) ?_
      refine lv_dup hx hb dX1_repair_59 rfl ?_
      refine gx_X1_9 hx hb hts hin hown hK hP (hts _ (List.mem_of_getElem? (i := 2) rfl)) dX1_repair_60 ?_
      refine z_top (y := S 9 0) (rfl) ?_
      refine z_iconst hx hb dX1_repair_63 ?_
      refine z_iadd hx hb dX1_repair_64 ?_
      refine z_top (y := S 9 0 + 1) (by omega) ?_
      refine px_X1_9 hx hb hts hin hown hK hP hD hS (hts _ (List.mem_of_getElem? (i := 2) rfl)) dX1_repair_65 (fun H locs hP hS => ?_)
      refine z_iconst hx hb dX1_repair_68 ?_
      exact z_iret hx hb hr hlk hP hS dX1_repair_69 (by unfold repR; (repeat' split) <;> omega) (congrArg (tW_X1 ad cI) (by unfold repS; (repeat' split) <;> first | (exfalso; omega) | rfl))
theorem in_X1_repairBlocks : ∀ w ∈ wsX10, w ∈ wsX1_repairBlocks := fun w h => List.mem_cons_of_mem _ (List.mem_append_right _ h)
set_option maxHeartbeats 4000000 in
set_option maxRecDepth 100000 in
theorem k_X1_repairBlocks (l : Launch) (dC : Nat → ClassId) (dI : Nat → Nat → Nat) (cI cQ : ClassId) (A : Nat → Prop) (ad : Nat → Nat) (S : Nat → Int → Int) (hD : ∀ S, va_D A (tW_X1 ad cI S)) (hall : ∀ b : Int, 0 ≤ b → b < 48 → zB (ixZ (fun b U => repS U (4 * b) (4 * b + 192)) b S)) : Met l yX1_repairBlocks wsX1_repairBlocks ({ frames := 3, cells := 0, slots := 0, locals := 71 }) (zPc (dC, dI) vwCl (zT cI cQ) (tW_X1 ad cI S) [.ref (ad 0)]) (zQi (dC, dI) vwCl (tW_X1 ad cI (repairS S)) (repBR S) A) 0 0 A := by
  refine Met.ofW (cc := cX1_repairBlocks) (maxL := 3) (ret := (some .int)) (by decide) rfl ?_
  intro p e s m args below meth c s₁ B hml hv
  obtain ⟨rfl, hP, hK⟩ := hv
  have hx := B.exec
  have hb := B.bytes
  have hr := B.returns
  have hts := atoms_spec (ws := wsX1_repairBlocks) B.pre
  have hown : s.vm.findClass RX1 = some m.cls := findClass_of_methodNamed B.named
  have hlk := B.notSynchronized
  have hS : va_S A s.heap s.heap [] := va_S.rf
  have hl := lv_entry ([.ref (ad 0)]) (n := 3) (Nat.le_of_ble_eq_true rfl)
  rw [lg_entry_eq]
  generalize (lg_sl ([.ref (ad 0)]) ++ List.replicate (3 - (lg_sl ([.ref (ad 0)])).length) Slot.unset).toArray = ls at hl ⊢
  have hl : lv_has ls 3 [(0, .ref (ad 0))] := hl
  have hin : ∀ w ∈ wsX10, w ∈ wsX1_repairBlocks := in_X1_repairBlocks
  refine z_iconst hx hb dX1_repairBlocks_0 ?_
  refine lv_istore_n (lv' := [(1, .int (zI 0)), (0, .ref (ad 0))]) hx hb dX1_repairBlocks_1 rfl hl (by decide) rfl (fun ls hl => ?_)
  refine z_iconst hx hb dX1_repairBlocks_2 ?_
  refine lv_istore_n (lv' := [(2, .int (zI 0)), (1, .int (zI 0)), (0, .ref (ad 0))]) hx hb dX1_repairBlocks_3 rfl hl (by decide) rfl (fun ls hl => ?_)
  have hloop4 : ∀ (n : Nat) (rep block : Int) (S1 : Nat → Int → Int), (0 ≤ block ∧ block ≤ 48) → (S1 = ixZ (fun b U => repS U (4 * b) (4 * b + 192)) block S) → (rep = sumZ (fun b => repR (ixZ (fun b U => repS U (4 * b) (4 * b + 192)) b S) (4 * b) (4 * b + 192)) block) → (48 - block < (n : Int)) → ∀ (H : Heap) (locs : List Loc), va_P (dC, dI) vwCl (tW_X1 ad cI S1) H → va_S A s.heap H locs → ∀ ls : Array Slot, lv_has ls 3 [(2, .int (zI block)), (1, .int (zI rep)), (0, .ref (ad 0))] → W p l e (headSpec wsX1_repairBlocks ({ frames := 3, cells := 0, slots := 0, locals := 71 })).room s m ([.ref (ad 0)] : List Value).toArray below meth c H locs 0 0 (MQ below (zQi (dC, dI) vwCl (tW_X1 ad cI (repairS S)) (repBR S) A) ([.ref (ad 0)] : List Value).toArray s 0 0 A) (F0 m 4 ls []) := by
    intro n
    induction n with
    | zero =>
      intro rep block S1 i0 i1 i2 hm
      exfalso
      omega
    | succ n ih =>
      intro rep block S1 i0 i1 i2 hm H locs hP hS ls hl
      have ih4 := ih
      clear ih
      subst i1
      refine lv_iload_n hx hb dX1_repairBlocks_4 rfl (lv_at hl 0 rfl) ?_
      refine z_bipush (z := 48) hx hb dX1_repairBlocks_5 (by decide +kernel) ?_
      refine z_icmp_ge (tgt := 33) hx hb dX1_repairBlocks_7 (by decide) (by omega) (by omega) (fun c1 => ?_) (fun c1 => ?_)
      · refine lv_aload_n hx hb dX1_repairBlocks_33 rfl (lv_at hl 2 rfl) ?_
        refine z_callv (va_runV (As := []) (rest := []) ⟨hx, hb, hml, hown, hts⟩ (k_X1_forgetWritten l dC dI cI cQ A ad (ixZ (fun b U => repS U (4 * b) (4 * b + 192)) block S) hD) (cwV 0 hts gX1_repairBlocks_X1_forgetWritten rfl rfl rfl (by decide +kernel) ⟨Nat.le_of_ble_eq_true rfl, Nat.le_of_ble_eq_true rfl⟩) (z_preV hK hP (ci := 1) (q0 := 0) rfl rfl rfl) rfl rfl hl.1 rfl (lv_room (Nat.le_of_ble_eq_true rfl)) dX1_repairBlocks_34 ⟨Nat.zero_le _, Nat.zero_le _⟩) hS (fun _ h => h) (fun H locs hP hS _ _ => ?_)
        refine lv_aload_n hx hb dX1_repairBlocks_37 rfl (lv_at hl 2 rfl) ?_
        refine lv_dup hx hb dX1_repairBlocks_38 rfl ?_
        refine gx_X1_5 hx hb hts hin hown hK hP (hts _ (List.mem_of_getElem? (i := 1) rfl)) dX1_repairBlocks_39 ?_
        refine z_top (y := (ixZ (fun b U => repS U (4 * b) (4 * b + 192)) block S) 5 0) (rfl) ?_
        refine z_bipush (z := 48) hx hb dX1_repairBlocks_42 (by decide +kernel) ?_
        refine z_iadd hx hb dX1_repairBlocks_44 ?_
        refine z_top (y := (ixZ (fun b U => repS U (4 * b) (4 * b + 192)) block S) 5 0 + 48) (by omega) ?_
        refine px_X1_5 hx hb hts hin hown hK hP hD hS (hts _ (List.mem_of_getElem? (i := 1) rfl)) dX1_repairBlocks_45 (fun H locs hP hS => ?_)
        refine lv_aload_n hx hb dX1_repairBlocks_48 rfl (lv_at hl 2 rfl) ?_
        refine z_iconst hx hb dX1_repairBlocks_49 ?_
        refine px_X1_6 hx hb hts hin hown hK hP hD hS (hts _ (List.mem_of_getElem? (i := 2) rfl)) dX1_repairBlocks_50 (fun H locs hP hS => ?_)
        refine lv_iload_n hx hb dX1_repairBlocks_53 rfl (lv_at hl 1 rfl) ?_
        obtain rfl : block = 48 := by omega
        exact z_iret hx hb hr hlk hP hS dX1_repairBlocks_54 (by exact i2) (congrArg (tW_X1 ad cI) (by rfl))
      · refine lv_iload_n hx hb dX1_repairBlocks_10 rfl (lv_at hl 1 rfl) ?_
        refine lv_aload_n hx hb dX1_repairBlocks_11 rfl (lv_at hl 2 rfl) ?_
        refine z_iconst hx hb dX1_repairBlocks_12 ?_
        refine lv_iload_n hx hb dX1_repairBlocks_13 rfl (lv_at hl 0 rfl) ?_
        refine z_calli (va_runS (As := [.int (zI 0), .int (zI block)]) (rest := [.ref (ad 0), .int (zI rep)]) ⟨hx, hb, hml, hown, hts⟩ (k_X1_cellOf l dC dI cI cQ A (tW_X1 ad cI (ixZ (fun b U => repS U (4 * b) (4 * b + 192)) block S)) 0 block) (va_cwS 2 hts gX1_repairBlocks_X1_cellOf rfl rfl rfl (by decide +kernel) ⟨Nat.le_of_ble_eq_true rfl, Nat.le_of_ble_eq_true rfl⟩) (z_preS hK hP) rfl rfl hl.1 rfl (lv_room (Nat.le_of_ble_eq_true rfl)) dX1_repairBlocks_14 ⟨Nat.zero_le _, Nat.zero_le _⟩) hS (fun _ h => h) (fun H locs hP hS _ _ => ?_)
        refine z_top (y := 4 * block) (by omega) ?_
        refine z_iconst hx hb dX1_repairBlocks_17 ?_
        refine lv_iload_n hx hb dX1_repairBlocks_18 rfl (lv_at hl 0 rfl) ?_
        refine z_calli (va_runS (As := [.int (zI 1), .int (zI block)]) (rest := [.int (zI (4 * block)), .ref (ad 0), .int (zI rep)]) ⟨hx, hb, hml, hown, hts⟩ (k_X1_cellOf l dC dI cI cQ A (tW_X1 ad cI (ixZ (fun b U => repS U (4 * b) (4 * b + 192)) block S)) 1 block) (va_cwS 2 hts gX1_repairBlocks_X1_cellOf rfl rfl rfl (by decide +kernel) ⟨Nat.le_of_ble_eq_true rfl, Nat.le_of_ble_eq_true rfl⟩) (z_preS hK hP) rfl rfl hl.1 rfl (lv_room (Nat.le_of_ble_eq_true rfl)) dX1_repairBlocks_19 ⟨Nat.zero_le _, Nat.zero_le _⟩) hS (fun _ h => h) (fun H locs hP hS _ _ => ?_)
        refine z_top (y := 4 * block + 192) (by omega) ?_
        refine z_calli (va_runV (As := [.int (zI (4 * block)), .int (zI (4 * block + 192))]) (rest := [.int (zI rep)]) ⟨hx, hb, hml, hown, hts⟩ (k_X1_repair l dC dI cI cQ A ad (ixZ (fun b U => repS U (4 * b) (4 * b + 192)) block S) hD (4 * block) (4 * block + 192) (by exact hall block (by omega) (by omega)) (by omega) (by omega)) (cwV 2 hts gX1_repairBlocks_X1_repair rfl rfl rfl (by decide +kernel) ⟨Nat.le_of_ble_eq_true rfl, Nat.le_of_ble_eq_true rfl⟩) (z_preV hK hP (ci := 1) (q0 := 0) rfl rfl rfl) rfl rfl hl.1 rfl (lv_room (Nat.le_of_ble_eq_true rfl)) dX1_repairBlocks_22 ⟨Nat.zero_le _, Nat.zero_le _⟩) hS (fun _ h => h) (fun H locs hP hS _ _ => ?_)
        refine z_iadd hx hb dX1_repairBlocks_25 ?_
        refine lv_istore_n (lv' := [(1, .int (zI (rep + (repR (ixZ (fun b U => repS U (4 * b) (4 * b + 192)) block S) (4 * block) (4 * block + 192))))), (2, .int (zI block)), (0, .ref (ad 0))]) hx hb dX1_repairBlocks_26 rfl hl (by decide) rfl (fun ls hl => ?_)
        refine z_iinc (lv' := [(2, .int (zI (block + 1))), (1, .int (zI (rep + (repR (ixZ (fun b U => repS U (4 * b) (4 * b + 192)) block S) (4 * block) (4 * block + 192))))), (0, .ref (ad 0))]) hx hb dX1_repairBlocks_27 hl (k := 1) rfl (by decide) (by rw [show (block : Int) + (1) = (block + 1) from by omega]; rfl) (fun ls hl => ?_)
        refine lv_goto (tgt := 4) hx hb dX1_repairBlocks_30 (by decide) ?_
        exact ih4 (rep + (repR (ixZ (fun b U => repS U (4 * b) (4 * b + 192)) block S) (4 * block) (4 * block + 192))) (block + 1) (repS (ixZ (fun b U => repS U (4 * b) (4 * b + 192)) block S) (4 * block) (4 * block + 192)) (by omega) (by exact (ixZ_succ (fun b U => repS U (4 * b) (4 * b + 192)) S i0.1).symm) (by rw [sumZ_succ _ i0.1, ← i2]) (by omega) _ _ hP hS ls (lv_sub hl [0, 1, 2] rfl)
  exact hloop4 ((48 - 0 : Int) + 1).toNat 0 0 S (by omega) (by rfl) (by rfl) (by omega) _ _ hP hS ls (lv_sub hl [0, 1, 2] rfl)
theorem in_X1_sweepBlocks : ∀ w ∈ wsX10, w ∈ wsX1_sweepBlocks := fun w h => List.mem_cons_of_mem _ (List.mem_append_right _ h)
set_option maxHeartbeats 4000000 in
set_option maxRecDepth 100000 in
theorem k_X1_sweepBlocks (l : Launch) (dC : Nat → ClassId) (dI : Nat → Nat → Nat) (cI cQ : ClassId) (A : Nat → Prop) (ad : Nat → Nat) (S : Nat → Int → Int) (hD : ∀ S, va_D A (tW_X1 ad cI S)) (hW : WF S) (hall : ∀ b : Int, 0 ≤ b → b < 48 → zB (ixZ (fun b U => repS U (4 * b) (4 * b + 192)) b S)) : Met l yX1_sweepBlocks wsX1_sweepBlocks ({ frames := 4, cells := 0, slots := 0, locals := 93 }) (zPc (dC, dI) vwCl (zT cI cQ) (tW_X1 ad cI S) [.ref (ad 0)]) (zQi (dC, dI) vwCl (tW_X1 ad cI (sweepS S)) (sweepBR S) A) 0 0 A := by
  refine Met.ofW (cc := cX1_sweepBlocks) (maxL := 1) (ret := (some .int)) (by decide) rfl ?_
  intro p e s m args below meth c s₁ B hml hv
  obtain ⟨rfl, hP, hK⟩ := hv
  have hx := B.exec
  have hb := B.bytes
  have hr := B.returns
  have hts := atoms_spec (ws := wsX1_sweepBlocks) B.pre
  have hown : s.vm.findClass RX1 = some m.cls := findClass_of_methodNamed B.named
  have hlk := B.notSynchronized
  have hS : va_S A s.heap s.heap [] := va_S.rf
  have hl := lv_entry ([.ref (ad 0)]) (n := 1) (Nat.le_of_ble_eq_true rfl)
  rw [lg_entry_eq]
  generalize (lg_sl ([.ref (ad 0)]) ++ List.replicate (1 - (lg_sl ([.ref (ad 0)])).length) Slot.unset).toArray = ls at hl ⊢
  have hl : lv_has ls 1 [(0, .ref (ad 0))] := hl
  have hin : ∀ w ∈ wsX10, w ∈ wsX1_sweepBlocks := in_X1_sweepBlocks
  obtain ⟨hB, w5, w6, w7, wo1, w2⟩ := id hW
  have b50 := hB 5 0 (Or.inr ⟨by decide, rfl⟩)
  refine lv_aload_n hx hb dX1_sweepBlocks_0 rfl (lv_at hl 0 rfl) ?_
  refine z_calli (va_runV (As := []) (rest := []) ⟨hx, hb, hml, hown, hts⟩ (k_X1_hasWork l dC dI cI cQ A ad S hD (by exact hB)) (cwV 0 hts gX1_sweepBlocks_X1_hasWork rfl rfl rfl (by decide +kernel) ⟨Nat.le_of_ble_eq_true rfl, Nat.le_of_ble_eq_true rfl⟩) (z_preV hK hP (ci := 1) (q0 := 0) rfl rfl rfl) rfl rfl hl.1 rfl (lv_room (Nat.le_of_ble_eq_true rfl)) dX1_sweepBlocks_1 ⟨Nat.zero_le _, Nat.zero_le _⟩) hS (fun _ h => h) (fun H locs hP hS _ _ => ?_)
  refine z_ifb_ne (tgt := 20) hx hb dX1_sweepBlocks_4 (by decide) (fun c1 => ?_) (fun c1 => ?_)
  · refine z_bipush (z := (-2)) hx hb dX1_sweepBlocks_20 (by decide +kernel) ?_
    exact z_iret hx hb hr hlk hP hS dX1_sweepBlocks_22 (by unfold sweepBR; first | rw [if_pos (by omega)] | rw [if_neg (by omega)]) (congrArg (tW_X1 ad cI) (by unfold sweepS; first | rw [if_pos (by omega)] | rw [if_neg (by omega)]))
  · refine lv_aload_n hx hb dX1_sweepBlocks_7 rfl (lv_at hl 0 rfl) ?_
    refine gx_X1_5 hx hb hts hin hown hK hP (hts _ (List.mem_of_getElem? (i := 1) rfl)) dX1_sweepBlocks_8 ?_
    have b1 := hB 5 0 (Or.inr ⟨by decide, rfl⟩)
    refine z_bipush (z := 48) hx hb dX1_sweepBlocks_11 (by decide +kernel) ?_
    refine z_iadd hx hb dX1_sweepBlocks_13 ?_
    refine z_top (y := S 5 0 + 48) (by omega) ?_
    refine z_sipush (z := 20000) hx hb dX1_sweepBlocks_14 (by decide +kernel) ?_
    refine z_icmp_le (tgt := 23) hx hb dX1_sweepBlocks_17 (by decide) (by omega) (by omega) (fun c2 => ?_) (fun c2 => ?_)
    · refine lv_aload_n hx hb dX1_sweepBlocks_23 rfl (lv_at hl 0 rfl) ?_
      refine z_calli (va_runV (As := []) (rest := []) ⟨hx, hb, hml, hown, hts⟩ (k_X1_repairBlocks l dC dI cI cQ A ad S hD (by exact hall)) (cwV 0 hts gX1_sweepBlocks_X1_repairBlocks rfl rfl rfl (by decide +kernel) ⟨Nat.le_of_ble_eq_true rfl, Nat.le_of_ble_eq_true rfl⟩) (z_preV hK hP (ci := 1) (q0 := 0) rfl rfl rfl) rfl rfl hl.1 rfl (lv_room (Nat.le_of_ble_eq_true rfl)) dX1_sweepBlocks_24 ⟨Nat.zero_le _, Nat.zero_le _⟩) hS (fun _ h => h) (fun H locs hP hS _ _ => ?_)
      exact z_iret hx hb hr hlk hP hS dX1_sweepBlocks_27 (by unfold sweepBR; first | rw [if_pos (by omega)] | rw [if_neg (by omega)]) (congrArg (tW_X1 ad cI) (by unfold sweepS; first | rw [if_pos (by omega)] | rw [if_neg (by omega)]))
    · refine z_bipush (z := (-2)) hx hb dX1_sweepBlocks_20 (by decide +kernel) ?_
      exact z_iret hx hb hr hlk hP hS dX1_sweepBlocks_22 (by unfold sweepBR; first | rw [if_pos (by omega)] | rw [if_neg (by omega)]) (congrArg (tW_X1 ad cI) (by unfold sweepS; first | rw [if_pos (by omega)] | rw [if_neg (by omega)]))
