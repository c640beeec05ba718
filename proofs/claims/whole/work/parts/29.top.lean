/-! the object's constructor -/
theorem D_ap2 {a b c : Nat} {w1 w2 : va_W} (h1 : va_D (rg a b) w1) (h2 : va_D (rg b c) w2) (ha : a ≤ b) (hb : b ≤ c) : va_D (rg a c) (w1 ++ w2) := by
  have t := D_app h1 h2 (fun q z y => by have := z.2; have := y.1; omega)
  exact ⟨t.1, fun k q hk => (t.2 k q hk).elim (fun z => rg_sub z (Nat.le_refl _) hb) (fun z => rg_sub z ha (Nat.le_refl _))⟩
theorem D_wk {A1 A : Nat → Prop} {w : va_W} (h : va_D A1 w) (hs : ∀ q, A1 q → A q) : va_D A w := ⟨h.1, fun k q hk => hs _ (h.2 k q hk)⟩
theorem z_d9 : ∀ j, j < 9 → defaultValue (tyX2 j) = vp_V [.null, .int (zI 0), .null, .null, .int (zI 0), .null, .null, .int (zI 0), .int (zI 0)] j := by
  intro j hj
  rcases (show j = 0 ∨ j = 1 ∨ j = 2 ∨ j = 3 ∨ j = 4 ∨ j = 5 ∨ j = 6 ∨ j = 7 ∨ j = 8 by omega) with rfl | rfl | rfl | rfl | rfl | rfl | rfl | rfl | rfl <;> rfl
theorem z_d3 : ∀ j, j < 3 → defaultValue (tyX0 j) = vp_V [.null, .int (zI 0), .int (zI 0)] j := by
  intro j hj
  rcases (show j = 0 ∨ j = 1 ∨ j = 2 by omega) with rfl | rfl | rfl <;> rfl
theorem hW_P {D : va_G} {cl : List vw_C} {h : Nat} {cI : ClassId} {H : Heap} : ∀ (n : Nat), va_P D cl (hW h cI n) H → ∀ i, i < n → va_P D cl (tW_X1 (fun j => h + 2 + 6 * i + j) cI (forgS (fun _ _ => 0))) H
  | 0, _, i, hi => absurd hi (Nat.not_lt_zero i)
  | n + 1, hP, i, hi => by
    by_cases e : i = n
    · subst e; exact z_appL hP
    · exact hW_P n (z_appR hP) i (by omega)
theorem hB_P {D : va_G} {cl : List vw_C} {o : Nat} {cQ : ClassId} {H : Heap} (hP : va_P D cl (hB (o + 13) cQ 6) H) : va_P D cl (tW_X0 (rH o) (rS o) cQ [] (fun _ _ => 0)) H := by
  intro k q hq
  rcases k with _ | _ | k
  · exact hP 0 q hq
  · cases hq
    have t := hP 1 _ rfl
    exact t.trans (congrArg some (z_cellq cQ 6 (fun j hj => by unfold hf; rw [if_pos hj])))
  · cases hq
theorem in_X3_init_X1 : ∀ w ∈ wsX10, w ∈ wsX3_init := fun w h => List.mem_cons_of_mem _ (List.mem_append_left _ (List.mem_append_left _ (List.mem_append_left _ (List.mem_append_right _ h))))
theorem in_X3_init_X3 : ∀ w ∈ wsX30, w ∈ wsX3_init := fun w h => List.mem_cons_of_mem _ (List.mem_append_left _ (List.mem_append_left _ (List.mem_append_right _ h)))
theorem in_X3_init_X0 : ∀ w ∈ wsX00, w ∈ wsX3_init := fun w h => List.mem_cons_of_mem _ (List.mem_append_left _ (List.mem_append_right _ h))
theorem in_X3_init_X2 : ∀ w ∈ wsX20, w ∈ wsX3_init := fun w h => List.mem_cons_of_mem _ (List.mem_append_right _ h)
theorem hm3 : ∀ w, w ∈ wsX3_init_r1 ++ wsX3_init_r2 → w ∈ wsX3_init := fun w h => List.mem_cons_of_mem _ (List.mem_append_left _ (List.mem_append_left _ (List.mem_append_left _ (List.mem_append_left _ h))))
set_option maxHeartbeats 4000000 in
set_option maxRecDepth 100000 in
theorem k_X3_init (l : Launch) (dC : Nat → ClassId) (dI : Nat → Nat → Nat) (cI cQ : ClassId) (A : Nat → Prop) (o : Nat) (hA9 : ∀ q, o ≤ q → A q) : Met l yX3_init wsX3_init ({ frames := 7, cells := 56, slots := 7877, locals := 260 }) (va_Pc [.ref o] (fun U => (U.heap.size = o + 1 ∧ va_P (dC, dI) vwCl [(o, .inr (3, [.null, .null, .null, .null]))] U.heap ∧ va_K (dC, dI) vwCl (zT cI cQ) U) ∧ va_AO "TwinPlates$Plates" U ∧ va_Nw (.methodLinkNest RX3 28 yX2_init RX3) U)) (zQb (dC, dI) vwCl (W3 o cI cQ (fun _ => forgS (fun _ _ => 0 : Nat → Int → Int)) (fun _ _ => 0 : Nat → Int → Int) (forgS (fun _ _ => 0 : Nat → Int → Int)) (forgS (fun _ _ => 0 : Nat → Int → Int)) (fun _ _ => 0 : Nat → Int → Int)) (o + 57) A) 56 7877 A := by
  refine Met.ofW (cc := cX3_init) (maxL := 1) (ret := none) (by decide) rfl ?_
  intro p e s m args below meth c s₁ B hml hv
  obtain ⟨rfl, ⟨hsz, hP, hK⟩, hAO, hNw⟩ := hv
  have hx := B.exec
  have hb := B.bytes
  have hr := B.returns
  have hts := atoms_spec (ws := wsX3_init) B.pre
  have hown : s.vm.findClass RX3 = some m.cls := findClass_of_methodNamed B.named
  have hlk := B.notSynchronized
  have hini : meth.name = "<init>" := (name_of_methodNamed B.named B.method).1
  have hS : va_S A s.heap s.heap [] := va_S.rf
  have hP : va_P (dC, dI) vwCl ([(o, .inr (3, [.null, .null, .null, .null]))] ++ []) s.heap := hP
  have hl := lv_entry ([.ref o]) (n := 1) (Nat.le_of_ble_eq_true rfl)
  rw [lg_entry_eq]
  generalize (lg_sl ([.ref o]) ++ List.replicate (1 - (lg_sl ([.ref o])).length) Slot.unset).toArray = ls at hl ⊢
  have hl : lv_has ls 1 [(0, .ref o)] := hl
  refine lv_aload_n hx hb dX3_init_0 rfl (lv_at hl 0 rfl) ?_
  refine W.objInit hx hb hown (hts _ (hm3 _ (List.mem_of_getElem? (i := 0) rfl))) (hts _ (hm3 _ (List.mem_of_getElem? (i := 1) rfl))) (hts _ (hm3 _ (List.mem_of_getElem? (i := 2) rfl))) rfl (by rw [hml]; exact hl.1) rfl dX3_init_1 (Nat.le_of_ble_eq_true rfl) (Nat.le_of_ble_eq_true rfl) ?_
  refine W.eq (g2 := F0 m 4 ls []) rfl ?_
  have hDw : va_D (rg (o + 1) (o + 1)) ([] : va_W) := ⟨fun i j p q hi _ _ => (by cases hi), fun k q hk => (by cases hk)⟩
  refine lv_aload_n hx hb dX3_init_4 rfl (lv_at hl 0 rfl) ?_
  refine z_newo (ci := 1) (fs := [.null, .null, .null, .null, .null, .int (zI 0), .int (zI 0), .int (zI 0), .int (zI 0), .int (zI 0), .int (zI 0)]) (h := o + 1) (C := RX1) (T := TX1) (N := 11) hx hb hts in_X3_init_X1 tyX1 tyX1_ok hown (hts _ (hm3 _ (List.mem_of_getElem? (i := 3) rfl))) (hts _ (hm3 _ (List.mem_of_getElem? (i := 4) rfl))) (hts _ (hm3 _ (List.mem_of_getElem? (i := 5) rfl))) hK hP hS rfl z_d11 (Nat.le_of_ble_eq_true rfl) (Nat.le_of_ble_eq_true rfl) hsz dX3_init_5 (fun H hP hS hsz => ?_)
  refine lv_dup hx hb dX3_init_8 rfl ?_
  refine z_callb (va_runI (As := []) (rest := [.ref (o + 1), .ref o]) ⟨hx, hb, hml, hown, hts⟩ (k_X1_init l dC dI cI cQ (fun q => o + 1 ≤ q) (o + 1) (fun q z => z)) (cwI 0 hts gX3_init_X1_init rfl rfl rfl (hts _ (hm3 _ (List.mem_of_getElem? (i := 5) rfl))) (hts _ (hm3 _ (List.mem_of_getElem? (i := 16) rfl))) (hts _ (hm3 _ (List.mem_of_getElem? (i := 17) rfl))) rfl (by decide +kernel) ⟨Nat.le_of_ble_eq_true rfl, Nat.le_of_ble_eq_true rfl⟩) (z_preb hsz hK (z_appR hP)) rfl rfl hl.1 rfl (lv_room (Nat.le_of_ble_eq_true rfl)) dX3_init_9 ⟨Nat.le_of_ble_eq_true rfl, Nat.le_of_ble_eq_true rfl⟩) hS (fun q z => hA9 q (Nat.le_trans (Nat.le_add_right _ _) z)) (fun H locs hsz hQ hS hk => ?_)
  have hp1 : va_P (dC, dI) vwCl ([(o, .inr (3, [.null, .null, .null, .null]))] ++ []) H := z_kept (z_appL hP) hk (fun k q hq z => by have a1 := ((D_ap2 (z_D0 (A := rg o (o + 1)) (a := o) ⟨Nat.le_refl _, Nat.lt_succ_self _⟩) hDw (by omega) (by omega)).2 k q hq).2; omega)
  have hDw : va_D (rg (o + 1) (o + 7)) (tW_X1 (fun j => o + 1 + j) cI (forgS (fun _ _ => 0 : Nat → Int → Int))) := D_X1 (o + 1) cI _
  have hP : va_P (dC, dI) vwCl ([(o, .inr (3, [.null, .null, .null, .null]))] ++ tW_X1 (fun j => o + 1 + j) cI (forgS (fun _ _ => 0 : Nat → Int → Int))) H := va_P.app (z_appL hp1) hQ
  have hD : va_D A ([(o, .inr (3, [.null, .null, .null, .null]))] ++ tW_X1 (fun j => o + 1 + j) cI (forgS (fun _ _ => 0 : Nat → Int → Int))) := D_wk (D_ap2 (z_D0 (A := rg o (o + 1)) ⟨Nat.le_refl _, Nat.lt_succ_self _⟩) hDw (by omega) (by omega)) (fun q z => hA9 q z.1)
  refine va_putF (D := (dC, dI)) (ci := 3) (v := .ref (o + 1)) (ty := tyX3 0) (C := RX3) (T := TX3) (N := 4) hx hb hts in_X3_init_X3 tyX3 tyX3_ok nmX3 hown hK hP hD hS 0 rfl rfl 0 (by decide) (hts _ (hm3 _ (List.mem_of_getElem? (i := 6) rfl))) (fun _ h9 => h9) rfl hini rfl (by decide +kernel) rfl rfl (Nat.le_of_ble_eq_true rfl) dX3_init_12 (fun H1 locs hP9 _ hS => ?_)
  have hP : va_P (dC, dI) vwCl ([(o, .inr (3, [.ref (o + 1), .null, .null, .null]))] ++ tW_X1 (fun j => o + 1 + j) cI (forgS (fun _ _ => 0 : Nat → Int → Int))) H1 := hP9
  have l9 : o + 6 < H1.size := ((z_appR hP) 5 _ rfl).lt
  refine z_size (fun hz9 => ?_)
  have hsz : H1.size = o + 7 := by omega
  clear hp1 hQ hk hP9 hz9
  refine lv_aload_n hx hb dX3_init_15 rfl (lv_at hl 0 rfl) ?_
  refine z_newo (ci := 1) (fs := [.null, .null, .null, .null, .null, .int (zI 0), .int (zI 0), .int (zI 0), .int (zI 0), .int (zI 0), .int (zI 0)]) (h := o + 7) (C := RX1) (T := TX1) (N := 11) hx hb hts in_X3_init_X1 tyX1 tyX1_ok hown (hts _ (hm3 _ (List.mem_of_getElem? (i := 3) rfl))) (hts _ (hm3 _ (List.mem_of_getElem? (i := 4) rfl))) (hts _ (hm3 _ (List.mem_of_getElem? (i := 5) rfl))) hK hP hS rfl z_d11 (Nat.le_of_ble_eq_true rfl) (Nat.le_of_ble_eq_true rfl) hsz dX3_init_16 (fun H hP hS hsz => ?_)
  refine lv_dup hx hb dX3_init_19 rfl ?_
  refine z_callb (va_runI (As := []) (rest := [.ref (o + 7), .ref o]) ⟨hx, hb, hml, hown, hts⟩ (k_X1_init l dC dI cI cQ (fun q => o + 7 ≤ q) (o + 7) (fun q z => z)) (cwI 0 hts gX3_init_X1_init rfl rfl rfl (hts _ (hm3 _ (List.mem_of_getElem? (i := 5) rfl))) (hts _ (hm3 _ (List.mem_of_getElem? (i := 16) rfl))) (hts _ (hm3 _ (List.mem_of_getElem? (i := 17) rfl))) rfl (by decide +kernel) ⟨Nat.le_of_ble_eq_true rfl, Nat.le_of_ble_eq_true rfl⟩) (z_preb hsz hK (z_appR hP)) rfl rfl hl.1 rfl (lv_room (Nat.le_of_ble_eq_true rfl)) dX3_init_20 ⟨Nat.le_of_ble_eq_true rfl, Nat.le_of_ble_eq_true rfl⟩) hS (fun q z => hA9 q (Nat.le_trans (Nat.le_add_right _ _) z)) (fun H locs hsz hQ hS hk => ?_)
  have hp1 : va_P (dC, dI) vwCl ([(o, .inr (3, [.ref (o + 1), .null, .null, .null]))] ++ tW_X1 (fun j => o + 1 + j) cI (forgS (fun _ _ => 0 : Nat → Int → Int))) H := z_kept (z_appL hP) hk (fun k q hq z => by have a1 := ((D_ap2 (z_D0 (A := rg o (o + 1)) (a := o) ⟨Nat.le_refl _, Nat.lt_succ_self _⟩) hDw (by omega) (by omega)).2 k q hq).2; omega)
  have hDw : va_D (rg (o + 1) (o + 13)) (tW_X1 (fun j => o + 1 + j) cI (forgS (fun _ _ => 0 : Nat → Int → Int)) ++ tW_X1 (fun j => o + 7 + j) cI (forgS (fun _ _ => 0 : Nat → Int → Int))) := D_ap2 hDw (D_X1 (o + 7) cI _) (by omega) (by omega)
  have hP : va_P (dC, dI) vwCl ([(o, .inr (3, [.ref (o + 1), .null, .null, .null]))] ++ (tW_X1 (fun j => o + 1 + j) cI (forgS (fun _ _ => 0 : Nat → Int → Int)) ++ tW_X1 (fun j => o + 7 + j) cI (forgS (fun _ _ => 0 : Nat → Int → Int)))) H := va_P.app (z_appL hp1) (va_P.app (z_appR hp1) hQ)
  have hD : va_D A ([(o, .inr (3, [.ref (o + 1), .null, .null, .null]))] ++ (tW_X1 (fun j => o + 1 + j) cI (forgS (fun _ _ => 0 : Nat → Int → Int)) ++ tW_X1 (fun j => o + 7 + j) cI (forgS (fun _ _ => 0 : Nat → Int → Int)))) := D_wk (D_ap2 (z_D0 (A := rg o (o + 1)) ⟨Nat.le_refl _, Nat.lt_succ_self _⟩) hDw (by omega) (by omega)) (fun q z => hA9 q z.1)
  refine va_putF (D := (dC, dI)) (ci := 3) (v := .ref (o + 7)) (ty := tyX3 1) (C := RX3) (T := TX3) (N := 4) hx hb hts in_X3_init_X3 tyX3 tyX3_ok nmX3 hown hK hP hD hS 0 rfl rfl 1 (by decide) (hts _ (hm3 _ (List.mem_of_getElem? (i := 7) rfl))) (fun _ h9 => h9) rfl hini rfl (by decide +kernel) rfl rfl (Nat.le_of_ble_eq_true rfl) dX3_init_23 (fun H1 locs hP9 _ hS => ?_)
  have hP : va_P (dC, dI) vwCl ([(o, .inr (3, [.ref (o + 1), .ref (o + 7), .null, .null]))] ++ (tW_X1 (fun j => o + 1 + j) cI (forgS (fun _ _ => 0 : Nat → Int → Int)) ++ tW_X1 (fun j => o + 7 + j) cI (forgS (fun _ _ => 0 : Nat → Int → Int)))) H1 := hP9
  have l9 : o + 12 < H1.size := ((z_appR (z_appR hP)) 5 _ rfl).lt
  refine z_size (fun hz9 => ?_)
  have hsz : H1.size = o + 13 := by omega
  clear hp1 hQ hk hP9 hz9
  refine lv_aload_n hx hb dX3_init_26 rfl (lv_at hl 0 rfl) ?_
  refine z_newo (ci := 0) (fs := [.null, .int (zI 0), .int (zI 0)]) (h := o + 13) (C := RX0) (T := TX0) (N := 3) hx hb hts in_X3_init_X0 tyX0 tyX0_ok hown (hts _ (hm3 _ (List.mem_of_getElem? (i := 8) rfl))) (hts _ (hm3 _ (List.mem_of_getElem? (i := 9) rfl))) (hts _ (hm3 _ (List.mem_of_getElem? (i := 10) rfl))) hK hP hS rfl z_d3 (Nat.le_of_ble_eq_true rfl) (Nat.le_of_ble_eq_true rfl) hsz dX3_init_27 (fun H hP hS hsz => ?_)
  refine lv_dup hx hb dX3_init_30 rfl ?_
  refine z_callb (va_runI (As := []) (rest := [.ref (o + 13), .ref o]) ⟨hx, hb, hml, hown, hts⟩ (k_X0_init l dC dI cI cQ (fun q => o + 13 ≤ q) (o + 13) (fun q z => z)) (cwI 0 hts gX3_init_X0_init rfl rfl rfl (hts _ (hm3 _ (List.mem_of_getElem? (i := 10) rfl))) (hts _ (hm3 _ (List.mem_of_getElem? (i := 30) rfl))) (hts _ (hm3 _ (List.mem_of_getElem? (i := 31) rfl))) rfl (by decide +kernel) ⟨Nat.le_of_ble_eq_true rfl, Nat.le_of_ble_eq_true rfl⟩) ⟨fun a U g mk q => ⟨q.1, ⟨q.2.1.1, q.2.1.2.1, va_K.moved (u := U) (U := U.calling g mk a) (Vm.Alike.refl U.vm) q.2.1.2.2⟩, va_AO.moved (u := U) (U := U.calling g mk a) (Vm.Alike.refl U.vm) q.2.2⟩, fun U hU hW => ⟨rfl, ⟨by rw [hU]; exact hsz, by rw [hU]; exact z_appR hP, va_K.moved hW.alike hK⟩, va_AO.moved hW.alike hAO⟩⟩ rfl rfl hl.1 rfl (lv_room (Nat.le_of_ble_eq_true rfl)) dX3_init_31 ⟨Nat.le_of_ble_eq_true rfl, Nat.le_of_ble_eq_true rfl⟩) hS (fun q z => hA9 q (Nat.le_trans (Nat.le_add_right _ _) z)) (fun H locs hsz hQ hS hk => ?_)
  have hp1 : va_P (dC, dI) vwCl ([(o, .inr (3, [.ref (o + 1), .ref (o + 7), .null, .null]))] ++ (tW_X1 (fun j => o + 1 + j) cI (forgS (fun _ _ => 0 : Nat → Int → Int)) ++ tW_X1 (fun j => o + 7 + j) cI (forgS (fun _ _ => 0 : Nat → Int → Int)))) H := z_kept (z_appL hP) hk (fun k q hq z => by have a1 := ((D_ap2 (z_D0 (A := rg o (o + 1)) (a := o) ⟨Nat.le_refl _, Nat.lt_succ_self _⟩) hDw (by omega) (by omega)).2 k q hq).2; omega)
  have hDw : va_D (rg (o + 1) (o + 51)) ((tW_X1 (fun j => o + 1 + j) cI (forgS (fun _ _ => 0 : Nat → Int → Int)) ++ tW_X1 (fun j => o + 7 + j) cI (forgS (fun _ _ => 0 : Nat → Int → Int))) ++ (hB (o + 13) cQ 6 ++ hW (o + 13) cI 6)) := D_ap2 hDw (D_ap2 (hB_D (o + 13) cQ 6) (hW_D (o + 13) cI 6) (by omega) (by omega)) (by omega) (by omega)
  have hP : va_P (dC, dI) vwCl ([(o, .inr (3, [.ref (o + 1), .ref (o + 7), .null, .null]))] ++ ((tW_X1 (fun j => o + 1 + j) cI (forgS (fun _ _ => 0 : Nat → Int → Int)) ++ tW_X1 (fun j => o + 7 + j) cI (forgS (fun _ _ => 0 : Nat → Int → Int))) ++ (hB (o + 13) cQ 6 ++ hW (o + 13) cI 6))) H := va_P.app (z_appL hp1) (va_P.app (z_appR hp1) hQ)
  have hD : va_D A ([(o, .inr (3, [.ref (o + 1), .ref (o + 7), .null, .null]))] ++ ((tW_X1 (fun j => o + 1 + j) cI (forgS (fun _ _ => 0 : Nat → Int → Int)) ++ tW_X1 (fun j => o + 7 + j) cI (forgS (fun _ _ => 0 : Nat → Int → Int))) ++ (hB (o + 13) cQ 6 ++ hW (o + 13) cI 6))) := D_wk (D_ap2 (z_D0 (A := rg o (o + 1)) ⟨Nat.le_refl _, Nat.lt_succ_self _⟩) hDw (by omega) (by omega)) (fun q z => hA9 q z.1)
  refine va_putF (D := (dC, dI)) (ci := 3) (v := .ref (o + 13)) (ty := tyX3 2) (C := RX3) (T := TX3) (N := 4) hx hb hts in_X3_init_X3 tyX3 tyX3_ok nmX3 hown hK hP hD hS 0 rfl rfl 2 (by decide) (hts _ (hm3 _ (List.mem_of_getElem? (i := 11) rfl))) (fun _ h9 => h9) rfl hini rfl (by decide +kernel) rfl rfl (Nat.le_of_ble_eq_true rfl) dX3_init_34 (fun H1 locs hP9 _ hS => ?_)
  have hP : va_P (dC, dI) vwCl ([(o, .inr (3, [.ref (o + 1), .ref (o + 7), .ref (o + 13), .null]))] ++ ((tW_X1 (fun j => o + 1 + j) cI (forgS (fun _ _ => 0 : Nat → Int → Int)) ++ tW_X1 (fun j => o + 7 + j) cI (forgS (fun _ _ => 0 : Nat → Int → Int))) ++ (hB (o + 13) cQ 6 ++ hW (o + 13) cI 6))) H1 := hP9
  have l9 : o + 50 < H1.size := (hW_P 6 (z_appR (z_appR (z_appR hP))) 5 (by decide) 5 _ rfl).lt
  refine z_size (fun hz9 => ?_)
  have hsz : H1.size = o + 51 := by omega
  clear hp1 hQ hk hP9 hz9
  refine lv_aload_n hx hb dX3_init_37 rfl (lv_at hl 0 rfl) ?_
  refine z_newo (ci := 2) (fs := [.null, .int (zI 0), .null, .null, .int (zI 0), .null, .null, .int (zI 0), .int (zI 0)]) (h := o + 51) (C := RX2) (T := TX2) (N := 9) hx hb hts in_X3_init_X2 tyX2 tyX2_ok hown (hts _ (hm3 _ (List.mem_of_getElem? (i := 12) rfl))) (hts _ (hm3 _ (List.mem_of_getElem? (i := 13) rfl))) (hts _ (hm3 _ (List.mem_of_getElem? (i := 14) rfl))) hK hP hS rfl z_d9 (Nat.le_of_ble_eq_true rfl) (Nat.le_of_ble_eq_true rfl) hsz dX3_init_38 (fun H hP hS hsz => ?_)
  refine lv_dup hx hb dX3_init_41 rfl ?_
  refine z_callb (va_runIN (As := []) (rest := [.ref (o + 51), .ref o]) ⟨hx, hb, hml, hown, hts⟩ (k_X2_init l dC dI cI cQ (fun q => o + 51 ≤ q) (o + 51) (fun q z => z)) ⟨va_cnB 0 hts gX3_init_X2_init_n28 rfl rfl rfl hNw (hts _ (hm3 _ (List.mem_of_getElem? (i := 14) rfl))) (by decide +kernel) ⟨Nat.le_of_ble_eq_true rfl, Nat.le_of_ble_eq_true rfl⟩, rfl, (hts _ (hm3 _ (List.mem_of_getElem? (i := 37) rfl)))⟩ (z_preb hsz hK (z_appR hP)) rfl rfl hl.1 rfl (lv_room (Nat.le_of_ble_eq_true rfl)) dX3_init_42 ⟨Nat.le_of_ble_eq_true rfl, Nat.le_of_ble_eq_true rfl⟩) hS (fun q z => hA9 q (Nat.le_trans (Nat.le_add_right _ _) z)) (fun H locs hsz hQ hS hk => ?_)
  have hp1 : va_P (dC, dI) vwCl ([(o, .inr (3, [.ref (o + 1), .ref (o + 7), .ref (o + 13), .null]))] ++ ((tW_X1 (fun j => o + 1 + j) cI (forgS (fun _ _ => 0 : Nat → Int → Int)) ++ tW_X1 (fun j => o + 7 + j) cI (forgS (fun _ _ => 0 : Nat → Int → Int))) ++ (hB (o + 13) cQ 6 ++ hW (o + 13) cI 6))) H := z_kept (z_appL hP) hk (fun k q hq z => by have a1 := ((D_ap2 (z_D0 (A := rg o (o + 1)) (a := o) ⟨Nat.le_refl _, Nat.lt_succ_self _⟩) hDw (by omega) (by omega)).2 k q hq).2; omega)
  have hDw : va_D (rg (o + 1) (o + 57)) (((tW_X1 (fun j => o + 1 + j) cI (forgS (fun _ _ => 0 : Nat → Int → Int)) ++ tW_X1 (fun j => o + 7 + j) cI (forgS (fun _ _ => 0 : Nat → Int → Int))) ++ (hB (o + 13) cQ 6 ++ hW (o + 13) cI 6)) ++ tW_X2 (fun j => o + 51 + j) cI (fun _ _ => 0 : Nat → Int → Int)) := D_ap2 hDw (D_X2 (o + 51) cI _) (by omega) (by omega)
  have hP : va_P (dC, dI) vwCl ([(o, .inr (3, [.ref (o + 1), .ref (o + 7), .ref (o + 13), .null]))] ++ (((tW_X1 (fun j => o + 1 + j) cI (forgS (fun _ _ => 0 : Nat → Int → Int)) ++ tW_X1 (fun j => o + 7 + j) cI (forgS (fun _ _ => 0 : Nat → Int → Int))) ++ (hB (o + 13) cQ 6 ++ hW (o + 13) cI 6)) ++ tW_X2 (fun j => o + 51 + j) cI (fun _ _ => 0 : Nat → Int → Int))) H := va_P.app (z_appL hp1) (va_P.app (z_appR hp1) hQ)
  have hD : va_D A ([(o, .inr (3, [.ref (o + 1), .ref (o + 7), .ref (o + 13), .null]))] ++ (((tW_X1 (fun j => o + 1 + j) cI (forgS (fun _ _ => 0 : Nat → Int → Int)) ++ tW_X1 (fun j => o + 7 + j) cI (forgS (fun _ _ => 0 : Nat → Int → Int))) ++ (hB (o + 13) cQ 6 ++ hW (o + 13) cI 6)) ++ tW_X2 (fun j => o + 51 + j) cI (fun _ _ => 0 : Nat → Int → Int))) := D_wk (D_ap2 (z_D0 (A := rg o (o + 1)) ⟨Nat.le_refl _, Nat.lt_succ_self _⟩) hDw (by omega) (by omega)) (fun q z => hA9 q z.1)
  refine va_putF (D := (dC, dI)) (ci := 3) (v := .ref (o + 51)) (ty := tyX3 3) (C := RX3) (T := TX3) (N := 4) hx hb hts in_X3_init_X3 tyX3 tyX3_ok nmX3 hown hK hP hD hS 0 rfl rfl 3 (by decide) (hts _ (hm3 _ (List.mem_of_getElem? (i := 15) rfl))) (fun _ h9 => h9) rfl hini rfl (by decide +kernel) rfl rfl (Nat.le_of_ble_eq_true rfl) dX3_init_45 (fun H1 locs hP9 _ hS => ?_)
  have hP : va_P (dC, dI) vwCl ([(o, .inr (3, [.ref (o + 1), .ref (o + 7), .ref (o + 13), .ref (o + 51)]))] ++ (((tW_X1 (fun j => o + 1 + j) cI (forgS (fun _ _ => 0 : Nat → Int → Int)) ++ tW_X1 (fun j => o + 7 + j) cI (forgS (fun _ _ => 0 : Nat → Int → Int))) ++ (hB (o + 13) cQ 6 ++ hW (o + 13) cI 6)) ++ tW_X2 (fun j => o + 51 + j) cI (fun _ _ => 0 : Nat → Int → Int))) H1 := hP9
  have l9 : o + 56 < H1.size := ((z_appR (z_appR hP)) 5 _ rfl).lt
  refine z_size (fun hz9 => ?_)
  have hsz : H1.size = o + 57 := by omega
  clear hp1 hQ hk hP9 hz9
  have q1 := z_appR hP
  exact z_vretb hx hb hr hlk (m_3 (z_appL hP) (z_appL (z_appL (z_appL q1))) (z_appR (z_appL (z_appL q1))) (hB_P (z_appL (z_appR (z_appL q1)))) (m_s (fun i hi => by have t := hW_P 6 (z_appR (z_appR (z_appL q1))) i hi; exact t)) (z_appR q1)) hsz hS dX3_init_48 rfl
