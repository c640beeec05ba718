/-! the law: the looking and the forecasts -/
section LL8
variable {p : Program} {l : Launch} {e : Env} {s : State} {m : MethodId} {b : Nat} {below : List Frame} {meth : Method} {c : Code} {Q : State → Prop} {L : Nat} {xs : Nat → Int32} {dC : Nat → ClassId} {dI : Nat → Nat → Nat} {cI cQ : ClassId} {o : Nat} {ls : Array Slot} {i : Int}
set_option maxHeartbeats 4000000 in
set_option maxRecDepth 100000 in
theorem lc_count (C : lC p s m c b L xs dC dI cI cQ o) (hi : 0 ≤ i ∧ i + 4 < (L : Int)) (hl : lv_has ls 4 [(0, .ref b), (1, .ref o), (2, .ref (o + 57)), (3, .int (zI i))]) (kk : lG p l e s m b below meth c dC dI cI cQ o Q (F0 m 517 ls [])) : lG p l e s m b below meth c dC dI cI cQ o Q (F0 m 303 ls []) := by
  intro U Sh Sn Sf Sp R H locs T hP3 hP4 hS
  obtain ⟨hx, hb, hml, hown, hts, hX, hbl, hK, ho, hL⟩ := C
  have hbA : ¬ lA s b := Nat.not_le.mpr hbl
  have i3 : ∀ q, rg o (o + 57) q → lA s q := fun q z => by have t := z.1; show s.heap.size ≤ q; omega
  have i4 : ∀ q, rg (o + 57) (o + 57 + 8) q → lA s q := fun q z => by have t := z.1; show s.heap.size ≤ q; omega
  have t1 := T.1
  have tt := T.2.1
  have a0 := t1.2.1
  have e0 := t1.1.1.1
  have w := LG_WF t1 (by omega)
  have wa := LG_WFA t1 (by omega)
  have hRh := T.2.2.2.1.1
  have h1 := T.2.2.2.1.2.1
  have h2 := T.2.2.2.1.2.2.1
  have h2R : 0 ≤ R 2 0 ∧ R 2 0 ≤ 5 := by omega
  have h7 := T.2.2.1
  have hRp := T.2.2.2.2.2.1
  have x4 := T.2.2.2.2.2.2.2.1
  have x5 : 0 ≤ R 5 0 ∧ R 5 0 ≤ 80 := by omega
  have hB := w.1.1
  have n7 := a0.2.2
  refine lv_aload_n hx hb dL_law_303 rfl (lv_at hl 1 rfl) ?_
  refine lv_aload_n hx hb dL_law_304 rfl (lv_at hl 0 rfl) ?_
  refine lv_iload_n hx hb dL_law_305 rfl (lv_at hl 3 rfl) ?_
  refine z_iconst hx hb dL_law_306 ?_
  refine z_iadd hx hb dL_law_307 ?_
  refine z_sld hx hb hX hbl hbA hS hL (by omega) dL_law_308 ?_
  refine z_calli (va_runV (As := [.int (zI (sx xs (i + 1)))]) (rest := []) ⟨hx, hb, hml, hown, hts⟩ (k_X3_count l dC dI cI cQ (rg o (o + 57)) o U Sh Sn Sf Sp (fun _ h => h) (sx xs (i + 1)) (sx_r xs (i + 1)) hB n7 (by omega)) (cwV 1 hts gL_law_X3_count rfl rfl rfl (by decide +kernel) ⟨Nat.le_of_ble_eq_true rfl, Nat.le_of_ble_eq_true rfl⟩) (z_preV hK hP3 (ci := 3) (q0 := 0) rfl rfl rfl) rfl rfl hl.1 rfl (lv_room (Nat.le_of_ble_eq_true rfl)) dL_law_309 ⟨Nat.le_of_ble_eq_true rfl, Nat.le_of_ble_eq_true rfl⟩) hS i3 (fun H1 locs1 hP3 hS _ hk => ?_)
  have hP4 := kp_4 hP4 hk
  refine lv_aload_n hx hb dL_law_312 rfl (lv_at hl 2 rfl) ?_
  refine lv_aload_n hx hb dL_law_313 rfl (lv_at hl 0 rfl) ?_
  refine lv_iload_n hx hb dL_law_314 rfl (lv_at hl 3 rfl) ?_
  refine z_iconst hx hb dL_law_315 ?_
  refine z_iadd hx hb dL_law_316 ?_
  refine z_sld hx hb hX hbl hbA hS hL (by omega) dL_law_317 ?_
  refine z_calli (va_runV (As := [.int (zI (sx xs (i + 1)))]) (rest := [.int (zI (cnR Sn Sh Sp (sx xs (i + 1))))]) ⟨hx, hb, hml, hown, hts⟩ (k_X4_count l dC dI cI cQ (rg (o + 57) (o + 57 + 8)) (fun j => o + 57 + j) R (D_X4 (o + 57) cI) (sx xs (i + 1)) wa.1 (sx_r xs (i + 1)) h2R (Or.inl h7)) (cwV 1 hts gL_law_X4_count rfl rfl rfl (by decide +kernel) ⟨Nat.le_of_ble_eq_true rfl, Nat.le_of_ble_eq_true rfl⟩) (z_preV hK hP4 (ci := 4) (q0 := 0) rfl rfl rfl) rfl rfl hl.1 rfl (lv_room (Nat.le_of_ble_eq_true rfl)) dL_law_318 ⟨Nat.le_of_ble_eq_true rfl, Nat.le_of_ble_eq_true rfl⟩) hS i4 (fun H2 locs2 hP4 hS _ hk => ?_)
  have hP3 := kp_3 hP3 hk
  have TT := And.intro (L_count t1.1 t1.2 hRh hRp (sx xs (i + 1))).symm T
  refine lv_icmp_eq (tgt := 517) hx hb dL_law_321 (by decide) (fun _ => ?_) (fun z => ?_)
  · exact kk _ _ _ _ _ _ H2 locs2 TT.2 hP3 hP4 hS
  · exact absurd (congrArg zI TT.1.symm) z
set_option maxHeartbeats 4000000 in
set_option maxRecDepth 100000 in
theorem lc_copy (C : lC p s m c b L xs dC dI cI cQ o) (hi : 0 ≤ i ∧ i + 4 < (L : Int)) (hl : lv_has ls 4 [(0, .ref b), (1, .ref o), (2, .ref (o + 57)), (3, .int (zI i))]) (kk : lG p l e s m b below meth c dC dI cI cQ o Q (F0 m 517 ls [])) : lG p l e s m b below meth c dC dI cI cQ o Q (F0 m 326 ls []) := by
  intro U Sh Sn Sf Sp R H locs T hP3 hP4 hS
  obtain ⟨hx, hb, hml, hown, hts, hX, hbl, hK, ho, hL⟩ := C
  have hbA : ¬ lA s b := Nat.not_le.mpr hbl
  have i3 : ∀ q, rg o (o + 57) q → lA s q := fun q z => by have t := z.1; show s.heap.size ≤ q; omega
  have i4 : ∀ q, rg (o + 57) (o + 57 + 8) q → lA s q := fun q z => by have t := z.1; show s.heap.size ≤ q; omega
  have t1 := T.1
  have tt := T.2.1
  have a0 := t1.2.1
  have e0 := t1.1.1.1
  have w := LG_WF t1 (by omega)
  have wa := LG_WFA t1 (by omega)
  have hRh := T.2.2.2.1.1
  have h1 := T.2.2.2.1.2.1
  have h2 := T.2.2.2.1.2.2.1
  have h2R : 0 ≤ R 2 0 ∧ R 2 0 ≤ 5 := by omega
  have h7 := T.2.2.1
  have hRp := T.2.2.2.2.2.1
  have x4 := T.2.2.2.2.2.2.2.1
  have x5 : 0 ≤ R 5 0 ∧ R 5 0 ≤ 80 := by omega
  have hB := w.1.1
  have n7 := a0.2.2
  refine lv_aload_n hx hb dL_law_326 rfl (lv_at hl 1 rfl) ?_
  refine lv_aload_n hx hb dL_law_327 rfl (lv_at hl 0 rfl) ?_
  refine lv_iload_n hx hb dL_law_328 rfl (lv_at hl 3 rfl) ?_
  refine z_iconst hx hb dL_law_329 ?_
  refine z_iadd hx hb dL_law_330 ?_
  refine z_sld hx hb hX hbl hbA hS hL (by omega) dL_law_331 ?_
  refine lv_aload_n hx hb dL_law_332 rfl (lv_at hl 0 rfl) ?_
  refine lv_iload_n hx hb dL_law_333 rfl (lv_at hl 3 rfl) ?_
  refine z_iconst hx hb dL_law_334 ?_
  refine z_iadd hx hb dL_law_335 ?_
  refine z_sld hx hb hX hbl hbA hS hL (by omega) dL_law_336 ?_
  refine lv_aload_n hx hb dL_law_337 rfl (lv_at hl 0 rfl) ?_
  refine lv_iload_n hx hb dL_law_338 rfl (lv_at hl 3 rfl) ?_
  refine z_iconst hx hb dL_law_339 ?_
  refine z_iadd hx hb dL_law_340 ?_
  refine z_sld hx hb hX hbl hbA hS hL (by omega) dL_law_341 ?_
  refine lv_aload_n hx hb dL_law_342 rfl (lv_at hl 0 rfl) ?_
  refine lv_iload_n hx hb dL_law_343 rfl (lv_at hl 3 rfl) ?_
  refine z_iconst hx hb dL_law_344 ?_
  refine z_iadd hx hb dL_law_345 ?_
  refine z_sld hx hb hX hbl hbA hS hL (by omega) dL_law_346 ?_
  refine z_calli (va_runV (As := [.int (zI (sx xs (i + 1))), .int (zI (sx xs (i + 2))), .int (zI (sx xs (i + 3))), .int (zI (sx xs (i + 4)))]) (rest := []) ⟨hx, hb, hml, hown, hts⟩ (k_X3_copy l dC dI cI cQ (rg o (o + 57)) o U Sh Sn Sf Sp (fun _ h => h) (sx xs (i + 1)) (sx xs (i + 2)) (sx xs (i + 3)) (sx xs (i + 4)) (sx_r xs (i + 1)) (sx_r xs (i + 2)) (sx_r xs (i + 3)) (sx_r xs (i + 4))) (cwV 4 hts gL_law_X3_copy rfl rfl rfl (by decide +kernel) ⟨Nat.le_of_ble_eq_true rfl, Nat.le_of_ble_eq_true rfl⟩) (z_preV hK hP3 (ci := 3) (q0 := 0) rfl rfl rfl) rfl rfl hl.1 rfl (lv_room (Nat.le_of_ble_eq_true rfl)) dL_law_347 ⟨Nat.le_of_ble_eq_true rfl, Nat.le_of_ble_eq_true rfl⟩) hS i3 (fun H1 locs1 hP3 hS _ hk => ?_)
  have hP4 := kp_4 hP4 hk
  refine lv_aload_n hx hb dL_law_350 rfl (lv_at hl 2 rfl) ?_
  refine lv_aload_n hx hb dL_law_351 rfl (lv_at hl 0 rfl) ?_
  refine lv_iload_n hx hb dL_law_352 rfl (lv_at hl 3 rfl) ?_
  refine z_iconst hx hb dL_law_353 ?_
  refine z_iadd hx hb dL_law_354 ?_
  refine z_sld hx hb hX hbl hbA hS hL (by omega) dL_law_355 ?_
  refine lv_aload_n hx hb dL_law_356 rfl (lv_at hl 0 rfl) ?_
  refine lv_iload_n hx hb dL_law_357 rfl (lv_at hl 3 rfl) ?_
  refine z_iconst hx hb dL_law_358 ?_
  refine z_iadd hx hb dL_law_359 ?_
  refine z_sld hx hb hX hbl hbA hS hL (by omega) dL_law_360 ?_
  refine lv_aload_n hx hb dL_law_361 rfl (lv_at hl 0 rfl) ?_
  refine lv_iload_n hx hb dL_law_362 rfl (lv_at hl 3 rfl) ?_
  refine z_iconst hx hb dL_law_363 ?_
  refine z_iadd hx hb dL_law_364 ?_
  refine z_sld hx hb hX hbl hbA hS hL (by omega) dL_law_365 ?_
  refine lv_aload_n hx hb dL_law_366 rfl (lv_at hl 0 rfl) ?_
  refine lv_iload_n hx hb dL_law_367 rfl (lv_at hl 3 rfl) ?_
  refine z_iconst hx hb dL_law_368 ?_
  refine z_iadd hx hb dL_law_369 ?_
  refine z_sld hx hb hX hbl hbA hS hL (by omega) dL_law_370 ?_
  refine z_calli (va_runV (As := [.int (zI (sx xs (i + 1))), .int (zI (sx xs (i + 2))), .int (zI (sx xs (i + 3))), .int (zI (sx xs (i + 4)))]) (rest := [.int (zI (cpR Sn (sx xs (i + 1)) (sx xs (i + 2)) (sx xs (i + 3)) (sx xs (i + 4))))]) ⟨hx, hb, hml, hown, hts⟩ (k_X4_copy l dC dI cI cQ (rg (o + 57) (o + 57 + 8)) (fun j => o + 57 + j) R (D_X4 (o + 57) cI) (sx xs (i + 1)) (sx xs (i + 2)) (sx xs (i + 3)) (sx xs (i + 4)) wa.1 (sx_r xs (i + 1)) (sx_r xs (i + 2)) (sx_r xs (i + 3)) (sx_r xs (i + 4))) (cwV 4 hts gL_law_X4_copy rfl rfl rfl (by decide +kernel) ⟨Nat.le_of_ble_eq_true rfl, Nat.le_of_ble_eq_true rfl⟩) (z_preV hK hP4 (ci := 4) (q0 := 0) rfl rfl rfl) rfl rfl hl.1 rfl (lv_room (Nat.le_of_ble_eq_true rfl)) dL_law_371 ⟨Nat.le_of_ble_eq_true rfl, Nat.le_of_ble_eq_true rfl⟩) hS i4 (fun H2 locs2 hP4 hS _ hk => ?_)
  have hP3 := kp_3 hP3 hk
  have TT := And.intro (L_copy t1.1 (sx xs (i + 1)) (sx xs (i + 2)) (sx xs (i + 3)) (sx xs (i + 4))).symm T
  refine lv_icmp_eq (tgt := 517) hx hb dL_law_374 (by decide) (fun _ => ?_) (fun z => ?_)
  · exact kk _ _ _ _ _ _ H2 locs2 TT.2 hP3 hP4 hS
  · exact absurd (congrArg zI TT.1.symm) z
set_option maxHeartbeats 4000000 in
set_option maxRecDepth 100000 in
theorem lc_order (C : lC p s m c b L xs dC dI cI cQ o) (hi : 0 ≤ i ∧ i + 4 < (L : Int)) (hl : lv_has ls 4 [(0, .ref b), (1, .ref o), (2, .ref (o + 57)), (3, .int (zI i))]) (kk : lG p l e s m b below meth c dC dI cI cQ o Q (F0 m 517 ls [])) : lG p l e s m b below meth c dC dI cI cQ o Q (F0 m 379 ls []) := by
  intro U Sh Sn Sf Sp R H locs T hP3 hP4 hS
  obtain ⟨hx, hb, hml, hown, hts, hX, hbl, hK, ho, hL⟩ := C
  have hbA : ¬ lA s b := Nat.not_le.mpr hbl
  have i3 : ∀ q, rg o (o + 57) q → lA s q := fun q z => by have t := z.1; show s.heap.size ≤ q; omega
  have i4 : ∀ q, rg (o + 57) (o + 57 + 8) q → lA s q := fun q z => by have t := z.1; show s.heap.size ≤ q; omega
  have t1 := T.1
  have tt := T.2.1
  have a0 := t1.2.1
  have e0 := t1.1.1.1
  have w := LG_WF t1 (by omega)
  have wa := LG_WFA t1 (by omega)
  have hRh := T.2.2.2.1.1
  have h1 := T.2.2.2.1.2.1
  have h2 := T.2.2.2.1.2.2.1
  have h2R : 0 ≤ R 2 0 ∧ R 2 0 ≤ 5 := by omega
  have h7 := T.2.2.1
  have hRp := T.2.2.2.2.2.1
  have x4 := T.2.2.2.2.2.2.2.1
  have x5 : 0 ≤ R 5 0 ∧ R 5 0 ≤ 80 := by omega
  have hB := w.1.1
  have n7 := a0.2.2
  refine lv_aload_n hx hb dL_law_379 rfl (lv_at hl 1 rfl) ?_
  refine lv_aload_n hx hb dL_law_380 rfl (lv_at hl 0 rfl) ?_
  refine lv_iload_n hx hb dL_law_381 rfl (lv_at hl 3 rfl) ?_
  refine z_iconst hx hb dL_law_382 ?_
  refine z_iadd hx hb dL_law_383 ?_
  refine z_sld hx hb hX hbl hbA hS hL (by omega) dL_law_384 ?_
  refine lv_aload_n hx hb dL_law_385 rfl (lv_at hl 0 rfl) ?_
  refine lv_iload_n hx hb dL_law_386 rfl (lv_at hl 3 rfl) ?_
  refine z_iconst hx hb dL_law_387 ?_
  refine z_iadd hx hb dL_law_388 ?_
  refine z_sld hx hb hX hbl hbA hS hL (by omega) dL_law_389 ?_
  refine z_calli (va_runV (As := [.int (zI (sx xs (i + 1))), .int (zI (sx xs (i + 2)))]) (rest := []) ⟨hx, hb, hml, hown, hts⟩ (k_X3_order l dC dI cI cQ (rg o (o + 57)) o U Sh Sn Sf Sp (fun _ h => h) (sx xs (i + 1)) (sx xs (i + 2)) (sx_r xs (i + 1)) (sx_r xs (i + 2)) hB n7) (cwV 2 hts gL_law_X3_order rfl rfl rfl (by decide +kernel) ⟨Nat.le_of_ble_eq_true rfl, Nat.le_of_ble_eq_true rfl⟩) (z_preV hK hP3 (ci := 3) (q0 := 0) rfl rfl rfl) rfl rfl hl.1 rfl (lv_room (Nat.le_of_ble_eq_true rfl)) dL_law_390 ⟨Nat.le_of_ble_eq_true rfl, Nat.le_of_ble_eq_true rfl⟩) hS i3 (fun H1 locs1 hP3 hS _ hk => ?_)
  have hP4 := kp_4 hP4 hk
  refine lv_aload_n hx hb dL_law_393 rfl (lv_at hl 2 rfl) ?_
  refine lv_aload_n hx hb dL_law_394 rfl (lv_at hl 0 rfl) ?_
  refine lv_iload_n hx hb dL_law_395 rfl (lv_at hl 3 rfl) ?_
  refine z_iconst hx hb dL_law_396 ?_
  refine z_iadd hx hb dL_law_397 ?_
  refine z_sld hx hb hX hbl hbA hS hL (by omega) dL_law_398 ?_
  refine lv_aload_n hx hb dL_law_399 rfl (lv_at hl 0 rfl) ?_
  refine lv_iload_n hx hb dL_law_400 rfl (lv_at hl 3 rfl) ?_
  refine z_iconst hx hb dL_law_401 ?_
  refine z_iadd hx hb dL_law_402 ?_
  refine z_sld hx hb hX hbl hbA hS hL (by omega) dL_law_403 ?_
  refine z_calli (va_runV (As := [.int (zI (sx xs (i + 1))), .int (zI (sx xs (i + 2)))]) (rest := [.int (zI (odR Sn (sx xs (i + 1)) (sx xs (i + 2))))]) ⟨hx, hb, hml, hown, hts⟩ (k_X4_order l dC dI cI cQ (rg (o + 57) (o + 57 + 8)) (fun j => o + 57 + j) R (D_X4 (o + 57) cI) (sx xs (i + 1)) (sx xs (i + 2)) wa.1 (sx_r xs (i + 1)) (sx_r xs (i + 2))) (cwV 2 hts gL_law_X4_order rfl rfl rfl (by decide +kernel) ⟨Nat.le_of_ble_eq_true rfl, Nat.le_of_ble_eq_true rfl⟩) (z_preV hK hP4 (ci := 4) (q0 := 0) rfl rfl rfl) rfl rfl hl.1 rfl (lv_room (Nat.le_of_ble_eq_true rfl)) dL_law_404 ⟨Nat.le_of_ble_eq_true rfl, Nat.le_of_ble_eq_true rfl⟩) hS i4 (fun H2 locs2 hP4 hS _ hk => ?_)
  have hP3 := kp_3 hP3 hk
  have TT := And.intro (L_order t1.1 t1.2 (sx xs (i + 1)) (sx xs (i + 2))).symm T
  refine lv_icmp_eq (tgt := 517) hx hb dL_law_407 (by decide) (fun _ => ?_) (fun z => ?_)
  · exact kk _ _ _ _ _ _ H2 locs2 TT.2 hP3 hP4 hS
  · exact absurd (congrArg zI TT.1.symm) z
set_option maxHeartbeats 4000000 in
set_option maxRecDepth 100000 in
theorem lc_waits (C : lC p s m c b L xs dC dI cI cQ o) (hi : 0 ≤ i ∧ i + 4 < (L : Int)) (hl : lv_has ls 4 [(0, .ref b), (1, .ref o), (2, .ref (o + 57)), (3, .int (zI i))]) (kk : lG p l e s m b below meth c dC dI cI cQ o Q (F0 m 517 ls [])) : lG p l e s m b below meth c dC dI cI cQ o Q (F0 m 412 ls []) := by
  intro U Sh Sn Sf Sp R H locs T hP3 hP4 hS
  obtain ⟨hx, hb, hml, hown, hts, hX, hbl, hK, ho, hL⟩ := C
  have hbA : ¬ lA s b := Nat.not_le.mpr hbl
  have i3 : ∀ q, rg o (o + 57) q → lA s q := fun q z => by have t := z.1; show s.heap.size ≤ q; omega
  have i4 : ∀ q, rg (o + 57) (o + 57 + 8) q → lA s q := fun q z => by have t := z.1; show s.heap.size ≤ q; omega
  have t1 := T.1
  have tt := T.2.1
  have a0 := t1.2.1
  have e0 := t1.1.1.1
  have w := LG_WF t1 (by omega)
  have wa := LG_WFA t1 (by omega)
  have hRh := T.2.2.2.1.1
  have h1 := T.2.2.2.1.2.1
  have h2 := T.2.2.2.1.2.2.1
  have h2R : 0 ≤ R 2 0 ∧ R 2 0 ≤ 5 := by omega
  have h7 := T.2.2.1
  have hRp := T.2.2.2.2.2.1
  have x4 := T.2.2.2.2.2.2.2.1
  have x5 : 0 ≤ R 5 0 ∧ R 5 0 ≤ 80 := by omega
  have hB := w.1.1
  have n7 := a0.2.2
  have hlz : longZ Sn (Sn 7 0) = -9 ∨ (0 ≤ longZ Sn (Sn 7 0) ∧ longZ Sn (Sn 7 0) < 60) := by
    obtain ⟨i1, i2⟩ := L_long t1.1 t1.2 (Sn 7 0).toNat (by omega)
    rw [show ((Sn 7 0).toNat : Int) = Sn 7 0 from by omega] at i1 i2
    rw [i1]
    omega
  refine lv_aload_n hx hb dL_law_412 rfl (lv_at hl 1 rfl) ?_
  refine lv_aload_n hx hb dL_law_413 rfl (lv_at hl 0 rfl) ?_
  refine lv_iload_n hx hb dL_law_414 rfl (lv_at hl 3 rfl) ?_
  refine z_iconst hx hb dL_law_415 ?_
  refine z_iadd hx hb dL_law_416 ?_
  refine z_sld hx hb hX hbl hbA hS hL (by omega) dL_law_417 ?_
  refine z_calli (va_runV (As := [.int (zI (sx xs (i + 1)))]) (rest := []) ⟨hx, hb, hml, hown, hts⟩ (k_X3_waits l dC dI cI cQ (rg o (o + 57)) o U Sh Sn Sf Sp (fun _ h => h) (sx xs (i + 1)) (sx_r xs (i + 1)) hB n7 hlz) (cwV 1 hts gL_law_X3_waits rfl rfl rfl (by decide +kernel) ⟨Nat.le_of_ble_eq_true rfl, Nat.le_of_ble_eq_true rfl⟩) (z_preV hK hP3 (ci := 3) (q0 := 0) rfl rfl rfl) rfl rfl hl.1 rfl (lv_room (Nat.le_of_ble_eq_true rfl)) dL_law_418 ⟨Nat.le_of_ble_eq_true rfl, Nat.le_of_ble_eq_true rfl⟩) hS i3 (fun H1 locs1 hP3 hS _ hk => ?_)
  have hP4 := kp_4 hP4 hk
  refine lv_aload_n hx hb dL_law_421 rfl (lv_at hl 2 rfl) ?_
  refine lv_aload_n hx hb dL_law_422 rfl (lv_at hl 0 rfl) ?_
  refine lv_iload_n hx hb dL_law_423 rfl (lv_at hl 3 rfl) ?_
  refine z_iconst hx hb dL_law_424 ?_
  refine z_iadd hx hb dL_law_425 ?_
  refine z_sld hx hb hX hbl hbA hS hL (by omega) dL_law_426 ?_
  refine z_calli (va_runV (As := [.int (zI (sx xs (i + 1)))]) (rest := [.int (zI (waR Sn (sx xs (i + 1))))]) ⟨hx, hb, hml, hown, hts⟩ (k_X4_waits l dC dI cI cQ (rg (o + 57) (o + 57 + 8)) (fun j => o + 57 + j) R (D_X4 (o + 57) cI) (sx xs (i + 1)) wa.1 (sx_r xs (i + 1))) (cwV 1 hts gL_law_X4_waits rfl rfl rfl (by decide +kernel) ⟨Nat.le_of_ble_eq_true rfl, Nat.le_of_ble_eq_true rfl⟩) (z_preV hK hP4 (ci := 4) (q0 := 0) rfl rfl rfl) rfl rfl hl.1 rfl (lv_room (Nat.le_of_ble_eq_true rfl)) dL_law_427 ⟨Nat.le_of_ble_eq_true rfl, Nat.le_of_ble_eq_true rfl⟩) hS i4 (fun H2 locs2 hP4 hS _ hk => ?_)
  have hP3 := kp_3 hP3 hk
  have TT := And.intro (L_waits t1.1 t1.2 (sx xs (i + 1))).symm T
  refine lv_icmp_eq (tgt := 517) hx hb dL_law_430 (by decide) (fun _ => ?_) (fun z => ?_)
  · exact kk _ _ _ _ _ _ H2 locs2 TT.2 hP3 hP4 hS
  · exact absurd (congrArg zI TT.1.symm) z
set_option maxHeartbeats 4000000 in
set_option maxRecDepth 100000 in
theorem lc_nearer (C : lC p s m c b L xs dC dI cI cQ o) (hi : 0 ≤ i ∧ i + 4 < (L : Int)) (hl : lv_has ls 4 [(0, .ref b), (1, .ref o), (2, .ref (o + 57)), (3, .int (zI i))]) (kk : lG p l e s m b below meth c dC dI cI cQ o Q (F0 m 517 ls [])) : lG p l e s m b below meth c dC dI cI cQ o Q (F0 m 435 ls []) := by
  intro U Sh Sn Sf Sp R H locs T hP3 hP4 hS
  obtain ⟨hx, hb, hml, hown, hts, hX, hbl, hK, ho, hL⟩ := C
  have hbA : ¬ lA s b := Nat.not_le.mpr hbl
  have i3 : ∀ q, rg o (o + 57) q → lA s q := fun q z => by have t := z.1; show s.heap.size ≤ q; omega
  have i4 : ∀ q, rg (o + 57) (o + 57 + 8) q → lA s q := fun q z => by have t := z.1; show s.heap.size ≤ q; omega
  have t1 := T.1
  have tt := T.2.1
  have a0 := t1.2.1
  have e0 := t1.1.1.1
  have w := LG_WF t1 (by omega)
  have wa := LG_WFA t1 (by omega)
  have hRh := T.2.2.2.1.1
  have h1 := T.2.2.2.1.2.1
  have h2 := T.2.2.2.1.2.2.1
  have h2R : 0 ≤ R 2 0 ∧ R 2 0 ≤ 5 := by omega
  have h7 := T.2.2.1
  have hRp := T.2.2.2.2.2.1
  have x4 := T.2.2.2.2.2.2.2.1
  have x5 : 0 ≤ R 5 0 ∧ R 5 0 ≤ 80 := by omega
  have hB := w.1.1
  have n7 := a0.2.2
  refine lv_aload_n hx hb dL_law_435 rfl (lv_at hl 1 rfl) ?_
  refine lv_aload_n hx hb dL_law_436 rfl (lv_at hl 0 rfl) ?_
  refine lv_iload_n hx hb dL_law_437 rfl (lv_at hl 3 rfl) ?_
  refine z_iconst hx hb dL_law_438 ?_
  refine z_iadd hx hb dL_law_439 ?_
  refine z_sld hx hb hX hbl hbA hS hL (by omega) dL_law_440 ?_
  refine lv_aload_n hx hb dL_law_441 rfl (lv_at hl 0 rfl) ?_
  refine lv_iload_n hx hb dL_law_442 rfl (lv_at hl 3 rfl) ?_
  refine z_iconst hx hb dL_law_443 ?_
  refine z_iadd hx hb dL_law_444 ?_
  refine z_sld hx hb hX hbl hbA hS hL (by omega) dL_law_445 ?_
  refine z_calli (va_runV (As := [.int (zI (sx xs (i + 1))), .int (zI (sx xs (i + 2)))]) (rest := []) ⟨hx, hb, hml, hown, hts⟩ (k_X3_nearer l dC dI cI cQ (rg o (o + 57)) o U Sh Sn Sf Sp (fun _ h => h) (sx xs (i + 1)) (sx xs (i + 2)) (sx_r xs (i + 1)) (sx_r xs (i + 2)) (by omega)) (cwV 2 hts gL_law_X3_nearer rfl rfl rfl (by decide +kernel) ⟨Nat.le_of_ble_eq_true rfl, Nat.le_of_ble_eq_true rfl⟩) (z_preV hK hP3 (ci := 3) (q0 := 0) rfl rfl rfl) rfl rfl hl.1 rfl (lv_room (Nat.le_of_ble_eq_true rfl)) dL_law_446 ⟨Nat.le_of_ble_eq_true rfl, Nat.le_of_ble_eq_true rfl⟩) hS i3 (fun H1 locs1 hP3 hS _ hk => ?_)
  have hP4 := kp_4 hP4 hk
  refine lv_aload_n hx hb dL_law_449 rfl (lv_at hl 2 rfl) ?_
  refine lv_aload_n hx hb dL_law_450 rfl (lv_at hl 0 rfl) ?_
  refine lv_iload_n hx hb dL_law_451 rfl (lv_at hl 3 rfl) ?_
  refine z_iconst hx hb dL_law_452 ?_
  refine z_iadd hx hb dL_law_453 ?_
  refine z_sld hx hb hX hbl hbA hS hL (by omega) dL_law_454 ?_
  refine lv_aload_n hx hb dL_law_455 rfl (lv_at hl 0 rfl) ?_
  refine lv_iload_n hx hb dL_law_456 rfl (lv_at hl 3 rfl) ?_
  refine z_iconst hx hb dL_law_457 ?_
  refine z_iadd hx hb dL_law_458 ?_
  refine z_sld hx hb hX hbl hbA hS hL (by omega) dL_law_459 ?_
  refine z_calli (va_runV (As := [.int (zI (sx xs (i + 1))), .int (zI (sx xs (i + 2)))]) (rest := [.int (zI (neR Sn (sx xs (i + 1)) (sx xs (i + 2))))]) ⟨hx, hb, hml, hown, hts⟩ (k_X4_nearer l dC dI cI cQ (rg (o + 57) (o + 57 + 8)) (fun j => o + 57 + j) R (D_X4 (o + 57) cI) (sx xs (i + 1)) (sx xs (i + 2)) wa.1 (sx_r xs (i + 1)) (sx_r xs (i + 2))) (cwV 2 hts gL_law_X4_nearer rfl rfl rfl (by decide +kernel) ⟨Nat.le_of_ble_eq_true rfl, Nat.le_of_ble_eq_true rfl⟩) (z_preV hK hP4 (ci := 4) (q0 := 0) rfl rfl rfl) rfl rfl hl.1 rfl (lv_room (Nat.le_of_ble_eq_true rfl)) dL_law_460 ⟨Nat.le_of_ble_eq_true rfl, Nat.le_of_ble_eq_true rfl⟩) hS i4 (fun H2 locs2 hP4 hS _ hk => ?_)
  have hP3 := kp_3 hP3 hk
  have TT := And.intro (L_nearer t1.1 t1.2 (sx xs (i + 1)) (sx xs (i + 2))).symm T
  refine lv_icmp_eq (tgt := 517) hx hb dL_law_463 (by decide) (fun _ => ?_) (fun z => ?_)
  · exact kk _ _ _ _ _ _ H2 locs2 TT.2 hP3 hP4 hS
  · exact absurd (congrArg zI TT.1.symm) z
set_option maxHeartbeats 4000000 in
set_option maxRecDepth 100000 in
theorem lc_doneIn (C : lC p s m c b L xs dC dI cI cQ o) (hi : 0 ≤ i ∧ i + 4 < (L : Int)) (hl : lv_has ls 4 [(0, .ref b), (1, .ref o), (2, .ref (o + 57)), (3, .int (zI i))]) (kk : lG p l e s m b below meth c dC dI cI cQ o Q (F0 m 517 ls [])) : lG p l e s m b below meth c dC dI cI cQ o Q (F0 m 468 ls []) := by
  intro U Sh Sn Sf Sp R H locs T hP3 hP4 hS
  obtain ⟨hx, hb, hml, hown, hts, hX, hbl, hK, ho, hL⟩ := C
  have hbA : ¬ lA s b := Nat.not_le.mpr hbl
  have i3 : ∀ q, rg o (o + 57) q → lA s q := fun q z => by have t := z.1; show s.heap.size ≤ q; omega
  have i4 : ∀ q, rg (o + 57) (o + 57 + 8) q → lA s q := fun q z => by have t := z.1; show s.heap.size ≤ q; omega
  have t1 := T.1
  have tt := T.2.1
  have a0 := t1.2.1
  have e0 := t1.1.1.1
  have w := LG_WF t1 (by omega)
  have wa := LG_WFA t1 (by omega)
  have hRh := T.2.2.2.1.1
  have h1 := T.2.2.2.1.2.1
  have h2 := T.2.2.2.1.2.2.1
  have h2R : 0 ≤ R 2 0 ∧ R 2 0 ≤ 5 := by omega
  have h7 := T.2.2.1
  have hRp := T.2.2.2.2.2.1
  have x4 := T.2.2.2.2.2.2.2.1
  have x5 : 0 ≤ R 5 0 ∧ R 5 0 ≤ 80 := by omega
  have hB := w.1.1
  have n7 := a0.2.2
  refine lv_aload_n hx hb dL_law_468 rfl (lv_at hl 1 rfl) ?_
  refine lv_aload_n hx hb dL_law_469 rfl (lv_at hl 0 rfl) ?_
  refine lv_iload_n hx hb dL_law_470 rfl (lv_at hl 3 rfl) ?_
  refine z_iconst hx hb dL_law_471 ?_
  refine z_iadd hx hb dL_law_472 ?_
  refine z_sld hx hb hX hbl hbA hS hL (by omega) dL_law_473 ?_
  refine z_calli (va_runV (As := [.int (zI (sx xs (i + 1)))]) (rest := []) ⟨hx, hb, hml, hown, hts⟩ (k_X3_doneIn l dC dI cI cQ (rg o (o + 57)) o U Sh Sn Sf Sp (fun _ h => h) (sx xs (i + 1)) (sx_r xs (i + 1)) (LG_allW t1 (n := 300) (by omega))) (cwV 1 hts gL_law_X3_doneIn rfl rfl rfl (by decide +kernel) ⟨Nat.le_of_ble_eq_true rfl, Nat.le_of_ble_eq_true rfl⟩) (z_preV hK hP3 (ci := 3) (q0 := 0) rfl rfl rfl) rfl rfl hl.1 rfl (lv_room (Nat.le_of_ble_eq_true rfl)) dL_law_474 ⟨Nat.le_of_ble_eq_true rfl, Nat.le_of_ble_eq_true rfl⟩) hS i3 (fun H1 locs1 hP3 hS _ hk => ?_)
  have hP4 := kp_4 hP4 hk
  refine lv_aload_n hx hb dL_law_477 rfl (lv_at hl 2 rfl) ?_
  refine lv_aload_n hx hb dL_law_478 rfl (lv_at hl 0 rfl) ?_
  refine lv_iload_n hx hb dL_law_479 rfl (lv_at hl 3 rfl) ?_
  refine z_iconst hx hb dL_law_480 ?_
  refine z_iadd hx hb dL_law_481 ?_
  refine z_sld hx hb hX hbl hbA hS hL (by omega) dL_law_482 ?_
  refine z_calli (va_runV (As := [.int (zI (sx xs (i + 1)))]) (rest := [.int (zI (doR Sn (sx xs (i + 1))))]) ⟨hx, hb, hml, hown, hts⟩ (k_X4_doneIn l dC dI cI cQ (rg (o + 57) (o + 57 + 8)) (fun j => o + 57 + j) R (D_X4 (o + 57) cI) (sx xs (i + 1)) wa.1 (sx_r xs (i + 1)) (LG_allA t1 (n := 300) (by omega))) (cwV 1 hts gL_law_X4_doneIn rfl rfl rfl (by decide +kernel) ⟨Nat.le_of_ble_eq_true rfl, Nat.le_of_ble_eq_true rfl⟩) (z_preV hK hP4 (ci := 4) (q0 := 0) rfl rfl rfl) rfl rfl hl.1 rfl (lv_room (Nat.le_of_ble_eq_true rfl)) dL_law_483 ⟨Nat.le_of_ble_eq_true rfl, Nat.le_of_ble_eq_true rfl⟩) hS i4 (fun H2 locs2 hP4 hS _ hk => ?_)
  have hP3 := kp_3 hP3 hk
  have TT := T_done T (sx xs (i + 1))
  refine lv_icmp_eq (tgt := 517) hx hb dL_law_486 (by decide) (fun _ => ?_) (fun z => ?_)
  · exact kk _ _ _ _ _ _ H2 locs2 TT.2 hP3 hP4 hS
  · exact absurd (congrArg zI TT.1.symm) z
set_option maxHeartbeats 4000000 in
set_option maxRecDepth 100000 in
theorem lc_idleIn (C : lC p s m c b L xs dC dI cI cQ o) (hi : 0 ≤ i ∧ i + 4 < (L : Int)) (hl : lv_has ls 4 [(0, .ref b), (1, .ref o), (2, .ref (o + 57)), (3, .int (zI i))]) (kk : lG p l e s m b below meth c dC dI cI cQ o Q (F0 m 517 ls [])) : lG p l e s m b below meth c dC dI cI cQ o Q (F0 m 491 ls []) := by
  intro U Sh Sn Sf Sp R H locs T hP3 hP4 hS
  obtain ⟨hx, hb, hml, hown, hts, hX, hbl, hK, ho, hL⟩ := C
  have hbA : ¬ lA s b := Nat.not_le.mpr hbl
  have i3 : ∀ q, rg o (o + 57) q → lA s q := fun q z => by have t := z.1; show s.heap.size ≤ q; omega
  have i4 : ∀ q, rg (o + 57) (o + 57 + 8) q → lA s q := fun q z => by have t := z.1; show s.heap.size ≤ q; omega
  have t1 := T.1
  have tt := T.2.1
  have a0 := t1.2.1
  have e0 := t1.1.1.1
  have w := LG_WF t1 (by omega)
  have wa := LG_WFA t1 (by omega)
  have hRh := T.2.2.2.1.1
  have h1 := T.2.2.2.1.2.1
  have h2 := T.2.2.2.1.2.2.1
  have h2R : 0 ≤ R 2 0 ∧ R 2 0 ≤ 5 := by omega
  have h7 := T.2.2.1
  have hRp := T.2.2.2.2.2.1
  have x4 := T.2.2.2.2.2.2.2.1
  have x5 : 0 ≤ R 5 0 ∧ R 5 0 ≤ 80 := by omega
  have hB := w.1.1
  have n7 := a0.2.2
  refine lv_aload_n hx hb dL_law_491 rfl (lv_at hl 1 rfl) ?_
  refine z_calli (va_runV (As := []) (rest := []) ⟨hx, hb, hml, hown, hts⟩ (k_X3_idleIn l dC dI cI cQ (rg o (o + 57)) o U Sh Sn Sf Sp (fun _ h => h)  (LG_allW t1 (n := 300) (by omega))) (cwV 0 hts gL_law_X3_idleIn rfl rfl rfl (by decide +kernel) ⟨Nat.le_of_ble_eq_true rfl, Nat.le_of_ble_eq_true rfl⟩) (z_preV hK hP3 (ci := 3) (q0 := 0) rfl rfl rfl) rfl rfl hl.1 rfl (lv_room (Nat.le_of_ble_eq_true rfl)) dL_law_492 ⟨Nat.le_of_ble_eq_true rfl, Nat.le_of_ble_eq_true rfl⟩) hS i3 (fun H1 locs1 hP3 hS _ hk => ?_)
  have hP4 := kp_4 hP4 hk
  refine lv_aload_n hx hb dL_law_495 rfl (lv_at hl 2 rfl) ?_
  refine z_calli (va_runV (As := []) (rest := [.int (zI (idC Sn))]) ⟨hx, hb, hml, hown, hts⟩ (k_X4_idleIn l dC dI cI cQ (rg (o + 57) (o + 57 + 8)) (fun j => o + 57 + j) R (D_X4 (o + 57) cI)  wa.1 (LG_allA t1 (n := 301) (by omega))) (cwV 0 hts gL_law_X4_idleIn rfl rfl rfl (by decide +kernel) ⟨Nat.le_of_ble_eq_true rfl, Nat.le_of_ble_eq_true rfl⟩) (z_preV hK hP4 (ci := 4) (q0 := 0) rfl rfl rfl) rfl rfl hl.1 rfl (lv_room (Nat.le_of_ble_eq_true rfl)) dL_law_496 ⟨Nat.le_of_ble_eq_true rfl, Nat.le_of_ble_eq_true rfl⟩) hS i4 (fun H2 locs2 hP4 hS _ hk => ?_)
  have hP3 := kp_3 hP3 hk
  have TT := T_idle T
  refine lv_icmp_eq (tgt := 517) hx hb dL_law_499 (by decide) (fun _ => ?_) (fun z => ?_)
  · exact kk _ _ _ _ _ _ H2 locs2 TT.2 hP3 hP4 hS
  · exact absurd (congrArg zI TT.1.symm) z
set_option maxHeartbeats 4000000 in
set_option maxRecDepth 100000 in
theorem lc_wouldWipe (C : lC p s m c b L xs dC dI cI cQ o) (hi : 0 ≤ i ∧ i + 4 < (L : Int)) (hl : lv_has ls 4 [(0, .ref b), (1, .ref o), (2, .ref (o + 57)), (3, .int (zI i))]) (kk : lG p l e s m b below meth c dC dI cI cQ o Q (F0 m 517 ls [])) : lG p l e s m b below meth c dC dI cI cQ o Q (F0 m 504 ls []) := by
  intro U Sh Sn Sf Sp R H locs T hP3 hP4 hS
  obtain ⟨hx, hb, hml, hown, hts, hX, hbl, hK, ho, hL⟩ := C
  have hbA : ¬ lA s b := Nat.not_le.mpr hbl
  have i3 : ∀ q, rg o (o + 57) q → lA s q := fun q z => by have t := z.1; show s.heap.size ≤ q; omega
  have i4 : ∀ q, rg (o + 57) (o + 57 + 8) q → lA s q := fun q z => by have t := z.1; show s.heap.size ≤ q; omega
  have t1 := T.1
  have tt := T.2.1
  have a0 := t1.2.1
  have e0 := t1.1.1.1
  have w := LG_WF t1 (by omega)
  have wa := LG_WFA t1 (by omega)
  have hRh := T.2.2.2.1.1
  have h1 := T.2.2.2.1.2.1
  have h2 := T.2.2.2.1.2.2.1
  have h2R : 0 ≤ R 2 0 ∧ R 2 0 ≤ 5 := by omega
  have h7 := T.2.2.1
  have hRp := T.2.2.2.2.2.1
  have x4 := T.2.2.2.2.2.2.2.1
  have x5 : 0 ≤ R 5 0 ∧ R 5 0 ≤ 80 := by omega
  have hB := w.1.1
  have n7 := a0.2.2
  refine lv_aload_n hx hb dL_law_504 rfl (lv_at hl 1 rfl) ?_
  refine z_calli (va_runV (As := []) (rest := []) ⟨hx, hb, hml, hown, hts⟩ (k_X3_wouldWipe l dC dI cI cQ (rg o (o + 57)) o U Sh Sn Sf Sp (fun _ h => h)  w.1 (LG_tearW t1 tt) (fun q q0 q1 => (LG_swW (LG_cut t1) (by rw [cut_o Sn (i := 5) (by decide)]; omega) (b := q) (by omega)).1)) (cwV 0 hts gL_law_X3_wouldWipe rfl rfl rfl (by decide +kernel) ⟨Nat.le_of_ble_eq_true rfl, Nat.le_of_ble_eq_true rfl⟩) (z_preV hK hP3 (ci := 3) (q0 := 0) rfl rfl rfl) rfl rfl hl.1 rfl (lv_room (Nat.le_of_ble_eq_true rfl)) dL_law_505 ⟨Nat.le_of_ble_eq_true rfl, Nat.le_of_ble_eq_true rfl⟩) hS i3 (fun H1 locs1 hP3 hS _ hk => ?_)
  have hP4 := kp_4 hP4 hk
  refine lv_aload_n hx hb dL_law_508 rfl (lv_at hl 2 rfl) ?_
  refine z_calli (va_runV (As := []) (rest := [.int (zI (repairS (cutS Sn) 9 0 - Sn 9 0))]) ⟨hx, hb, hml, hown, hts⟩ (k_X4_wouldWipe l dC dI cI cQ (rg (o + 57) (o + 57 + 8)) (fun j => o + 57 + j) R (D_X4 (o + 57) cI)  wa.1 (LG_WFA (LG_cut t1) (by rw [cut_o Sn (i := 5) (by decide)]; omega)).1) (cwV 0 hts gL_law_X4_wouldWipe rfl rfl rfl (by decide +kernel) ⟨Nat.le_of_ble_eq_true rfl, Nat.le_of_ble_eq_true rfl⟩) (z_preV hK hP4 (ci := 4) (q0 := 0) rfl rfl rfl) rfl rfl hl.1 rfl (lv_room (Nat.le_of_ble_eq_true rfl)) dL_law_509 ⟨Nat.le_of_ble_eq_true rfl, Nat.le_of_ble_eq_true rfl⟩) hS i4 (fun H2 locs2 hP4 hS _ hk => ?_)
  have hP3 := kp_3 hP3 hk
  have TT := T_wipe T
  refine lv_icmp_eq (tgt := 517) hx hb dL_law_512 (by decide) (fun _ => ?_) (fun z => ?_)
  · exact kk _ _ _ _ _ _ H2 locs2 TT.2 hP3 hP4 hS
  · exact absurd (congrArg zI TT.1.symm) z
end LL8
