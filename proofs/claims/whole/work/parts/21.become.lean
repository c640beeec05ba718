/-! one state copied onto another -/
theorem z_appL {D : va_G} {cl : List vw_C} {w1 w2 : va_W} {H : Heap} (h : va_P D cl (w1 ++ w2) H) : va_P D cl w1 H :=
  fun k q hk => h k q (by rw [List.getElem?_append_left (List.getElem?_eq_some_iff.mp hk).1]; exact hk)
theorem z_appR {D : va_G} {cl : List vw_C} {w1 w2 : va_W} {H : Heap} (h : va_P D cl (w1 ++ w2) H) : va_P D cl w2 H :=
  fun k q hk => h (w1.length + k) q (by rw [List.getElem?_append_right (Nat.le_add_right _ _), Nat.add_sub_cancel_left]; exact hk)
theorem z_cellx (cA : ClassId) (n : Nat) {f g : Nat → Int32} (h : ∀ j, j < n → f j = g j) : vp_cell cA (n, .inl f) = vp_cell cA (n, .inl g) := by
  show arrV cA n (fun j => .int (f j)) = arrV cA n (fun j => .int (g j))
  unfold arrV
  congr 1
  congr 1
  funext j
  show Value.int (f j.1) = Value.int (g j.1)
  rw [h j.1 j.2]
theorem z_setx {D : va_G} {cl : List vw_C} {ws : va_W} {H : Heap} {q1 a n : Nat} {cA : ClassId} {f g : Nat → Int32} (hl : q1 < ws.length) (h : ∀ j, j < n → f j = g j) (hP : va_P D cl (ws.set q1 (a, .inl (cA, n, .inl f))) H) : va_P D cl (ws.set q1 (a, .inl (cA, n, .inl g))) H := by
  intro k q hk
  by_cases e : k = q1
  · subst e
    rw [List.getElem?_set_self hl] at hk
    cases hk
    have t := hP k _ (List.getElem?_set_self hl)
    show H[a]? = some (vp_cell cA (n, .inl g))
    rw [← z_cellx cA n h]
    exact t
  · refine hP k q ?_
    rw [List.getElem?_set_ne (Ne.symm e)] at hk ⊢
    exact hk
section ZB
variable {p : Program} {l : Launch} {e : Env} {R : Room} {s : State} {m : MethodId} {args : Array Value} {below : List Frame} {meth : Method} {c : Code} {H : Heap} {locs : List Loc} {cells slots : Nat} {Q : State → Prop}
variable {cc : ByteArray} {pc : Nat} {ls : Array Slot} {rest : List Value} {D : va_G} {cl : List vw_C} {A : Nat → Prop} {a : Nat} {tys : List (ClassId × FieldType)} {ws : va_W} {H0 : Heap}
theorem z_copy (hx : p.tables.exec = Jvm.exec) (hb : c.code = cc) (hml : c.maxLocals = ls.size) {own : String} {index : Nat} (hown : s.vm.findClass own = some m.cls) (hlink : (Cond.methodLink own index arraycopyName).before args s = true) (hnat : (Cond.native arraycopyName).before args s = true) (hstat : (Cond.static arraycopyName).before args s = true) (hini : (Cond.initialized "java/lang/System").before args s = true)
    (hK : va_K D cl tys s) (hP : va_P D cl ws H) (hD : va_D A ws) (hS : va_S A H0 H locs) (q0 q1 t0 : Nat) {a0 : Nat} {cA : ClassId} {n : Nat} {f g : Nat → Int32} (ha0 : ws[q0]? = some (a0, .inl (cA, n, .inl f))) (ha1 : ws[q1]? = some (a, .inl (cA, n, .inl g))) (ht0 : tys[t0]? = some (cA, .int)) (hn : (n : Int) < 2147483648)
    (hframes : 1 ≤ R.frames) (hlocals : (rest.map fun v => v.category).sum + (nativeFrameWords "java/lang/System" "arraycopy" 5 + 11) ≤ R.locals) (hdg : decode cc pc = .ok (.invokestatic index, 3))
    (kk : ∀ (H1 : Heap) (locs1 : List Loc), va_P D cl (ws.set q1 (a, .inl (cA, n, .inl f))) H1 → va_S A H0 H1 locs1 → W p l e R s m args below meth c H1 locs1 cells slots Q (F0 m (pc + 3) ls rest)) : W p l e R s m args below meth c H locs cells slots Q (F0 m pc ls (.int (zI n) :: .int (zI 0) :: .ref a :: .int (zI 0) :: .ref a0 :: rest)) := by
  have c0 : (zI 0).toNatClampNeg = 0 := by decide +kernel
  have cn : (zI n).toNatClampNeg = n := by rw [zI_clamp (by omega) hn]; omega
  have n0 : ¬ zI 0 < 0 := by decide +kernel
  have nn : ¬ zI n < 0 := fun q => by
    have z := (zI_lt (show -2147483648 ≤ (n : Int) ∧ (n : Int) < 2147483648 from ⟨by omega, hn⟩) (show -2147483648 ≤ (0 : Int) ∧ (0 : Int) < 2147483648 from ⟨by omega, by omega⟩)).mp (by rw [zI_0]; exact q)
    omega
  refine va_copyi hx hb hml hown hlink hnat hstat hini hK hP hD hS q0 q1 t0 t0 ha0 ha1 ht0 ht0 rfl n0 n0 nn (by rw [c0, cn]; omega) (by rw [c0, cn]; omega) (fun _ _ => rfl) hframes hlocals hdg (fun H1 locs1 hP1 _ hS1 => kk H1 locs1 ?_ hS1)
  rw [c0, cn] at hP1
  exact z_setx (List.getElem?_eq_some_iff.mp ha1).1 (fun j hj => by unfold va_cpy; rw [if_pos ⟨Nat.zero_le _, by omega⟩]; congr 1; omega) hP1
end ZB
def tW_B (ad ad2 : Nat → Nat) (cI : ClassId) (S S2 : Nat → Int → Int) : va_W := tW_X1 ad cI S ++ tW_X1 ad2 cI S2
theorem in_X1_become : ∀ w ∈ wsX10, w ∈ wsX1_become := fun w h => List.mem_cons_of_mem _ (List.mem_append_right _ h)
set_option maxHeartbeats 4000000 in
set_option maxRecDepth 100000 in
theorem k_X1_become (l : Launch) (dC : Nat → ClassId) (dI : Nat → Nat → Nat) (cI cQ : ClassId) (A : Nat → Prop) (ad ad2 : Nat → Nat) (S S2 : Nat → Int → Int) (hD : ∀ S S2, va_D A (tW_B ad ad2 cI S S2)) : Met l yX1_become wsX1_become ({ frames := 1, cells := 0, slots := 0, locals := 60 }) (zPc (dC, dI) vwCl (zT cI cQ) (tW_B ad ad2 cI S S2) [.ref (ad 0), .ref (ad2 0)]) (zQv (dC, dI) vwCl (tW_B ad ad2 cI S2 S2) A) 0 0 A := by
  refine Met.ofW (cc := cX1_become) (maxL := 2) (ret := none) (by decide) rfl ?_
  intro p e s m args below meth c s₁ B hml hv
  obtain ⟨rfl, hP, hK⟩ := hv
  have hx := B.exec
  have hb := B.bytes
  have hr := B.returns
  have hts := atoms_spec (ws := wsX1_become) B.pre
  have hown : s.vm.findClass RX1 = some m.cls := findClass_of_methodNamed B.named
  have hlk := B.notSynchronized
  have hS : va_S A s.heap s.heap [] := va_S.rf
  have hl := lv_entry ([.ref (ad 0), .ref (ad2 0)]) (n := 2) (Nat.le_of_ble_eq_true rfl)
  rw [lg_entry_eq]
  generalize (lg_sl ([.ref (ad 0), .ref (ad2 0)]) ++ List.replicate (2 - (lg_sl ([.ref (ad 0), .ref (ad2 0)])).length) Slot.unset).toArray = ls at hl ⊢
  have hl : lv_has ls 2 [(0, .ref (ad 0)), (1, .ref (ad2 0))] := hl
  have hin : ∀ w ∈ wsX10, w ∈ wsX1_become := in_X1_become
  refine lv_aload_n hx hb dX1_become_0 rfl (lv_at hl 1 rfl) ?_
  refine gx_X1_0 hx hb hts hin hown hK (z_appR hP) (hts _ (List.mem_of_getElem? (i := 1) rfl)) dX1_become_1 ?_
  refine z_iconst hx hb dX1_become_4 ?_
  refine lv_aload_n hx hb dX1_become_5 rfl (lv_at hl 0 rfl) ?_
  refine gx_X1_0 hx hb hts hin hown hK (z_appL hP) (hts _ (List.mem_of_getElem? (i := 1) rfl)) dX1_become_6 ?_
  refine z_iconst hx hb dX1_become_9 ?_
  refine lv_aload_n hx hb dX1_become_10 rfl (lv_at hl 0 rfl) ?_
  refine gx_X1_0 hx hb hts hin hown hK (z_appL hP) (hts _ (List.mem_of_getElem? (i := 1) rfl)) dX1_become_11 ?_
  refine va_alen (v := zI (384 : Nat)) hx hb hK (z_appL hP) 1 0 rfl rfl rfl dX1_become_14 ?_
  refine z_copy hx hb (hml.trans hl.1.symm) hown (hts _ (List.mem_of_getElem? (i := 2) rfl)) (hts _ (List.mem_of_getElem? (i := 3) rfl)) (hts _ (List.mem_of_getElem? (i := 4) rfl)) (hts _ (List.mem_of_getElem? (i := 5) rfl)) hK hP (hD _ _) hS 7 1 0 rfl rfl rfl (by decide) (Nat.le_of_ble_eq_true rfl) (Nat.le_of_ble_eq_true rfl) dX1_become_15 (fun H locs hP hS => ?_)
  have hP : va_P (dC, dI) vwCl (tW_B ad ad2 cI (upR S 0 (S2 0)) S2) H := hP
  refine lv_aload_n hx hb dX1_become_18 rfl (lv_at hl 1 rfl) ?_
  refine gx_X1_1 hx hb hts hin hown hK (z_appR hP) (hts _ (List.mem_of_getElem? (i := 6) rfl)) dX1_become_19 ?_
  refine z_iconst hx hb dX1_become_22 ?_
  refine lv_aload_n hx hb dX1_become_23 rfl (lv_at hl 0 rfl) ?_
  refine gx_X1_1 hx hb hts hin hown hK (z_appL hP) (hts _ (List.mem_of_getElem? (i := 6) rfl)) dX1_become_24 ?_
  refine z_iconst hx hb dX1_become_27 ?_
  refine lv_aload_n hx hb dX1_become_28 rfl (lv_at hl 0 rfl) ?_
  refine gx_X1_1 hx hb hts hin hown hK (z_appL hP) (hts _ (List.mem_of_getElem? (i := 6) rfl)) dX1_become_29 ?_
  refine va_alen (v := zI (480 : Nat)) hx hb hK (z_appL hP) 2 0 rfl rfl rfl dX1_become_32 ?_
  refine z_copy hx hb (hml.trans hl.1.symm) hown (hts _ (List.mem_of_getElem? (i := 2) rfl)) (hts _ (List.mem_of_getElem? (i := 3) rfl)) (hts _ (List.mem_of_getElem? (i := 4) rfl)) (hts _ (List.mem_of_getElem? (i := 5) rfl)) hK hP (hD _ _) hS 8 2 0 rfl rfl rfl (by decide) (Nat.le_of_ble_eq_true rfl) (Nat.le_of_ble_eq_true rfl) dX1_become_33 (fun H locs hP hS => ?_)
  have hP : va_P (dC, dI) vwCl (tW_B ad ad2 cI (upR (upR S 0 (S2 0)) 1 (S2 1)) S2) H := hP
  refine lv_aload_n hx hb dX1_become_36 rfl (lv_at hl 1 rfl) ?_
  refine gx_X1_2 hx hb hts hin hown hK (z_appR hP) (hts _ (List.mem_of_getElem? (i := 7) rfl)) dX1_become_37 ?_
  refine z_iconst hx hb dX1_become_40 ?_
  refine lv_aload_n hx hb dX1_become_41 rfl (lv_at hl 0 rfl) ?_
  refine gx_X1_2 hx hb hts hin hown hK (z_appL hP) (hts _ (List.mem_of_getElem? (i := 7) rfl)) dX1_become_42 ?_
  refine z_iconst hx hb dX1_become_45 ?_
  refine lv_aload_n hx hb dX1_become_46 rfl (lv_at hl 0 rfl) ?_
  refine gx_X1_2 hx hb hts hin hown hK (z_appL hP) (hts _ (List.mem_of_getElem? (i := 7) rfl)) dX1_become_47 ?_
  refine va_alen (v := zI (2 : Nat)) hx hb hK (z_appL hP) 3 0 rfl rfl rfl dX1_become_50 ?_
  refine z_copy hx hb (hml.trans hl.1.symm) hown (hts _ (List.mem_of_getElem? (i := 2) rfl)) (hts _ (List.mem_of_getElem? (i := 3) rfl)) (hts _ (List.mem_of_getElem? (i := 4) rfl)) (hts _ (List.mem_of_getElem? (i := 5) rfl)) hK hP (hD _ _) hS 9 3 0 rfl rfl rfl (by decide) (Nat.le_of_ble_eq_true rfl) (Nat.le_of_ble_eq_true rfl) dX1_become_51 (fun H locs hP hS => ?_)
  have hP : va_P (dC, dI) vwCl (tW_B ad ad2 cI (upR (upR (upR S 0 (S2 0)) 1 (S2 1)) 2 (S2 2)) S2) H := hP
  refine lv_aload_n hx hb dX1_become_54 rfl (lv_at hl 1 rfl) ?_
  refine gx_X1_3 hx hb hts hin hown hK (z_appR hP) (hts _ (List.mem_of_getElem? (i := 8) rfl)) dX1_become_55 ?_
  refine z_iconst hx hb dX1_become_58 ?_
  refine lv_aload_n hx hb dX1_become_59 rfl (lv_at hl 0 rfl) ?_
  refine gx_X1_3 hx hb hts hin hown hK (z_appL hP) (hts _ (List.mem_of_getElem? (i := 8) rfl)) dX1_become_60 ?_
  refine z_iconst hx hb dX1_become_63 ?_
  refine lv_aload_n hx hb dX1_become_64 rfl (lv_at hl 0 rfl) ?_
  refine gx_X1_3 hx hb hts hin hown hK (z_appL hP) (hts _ (List.mem_of_getElem? (i := 8) rfl)) dX1_become_65 ?_
  refine va_alen (v := zI (48 : Nat)) hx hb hK (z_appL hP) 4 0 rfl rfl rfl dX1_become_68 ?_
  refine z_copy hx hb (hml.trans hl.1.symm) hown (hts _ (List.mem_of_getElem? (i := 2) rfl)) (hts _ (List.mem_of_getElem? (i := 3) rfl)) (hts _ (List.mem_of_getElem? (i := 4) rfl)) (hts _ (List.mem_of_getElem? (i := 5) rfl)) hK hP (hD _ _) hS 10 4 0 rfl rfl rfl (by decide) (Nat.le_of_ble_eq_true rfl) (Nat.le_of_ble_eq_true rfl) dX1_become_69 (fun H locs hP hS => ?_)
  have hP : va_P (dC, dI) vwCl (tW_B ad ad2 cI (upR (upR (upR (upR S 0 (S2 0)) 1 (S2 1)) 2 (S2 2)) 3 (S2 3)) S2) H := hP
  refine lv_aload_n hx hb dX1_become_72 rfl (lv_at hl 1 rfl) ?_
  refine gx_X1_4 hx hb hts hin hown hK (z_appR hP) (hts _ (List.mem_of_getElem? (i := 9) rfl)) dX1_become_73 ?_
  refine z_iconst hx hb dX1_become_76 ?_
  refine lv_aload_n hx hb dX1_become_77 rfl (lv_at hl 0 rfl) ?_
  refine gx_X1_4 hx hb hts hin hown hK (z_appL hP) (hts _ (List.mem_of_getElem? (i := 9) rfl)) dX1_become_78 ?_
  refine z_iconst hx hb dX1_become_81 ?_
  refine lv_aload_n hx hb dX1_become_82 rfl (lv_at hl 0 rfl) ?_
  refine gx_X1_4 hx hb hts hin hown hK (z_appL hP) (hts _ (List.mem_of_getElem? (i := 9) rfl)) dX1_become_83 ?_
  refine va_alen (v := zI (4 : Nat)) hx hb hK (z_appL hP) 5 0 rfl rfl rfl dX1_become_86 ?_
  refine z_copy hx hb (hml.trans hl.1.symm) hown (hts _ (List.mem_of_getElem? (i := 2) rfl)) (hts _ (List.mem_of_getElem? (i := 3) rfl)) (hts _ (List.mem_of_getElem? (i := 4) rfl)) (hts _ (List.mem_of_getElem? (i := 5) rfl)) hK hP (hD _ _) hS 11 5 0 rfl rfl rfl (by decide) (Nat.le_of_ble_eq_true rfl) (Nat.le_of_ble_eq_true rfl) dX1_become_87 (fun H locs hP hS => ?_)
  have hP : va_P (dC, dI) vwCl (tW_B ad ad2 cI (upR (upR (upR (upR (upR S 0 (S2 0)) 1 (S2 1)) 2 (S2 2)) 3 (S2 3)) 4 (S2 4)) S2) H := hP
  refine lv_aload_n hx hb dX1_become_90 rfl (lv_at hl 0 rfl) ?_
  refine lv_aload_n hx hb dX1_become_91 rfl (lv_at hl 1 rfl) ?_
  refine gx_X1_5 hx hb hts hin hown hK (z_appR hP) (hts _ (List.mem_of_getElem? (i := 10) rfl)) dX1_become_92 ?_
  refine va_put (D := (dC, dI)) (ci := 1) (v := .int (zI (S2 5 0))) (ty := .int) (C := RX1) (T := TX1) (N := 11) hx hb hts hin tyX1 tyX1_ok nmX1 hown hK hP (hD _ _) hS 0 rfl rfl 5 (by decide) (hts _ (List.mem_of_getElem? (i := 10) rfl)) (fun _ h9 => h9) rfl (by decide +kernel) rfl rfl (Nat.le_of_ble_eq_true rfl) dX1_become_95 (fun H locs hP _ hS => ?_)
  have hP : va_P (dC, dI) vwCl (tW_B ad ad2 cI (up2 (upR (upR (upR (upR (upR S 0 (S2 0)) 1 (S2 1)) 2 (S2 2)) 3 (S2 3)) 4 (S2 4)) 5 0 (S2 5 0)) S2) H := hP
  refine lv_aload_n hx hb dX1_become_98 rfl (lv_at hl 0 rfl) ?_
  refine lv_aload_n hx hb dX1_become_99 rfl (lv_at hl 1 rfl) ?_
  refine gx_X1_6 hx hb hts hin hown hK (z_appR hP) (hts _ (List.mem_of_getElem? (i := 11) rfl)) dX1_become_100 ?_
  refine va_put (D := (dC, dI)) (ci := 1) (v := .int (zI (S2 6 0))) (ty := .int) (C := RX1) (T := TX1) (N := 11) hx hb hts hin tyX1 tyX1_ok nmX1 hown hK hP (hD _ _) hS 0 rfl rfl 6 (by decide) (hts _ (List.mem_of_getElem? (i := 11) rfl)) (fun _ h9 => h9) rfl (by decide +kernel) rfl rfl (Nat.le_of_ble_eq_true rfl) dX1_become_103 (fun H locs hP _ hS => ?_)
  have hP : va_P (dC, dI) vwCl (tW_B ad ad2 cI (up2 (up2 (upR (upR (upR (upR (upR S 0 (S2 0)) 1 (S2 1)) 2 (S2 2)) 3 (S2 3)) 4 (S2 4)) 5 0 (S2 5 0)) 6 0 (S2 6 0)) S2) H := hP
  refine lv_aload_n hx hb dX1_become_106 rfl (lv_at hl 0 rfl) ?_
  refine lv_aload_n hx hb dX1_become_107 rfl (lv_at hl 1 rfl) ?_
  refine gx_X1_7 hx hb hts hin hown hK (z_appR hP) (hts _ (List.mem_of_getElem? (i := 12) rfl)) dX1_become_108 ?_
  refine va_put (D := (dC, dI)) (ci := 1) (v := .int (zI (S2 7 0))) (ty := .int) (C := RX1) (T := TX1) (N := 11) hx hb hts hin tyX1 tyX1_ok nmX1 hown hK hP (hD _ _) hS 0 rfl rfl 7 (by decide) (hts _ (List.mem_of_getElem? (i := 12) rfl)) (fun _ h9 => h9) rfl (by decide +kernel) rfl rfl (Nat.le_of_ble_eq_true rfl) dX1_become_111 (fun H locs hP _ hS => ?_)
  have hP : va_P (dC, dI) vwCl (tW_B ad ad2 cI (up2 (up2 (up2 (upR (upR (upR (upR (upR S 0 (S2 0)) 1 (S2 1)) 2 (S2 2)) 3 (S2 3)) 4 (S2 4)) 5 0 (S2 5 0)) 6 0 (S2 6 0)) 7 0 (S2 7 0)) S2) H := hP
  refine lv_aload_n hx hb dX1_become_114 rfl (lv_at hl 0 rfl) ?_
  refine lv_aload_n hx hb dX1_become_115 rfl (lv_at hl 1 rfl) ?_
  refine gx_X1_8 hx hb hts hin hown hK (z_appR hP) (hts _ (List.mem_of_getElem? (i := 13) rfl)) dX1_become_116 ?_
  refine va_put (D := (dC, dI)) (ci := 1) (v := .int (zI (S2 8 0))) (ty := .int) (C := RX1) (T := TX1) (N := 11) hx hb hts hin tyX1 tyX1_ok nmX1 hown hK hP (hD _ _) hS 0 rfl rfl 8 (by decide) (hts _ (List.mem_of_getElem? (i := 13) rfl)) (fun _ h9 => h9) rfl (by decide +kernel) rfl rfl (Nat.le_of_ble_eq_true rfl) dX1_become_119 (fun H locs hP _ hS => ?_)
  have hP : va_P (dC, dI) vwCl (tW_B ad ad2 cI (up2 (up2 (up2 (up2 (upR (upR (upR (upR (upR S 0 (S2 0)) 1 (S2 1)) 2 (S2 2)) 3 (S2 3)) 4 (S2 4)) 5 0 (S2 5 0)) 6 0 (S2 6 0)) 7 0 (S2 7 0)) 8 0 (S2 8 0)) S2) H := hP
  refine lv_aload_n hx hb dX1_become_122 rfl (lv_at hl 0 rfl) ?_
  refine lv_aload_n hx hb dX1_become_123 rfl (lv_at hl 1 rfl) ?_
  refine gx_X1_9 hx hb hts hin hown hK (z_appR hP) (hts _ (List.mem_of_getElem? (i := 14) rfl)) dX1_become_124 ?_
  refine va_put (D := (dC, dI)) (ci := 1) (v := .int (zI (S2 9 0))) (ty := .int) (C := RX1) (T := TX1) (N := 11) hx hb hts hin tyX1 tyX1_ok nmX1 hown hK hP (hD _ _) hS 0 rfl rfl 9 (by decide) (hts _ (List.mem_of_getElem? (i := 14) rfl)) (fun _ h9 => h9) rfl (by decide +kernel) rfl rfl (Nat.le_of_ble_eq_true rfl) dX1_become_127 (fun H locs hP _ hS => ?_)
  have hP : va_P (dC, dI) vwCl (tW_B ad ad2 cI (up2 (up2 (up2 (up2 (up2 (upR (upR (upR (upR (upR S 0 (S2 0)) 1 (S2 1)) 2 (S2 2)) 3 (S2 3)) 4 (S2 4)) 5 0 (S2 5 0)) 6 0 (S2 6 0)) 7 0 (S2 7 0)) 8 0 (S2 8 0)) 9 0 (S2 9 0)) S2) H := hP
  refine lv_aload_n hx hb dX1_become_130 rfl (lv_at hl 0 rfl) ?_
  refine lv_aload_n hx hb dX1_become_131 rfl (lv_at hl 1 rfl) ?_
  refine gx_X1_10 hx hb hts hin hown hK (z_appR hP) (hts _ (List.mem_of_getElem? (i := 15) rfl)) dX1_become_132 ?_
  refine va_put (D := (dC, dI)) (ci := 1) (v := .int (zI (S2 10 0))) (ty := .int) (C := RX1) (T := TX1) (N := 11) hx hb hts hin tyX1 tyX1_ok nmX1 hown hK hP (hD _ _) hS 0 rfl rfl 10 (by decide) (hts _ (List.mem_of_getElem? (i := 15) rfl)) (fun _ h9 => h9) rfl (by decide +kernel) rfl rfl (Nat.le_of_ble_eq_true rfl) dX1_become_135 (fun H locs hP _ hS => ?_)
  have hP : va_P (dC, dI) vwCl (tW_B ad ad2 cI (up2 (up2 (up2 (up2 (up2 (up2 (upR (upR (upR (upR (upR S 0 (S2 0)) 1 (S2 1)) 2 (S2 2)) 3 (S2 3)) 4 (S2 4)) 5 0 (S2 5 0)) 6 0 (S2 6 0)) 7 0 (S2 7 0)) 8 0 (S2 8 0)) 9 0 (S2 9 0)) 10 0 (S2 10 0)) S2) H := hP
  exact z_vret hx hb hr hlk hP hS dX1_become_138 rfl
