/-! constructors: where the arrays come to lie -/
def zPb (D : va_G) (cl : List vw_C) (tys : List (ClassId × FieldType)) (ws : va_W) (n : Nat) (av : List Value) : Array Value → State → Prop := va_Pc av (fun U => U.heap.size = n ∧ va_P D cl ws U.heap ∧ va_K D cl tys U)
def zQb (D : va_G) (cl : List vw_C) (ws : va_W) (n : Nat) (A : Nat → Prop) : Array Value → State → Outcome → State → Prop := va_Qv (fun _ : Unit => True) (fun _ t => t.heap.size = n ∧ va_P D cl ws t.heap) A
theorem zPb_blind (D : va_G) (cl : List vw_C) (tys : List (ClassId × FieldType)) (ws : va_W) (n : Nat) (av : List Value) : FrameBlind (zPb D cl tys ws n av) :=
  fun a U g mk q => ⟨q.1, q.2.1, q.2.2.1, va_K.moved (u := U) (U := U.calling g mk a) (Vm.Alike.refl U.vm) q.2.2.2⟩
section ZN
variable {p : Program} {l : Launch} {e : Env} {R : Room} {s : State} {m : MethodId} {args : Array Value} {below : List Frame} {meth : Method} {c : Code} {H : Heap} {locs : List Loc} {cells slots : Nat} {Q : State → Prop}
variable {cc : ByteArray} {pc : Nat} {ls : Array Slot} {rest : List Value} {D : va_G} {cl : List vw_C} {A : Nat → Prop} {a : Nat} {tys : List (ClassId × FieldType)} {ws : va_W} {H0 : Heap}
theorem z_size {g : JFrame} (k : H.size ≤ s.heap.size + cells → W p l e R s m args below meth c H locs cells slots Q g) : W p l e R s m args below meth c H locs cells slots Q g :=
  fun T hT X => k (by have z := X.heapSize; rw [hT] at z; exact z) T hT X
theorem z_newa (hx : p.tables.exec = Jvm.exec) (hb : c.code = cc) (harr : (Cond.arrayClass .int).before args s = true) (hK : va_K D cl tys s) (hP : va_P D cl ws H) (hD : va_D A ws) (hS : va_S A H0 H locs) (hA : ∀ q, H0.size ≤ q → A q) (t0 : Nat) {cI : ClassId} (ht : tys[t0]? = some (cI, .int)) {n h : Nat} (hn : n * 4 ≤ 536870912) (hcells : cells + 1 ≤ R.cells) (hslots : slots + n ≤ R.slots) (hz : H.size = h) (hdg : decode cc pc = .ok (.newarray .int, 2))
    (kk : ∀ H1 : Heap, va_P D cl (ws ++ [(h, .inl (cI, n, .inl (fun _ => zI 0)))]) H1 → va_D A (ws ++ [(h, .inl (cI, n, .inl (fun _ => zI 0)))]) → va_S A H0 H1 locs → W p l e R s m args below meth c H1 locs (cells + 1) (slots + n) Q (F0 m (pc + 2) ls (.ref h :: rest))) : W p l e R s m args below meth c H locs cells slots Q (F0 m pc ls (.int (zI n) :: rest)) := by
  have cn : (zI n).toNatClampNeg = n := by rw [zI_clamp (by omega) (by omega)]; omega
  have nn : ¬ zI n < 0 := fun q => by
    have z := (zI_lt (show -2147483648 ≤ (n : Int) ∧ (n : Int) < 2147483648 from ⟨by omega, by omega⟩) (show -2147483648 ≤ (0 : Int) ∧ (0 : Int) < 2147483648 from ⟨by omega, by omega⟩)).mp (by rw [zI_0]; exact q)
    omega
  refine va_newaK (atype := .int) (N := n) hx hb harr rfl hdg rfl nn cn hn hcells hslots hz fun H1 cA e1 z1 o1 hAr hNm => ?_
  have hc : cA = cI := Option.some.inj (hNm.symm.trans (hK.2 t0 _ ht).2)
  subst hc
  have hk : ∀ (k : Nat) (x : Nat × va_E), ws[k]? = some x → H1[x.1]? = H[x.1]? := fun k x hx => o1 x.1 (hz ▸ (hP k x hx).lt)
  subst hz
  refine kk H1 ((hP.kept hk).app (fun k x hx => ?_)) (hD.push hP rfl (hA _ hS.1)) ⟨Nat.le_trans hS.1 (by omega), fun x h1 h2 => (o1 x (Nat.lt_of_lt_of_le h1 hS.1)).trans (hS.2.1 x h1 h2), hS.2.2⟩
  have hz9 : k < 1 := (List.getElem?_eq_some_iff.mp hx).1
  rw [show k = 0 by omega] at hx
  cases hx
  exact e1
theorem z_vretb (hx : p.tables.exec = Jvm.exec) (hb : c.code = cc) (hr : meth.sig.returnType = none) (hlk : meth.locks = false) {w w' : va_W} {n : Nat} (hP : va_P D cl w H) (hz : H.size = n) (hS : va_S A s.heap H locs) (hdg : decode cc pc = .ok (.return_, 1)) (ew : w = w') : W p l e R s m args below meth c H locs cells slots (MQ below (zQb D cl w' n A) args s cells slots A) (F0 m pc ls []) := by
  subst ew
  exact W.vret hx hb hr (fun t ht hW => ⟨⟨(), rfl, trivial, by show t.heap.size = n ∧ va_P D cl _ t.heap; rw [ht]; exact ⟨hz, hP⟩⟩, hS.F ht⟩) hS.2.2 hdg hlk
end ZN
theorem z_D0 {A : Nat → Prop} {a : Nat} {x : va_E} (h : A a) : va_D A [(a, x)] :=
  ⟨fun i j p q hi hj _ => by
    have a1 : i < 1 := (List.getElem?_eq_some_iff.mp hi).1
    have a2 : j < 1 := (List.getElem?_eq_some_iff.mp hj).1
    omega, fun k q hk => by
    have a1 : k < 1 := (List.getElem?_eq_some_iff.mp hk).1
    rw [show k = 0 by omega] at hk
    cases hk
    exact h⟩
/-- the reference's first rows: the entries of the two tops -/
def n4 (i : Int) : Nat → Int → Int := fun k j => if k = 0 ∧ 0 ≤ (j - 9) ∧ (j - 9) % 5 = 0 ∧ j - 9 < 5 * i then -2 else 0
theorem n4_0 : (fun _ _ => 0 : Nat → Int → Int) = n4 0 := by
  funext k j
  unfold n4
  rw [if_neg (by omega)]
theorem n4_s {i : Int} (h : 0 ≤ i) : up2 (n4 i) 0 (5 * i + 9) (-2) = n4 (i + 1) := by
  funext k j
  rw [up2_app]
  unfold n4
  (repeat' split) <;> first | rfl | (exfalso; omega)
theorem in_X1_init : ∀ w ∈ wsX10, w ∈ wsX1_init := fun w h => List.mem_cons_of_mem _ (List.mem_append_right _ h)
set_option maxHeartbeats 4000000 in
set_option maxRecDepth 100000 in
theorem k_X1_init (l : Launch) (dC : Nat → ClassId) (dI : Nat → Nat → Nat) (cI cQ : ClassId) (A : Nat → Prop) (b : Nat) (hA9 : ∀ q, b ≤ q → A q) : Met l yX1_init wsX1_init ({ frames := 3, cells := 5, slots := 918, locals := 60 }) (zPb (dC, dI) vwCl (zT cI cQ) [(b, .inr (1, [.null, .null, .null, .null, .null, .int (zI 0), .int (zI 0), .int (zI 0), .int (zI 0), .int (zI 0), .int (zI 0)]))] (b + 1) [.ref b]) (zQb (dC, dI) vwCl (tW_X1 (fun j => b + j) cI (forgS (fun _ _ => 0 : Nat → Int → Int))) (b + 6) A) 5 918 A := by
  refine Met.ofW (cc := cX1_init) (maxL := 1) (ret := none) (by decide) rfl ?_
  intro p e s m args below meth c s₁ B hml hv
  obtain ⟨rfl, hsz, hP, hK⟩ := hv
  have hx := B.exec
  have hb := B.bytes
  have hr := B.returns
  have hts := atoms_spec (ws := wsX1_init) B.pre
  have hown : s.vm.findClass RX1 = some m.cls := findClass_of_methodNamed B.named
  have hlk := B.notSynchronized
  have hini : meth.name = "<init>" := (name_of_methodNamed B.named B.method).1
  have hA : ∀ q : Nat, s.heap.size ≤ q → A q := fun q h => hA9 q (by omega)
  have hS : va_S A s.heap s.heap [] := va_S.rf
  have hD : va_D A [(b, .inr (1, [.null, .null, .null, .null, .null, .int (zI 0), .int (zI 0), .int (zI 0), .int (zI 0), .int (zI 0), .int (zI 0)]))] := z_D0 (hA9 b (Nat.le_refl b))
  have hP : va_P (dC, dI) vwCl [(b, .inr (1, [.null, .null, .null, .null, .null, .int (zI 0), .int (zI 0), .int (zI 0), .int (zI 0), .int (zI 0), .int (zI 0)]))] s.heap := hP
  have hl := lv_entry ([.ref b]) (n := 1) (Nat.le_of_ble_eq_true rfl)
  rw [lg_entry_eq]
  generalize (lg_sl ([.ref b]) ++ List.replicate (1 - (lg_sl ([.ref b])).length) Slot.unset).toArray = ls at hl ⊢
  have hl : lv_has ls 1 [(0, .ref b)] := hl
  have hin : ∀ w ∈ wsX10, w ∈ wsX1_init := in_X1_init
  refine lv_aload_n hx hb dX1_init_0 rfl (lv_at hl 0 rfl) ?_
  refine W.objInit hx hb hown (hts _ (List.mem_of_getElem? (i := 1) rfl)) (hts _ (List.mem_of_getElem? (i := 2) rfl)) (hts _ (List.mem_of_getElem? (i := 3) rfl)) rfl (by rw [hml]; exact hl.1) rfl dX1_init_1 (Nat.le_of_ble_eq_true rfl) (Nat.le_of_ble_eq_true rfl) ?_
  refine W.eq (g2 := F0 m 4 ls []) rfl ?_
  refine lv_aload_n hx hb dX1_init_4 rfl (lv_at hl 0 rfl) ?_
  refine z_sipush (z := ((384 : Nat) : Int)) hx hb dX1_init_5 (by decide +kernel) ?_
  refine z_size (fun hz9 => ?_)
  have l9 : b + 0 < s.heap.size := (hP 0 _ rfl).lt
  refine z_newa (n := 384) (h := b + 1) hx hb (hts _ (List.mem_of_getElem? (i := 4) rfl)) hK hP hD hS hA 0 rfl (Nat.le_of_ble_eq_true rfl) (Nat.le_of_ble_eq_true rfl) (Nat.le_of_ble_eq_true rfl) (by omega) dX1_init_8 (fun H hP hD hS => ?_)
  have hP : va_P (dC, dI) vwCl [(b, .inr (1, [.null, .null, .null, .null, .null, .int (zI 0), .int (zI 0), .int (zI 0), .int (zI 0), .int (zI 0), .int (zI 0)])), (b + 1, .inl (cI, 384, .inl (fun _ => zI 0)))] H := hP
  have hD : va_D A [(b, .inr (1, [.null, .null, .null, .null, .null, .int (zI 0), .int (zI 0), .int (zI 0), .int (zI 0), .int (zI 0), .int (zI 0)])), (b + 1, .inl (cI, 384, .inl (fun _ => zI 0)))] := hD
  refine va_putF (D := (dC, dI)) (ci := 1) (v := .ref (b + 1)) (ty := .array .int) (C := RX1) (T := TX1) (N := 11) hx hb hts hin tyX1 tyX1_ok nmX1 hown hK hP hD hS 0 rfl rfl 0 (by decide) (hts _ (List.mem_of_getElem? (i := 5) rfl)) (fun _ h9 => h9) rfl hini rfl (by decide +kernel) rfl rfl (Nat.le_of_ble_eq_true rfl) dX1_init_10 (fun H locs hP hD hS => ?_)
  have hP : va_P (dC, dI) vwCl [(b, .inr (1, [.ref (b + 1), .null, .null, .null, .null, .int (zI 0), .int (zI 0), .int (zI 0), .int (zI 0), .int (zI 0), .int (zI 0)])), (b + 1, .inl (cI, 384, .inl (fun _ => zI 0)))] H := hP
  have hD : va_D A [(b, .inr (1, [.ref (b + 1), .null, .null, .null, .null, .int (zI 0), .int (zI 0), .int (zI 0), .int (zI 0), .int (zI 0), .int (zI 0)])), (b + 1, .inl (cI, 384, .inl (fun _ => zI 0)))] := hD
  refine lv_aload_n hx hb dX1_init_13 rfl (lv_at hl 0 rfl) ?_
  refine z_sipush (z := ((480 : Nat) : Int)) hx hb dX1_init_14 (by decide +kernel) ?_
  refine z_size (fun hz9 => ?_)
  have l9 : b + 1 < H.size := (hP 1 _ rfl).lt
  refine z_newa (n := 480) (h := b + 2) hx hb (hts _ (List.mem_of_getElem? (i := 4) rfl)) hK hP hD hS hA 0 rfl (Nat.le_of_ble_eq_true rfl) (Nat.le_of_ble_eq_true rfl) (Nat.le_of_ble_eq_true rfl) (by omega) dX1_init_17 (fun H hP hD hS => ?_)
  have hP : va_P (dC, dI) vwCl [(b, .inr (1, [.ref (b + 1), .null, .null, .null, .null, .int (zI 0), .int (zI 0), .int (zI 0), .int (zI 0), .int (zI 0), .int (zI 0)])), (b + 1, .inl (cI, 384, .inl (fun _ => zI 0))), (b + 2, .inl (cI, 480, .inl (fun _ => zI 0)))] H := hP
  have hD : va_D A [(b, .inr (1, [.ref (b + 1), .null, .null, .null, .null, .int (zI 0), .int (zI 0), .int (zI 0), .int (zI 0), .int (zI 0), .int (zI 0)])), (b + 1, .inl (cI, 384, .inl (fun _ => zI 0))), (b + 2, .inl (cI, 480, .inl (fun _ => zI 0)))] := hD
  refine va_putF (D := (dC, dI)) (ci := 1) (v := .ref (b + 2)) (ty := .array .int) (C := RX1) (T := TX1) (N := 11) hx hb hts hin tyX1 tyX1_ok nmX1 hown hK hP hD hS 0 rfl rfl 1 (by decide) (hts _ (List.mem_of_getElem? (i := 6) rfl)) (fun _ h9 => h9) rfl hini rfl (by decide +kernel) rfl rfl (Nat.le_of_ble_eq_true rfl) dX1_init_19 (fun H locs hP hD hS => ?_)
  have hP : va_P (dC, dI) vwCl [(b, .inr (1, [.ref (b + 1), .ref (b + 2), .null, .null, .null, .int (zI 0), .int (zI 0), .int (zI 0), .int (zI 0), .int (zI 0), .int (zI 0)])), (b + 1, .inl (cI, 384, .inl (fun _ => zI 0))), (b + 2, .inl (cI, 480, .inl (fun _ => zI 0)))] H := hP
  have hD : va_D A [(b, .inr (1, [.ref (b + 1), .ref (b + 2), .null, .null, .null, .int (zI 0), .int (zI 0), .int (zI 0), .int (zI 0), .int (zI 0), .int (zI 0)])), (b + 1, .inl (cI, 384, .inl (fun _ => zI 0))), (b + 2, .inl (cI, 480, .inl (fun _ => zI 0)))] := hD
  refine lv_aload_n hx hb dX1_init_22 rfl (lv_at hl 0 rfl) ?_
  refine z_iconst hx hb dX1_init_23 ?_
  refine z_size (fun hz9 => ?_)
  have l9 : b + 2 < H.size := (hP 2 _ rfl).lt
  refine z_newa (n := 2) (h := b + 3) hx hb (hts _ (List.mem_of_getElem? (i := 4) rfl)) hK hP hD hS hA 0 rfl (Nat.le_of_ble_eq_true rfl) (Nat.le_of_ble_eq_true rfl) (Nat.le_of_ble_eq_true rfl) (by omega) dX1_init_24 (fun H hP hD hS => ?_)
  have hP : va_P (dC, dI) vwCl [(b, .inr (1, [.ref (b + 1), .ref (b + 2), .null, .null, .null, .int (zI 0), .int (zI 0), .int (zI 0), .int (zI 0), .int (zI 0), .int (zI 0)])), (b + 1, .inl (cI, 384, .inl (fun _ => zI 0))), (b + 2, .inl (cI, 480, .inl (fun _ => zI 0))), (b + 3, .inl (cI, 2, .inl (fun _ => zI 0)))] H := hP
  have hD : va_D A [(b, .inr (1, [.ref (b + 1), .ref (b + 2), .null, .null, .null, .int (zI 0), .int (zI 0), .int (zI 0), .int (zI 0), .int (zI 0), .int (zI 0)])), (b + 1, .inl (cI, 384, .inl (fun _ => zI 0))), (b + 2, .inl (cI, 480, .inl (fun _ => zI 0))), (b + 3, .inl (cI, 2, .inl (fun _ => zI 0)))] := hD
  refine va_putF (D := (dC, dI)) (ci := 1) (v := .ref (b + 3)) (ty := .array .int) (C := RX1) (T := TX1) (N := 11) hx hb hts hin tyX1 tyX1_ok nmX1 hown hK hP hD hS 0 rfl rfl 2 (by decide) (hts _ (List.mem_of_getElem? (i := 7) rfl)) (fun _ h9 => h9) rfl hini rfl (by decide +kernel) rfl rfl (Nat.le_of_ble_eq_true rfl) dX1_init_26 (fun H locs hP hD hS => ?_)
  have hP : va_P (dC, dI) vwCl [(b, .inr (1, [.ref (b + 1), .ref (b + 2), .ref (b + 3), .null, .null, .int (zI 0), .int (zI 0), .int (zI 0), .int (zI 0), .int (zI 0), .int (zI 0)])), (b + 1, .inl (cI, 384, .inl (fun _ => zI 0))), (b + 2, .inl (cI, 480, .inl (fun _ => zI 0))), (b + 3, .inl (cI, 2, .inl (fun _ => zI 0)))] H := hP
  have hD : va_D A [(b, .inr (1, [.ref (b + 1), .ref (b + 2), .ref (b + 3), .null, .null, .int (zI 0), .int (zI 0), .int (zI 0), .int (zI 0), .int (zI 0), .int (zI 0)])), (b + 1, .inl (cI, 384, .inl (fun _ => zI 0))), (b + 2, .inl (cI, 480, .inl (fun _ => zI 0))), (b + 3, .inl (cI, 2, .inl (fun _ => zI 0)))] := hD
  refine lv_aload_n hx hb dX1_init_29 rfl (lv_at hl 0 rfl) ?_
  refine z_bipush (z := ((48 : Nat) : Int)) hx hb dX1_init_30 (by decide +kernel) ?_
  refine z_size (fun hz9 => ?_)
  have l9 : b + 3 < H.size := (hP 3 _ rfl).lt
  refine z_newa (n := 48) (h := b + 4) hx hb (hts _ (List.mem_of_getElem? (i := 4) rfl)) hK hP hD hS hA 0 rfl (Nat.le_of_ble_eq_true rfl) (Nat.le_of_ble_eq_true rfl) (Nat.le_of_ble_eq_true rfl) (by omega) dX1_init_32 (fun H hP hD hS => ?_)
  have hP : va_P (dC, dI) vwCl [(b, .inr (1, [.ref (b + 1), .ref (b + 2), .ref (b + 3), .null, .null, .int (zI 0), .int (zI 0), .int (zI 0), .int (zI 0), .int (zI 0), .int (zI 0)])), (b + 1, .inl (cI, 384, .inl (fun _ => zI 0))), (b + 2, .inl (cI, 480, .inl (fun _ => zI 0))), (b + 3, .inl (cI, 2, .inl (fun _ => zI 0))), (b + 4, .inl (cI, 48, .inl (fun _ => zI 0)))] H := hP
  have hD : va_D A [(b, .inr (1, [.ref (b + 1), .ref (b + 2), .ref (b + 3), .null, .null, .int (zI 0), .int (zI 0), .int (zI 0), .int (zI 0), .int (zI 0), .int (zI 0)])), (b + 1, .inl (cI, 384, .inl (fun _ => zI 0))), (b + 2, .inl (cI, 480, .inl (fun _ => zI 0))), (b + 3, .inl (cI, 2, .inl (fun _ => zI 0))), (b + 4, .inl (cI, 48, .inl (fun _ => zI 0)))] := hD
  refine va_putF (D := (dC, dI)) (ci := 1) (v := .ref (b + 4)) (ty := .array .int) (C := RX1) (T := TX1) (N := 11) hx hb hts hin tyX1 tyX1_ok nmX1 hown hK hP hD hS 0 rfl rfl 3 (by decide) (hts _ (List.mem_of_getElem? (i := 8) rfl)) (fun _ h9 => h9) rfl hini rfl (by decide +kernel) rfl rfl (Nat.le_of_ble_eq_true rfl) dX1_init_34 (fun H locs hP hD hS => ?_)
  have hP : va_P (dC, dI) vwCl [(b, .inr (1, [.ref (b + 1), .ref (b + 2), .ref (b + 3), .ref (b + 4), .null, .int (zI 0), .int (zI 0), .int (zI 0), .int (zI 0), .int (zI 0), .int (zI 0)])), (b + 1, .inl (cI, 384, .inl (fun _ => zI 0))), (b + 2, .inl (cI, 480, .inl (fun _ => zI 0))), (b + 3, .inl (cI, 2, .inl (fun _ => zI 0))), (b + 4, .inl (cI, 48, .inl (fun _ => zI 0)))] H := hP
  have hD : va_D A [(b, .inr (1, [.ref (b + 1), .ref (b + 2), .ref (b + 3), .ref (b + 4), .null, .int (zI 0), .int (zI 0), .int (zI 0), .int (zI 0), .int (zI 0), .int (zI 0)])), (b + 1, .inl (cI, 384, .inl (fun _ => zI 0))), (b + 2, .inl (cI, 480, .inl (fun _ => zI 0))), (b + 3, .inl (cI, 2, .inl (fun _ => zI 0))), (b + 4, .inl (cI, 48, .inl (fun _ => zI 0)))] := hD
  refine lv_aload_n hx hb dX1_init_37 rfl (lv_at hl 0 rfl) ?_
  refine z_iconst hx hb dX1_init_38 ?_
  refine z_size (fun hz9 => ?_)
  have l9 : b + 4 < H.size := (hP 4 _ rfl).lt
  refine z_newa (n := 4) (h := b + 5) hx hb (hts _ (List.mem_of_getElem? (i := 4) rfl)) hK hP hD hS hA 0 rfl (Nat.le_of_ble_eq_true rfl) (Nat.le_of_ble_eq_true rfl) (Nat.le_of_ble_eq_true rfl) (by omega) dX1_init_39 (fun H hP hD hS => ?_)
  have hP : va_P (dC, dI) vwCl [(b, .inr (1, [.ref (b + 1), .ref (b + 2), .ref (b + 3), .ref (b + 4), .null, .int (zI 0), .int (zI 0), .int (zI 0), .int (zI 0), .int (zI 0), .int (zI 0)])), (b + 1, .inl (cI, 384, .inl (fun _ => zI 0))), (b + 2, .inl (cI, 480, .inl (fun _ => zI 0))), (b + 3, .inl (cI, 2, .inl (fun _ => zI 0))), (b + 4, .inl (cI, 48, .inl (fun _ => zI 0))), (b + 5, .inl (cI, 4, .inl (fun _ => zI 0)))] H := hP
  have hD : va_D A [(b, .inr (1, [.ref (b + 1), .ref (b + 2), .ref (b + 3), .ref (b + 4), .null, .int (zI 0), .int (zI 0), .int (zI 0), .int (zI 0), .int (zI 0), .int (zI 0)])), (b + 1, .inl (cI, 384, .inl (fun _ => zI 0))), (b + 2, .inl (cI, 480, .inl (fun _ => zI 0))), (b + 3, .inl (cI, 2, .inl (fun _ => zI 0))), (b + 4, .inl (cI, 48, .inl (fun _ => zI 0))), (b + 5, .inl (cI, 4, .inl (fun _ => zI 0)))] := hD
  refine va_putF (D := (dC, dI)) (ci := 1) (v := .ref (b + 5)) (ty := .array .int) (C := RX1) (T := TX1) (N := 11) hx hb hts hin tyX1 tyX1_ok nmX1 hown hK hP hD hS 0 rfl rfl 4 (by decide) (hts _ (List.mem_of_getElem? (i := 9) rfl)) (fun _ h9 => h9) rfl hini rfl (by decide +kernel) rfl rfl (Nat.le_of_ble_eq_true rfl) dX1_init_41 (fun H locs hP hD hS => ?_)
  have hP : va_P (dC, dI) vwCl [(b, .inr (1, [.ref (b + 1), .ref (b + 2), .ref (b + 3), .ref (b + 4), .ref (b + 5), .int (zI 0), .int (zI 0), .int (zI 0), .int (zI 0), .int (zI 0), .int (zI 0)])), (b + 1, .inl (cI, 384, .inl (fun _ => zI 0))), (b + 2, .inl (cI, 480, .inl (fun _ => zI 0))), (b + 3, .inl (cI, 2, .inl (fun _ => zI 0))), (b + 4, .inl (cI, 48, .inl (fun _ => zI 0))), (b + 5, .inl (cI, 4, .inl (fun _ => zI 0)))] H := hP
  have hD : va_D A [(b, .inr (1, [.ref (b + 1), .ref (b + 2), .ref (b + 3), .ref (b + 4), .ref (b + 5), .int (zI 0), .int (zI 0), .int (zI 0), .int (zI 0), .int (zI 0), .int (zI 0)])), (b + 1, .inl (cI, 384, .inl (fun _ => zI 0))), (b + 2, .inl (cI, 480, .inl (fun _ => zI 0))), (b + 3, .inl (cI, 2, .inl (fun _ => zI 0))), (b + 4, .inl (cI, 48, .inl (fun _ => zI 0))), (b + 5, .inl (cI, 4, .inl (fun _ => zI 0)))] := hD
  refine lv_aload_n hx hb dX1_init_44 rfl (lv_at hl 0 rfl) ?_
  have hP : va_P (dC, dI) vwCl (tW_X1 (fun j => b + j) cI (fun _ _ => 0 : Nat → Int → Int)) H := hP
  have hD9 : ∀ S, va_D A (tW_X1 (fun j => b + j) cI S) := fun S => z_Dre hD rfl
  refine z_callv (va_runV (As := []) (rest := []) ⟨hx, hb, hml, hown, hts⟩ (k_X1_forgetWritten l dC dI cI cQ A (fun j => b + j) (fun _ _ => 0 : Nat → Int → Int) hD9) (cwV 0 hts gX1_init_X1_forgetWritten rfl rfl rfl (by decide +kernel) ⟨Nat.le_of_ble_eq_true rfl, Nat.le_of_ble_eq_true rfl⟩) (z_preV hK hP (ci := 1) (q0 := 0) rfl rfl rfl) rfl rfl hl.1 rfl (lv_room (Nat.le_of_ble_eq_true rfl)) dX1_init_45 ⟨Nat.le_of_ble_eq_true rfl, Nat.le_of_ble_eq_true rfl⟩) hS (fun _ h => h) (fun H locs hP hS _ _ => ?_)
  refine z_size (fun hz9 => ?_)
  have l9 : b + 5 < H.size := (hP 5 _ rfl).lt
  exact z_vretb hx hb hr hlk hP (by omega) hS dX1_init_48 rfl
theorem in_X2_init : ∀ w ∈ wsX20, w ∈ wsX2_init := fun w h => List.mem_cons_of_mem _ (List.mem_append_right _ h)
set_option maxHeartbeats 4000000 in
set_option maxRecDepth 100000 in
theorem k_X2_init (l : Launch) (dC : Nat → ClassId) (dI : Nat → Nat → Nat) (cI cQ : ClassId) (A : Nat → Prop) (b : Nat) (hA9 : ∀ q, b ≤ q → A q) : Met l yX2_init wsX2_init ({ frames := 1, cells := 5, slots := 427, locals := 16 }) (zPb (dC, dI) vwCl (zT cI cQ) [(b, .inr (2, [.null, .int (zI 0), .null, .null, .int (zI 0), .null, .null, .int (zI 0), .int (zI 0)]))] (b + 1) [.ref b]) (zQb (dC, dI) vwCl (tW_X2 (fun j => b + j) cI (fun _ _ => 0 : Nat → Int → Int)) (b + 6) A) 5 427 A := by
  refine Met.ofW (cc := cX2_init) (maxL := 1) (ret := none) (by decide) rfl ?_
  intro p e s m args below meth c s₁ B hml hv
  obtain ⟨rfl, hsz, hP, hK⟩ := hv
  have hx := B.exec
  have hb := B.bytes
  have hr := B.returns
  have hts := atoms_spec (ws := wsX2_init) B.pre
  have hown : s.vm.findClass RX2 = some m.cls := findClass_of_methodNamed B.named
  have hlk := B.notSynchronized
  have hini : meth.name = "<init>" := (name_of_methodNamed B.named B.method).1
  have hA : ∀ q : Nat, s.heap.size ≤ q → A q := fun q h => hA9 q (by omega)
  have hS : va_S A s.heap s.heap [] := va_S.rf
  have hD : va_D A [(b, .inr (2, [.null, .int (zI 0), .null, .null, .int (zI 0), .null, .null, .int (zI 0), .int (zI 0)]))] := z_D0 (hA9 b (Nat.le_refl b))
  have hP : va_P (dC, dI) vwCl [(b, .inr (2, [.null, .int (zI 0), .null, .null, .int (zI 0), .null, .null, .int (zI 0), .int (zI 0)]))] s.heap := hP
  have hl := lv_entry ([.ref b]) (n := 1) (Nat.le_of_ble_eq_true rfl)
  rw [lg_entry_eq]
  generalize (lg_sl ([.ref b]) ++ List.replicate (1 - (lg_sl ([.ref b])).length) Slot.unset).toArray = ls at hl ⊢
  have hl : lv_has ls 1 [(0, .ref b)] := hl
  have hin : ∀ w ∈ wsX20, w ∈ wsX2_init := in_X2_init
  refine lv_aload_n hx hb dX2_init_0 rfl (lv_at hl 0 rfl) ?_
  refine W.objInit hx hb hown (hts _ (List.mem_of_getElem? (i := 1) rfl)) (hts _ (List.mem_of_getElem? (i := 2) rfl)) (hts _ (List.mem_of_getElem? (i := 3) rfl)) rfl (by rw [hml]; exact hl.1) rfl dX2_init_1 (Nat.le_of_ble_eq_true rfl) (Nat.le_of_ble_eq_true rfl) ?_
  refine W.eq (g2 := F0 m 4 ls []) rfl ?_
  refine lv_aload_n hx hb dX2_init_4 rfl (lv_at hl 0 rfl) ?_
  refine z_bipush (z := ((80 : Nat) : Int)) hx hb dX2_init_5 (by decide +kernel) ?_
  refine z_size (fun hz9 => ?_)
  have l9 : b + 0 < s.heap.size := (hP 0 _ rfl).lt
  refine z_newa (n := 80) (h := b + 1) hx hb (hts _ (List.mem_of_getElem? (i := 4) rfl)) hK hP hD hS hA 0 rfl (Nat.le_of_ble_eq_true rfl) (Nat.le_of_ble_eq_true rfl) (Nat.le_of_ble_eq_true rfl) (by omega) dX2_init_7 (fun H hP hD hS => ?_)
  have hP : va_P (dC, dI) vwCl [(b, .inr (2, [.null, .int (zI 0), .null, .null, .int (zI 0), .null, .null, .int (zI 0), .int (zI 0)])), (b + 1, .inl (cI, 80, .inl (fun _ => zI 0)))] H := hP
  have hD : va_D A [(b, .inr (2, [.null, .int (zI 0), .null, .null, .int (zI 0), .null, .null, .int (zI 0), .int (zI 0)])), (b + 1, .inl (cI, 80, .inl (fun _ => zI 0)))] := hD
  refine va_putF (D := (dC, dI)) (ci := 2) (v := .ref (b + 1)) (ty := .array .int) (C := RX2) (T := TX2) (N := 9) hx hb hts hin tyX2 tyX2_ok nmX2 hown hK hP hD hS 0 rfl rfl 0 (by decide) (hts _ (List.mem_of_getElem? (i := 5) rfl)) (fun _ h9 => h9) rfl hini rfl (by decide +kernel) rfl rfl (Nat.le_of_ble_eq_true rfl) dX2_init_9 (fun H locs hP hD hS => ?_)
  have hP : va_P (dC, dI) vwCl [(b, .inr (2, [.ref (b + 1), .int (zI 0), .null, .null, .int (zI 0), .null, .null, .int (zI 0), .int (zI 0)])), (b + 1, .inl (cI, 80, .inl (fun _ => zI 0)))] H := hP
  have hD : va_D A [(b, .inr (2, [.ref (b + 1), .int (zI 0), .null, .null, .int (zI 0), .null, .null, .int (zI 0), .int (zI 0)])), (b + 1, .inl (cI, 80, .inl (fun _ => zI 0)))] := hD
  refine lv_aload_n hx hb dX2_init_12 rfl (lv_at hl 0 rfl) ?_
  refine z_sipush (z := ((240 : Nat) : Int)) hx hb dX2_init_13 (by decide +kernel) ?_
  refine z_size (fun hz9 => ?_)
  have l9 : b + 1 < H.size := (hP 1 _ rfl).lt
  refine z_newa (n := 240) (h := b + 2) hx hb (hts _ (List.mem_of_getElem? (i := 4) rfl)) hK hP hD hS hA 0 rfl (Nat.le_of_ble_eq_true rfl) (Nat.le_of_ble_eq_true rfl) (Nat.le_of_ble_eq_true rfl) (by omega) dX2_init_16 (fun H hP hD hS => ?_)
  have hP : va_P (dC, dI) vwCl [(b, .inr (2, [.ref (b + 1), .int (zI 0), .null, .null, .int (zI 0), .null, .null, .int (zI 0), .int (zI 0)])), (b + 1, .inl (cI, 80, .inl (fun _ => zI 0))), (b + 2, .inl (cI, 240, .inl (fun _ => zI 0)))] H := hP
  have hD : va_D A [(b, .inr (2, [.ref (b + 1), .int (zI 0), .null, .null, .int (zI 0), .null, .null, .int (zI 0), .int (zI 0)])), (b + 1, .inl (cI, 80, .inl (fun _ => zI 0))), (b + 2, .inl (cI, 240, .inl (fun _ => zI 0)))] := hD
  refine va_putF (D := (dC, dI)) (ci := 2) (v := .ref (b + 2)) (ty := .array .int) (C := RX2) (T := TX2) (N := 9) hx hb hts hin tyX2 tyX2_ok nmX2 hown hK hP hD hS 0 rfl rfl 2 (by decide) (hts _ (List.mem_of_getElem? (i := 6) rfl)) (fun _ h9 => h9) rfl hini rfl (by decide +kernel) rfl rfl (Nat.le_of_ble_eq_true rfl) dX2_init_18 (fun H locs hP hD hS => ?_)
  have hP : va_P (dC, dI) vwCl [(b, .inr (2, [.ref (b + 1), .int (zI 0), .ref (b + 2), .null, .int (zI 0), .null, .null, .int (zI 0), .int (zI 0)])), (b + 1, .inl (cI, 80, .inl (fun _ => zI 0))), (b + 2, .inl (cI, 240, .inl (fun _ => zI 0)))] H := hP
  have hD : va_D A [(b, .inr (2, [.ref (b + 1), .int (zI 0), .ref (b + 2), .null, .int (zI 0), .null, .null, .int (zI 0), .int (zI 0)])), (b + 1, .inl (cI, 80, .inl (fun _ => zI 0))), (b + 2, .inl (cI, 240, .inl (fun _ => zI 0)))] := hD
  refine lv_aload_n hx hb dX2_init_21 rfl (lv_at hl 0 rfl) ?_
  refine z_bipush (z := ((101 : Nat) : Int)) hx hb dX2_init_22 (by decide +kernel) ?_
  refine z_size (fun hz9 => ?_)
  have l9 : b + 2 < H.size := (hP 2 _ rfl).lt
  refine z_newa (n := 101) (h := b + 3) hx hb (hts _ (List.mem_of_getElem? (i := 4) rfl)) hK hP hD hS hA 0 rfl (Nat.le_of_ble_eq_true rfl) (Nat.le_of_ble_eq_true rfl) (Nat.le_of_ble_eq_true rfl) (by omega) dX2_init_24 (fun H hP hD hS => ?_)
  have hP : va_P (dC, dI) vwCl [(b, .inr (2, [.ref (b + 1), .int (zI 0), .ref (b + 2), .null, .int (zI 0), .null, .null, .int (zI 0), .int (zI 0)])), (b + 1, .inl (cI, 80, .inl (fun _ => zI 0))), (b + 2, .inl (cI, 240, .inl (fun _ => zI 0))), (b + 3, .inl (cI, 101, .inl (fun _ => zI 0)))] H := hP
  have hD : va_D A [(b, .inr (2, [.ref (b + 1), .int (zI 0), .ref (b + 2), .null, .int (zI 0), .null, .null, .int (zI 0), .int (zI 0)])), (b + 1, .inl (cI, 80, .inl (fun _ => zI 0))), (b + 2, .inl (cI, 240, .inl (fun _ => zI 0))), (b + 3, .inl (cI, 101, .inl (fun _ => zI 0)))] := hD
  refine va_putF (D := (dC, dI)) (ci := 2) (v := .ref (b + 3)) (ty := .array .int) (C := RX2) (T := TX2) (N := 9) hx hb hts hin tyX2 tyX2_ok nmX2 hown hK hP hD hS 0 rfl rfl 3 (by decide) (hts _ (List.mem_of_getElem? (i := 7) rfl)) (fun _ h9 => h9) rfl hini rfl (by decide +kernel) rfl rfl (Nat.le_of_ble_eq_true rfl) dX2_init_26 (fun H locs hP hD hS => ?_)
  have hP : va_P (dC, dI) vwCl [(b, .inr (2, [.ref (b + 1), .int (zI 0), .ref (b + 2), .ref (b + 3), .int (zI 0), .null, .null, .int (zI 0), .int (zI 0)])), (b + 1, .inl (cI, 80, .inl (fun _ => zI 0))), (b + 2, .inl (cI, 240, .inl (fun _ => zI 0))), (b + 3, .inl (cI, 101, .inl (fun _ => zI 0)))] H := hP
  have hD : va_D A [(b, .inr (2, [.ref (b + 1), .int (zI 0), .ref (b + 2), .ref (b + 3), .int (zI 0), .null, .null, .int (zI 0), .int (zI 0)])), (b + 1, .inl (cI, 80, .inl (fun _ => zI 0))), (b + 2, .inl (cI, 240, .inl (fun _ => zI 0))), (b + 3, .inl (cI, 101, .inl (fun _ => zI 0)))] := hD
  refine lv_aload_n hx hb dX2_init_29 rfl (lv_at hl 0 rfl) ?_
  refine z_iconst hx hb dX2_init_30 ?_
  refine z_size (fun hz9 => ?_)
  have l9 : b + 3 < H.size := (hP 3 _ rfl).lt
  refine z_newa (n := 3) (h := b + 4) hx hb (hts _ (List.mem_of_getElem? (i := 4) rfl)) hK hP hD hS hA 0 rfl (Nat.le_of_ble_eq_true rfl) (Nat.le_of_ble_eq_true rfl) (Nat.le_of_ble_eq_true rfl) (by omega) dX2_init_31 (fun H hP hD hS => ?_)
  have hP : va_P (dC, dI) vwCl [(b, .inr (2, [.ref (b + 1), .int (zI 0), .ref (b + 2), .ref (b + 3), .int (zI 0), .null, .null, .int (zI 0), .int (zI 0)])), (b + 1, .inl (cI, 80, .inl (fun _ => zI 0))), (b + 2, .inl (cI, 240, .inl (fun _ => zI 0))), (b + 3, .inl (cI, 101, .inl (fun _ => zI 0))), (b + 4, .inl (cI, 3, .inl (fun _ => zI 0)))] H := hP
  have hD : va_D A [(b, .inr (2, [.ref (b + 1), .int (zI 0), .ref (b + 2), .ref (b + 3), .int (zI 0), .null, .null, .int (zI 0), .int (zI 0)])), (b + 1, .inl (cI, 80, .inl (fun _ => zI 0))), (b + 2, .inl (cI, 240, .inl (fun _ => zI 0))), (b + 3, .inl (cI, 101, .inl (fun _ => zI 0))), (b + 4, .inl (cI, 3, .inl (fun _ => zI 0)))] := hD
  refine va_putF (D := (dC, dI)) (ci := 2) (v := .ref (b + 4)) (ty := .array .int) (C := RX2) (T := TX2) (N := 9) hx hb hts hin tyX2 tyX2_ok nmX2 hown hK hP hD hS 0 rfl rfl 5 (by decide) (hts _ (List.mem_of_getElem? (i := 8) rfl)) (fun _ h9 => h9) rfl hini rfl (by decide +kernel) rfl rfl (Nat.le_of_ble_eq_true rfl) dX2_init_33 (fun H locs hP hD hS => ?_)
  have hP : va_P (dC, dI) vwCl [(b, .inr (2, [.ref (b + 1), .int (zI 0), .ref (b + 2), .ref (b + 3), .int (zI 0), .ref (b + 4), .null, .int (zI 0), .int (zI 0)])), (b + 1, .inl (cI, 80, .inl (fun _ => zI 0))), (b + 2, .inl (cI, 240, .inl (fun _ => zI 0))), (b + 3, .inl (cI, 101, .inl (fun _ => zI 0))), (b + 4, .inl (cI, 3, .inl (fun _ => zI 0)))] H := hP
  have hD : va_D A [(b, .inr (2, [.ref (b + 1), .int (zI 0), .ref (b + 2), .ref (b + 3), .int (zI 0), .ref (b + 4), .null, .int (zI 0), .int (zI 0)])), (b + 1, .inl (cI, 80, .inl (fun _ => zI 0))), (b + 2, .inl (cI, 240, .inl (fun _ => zI 0))), (b + 3, .inl (cI, 101, .inl (fun _ => zI 0))), (b + 4, .inl (cI, 3, .inl (fun _ => zI 0)))] := hD
  refine lv_aload_n hx hb dX2_init_36 rfl (lv_at hl 0 rfl) ?_
  refine z_iconst hx hb dX2_init_37 ?_
  refine z_size (fun hz9 => ?_)
  have l9 : b + 4 < H.size := (hP 4 _ rfl).lt
  refine z_newa (n := 3) (h := b + 5) hx hb (hts _ (List.mem_of_getElem? (i := 4) rfl)) hK hP hD hS hA 0 rfl (Nat.le_of_ble_eq_true rfl) (Nat.le_of_ble_eq_true rfl) (Nat.le_of_ble_eq_true rfl) (by omega) dX2_init_38 (fun H hP hD hS => ?_)
  have hP : va_P (dC, dI) vwCl [(b, .inr (2, [.ref (b + 1), .int (zI 0), .ref (b + 2), .ref (b + 3), .int (zI 0), .ref (b + 4), .null, .int (zI 0), .int (zI 0)])), (b + 1, .inl (cI, 80, .inl (fun _ => zI 0))), (b + 2, .inl (cI, 240, .inl (fun _ => zI 0))), (b + 3, .inl (cI, 101, .inl (fun _ => zI 0))), (b + 4, .inl (cI, 3, .inl (fun _ => zI 0))), (b + 5, .inl (cI, 3, .inl (fun _ => zI 0)))] H := hP
  have hD : va_D A [(b, .inr (2, [.ref (b + 1), .int (zI 0), .ref (b + 2), .ref (b + 3), .int (zI 0), .ref (b + 4), .null, .int (zI 0), .int (zI 0)])), (b + 1, .inl (cI, 80, .inl (fun _ => zI 0))), (b + 2, .inl (cI, 240, .inl (fun _ => zI 0))), (b + 3, .inl (cI, 101, .inl (fun _ => zI 0))), (b + 4, .inl (cI, 3, .inl (fun _ => zI 0))), (b + 5, .inl (cI, 3, .inl (fun _ => zI 0)))] := hD
  refine va_putF (D := (dC, dI)) (ci := 2) (v := .ref (b + 5)) (ty := .array .int) (C := RX2) (T := TX2) (N := 9) hx hb hts hin tyX2 tyX2_ok nmX2 hown hK hP hD hS 0 rfl rfl 6 (by decide) (hts _ (List.mem_of_getElem? (i := 9) rfl)) (fun _ h9 => h9) rfl hini rfl (by decide +kernel) rfl rfl (Nat.le_of_ble_eq_true rfl) dX2_init_40 (fun H locs hP hD hS => ?_)
  have hP : va_P (dC, dI) vwCl [(b, .inr (2, [.ref (b + 1), .int (zI 0), .ref (b + 2), .ref (b + 3), .int (zI 0), .ref (b + 4), .ref (b + 5), .int (zI 0), .int (zI 0)])), (b + 1, .inl (cI, 80, .inl (fun _ => zI 0))), (b + 2, .inl (cI, 240, .inl (fun _ => zI 0))), (b + 3, .inl (cI, 101, .inl (fun _ => zI 0))), (b + 4, .inl (cI, 3, .inl (fun _ => zI 0))), (b + 5, .inl (cI, 3, .inl (fun _ => zI 0)))] H := hP
  have hD : va_D A [(b, .inr (2, [.ref (b + 1), .int (zI 0), .ref (b + 2), .ref (b + 3), .int (zI 0), .ref (b + 4), .ref (b + 5), .int (zI 0), .int (zI 0)])), (b + 1, .inl (cI, 80, .inl (fun _ => zI 0))), (b + 2, .inl (cI, 240, .inl (fun _ => zI 0))), (b + 3, .inl (cI, 101, .inl (fun _ => zI 0))), (b + 4, .inl (cI, 3, .inl (fun _ => zI 0))), (b + 5, .inl (cI, 3, .inl (fun _ => zI 0)))] := hD
  have hP : va_P (dC, dI) vwCl (tW_X2 (fun j => b + j) cI (fun _ _ => 0 : Nat → Int → Int)) H := hP
  refine z_size (fun hz9 => ?_)
  have l9 : b + 5 < H.size := (hP 5 _ rfl).lt
  exact z_vretb hx hb hr hlk hP (by omega) hS dX2_init_43 rfl
theorem in_X4_init : ∀ w ∈ wsX40, w ∈ wsX4_init := fun w h => List.mem_cons_of_mem _ (List.mem_append_right _ h)
set_option maxHeartbeats 4000000 in
set_option maxRecDepth 100000 in
theorem k_X4_init (l : Launch) (dC : Nat → ClassId) (dI : Nat → Nat → Nat) (cI cQ : ClassId) (A : Nat → Prop) (b : Nat) (hA9 : ∀ q, b ≤ q → A q) : Met l yX4_init wsX4_init ({ frames := 1, cells := 7, slots := 6846, locals := 16 }) (zPb (dC, dI) vwCl (zT cI cQ) [(b, .inr (4, [.null, .null, .int (zI 0), .null, .null, .int (zI 0), .int (zI 0), .int (zI 0), .null, .null, .null]))] (b + 1) [.ref b]) (zQb (dC, dI) vwCl (tW_X4 (fun j => b + j) cI (n4 96)) (b + 8) A) 7 6846 A := by
  refine Met.ofW (cc := cX4_init) (maxL := 2) (ret := none) (by decide) rfl ?_
  intro p e s m args below meth c s₁ B hml hv
  obtain ⟨rfl, hsz, hP, hK⟩ := hv
  have hx := B.exec
  have hb := B.bytes
  have hr := B.returns
  have hts := atoms_spec (ws := wsX4_init) B.pre
  have hown : s.vm.findClass RX4 = some m.cls := findClass_of_methodNamed B.named
  have hlk := B.notSynchronized
  have hini : meth.name = "<init>" := (name_of_methodNamed B.named B.method).1
  have hA : ∀ q : Nat, s.heap.size ≤ q → A q := fun q h => hA9 q (by omega)
  have hS : va_S A s.heap s.heap [] := va_S.rf
  have hD : va_D A [(b, .inr (4, [.null, .null, .int (zI 0), .null, .null, .int (zI 0), .int (zI 0), .int (zI 0), .null, .null, .null]))] := z_D0 (hA9 b (Nat.le_refl b))
  have hP : va_P (dC, dI) vwCl [(b, .inr (4, [.null, .null, .int (zI 0), .null, .null, .int (zI 0), .int (zI 0), .int (zI 0), .null, .null, .null]))] s.heap := hP
  have hl := lv_entry ([.ref b]) (n := 2) (Nat.le_of_ble_eq_true rfl)
  rw [lg_entry_eq]
  generalize (lg_sl ([.ref b]) ++ List.replicate (2 - (lg_sl ([.ref b])).length) Slot.unset).toArray = ls at hl ⊢
  have hl : lv_has ls 2 [(0, .ref b)] := hl
  have hin : ∀ w ∈ wsX40, w ∈ wsX4_init := in_X4_init
  refine lv_aload_n hx hb dX4_init_0 rfl (lv_at hl 0 rfl) ?_
  refine W.objInit hx hb hown (hts _ (List.mem_of_getElem? (i := 1) rfl)) (hts _ (List.mem_of_getElem? (i := 2) rfl)) (hts _ (List.mem_of_getElem? (i := 3) rfl)) rfl (by rw [hml]; exact hl.1) rfl dX4_init_1 (Nat.le_of_ble_eq_true rfl) (Nat.le_of_ble_eq_true rfl) ?_
  refine W.eq (g2 := F0 m 4 ls []) rfl ?_
  refine lv_aload_n hx hb dX4_init_4 rfl (lv_at hl 0 rfl) ?_
  refine z_sipush (z := ((965 : Nat) : Int)) hx hb dX4_init_5 (by decide +kernel) ?_
  refine z_size (fun hz9 => ?_)
  have l9 : b + 0 < s.heap.size := (hP 0 _ rfl).lt
  refine z_newa (n := 965) (h := b + 1) hx hb (hts _ (List.mem_of_getElem? (i := 4) rfl)) hK hP hD hS hA 0 rfl (Nat.le_of_ble_eq_true rfl) (Nat.le_of_ble_eq_true rfl) (Nat.le_of_ble_eq_true rfl) (by omega) dX4_init_8 (fun H hP hD hS => ?_)
  have hP : va_P (dC, dI) vwCl [(b, .inr (4, [.null, .null, .int (zI 0), .null, .null, .int (zI 0), .int (zI 0), .int (zI 0), .null, .null, .null])), (b + 1, .inl (cI, 965, .inl (fun _ => zI 0)))] H := hP
  have hD : va_D A [(b, .inr (4, [.null, .null, .int (zI 0), .null, .null, .int (zI 0), .int (zI 0), .int (zI 0), .null, .null, .null])), (b + 1, .inl (cI, 965, .inl (fun _ => zI 0)))] := hD
  refine va_putF (D := (dC, dI)) (ci := 4) (v := .ref (b + 1)) (ty := .array .int) (C := RX4) (T := TX4) (N := 11) hx hb hts hin tyX4 tyX4_ok nmX4 hown hK hP hD hS 0 rfl rfl 0 (by decide) (hts _ (List.mem_of_getElem? (i := 5) rfl)) (fun _ h9 => h9) rfl hini rfl (by decide +kernel) rfl rfl (Nat.le_of_ble_eq_true rfl) dX4_init_10 (fun H locs hP hD hS => ?_)
  have hP : va_P (dC, dI) vwCl [(b, .inr (4, [.ref (b + 1), .null, .int (zI 0), .null, .null, .int (zI 0), .int (zI 0), .int (zI 0), .null, .null, .null])), (b + 1, .inl (cI, 965, .inl (fun _ => zI 0)))] H := hP
  have hD : va_D A [(b, .inr (4, [.ref (b + 1), .null, .int (zI 0), .null, .null, .int (zI 0), .int (zI 0), .int (zI 0), .null, .null, .null])), (b + 1, .inl (cI, 965, .inl (fun _ => zI 0)))] := hD
  refine lv_aload_n hx hb dX4_init_13 rfl (lv_at hl 0 rfl) ?_
  refine z_sipush (z := ((4825 : Nat) : Int)) hx hb dX4_init_14 (by decide +kernel) ?_
  refine z_size (fun hz9 => ?_)
  have l9 : b + 1 < H.size := (hP 1 _ rfl).lt
  refine z_newa (n := 4825) (h := b + 2) hx hb (hts _ (List.mem_of_getElem? (i := 4) rfl)) hK hP hD hS hA 0 rfl (Nat.le_of_ble_eq_true rfl) (Nat.le_of_ble_eq_true rfl) (Nat.le_of_ble_eq_true rfl) (by omega) dX4_init_17 (fun H hP hD hS => ?_)
  have hP : va_P (dC, dI) vwCl [(b, .inr (4, [.ref (b + 1), .null, .int (zI 0), .null, .null, .int (zI 0), .int (zI 0), .int (zI 0), .null, .null, .null])), (b + 1, .inl (cI, 965, .inl (fun _ => zI 0))), (b + 2, .inl (cI, 4825, .inl (fun _ => zI 0)))] H := hP
  have hD : va_D A [(b, .inr (4, [.ref (b + 1), .null, .int (zI 0), .null, .null, .int (zI 0), .int (zI 0), .int (zI 0), .null, .null, .null])), (b + 1, .inl (cI, 965, .inl (fun _ => zI 0))), (b + 2, .inl (cI, 4825, .inl (fun _ => zI 0)))] := hD
  refine va_putF (D := (dC, dI)) (ci := 4) (v := .ref (b + 2)) (ty := .array .int) (C := RX4) (T := TX4) (N := 11) hx hb hts hin tyX4 tyX4_ok nmX4 hown hK hP hD hS 0 rfl rfl 1 (by decide) (hts _ (List.mem_of_getElem? (i := 6) rfl)) (fun _ h9 => h9) rfl hini rfl (by decide +kernel) rfl rfl (Nat.le_of_ble_eq_true rfl) dX4_init_19 (fun H locs hP hD hS => ?_)
  have hP : va_P (dC, dI) vwCl [(b, .inr (4, [.ref (b + 1), .ref (b + 2), .int (zI 0), .null, .null, .int (zI 0), .int (zI 0), .int (zI 0), .null, .null, .null])), (b + 1, .inl (cI, 965, .inl (fun _ => zI 0))), (b + 2, .inl (cI, 4825, .inl (fun _ => zI 0)))] H := hP
  have hD : va_D A [(b, .inr (4, [.ref (b + 1), .ref (b + 2), .int (zI 0), .null, .null, .int (zI 0), .int (zI 0), .int (zI 0), .null, .null, .null])), (b + 1, .inl (cI, 965, .inl (fun _ => zI 0))), (b + 2, .inl (cI, 4825, .inl (fun _ => zI 0)))] := hD
  refine lv_aload_n hx hb dX4_init_22 rfl (lv_at hl 0 rfl) ?_
  refine z_sipush (z := ((965 : Nat) : Int)) hx hb dX4_init_23 (by decide +kernel) ?_
  refine z_size (fun hz9 => ?_)
  have l9 : b + 2 < H.size := (hP 2 _ rfl).lt
  refine z_newa (n := 965) (h := b + 3) hx hb (hts _ (List.mem_of_getElem? (i := 4) rfl)) hK hP hD hS hA 0 rfl (Nat.le_of_ble_eq_true rfl) (Nat.le_of_ble_eq_true rfl) (Nat.le_of_ble_eq_true rfl) (by omega) dX4_init_26 (fun H hP hD hS => ?_)
  have hP : va_P (dC, dI) vwCl [(b, .inr (4, [.ref (b + 1), .ref (b + 2), .int (zI 0), .null, .null, .int (zI 0), .int (zI 0), .int (zI 0), .null, .null, .null])), (b + 1, .inl (cI, 965, .inl (fun _ => zI 0))), (b + 2, .inl (cI, 4825, .inl (fun _ => zI 0))), (b + 3, .inl (cI, 965, .inl (fun _ => zI 0)))] H := hP
  have hD : va_D A [(b, .inr (4, [.ref (b + 1), .ref (b + 2), .int (zI 0), .null, .null, .int (zI 0), .int (zI 0), .int (zI 0), .null, .null, .null])), (b + 1, .inl (cI, 965, .inl (fun _ => zI 0))), (b + 2, .inl (cI, 4825, .inl (fun _ => zI 0))), (b + 3, .inl (cI, 965, .inl (fun _ => zI 0)))] := hD
  refine va_putF (D := (dC, dI)) (ci := 4) (v := .ref (b + 3)) (ty := .array .int) (C := RX4) (T := TX4) (N := 11) hx hb hts hin tyX4 tyX4_ok nmX4 hown hK hP hD hS 0 rfl rfl 3 (by decide) (hts _ (List.mem_of_getElem? (i := 7) rfl)) (fun _ h9 => h9) rfl hini rfl (by decide +kernel) rfl rfl (Nat.le_of_ble_eq_true rfl) dX4_init_28 (fun H locs hP hD hS => ?_)
  have hP : va_P (dC, dI) vwCl [(b, .inr (4, [.ref (b + 1), .ref (b + 2), .int (zI 0), .ref (b + 3), .null, .int (zI 0), .int (zI 0), .int (zI 0), .null, .null, .null])), (b + 1, .inl (cI, 965, .inl (fun _ => zI 0))), (b + 2, .inl (cI, 4825, .inl (fun _ => zI 0))), (b + 3, .inl (cI, 965, .inl (fun _ => zI 0)))] H := hP
  have hD : va_D A [(b, .inr (4, [.ref (b + 1), .ref (b + 2), .int (zI 0), .ref (b + 3), .null, .int (zI 0), .int (zI 0), .int (zI 0), .null, .null, .null])), (b + 1, .inl (cI, 965, .inl (fun _ => zI 0))), (b + 2, .inl (cI, 4825, .inl (fun _ => zI 0))), (b + 3, .inl (cI, 965, .inl (fun _ => zI 0)))] := hD
  refine lv_aload_n hx hb dX4_init_31 rfl (lv_at hl 0 rfl) ?_
  refine z_bipush (z := ((80 : Nat) : Int)) hx hb dX4_init_32 (by decide +kernel) ?_
  refine z_size (fun hz9 => ?_)
  have l9 : b + 3 < H.size := (hP 3 _ rfl).lt
  refine z_newa (n := 80) (h := b + 4) hx hb (hts _ (List.mem_of_getElem? (i := 4) rfl)) hK hP hD hS hA 0 rfl (Nat.le_of_ble_eq_true rfl) (Nat.le_of_ble_eq_true rfl) (Nat.le_of_ble_eq_true rfl) (by omega) dX4_init_34 (fun H hP hD hS => ?_)
  have hP : va_P (dC, dI) vwCl [(b, .inr (4, [.ref (b + 1), .ref (b + 2), .int (zI 0), .ref (b + 3), .null, .int (zI 0), .int (zI 0), .int (zI 0), .null, .null, .null])), (b + 1, .inl (cI, 965, .inl (fun _ => zI 0))), (b + 2, .inl (cI, 4825, .inl (fun _ => zI 0))), (b + 3, .inl (cI, 965, .inl (fun _ => zI 0))), (b + 4, .inl (cI, 80, .inl (fun _ => zI 0)))] H := hP
  have hD : va_D A [(b, .inr (4, [.ref (b + 1), .ref (b + 2), .int (zI 0), .ref (b + 3), .null, .int (zI 0), .int (zI 0), .int (zI 0), .null, .null, .null])), (b + 1, .inl (cI, 965, .inl (fun _ => zI 0))), (b + 2, .inl (cI, 4825, .inl (fun _ => zI 0))), (b + 3, .inl (cI, 965, .inl (fun _ => zI 0))), (b + 4, .inl (cI, 80, .inl (fun _ => zI 0)))] := hD
  refine va_putF (D := (dC, dI)) (ci := 4) (v := .ref (b + 4)) (ty := .array .int) (C := RX4) (T := TX4) (N := 11) hx hb hts hin tyX4 tyX4_ok nmX4 hown hK hP hD hS 0 rfl rfl 4 (by decide) (hts _ (List.mem_of_getElem? (i := 8) rfl)) (fun _ h9 => h9) rfl hini rfl (by decide +kernel) rfl rfl (Nat.le_of_ble_eq_true rfl) dX4_init_36 (fun H locs hP hD hS => ?_)
  have hP : va_P (dC, dI) vwCl [(b, .inr (4, [.ref (b + 1), .ref (b + 2), .int (zI 0), .ref (b + 3), .ref (b + 4), .int (zI 0), .int (zI 0), .int (zI 0), .null, .null, .null])), (b + 1, .inl (cI, 965, .inl (fun _ => zI 0))), (b + 2, .inl (cI, 4825, .inl (fun _ => zI 0))), (b + 3, .inl (cI, 965, .inl (fun _ => zI 0))), (b + 4, .inl (cI, 80, .inl (fun _ => zI 0)))] H := hP
  have hD : va_D A [(b, .inr (4, [.ref (b + 1), .ref (b + 2), .int (zI 0), .ref (b + 3), .ref (b + 4), .int (zI 0), .int (zI 0), .int (zI 0), .null, .null, .null])), (b + 1, .inl (cI, 965, .inl (fun _ => zI 0))), (b + 2, .inl (cI, 4825, .inl (fun _ => zI 0))), (b + 3, .inl (cI, 965, .inl (fun _ => zI 0))), (b + 4, .inl (cI, 80, .inl (fun _ => zI 0)))] := hD
  refine lv_aload_n hx hb dX4_init_39 rfl (lv_at hl 0 rfl) ?_
  refine z_iconst hx hb dX4_init_40 ?_
  refine z_size (fun hz9 => ?_)
  have l9 : b + 4 < H.size := (hP 4 _ rfl).lt
  refine z_newa (n := 4) (h := b + 5) hx hb (hts _ (List.mem_of_getElem? (i := 4) rfl)) hK hP hD hS hA 0 rfl (Nat.le_of_ble_eq_true rfl) (Nat.le_of_ble_eq_true rfl) (Nat.le_of_ble_eq_true rfl) (by omega) dX4_init_41 (fun H hP hD hS => ?_)
  have hP : va_P (dC, dI) vwCl [(b, .inr (4, [.ref (b + 1), .ref (b + 2), .int (zI 0), .ref (b + 3), .ref (b + 4), .int (zI 0), .int (zI 0), .int (zI 0), .null, .null, .null])), (b + 1, .inl (cI, 965, .inl (fun _ => zI 0))), (b + 2, .inl (cI, 4825, .inl (fun _ => zI 0))), (b + 3, .inl (cI, 965, .inl (fun _ => zI 0))), (b + 4, .inl (cI, 80, .inl (fun _ => zI 0))), (b + 5, .inl (cI, 4, .inl (fun _ => zI 0)))] H := hP
  have hD : va_D A [(b, .inr (4, [.ref (b + 1), .ref (b + 2), .int (zI 0), .ref (b + 3), .ref (b + 4), .int (zI 0), .int (zI 0), .int (zI 0), .null, .null, .null])), (b + 1, .inl (cI, 965, .inl (fun _ => zI 0))), (b + 2, .inl (cI, 4825, .inl (fun _ => zI 0))), (b + 3, .inl (cI, 965, .inl (fun _ => zI 0))), (b + 4, .inl (cI, 80, .inl (fun _ => zI 0))), (b + 5, .inl (cI, 4, .inl (fun _ => zI 0)))] := hD
  refine va_putF (D := (dC, dI)) (ci := 4) (v := .ref (b + 5)) (ty := .array .int) (C := RX4) (T := TX4) (N := 11) hx hb hts hin tyX4 tyX4_ok nmX4 hown hK hP hD hS 0 rfl rfl 8 (by decide) (hts _ (List.mem_of_getElem? (i := 9) rfl)) (fun _ h9 => h9) rfl hini rfl (by decide +kernel) rfl rfl (Nat.le_of_ble_eq_true rfl) dX4_init_43 (fun H locs hP hD hS => ?_)
  have hP : va_P (dC, dI) vwCl [(b, .inr (4, [.ref (b + 1), .ref (b + 2), .int (zI 0), .ref (b + 3), .ref (b + 4), .int (zI 0), .int (zI 0), .int (zI 0), .ref (b + 5), .null, .null])), (b + 1, .inl (cI, 965, .inl (fun _ => zI 0))), (b + 2, .inl (cI, 4825, .inl (fun _ => zI 0))), (b + 3, .inl (cI, 965, .inl (fun _ => zI 0))), (b + 4, .inl (cI, 80, .inl (fun _ => zI 0))), (b + 5, .inl (cI, 4, .inl (fun _ => zI 0)))] H := hP
  have hD : va_D A [(b, .inr (4, [.ref (b + 1), .ref (b + 2), .int (zI 0), .ref (b + 3), .ref (b + 4), .int (zI 0), .int (zI 0), .int (zI 0), .ref (b + 5), .null, .null])), (b + 1, .inl (cI, 965, .inl (fun _ => zI 0))), (b + 2, .inl (cI, 4825, .inl (fun _ => zI 0))), (b + 3, .inl (cI, 965, .inl (fun _ => zI 0))), (b + 4, .inl (cI, 80, .inl (fun _ => zI 0))), (b + 5, .inl (cI, 4, .inl (fun _ => zI 0)))] := hD
  refine lv_aload_n hx hb dX4_init_46 rfl (lv_at hl 0 rfl) ?_
  refine z_iconst hx hb dX4_init_47 ?_
  refine z_size (fun hz9 => ?_)
  have l9 : b + 5 < H.size := (hP 5 _ rfl).lt
  refine z_newa (n := 4) (h := b + 6) hx hb (hts _ (List.mem_of_getElem? (i := 4) rfl)) hK hP hD hS hA 0 rfl (Nat.le_of_ble_eq_true rfl) (Nat.le_of_ble_eq_true rfl) (Nat.le_of_ble_eq_true rfl) (by omega) dX4_init_48 (fun H hP hD hS => ?_)
  have hP : va_P (dC, dI) vwCl [(b, .inr (4, [.ref (b + 1), .ref (b + 2), .int (zI 0), .ref (b + 3), .ref (b + 4), .int (zI 0), .int (zI 0), .int (zI 0), .ref (b + 5), .null, .null])), (b + 1, .inl (cI, 965, .inl (fun _ => zI 0))), (b + 2, .inl (cI, 4825, .inl (fun _ => zI 0))), (b + 3, .inl (cI, 965, .inl (fun _ => zI 0))), (b + 4, .inl (cI, 80, .inl (fun _ => zI 0))), (b + 5, .inl (cI, 4, .inl (fun _ => zI 0))), (b + 6, .inl (cI, 4, .inl (fun _ => zI 0)))] H := hP
  have hD : va_D A [(b, .inr (4, [.ref (b + 1), .ref (b + 2), .int (zI 0), .ref (b + 3), .ref (b + 4), .int (zI 0), .int (zI 0), .int (zI 0), .ref (b + 5), .null, .null])), (b + 1, .inl (cI, 965, .inl (fun _ => zI 0))), (b + 2, .inl (cI, 4825, .inl (fun _ => zI 0))), (b + 3, .inl (cI, 965, .inl (fun _ => zI 0))), (b + 4, .inl (cI, 80, .inl (fun _ => zI 0))), (b + 5, .inl (cI, 4, .inl (fun _ => zI 0))), (b + 6, .inl (cI, 4, .inl (fun _ => zI 0)))] := hD
  refine va_putF (D := (dC, dI)) (ci := 4) (v := .ref (b + 6)) (ty := .array .int) (C := RX4) (T := TX4) (N := 11) hx hb hts hin tyX4 tyX4_ok nmX4 hown hK hP hD hS 0 rfl rfl 9 (by decide) (hts _ (List.mem_of_getElem? (i := 10) rfl)) (fun _ h9 => h9) rfl hini rfl (by decide +kernel) rfl rfl (Nat.le_of_ble_eq_true rfl) dX4_init_50 (fun H locs hP hD hS => ?_)
  have hP : va_P (dC, dI) vwCl [(b, .inr (4, [.ref (b + 1), .ref (b + 2), .int (zI 0), .ref (b + 3), .ref (b + 4), .int (zI 0), .int (zI 0), .int (zI 0), .ref (b + 5), .ref (b + 6), .null])), (b + 1, .inl (cI, 965, .inl (fun _ => zI 0))), (b + 2, .inl (cI, 4825, .inl (fun _ => zI 0))), (b + 3, .inl (cI, 965, .inl (fun _ => zI 0))), (b + 4, .inl (cI, 80, .inl (fun _ => zI 0))), (b + 5, .inl (cI, 4, .inl (fun _ => zI 0))), (b + 6, .inl (cI, 4, .inl (fun _ => zI 0)))] H := hP
  have hD : va_D A [(b, .inr (4, [.ref (b + 1), .ref (b + 2), .int (zI 0), .ref (b + 3), .ref (b + 4), .int (zI 0), .int (zI 0), .int (zI 0), .ref (b + 5), .ref (b + 6), .null])), (b + 1, .inl (cI, 965, .inl (fun _ => zI 0))), (b + 2, .inl (cI, 4825, .inl (fun _ => zI 0))), (b + 3, .inl (cI, 965, .inl (fun _ => zI 0))), (b + 4, .inl (cI, 80, .inl (fun _ => zI 0))), (b + 5, .inl (cI, 4, .inl (fun _ => zI 0))), (b + 6, .inl (cI, 4, .inl (fun _ => zI 0)))] := hD
  refine lv_aload_n hx hb dX4_init_53 rfl (lv_at hl 0 rfl) ?_
  refine z_iconst hx hb dX4_init_54 ?_
  refine z_size (fun hz9 => ?_)
  have l9 : b + 6 < H.size := (hP 6 _ rfl).lt
  refine z_newa (n := 3) (h := b + 7) hx hb (hts _ (List.mem_of_getElem? (i := 4) rfl)) hK hP hD hS hA 0 rfl (Nat.le_of_ble_eq_true rfl) (Nat.le_of_ble_eq_true rfl) (Nat.le_of_ble_eq_true rfl) (by omega) dX4_init_55 (fun H hP hD hS => ?_)
  have hP : va_P (dC, dI) vwCl [(b, .inr (4, [.ref (b + 1), .ref (b + 2), .int (zI 0), .ref (b + 3), .ref (b + 4), .int (zI 0), .int (zI 0), .int (zI 0), .ref (b + 5), .ref (b + 6), .null])), (b + 1, .inl (cI, 965, .inl (fun _ => zI 0))), (b + 2, .inl (cI, 4825, .inl (fun _ => zI 0))), (b + 3, .inl (cI, 965, .inl (fun _ => zI 0))), (b + 4, .inl (cI, 80, .inl (fun _ => zI 0))), (b + 5, .inl (cI, 4, .inl (fun _ => zI 0))), (b + 6, .inl (cI, 4, .inl (fun _ => zI 0))), (b + 7, .inl (cI, 3, .inl (fun _ => zI 0)))] H := hP
  have hD : va_D A [(b, .inr (4, [.ref (b + 1), .ref (b + 2), .int (zI 0), .ref (b + 3), .ref (b + 4), .int (zI 0), .int (zI 0), .int (zI 0), .ref (b + 5), .ref (b + 6), .null])), (b + 1, .inl (cI, 965, .inl (fun _ => zI 0))), (b + 2, .inl (cI, 4825, .inl (fun _ => zI 0))), (b + 3, .inl (cI, 965, .inl (fun _ => zI 0))), (b + 4, .inl (cI, 80, .inl (fun _ => zI 0))), (b + 5, .inl (cI, 4, .inl (fun _ => zI 0))), (b + 6, .inl (cI, 4, .inl (fun _ => zI 0))), (b + 7, .inl (cI, 3, .inl (fun _ => zI 0)))] := hD
  refine va_putF (D := (dC, dI)) (ci := 4) (v := .ref (b + 7)) (ty := .array .int) (C := RX4) (T := TX4) (N := 11) hx hb hts hin tyX4 tyX4_ok nmX4 hown hK hP hD hS 0 rfl rfl 10 (by decide) (hts _ (List.mem_of_getElem? (i := 11) rfl)) (fun _ h9 => h9) rfl hini rfl (by decide +kernel) rfl rfl (Nat.le_of_ble_eq_true rfl) dX4_init_57 (fun H locs hP hD hS => ?_)
  have hP : va_P (dC, dI) vwCl [(b, .inr (4, [.ref (b + 1), .ref (b + 2), .int (zI 0), .ref (b + 3), .ref (b + 4), .int (zI 0), .int (zI 0), .int (zI 0), .ref (b + 5), .ref (b + 6), .ref (b + 7)])), (b + 1, .inl (cI, 965, .inl (fun _ => zI 0))), (b + 2, .inl (cI, 4825, .inl (fun _ => zI 0))), (b + 3, .inl (cI, 965, .inl (fun _ => zI 0))), (b + 4, .inl (cI, 80, .inl (fun _ => zI 0))), (b + 5, .inl (cI, 4, .inl (fun _ => zI 0))), (b + 6, .inl (cI, 4, .inl (fun _ => zI 0))), (b + 7, .inl (cI, 3, .inl (fun _ => zI 0)))] H := hP
  have hD : va_D A [(b, .inr (4, [.ref (b + 1), .ref (b + 2), .int (zI 0), .ref (b + 3), .ref (b + 4), .int (zI 0), .int (zI 0), .int (zI 0), .ref (b + 5), .ref (b + 6), .ref (b + 7)])), (b + 1, .inl (cI, 965, .inl (fun _ => zI 0))), (b + 2, .inl (cI, 4825, .inl (fun _ => zI 0))), (b + 3, .inl (cI, 965, .inl (fun _ => zI 0))), (b + 4, .inl (cI, 80, .inl (fun _ => zI 0))), (b + 5, .inl (cI, 4, .inl (fun _ => zI 0))), (b + 6, .inl (cI, 4, .inl (fun _ => zI 0))), (b + 7, .inl (cI, 3, .inl (fun _ => zI 0)))] := hD
  have hP : va_P (dC, dI) vwCl (tW_X4 (fun j => b + j) cI (n4 0)) H := n4_0 ▸ hP
  have hD9 : ∀ S, va_D A (tW_X4 (fun j => b + j) cI S) := fun S => z_Dre hD rfl
  refine z_iconst hx hb dX4_init_60 ?_
  refine lv_istore_n (lv' := [(1, .int (zI 0)), (0, .ref b)]) hx hb dX4_init_61 rfl hl (by decide) rfl (fun ls hl => ?_)
  have hloop : ∀ (n : Nat) (i : Int), (0 ≤ i ∧ i ≤ 96) → (96 - i < (n : Int)) → ∀ (H : Heap) (locs : List Loc), va_P (dC, dI) vwCl (tW_X4 (fun j => b + j) cI (n4 i)) H → va_S A s.heap H locs → ∀ ls : Array Slot, lv_has ls 2 [(1, .int (zI i)), (0, .ref b)] → W p l e (headSpec wsX4_init { frames := 1, cells := 7, slots := 6846, locals := 16 }).room s m ([.ref b] : List Value).toArray below meth c H locs 7 6846 (MQ below (zQb (dC, dI) vwCl (tW_X4 (fun j => b + j) cI (n4 96)) (b + 8) A) ([.ref b] : List Value).toArray s 7 6846 A) (F0 m 62 ls []) := by
    intro n
    induction n with
    | zero => intro i i0 hm; exfalso; omega
    | succ n ih =>
      intro i i0 hm H locs hP hS ls hl
      refine lv_iload_n hx hb dX4_init_62 rfl (lv_at hl 0 rfl) ?_
      refine z_bipush (z := 96) hx hb dX4_init_63 (by decide +kernel) ?_
      refine z_icmp_ge (tgt := 88) hx hb dX4_init_65 (by decide) (by omega) (by omega) (fun c1 => ?_) (fun c1 => ?_)
      · obtain rfl : i = 96 := by omega
        refine z_size (fun hz9 => ?_)
        have l9 : b + 7 < H.size := (hP 7 _ rfl).lt
        exact z_vretb hx hb hr hlk hP (by omega) hS dX4_init_88 rfl
      · refine lv_aload_n hx hb dX4_init_68 rfl (lv_at hl 1 rfl) ?_
        refine gx_X4_0 hx hb hts hin hown hK hP (hts _ (List.mem_of_getElem? (i := 5) rfl)) dX4_init_69 ?_
        refine z_iconst hx hb dX4_init_72 ?_
        refine z_iconst hx hb dX4_init_73 ?_
        refine lv_iload_n hx hb dX4_init_74 rfl (lv_at hl 0 rfl) ?_
        refine z_imul hx hb dX4_init_75 ?_
        refine z_iadd hx hb dX4_init_76 ?_
        refine z_iconst hx hb dX4_init_77 ?_
        refine z_iadd hx hb dX4_init_78 ?_
        refine z_top (y := 5 * i + 9) (by omega) ?_
        refine z_bipush (z := -2) hx hb dX4_init_79 (by decide +kernel) ?_
        refine st_X4_0 hx hb hK hP hD9 hS (by omega) dX4_init_81 (fun H locs hP hS => ?_)
        rw [n4_s i0.1] at hP
        refine z_iinc (lv' := [(1, .int (zI (i + 1))), (0, .ref b)]) hx hb dX4_init_82 hl (k := 0) rfl (by decide) rfl (fun ls hl => ?_)
        refine lv_goto (tgt := 62) hx hb dX4_init_85 (by decide) ?_
        exact ih (i + 1) (by omega) (by omega) H locs hP hS ls hl
  exact hloop 97 0 (by omega) (by omega) _ _ hP hS ls hl
