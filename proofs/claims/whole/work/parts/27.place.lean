/-! objects and arrays of references, where they come to lie -/
section ZO
variable {p : Program} {l : Launch} {e : Env} {R : Room} {s : State} {m : MethodId} {args : Array Value} {below : List Frame} {meth : Method} {c : Code} {H : Heap} {locs : List Loc} {cells slots : Nat} {Q : State → Prop}
variable {cc : ByteArray} {pc : Nat} {ls : Array Slot} {rest : List Value} {D : va_G} {cl : List vw_C} {A : Nat → Prop} {tys : List (ClassId × FieldType)} {ws : va_W} {H0 : Heap}
theorem z_newo (hx : p.tables.exec = Jvm.exec) (hb : c.code = cc) {own C : String} {T : u_T} {N ci index : Nat} {Ts : List Cond} (hts : ∀ w ∈ Ts, w.before args s = true) (hin : ∀ w ∈ u_ws C T N, w ∈ Ts) (ty : Nat → FieldType) (hty : ∀ k, k < N → parseFieldDescriptor (T k).2.2.1 = some (ty k)) (hown : s.vm.findClass own = some m.cls) (hcl : (Cond.classLink own index C).before args s = true) (hinst : (Cond.instantiable C N).before args s = true) (hini : (Cond.initialized C).before args s = true)
    (hK : va_K D cl tys s) (hP : va_P D cl ws H) (hS : va_S A H0 H locs) (hc : cl[ci]? = some (C, T, N)) {fs : List Value} (hfs : ∀ j, j < N → defaultValue (ty j) = vp_V fs j) (hcells : cells + 1 ≤ R.cells) (hslots : slots + N ≤ R.slots) {h : Nat} (hz : H.size = h) (hdg : decode cc pc = .ok (.new index, 3))
    (kk : ∀ H1 : Heap, va_P D cl (ws ++ [(h, .inr (ci, fs))]) H1 → va_S A H0 H1 locs → H1.size = h + 1 → W p l e R s m args below meth c H1 locs (cells + 1) (slots + N) Q (F0 m (pc + 3) ls (.ref h :: rest))) : W p l e R s m args below meth c H locs cells slots Q (F0 m pc ls rest) := by
  have hKn := hK.1 ci _ hc
  refine W.newcK hx hb hown hcl hinst hini rfl hdg hcells hslots hKn.2.1 rfl fun H1 kC hkC e1 z1 o1 => ?_
  subst hz
  refine kk H1 ((hP.kept (fun k x hx => o1 x.1 ((hP k x hx).lt))).app (fun k x hx => ?_)) ⟨Nat.le_trans hS.1 (by omega), fun x h1 h2 => (o1 x (Nat.lt_of_lt_of_le h1 hS.1)).trans (hS.2.1 x h1 h2), hS.2.2⟩ z1
  have a1 : k < 1 := (List.getElem?_eq_some_iff.mp hx).1
  rw [show k = 0 by omega] at hx
  cases hx
  exact ⟨_, hc, (u_born ty hts hin hKn hkC e1 hty).to hfs⟩
theorem z_newqo (hx : p.tables.exec = Jvm.exec) (hb : c.code = cc) {own C : String} {index : Nat} (hown : s.vm.findClass own = some m.cls) (hclink : (Cond.classLink own index C).before args s = true) (hover : va_AO C s) (hK : va_K D cl tys s) (hP : va_P D cl ws H) (hS : va_S A H0 H locs) (t0 : Nat) {cQ : ClassId} (ht : tys[t0]? = some (cQ, .object C)) {n h : Nat} (hn : n * 4 ≤ 536870912) (hcells : cells + 1 ≤ R.cells) (hslots : slots + n ≤ R.slots) (hz : H.size = h) (hdg : decode cc pc = .ok (.anewarray index, 3))
    (kk : ∀ H1 : Heap, va_P D cl (ws ++ [(h, .inl (cQ, n, .inr (.inr (.inr (.inr (fun _ => none))))))]) H1 → va_S A H0 H1 locs → H1.size = h + 1 → W p l e R s m args below meth c H1 locs (cells + 1) (slots + n) Q (F0 m (pc + 3) ls (.ref h :: rest))) : W p l e R s m args below meth c H locs cells slots Q (F0 m pc ls (.int (zI n) :: rest)) := by
  have cn : (zI n).toNatClampNeg = n := by rw [zI_clamp (by omega) (by omega)]; omega
  have nn : ¬ zI n < 0 := fun q => by
    have z := (zI_lt (show -2147483648 ≤ (n : Int) ∧ (n : Int) < 2147483648 from ⟨by omega, by omega⟩) (show -2147483648 ≤ (0 : Int) ∧ (0 : Int) < 2147483648 from ⟨by omega, by omega⟩)).mp (by rw [zI_0]; exact q)
    omega
  refine W.anew hx hb hown hclink (va_AO.use hover) rfl hdg rfl nn (by rw [cn]; exact hn) hcells (by rw [cn]; exact hslots) fun cA kA comp f1 f2 f3 f4 => ?_
  obtain ⟨kA', comp', g1, g2, g3, g4⟩ := (hK.2 t0 _ ht).2
  have hc : cA = cQ := Option.some.inj (f1.symm.trans g4)
  subst hc
  rw [cn]
  subst hz
  generalize hH1 : H.push ({ cls := cA, slots := Array.replicate n .null, vm := .none } : Cell) = H1
  have z1 : H1.size = H.size + 1 := by rw [← hH1, Array.size_push]
  have e1 : H1[H.size]? = some (arrV cA n (fun _ => .null)) := by rw [← hH1, Array.getElem?_push_size, ← arrV_new]
  have o1 : ∀ q : Nat, q < H.size → H1[q]? = H[q]? := fun q hq => by rw [← hH1, Array.getElem?_push, if_neg (Nat.ne_of_lt hq)]
  refine kk H1 ((hP.kept (fun k x hx => o1 x.1 ((hP k x hx).lt))).app (fun k x hx => ?_)) ⟨Nat.le_trans hS.1 (by omega), fun x h1 h2 => (o1 x (Nat.lt_of_lt_of_le h1 hS.1)).trans (hS.2.1 x h1 h2), hS.2.2⟩ z1
  have a1 : k < 1 := (List.getElem?_eq_some_iff.mp hx).1
  rw [show k = 0 by omega] at hx
  cases hx
  show H1[H.size]? = some (vp_cell _ _)
  rw [vp_cell_q]
  exact e1
theorem z_callb {mc ms n : Nat} {st0 : List Value} {w2 : va_W} {A1 : Nat → Prop} {av : Array Value} (hr : va_Run p l e R s m args below meth c H locs cells slots mc ms (F0 m pc ls st0) rest (zQb D cl w2 n A1 av) A1) (hS : va_S A H0 H locs) (hA : ∀ q, A1 q → A q)
    (kk : ∀ (H1 : Heap) (locs1 : List Loc), H1.size = n → va_P D cl w2 H1 → va_S A H0 H1 locs1 → (∀ q : Nat, q < H.size → ¬ A1 q → H1[q]? = H[q]?) → W p l e R s m args below meth c H1 locs1 (cells + mc) (slots + ms) Q (F0 m (pc + 3) ls (rest))) : W p l e R s m args below meth c H locs cells slots Q (F0 m pc ls st0) := by
  refine va_callv hr hS (fun q _ h => hA q h) hA (fun u t H1 locs1 ht hvm hw hB hz hk hS1 => ?_)
  have hB : t.heap.size = n ∧ va_P D cl w2 t.heap := hB
  rw [ht] at hB
  exact kk H1 locs1 hB.1 hB.2 hS1 hk
theorem z_preb {w : va_W} {n : Nat} {As : List Value} (hz : H.size = n) (hK : va_K D cl tys s) (hP : va_P D cl w H) : PreS s H (zPb D cl tys w n As) As :=
  ⟨zPb_blind _ _ _ _ _ _, fun U hU hW => ⟨rfl, by rw [hU]; exact hz, by rw [hU]; exact hP, va_K.moved hW.alike hK⟩⟩
end ZO
theorem z_adr {ws : va_W} {h n : Nat} (e : ws.map (fun q => q.1) = (List.range n).map (fun k => h + k)) {k : Nat} {q : Nat × va_E} (hk : ws[k]? = some q) : q.1 = h + k ∧ k < n := by
  have e1 : (ws.map (fun q => q.1))[k]? = some q.1 := by rw [List.getElem?_map, hk]; rfl
  rw [e, List.getElem?_map] at e1
  by_cases hl : k < n
  · rw [List.getElem?_range hl] at e1
    exact ⟨(Option.some.inj e1).symm, hl⟩
  · rw [List.getElem?_eq_none (by rw [List.length_range]; omega)] at e1
    cases e1
theorem z_Dlay {A : Nat → Prop} {ws : va_W} {h n : Nat} (hA : ∀ q, h ≤ q → A q) (e : ws.map (fun q => q.1) = (List.range n).map (fun k => h + k)) : va_D A ws :=
  ⟨fun i j p q hi hj z => by have a1 := (z_adr e hi).1; have a2 := (z_adr e hj).1; omega, fun k q hk => hA _ (by rw [(z_adr e hk).1]; omega)⟩
theorem z_cellq (cA : ClassId) (n : Nat) {f g : Nat → Option Nat} (h : ∀ j, j < n → f j = g j) : vp_cell cA (n, .inr (.inr (.inr (.inr f)))) = vp_cell cA (n, .inr (.inr (.inr (.inr g)))) := by
  rw [vp_cell_q, vp_cell_q]
  unfold arrV
  congr 1
  congr 1
  funext j
  show va_rf (f j.1) = va_rf (g j.1)
  rw [h j.1 j.2]
