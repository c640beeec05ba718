/-! the history: where its states lie, and its numbers -/
def tW_X0 (ad : Nat → Nat) (pd : Nat → Nat → Nat) (cQ : ClassId) (w : va_W) (S : Nat → Int → Int) : va_W := (ad 0, .inr (0, [.ref (ad 1), .int (zI (S 1 0)), .int (zI (S 2 0))])) :: (ad 1, .inl (cQ, 6, .inr (.inr (.inr (.inr (fun j : Nat => some (pd j 0))))))) :: w
def keepH (S : Nat → Int → Int) : Nat → Int → Int := if S 2 0 < 5 then up2 S 2 0 (S 2 0 + 1) else up2 S 1 0 ((S 1 0 + 1) % 6)
def dropH (S : Nat → Int → Int) : Nat → Int → Int := if 0 < S 2 0 then up2 S 2 0 (S 2 0 - 1) else S
section ZH
variable {p : Program} {l : Launch} {e : Env} {R : Room} {s : State} {m : MethodId} {args : Array Value} {below : List Frame} {meth : Method} {c : Code} {H : Heap} {locs : List Loc} {cells slots : Nat} {Q : State → Prop}
variable {cc : ByteArray} {pc : Nat} {ls : Array Slot} {rest : List Value} {A : Nat → Prop} {H0 : Heap} {dC : Nat → ClassId} {dI : Nat → Nat → Nat} {cI cQ : ClassId} {ad : Nat → Nat} {pd : Nat → Nat → Nat} {w : va_W} {S : Nat → Int → Int} {Ts : List Cond} {index : Nat}
theorem z_aald_X0 (hx : p.tables.exec = Jvm.exec) (hb : c.code = cc) (hK : va_K (dC, dI) vwCl (zT cI cQ) s) (hP : va_P (dC, dI) vwCl (tW_X0 ad pd cQ w S) H) {i : Int} (h0 : 0 ≤ i ∧ i < 6) (hdg : decode cc pc = .ok (.aaload, 1)) (kk : W p l e R s m args below meth c H locs cells slots Q (F0 m (pc + 1) ls (.ref (pd i.toNat 0) :: rest))) : W p l e R s m args below meth c H locs cells slots Q (F0 m pc ls (.int (zI i) :: .ref (ad 1) :: rest)) := by
  refine va_aldq hx hb hK hP 1 1 rfl rfl (zI_in h0.1 h0.2 (by decide)) hdg ?_
  show W p l e R s m args below meth c H locs cells slots Q (F0 m (pc + 1) ls (.ref (pd (zI i).toNatClampNeg 0) :: rest))
  rw [zI_clamp h0.1 (by omega)]
  exact kk
theorem gx_X0_0 (hx : p.tables.exec = Jvm.exec) (hb : c.code = cc) (hts : ∀ w ∈ Ts, w.before args s = true) (hin : ∀ w ∈ wsX00, w ∈ Ts) (hown : s.vm.findClass RX0 = some m.cls) (hK : va_K (dC, dI) vwCl (zT cI cQ) s) (hP : va_P (dC, dI) vwCl (tW_X0 ad pd cQ w S) H) (hlink : (Cond.fieldLink RX0 index "TwinPlates$History" "slots" "[LTwinPlates$Plates;").before args s = true) (hdg : decode cc pc = .ok (.getfield index, 3)) (kk : W p l e R s m args below meth c H locs cells slots Q (F0 m (pc + 3) ls (.ref (ad 1) :: rest))) : W p l e R s m args below meth c H locs cells slots Q (F0 m pc ls (.ref (ad 0) :: rest)) :=
  va_get (D := (dC, dI)) (ci := 0) (v := .ref (ad 1)) (C := RX0) (T := TX0) (N := 3) hx hb hts hin hown hK hP 0 rfl rfl 0 (by decide) hlink (fun _ h9 => h9) rfl hdg kk
theorem gx_X0_1 (hx : p.tables.exec = Jvm.exec) (hb : c.code = cc) (hts : ∀ w ∈ Ts, w.before args s = true) (hin : ∀ w ∈ wsX00, w ∈ Ts) (hown : s.vm.findClass RX0 = some m.cls) (hK : va_K (dC, dI) vwCl (zT cI cQ) s) (hP : va_P (dC, dI) vwCl (tW_X0 ad pd cQ w S) H) (hlink : (Cond.fieldLink RX0 index "TwinPlates$History" "oldest" "I").before args s = true) (hdg : decode cc pc = .ok (.getfield index, 3)) (kk : W p l e R s m args below meth c H locs cells slots Q (F0 m (pc + 3) ls (.int (zI (S 1 0)) :: rest))) : W p l e R s m args below meth c H locs cells slots Q (F0 m pc ls (.ref (ad 0) :: rest)) :=
  va_get (D := (dC, dI)) (ci := 0) (v := .int (zI (S 1 0))) (C := RX0) (T := TX0) (N := 3) hx hb hts hin hown hK hP 0 rfl rfl 1 (by decide) hlink (fun _ h9 => h9) rfl hdg kk
theorem ps_X0_1 (x : Int) : (tW_X0 ad pd cQ w S).set 0 (ad 0, .inr (0, (([.ref (ad 1), .int (zI (S 1 0)), .int (zI (S 2 0))] : List Value).set 1 (.int (zI x))))) = tW_X0 ad pd cQ w (up2 S 1 0 x) := rfl
theorem px_X0_1 (hx : p.tables.exec = Jvm.exec) (hb : c.code = cc) (hts : ∀ w ∈ Ts, w.before args s = true) (hin : ∀ w ∈ wsX00, w ∈ Ts) (hown : s.vm.findClass RX0 = some m.cls) (hK : va_K (dC, dI) vwCl (zT cI cQ) s) (hP : va_P (dC, dI) vwCl (tW_X0 ad pd cQ w S) H) (hD : ∀ S, va_D A (tW_X0 ad pd cQ w S)) (hS : va_S A H0 H locs) (hlink : (Cond.fieldLink RX0 index "TwinPlates$History" "oldest" "I").before args s = true) {x : Int} (hdg : decode cc pc = .ok (.putfield index, 3)) (kk : ∀ (H1 : Heap) (locs1 : List Loc), va_P (dC, dI) vwCl (tW_X0 ad pd cQ w (up2 S 1 0 x)) H1 → va_S A H0 H1 locs1 → W p l e R s m args below meth c H1 locs1 cells slots Q (F0 m (pc + 3) ls rest)) : W p l e R s m args below meth c H locs cells slots Q (F0 m pc ls (.int (zI x) :: .ref (ad 0) :: rest)) :=
  va_put (D := (dC, dI)) (ci := 0) (v := .int (zI x)) (ty := .int) (C := RX0) (T := TX0) (N := 3) hx hb hts hin tyX0 tyX0_ok nmX0 hown hK hP (hD S) hS 0 rfl rfl 1 (by decide) hlink (fun _ h9 => h9) rfl (by decide +kernel) (rfl) rfl (Nat.le_of_ble_eq_true rfl) hdg (fun H1 locs1 hP1 _ hS1 => kk H1 locs1 (ps_X0_1 x ▸ hP1) hS1)
theorem gx_X0_2 (hx : p.tables.exec = Jvm.exec) (hb : c.code = cc) (hts : ∀ w ∈ Ts, w.before args s = true) (hin : ∀ w ∈ wsX00, w ∈ Ts) (hown : s.vm.findClass RX0 = some m.cls) (hK : va_K (dC, dI) vwCl (zT cI cQ) s) (hP : va_P (dC, dI) vwCl (tW_X0 ad pd cQ w S) H) (hlink : (Cond.fieldLink RX0 index "TwinPlates$History" "size" "I").before args s = true) (hdg : decode cc pc = .ok (.getfield index, 3)) (kk : W p l e R s m args below meth c H locs cells slots Q (F0 m (pc + 3) ls (.int (zI (S 2 0)) :: rest))) : W p l e R s m args below meth c H locs cells slots Q (F0 m pc ls (.ref (ad 0) :: rest)) :=
  va_get (D := (dC, dI)) (ci := 0) (v := .int (zI (S 2 0))) (C := RX0) (T := TX0) (N := 3) hx hb hts hin hown hK hP 0 rfl rfl 2 (by decide) hlink (fun _ h9 => h9) rfl hdg kk
theorem ps_X0_2 (x : Int) : (tW_X0 ad pd cQ w S).set 0 (ad 0, .inr (0, (([.ref (ad 1), .int (zI (S 1 0)), .int (zI (S 2 0))] : List Value).set 2 (.int (zI x))))) = tW_X0 ad pd cQ w (up2 S 2 0 x) := rfl
theorem px_X0_2 (hx : p.tables.exec = Jvm.exec) (hb : c.code = cc) (hts : ∀ w ∈ Ts, w.before args s = true) (hin : ∀ w ∈ wsX00, w ∈ Ts) (hown : s.vm.findClass RX0 = some m.cls) (hK : va_K (dC, dI) vwCl (zT cI cQ) s) (hP : va_P (dC, dI) vwCl (tW_X0 ad pd cQ w S) H) (hD : ∀ S, va_D A (tW_X0 ad pd cQ w S)) (hS : va_S A H0 H locs) (hlink : (Cond.fieldLink RX0 index "TwinPlates$History" "size" "I").before args s = true) {x : Int} (hdg : decode cc pc = .ok (.putfield index, 3)) (kk : ∀ (H1 : Heap) (locs1 : List Loc), va_P (dC, dI) vwCl (tW_X0 ad pd cQ w (up2 S 2 0 x)) H1 → va_S A H0 H1 locs1 → W p l e R s m args below meth c H1 locs1 cells slots Q (F0 m (pc + 3) ls rest)) : W p l e R s m args below meth c H locs cells slots Q (F0 m pc ls (.int (zI x) :: .ref (ad 0) :: rest)) :=
  va_put (D := (dC, dI)) (ci := 0) (v := .int (zI x)) (ty := .int) (C := RX0) (T := TX0) (N := 3) hx hb hts hin tyX0 tyX0_ok nmX0 hown hK hP (hD S) hS 0 rfl rfl 2 (by decide) hlink (fun _ h9 => h9) rfl (by decide +kernel) (rfl) rfl (Nat.le_of_ble_eq_true rfl) hdg (fun H1 locs1 hP1 _ hS1 => kk H1 locs1 (ps_X0_2 x ▸ hP1) hS1)
end ZH
theorem z_D1 {A : Nat → Prop} {x : Nat × va_E} {w : va_W} (h : va_D A (x :: w)) : va_D (fun q => A q ∧ q ≠ x.1) w :=
  ⟨fun i j p q hi hj e => Nat.succ.inj (h.1 (i + 1) (j + 1) p q hi hj e), fun k q hk => ⟨h.2 (k + 1) q hk, fun e => absurd (h.1 (k + 1) 0 q x hk rfl e) (Nat.succ_ne_zero k)⟩⟩
theorem z_D2 {A : Nat → Prop} {x y : Nat × va_E} {w : va_W} (h : va_D A (x :: y :: w)) : va_D (fun q => (A q ∧ q ≠ x.1) ∧ q ≠ y.1) w := z_D1 (z_D1 h)

theorem z_Dre {A : Nat → Prop} {w w2 : va_W} (h : va_D A w) (e : w2.map (fun q => q.1) = w.map (fun q => q.1)) : va_D A w2 := by
  have key : ∀ (k : Nat) (q : Nat × va_E), w2[k]? = some q → ∃ q0, w[k]? = some q0 ∧ q0.1 = q.1 := by
    intro k q hk
    have e1 : (w.map (fun q => q.1))[k]? = some q.1 := by rw [← e, List.getElem?_map, hk]; rfl
    rw [List.getElem?_map] at e1
    cases hw : w[k]? with
    | none => rw [hw] at e1; cases e1
    | some q0 => rw [hw] at e1; exact ⟨q0, rfl, Option.some.inj e1⟩
  refine ⟨fun i j x y hi hj hxy => ?_, fun k q hk => ?_⟩
  · obtain ⟨x0, a1, a2⟩ := key i x hi
    obtain ⟨y0, a3, a4⟩ := key j y hj
    exact h.1 i j x0 y0 a1 a3 (a2.trans (hxy.trans a4.symm))
  · obtain ⟨q0, a1, a2⟩ := key k q hk
    rw [← a2]
    exact h.2 k q0 a1
theorem in_X0_size : ∀ w ∈ wsX00, w ∈ wsX0_size := fun w h => List.mem_cons_of_mem _ (List.mem_append_right _ h)
set_option maxHeartbeats 4000000 in
set_option maxRecDepth 100000 in
theorem k_X0_size (l : Launch) (dC : Nat → ClassId) (dI : Nat → Nat → Nat) (cI cQ : ClassId) (A : Nat → Prop) (ad : Nat → Nat) (pd : Nat → Nat → Nat) (w : va_W) (S : Nat → Int → Int) (hD : ∀ S, va_D A (tW_X0 ad pd cQ w S)) : Met l yX0_size wsX0_size ({ frames := 0, cells := 0, slots := 0, locals := 0 }) (zPc (dC, dI) vwCl (zT cI cQ) (tW_X0 ad pd cQ w S) [.ref (ad 0)]) (zQi (dC, dI) vwCl (tW_X0 ad pd cQ w S) (S 2 0) A) 0 0 A := by
  refine Met.ofW (cc := cX0_size) (maxL := 1) (ret := (some .int)) (by decide) rfl ?_
  intro p e s m args below meth c s₁ B hml hv
  obtain ⟨rfl, hP, hK⟩ := hv
  have hx := B.exec
  have hb := B.bytes
  have hr := B.returns
  have hts := atoms_spec (ws := wsX0_size) B.pre
  have hown : s.vm.findClass RX0 = some m.cls := findClass_of_methodNamed B.named
  have hlk := B.notSynchronized
  have hS : va_S A s.heap s.heap [] := va_S.rf
  have hl := lv_entry ([.ref (ad 0)]) (n := 1) (Nat.le_of_ble_eq_true rfl)
  rw [lg_entry_eq]
  generalize (lg_sl ([.ref (ad 0)]) ++ List.replicate (1 - (lg_sl ([.ref (ad 0)])).length) Slot.unset).toArray = ls at hl ⊢
  have hl : lv_has ls 1 [(0, .ref (ad 0))] := hl
  have hin : ∀ w ∈ wsX00, w ∈ wsX0_size := in_X0_size
  refine lv_aload_n hx hb dX0_size_0 rfl (lv_at hl 0 rfl) ?_
  refine gx_X0_2 hx hb hts hin hown hK hP (hts _ (List.mem_of_getElem? (i := 1) rfl)) dX0_size_1 ?_
  exact z_iret hx hb hr hlk hP hS dX0_size_4 rfl rfl
theorem in_X0_keepNoted : ∀ w ∈ wsX00, w ∈ wsX0_keepNoted := fun w h => List.mem_cons_of_mem _ (List.mem_append_right _ h)
set_option maxHeartbeats 4000000 in
set_option maxRecDepth 100000 in
theorem k_X0_keepNoted (l : Launch) (dC : Nat → ClassId) (dI : Nat → Nat → Nat) (cI cQ : ClassId) (A : Nat → Prop) (ad : Nat → Nat) (pd : Nat → Nat → Nat) (w : va_W) (S : Nat → Int → Int) (hD : ∀ S, va_D A (tW_X0 ad pd cQ w S)) (h1 : 0 ≤ S 1 0 ∧ S 1 0 < 6) (h2 : 0 ≤ S 2 0 ∧ S 2 0 ≤ 5) : Met l yX0_keepNoted wsX0_keepNoted ({ frames := 1, cells := 0, slots := 0, locals := 22 }) (zPc (dC, dI) vwCl (zT cI cQ) (tW_X0 ad pd cQ w S) [.ref (ad 0)]) (zQv (dC, dI) vwCl (tW_X0 ad pd cQ w (keepH S)) A) 0 0 A := by
  refine Met.ofW (cc := cX0_keepNoted) (maxL := 1) (ret := none) (by decide) rfl ?_
  intro p e s m args below meth c s₁ B hml hv
  obtain ⟨rfl, hP, hK⟩ := hv
  have hx := B.exec
  have hb := B.bytes
  have hr := B.returns
  have hts := atoms_spec (ws := wsX0_keepNoted) B.pre
  have hown : s.vm.findClass RX0 = some m.cls := findClass_of_methodNamed B.named
  have hlk := B.notSynchronized
  have hS : va_S A s.heap s.heap [] := va_S.rf
  have hl := lv_entry ([.ref (ad 0)]) (n := 1) (Nat.le_of_ble_eq_true rfl)
  rw [lg_entry_eq]
  generalize (lg_sl ([.ref (ad 0)]) ++ List.replicate (1 - (lg_sl ([.ref (ad 0)])).length) Slot.unset).toArray = ls at hl ⊢
  have hl : lv_has ls 1 [(0, .ref (ad 0))] := hl
  have hin : ∀ w ∈ wsX00, w ∈ wsX0_keepNoted := in_X0_keepNoted
  refine lv_aload_n hx hb dX0_keepNoted_0 rfl (lv_at hl 0 rfl) ?_
  refine gx_X0_2 hx hb hts hin hown hK hP (hts _ (List.mem_of_getElem? (i := 1) rfl)) dX0_keepNoted_1 ?_
  refine z_iconst hx hb dX0_keepNoted_4 ?_
  refine z_icmp_ge (tgt := 21) hx hb dX0_keepNoted_5 (by decide) (by omega) (by omega) (fun c1 => ?_) (fun c1 => ?_)
  · refine lv_aload_n hx hb dX0_keepNoted_21 rfl (lv_at hl 0 rfl) ?_
    refine lv_aload_n hx hb dX0_keepNoted_22 rfl (lv_at hl 0 rfl) ?_
    refine gx_X0_1 hx hb hts hin hown hK hP (hts _ (List.mem_of_getElem? (i := 2) rfl)) dX0_keepNoted_23 ?_
    refine z_iconst hx hb dX0_keepNoted_26 ?_
    refine z_iadd hx hb dX0_keepNoted_27 ?_
    refine z_top (y := S 1 0 + 1) (by omega) ?_
    refine z_bipush (z := 6) hx hb dX0_keepNoted_28 (by decide +kernel) ?_
    refine z_calli (va_runS (As := [.int (zI (S 1 0 + 1)), .int (zI 6)]) (rest := [.ref (ad 0)]) ⟨hx, hb, hml, hown, hts⟩ (k_J9_floorMod_7cf53 l dC dI cI cQ A (tW_X0 ad pd cQ w S) (S 1 0 + 1) 6 (by omega) (by omega)) (va_cwS 2 hts gX0_keepNoted_J9_floorMod_7cf53 rfl rfl rfl (by decide +kernel) ⟨Nat.le_of_ble_eq_true rfl, Nat.le_of_ble_eq_true rfl⟩) (z_preS hK hP) rfl rfl hl.1 rfl (lv_room (Nat.le_of_ble_eq_true rfl)) dX0_keepNoted_30 ⟨Nat.zero_le _, Nat.zero_le _⟩) hS (fun _ h => h) (fun H locs hP hS _ _ => ?_)
    refine px_X0_1 hx hb hts hin hown hK hP hD hS (hts _ (List.mem_of_getElem? (i := 2) rfl)) dX0_keepNoted_33 (fun H locs hP hS => ?_)
    exact z_vret hx hb hr hlk hP hS dX0_keepNoted_36 (congrArg (tW_X0 ad pd cQ w) (by unfold keepH; first | rw [if_pos (by omega)] | rw [if_neg (by omega)]))
  · refine lv_aload_n hx hb dX0_keepNoted_8 rfl (lv_at hl 0 rfl) ?_
    refine lv_dup hx hb dX0_keepNoted_9 rfl ?_
    refine gx_X0_2 hx hb hts hin hown hK hP (hts _ (List.mem_of_getElem? (i := 1) rfl)) dX0_keepNoted_10 ?_
    refine z_iconst hx hb dX0_keepNoted_13 ?_
    refine z_iadd hx hb dX0_keepNoted_14 ?_
    refine z_top (y := S 2 0 + 1) (by omega) ?_
    refine px_X0_2 hx hb hts hin hown hK hP hD hS (hts _ (List.mem_of_getElem? (i := 1) rfl)) dX0_keepNoted_15 (fun H locs hP hS => ?_)
    refine lv_goto (tgt := 36) hx hb dX0_keepNoted_18 (by decide) ?_
    exact z_vret hx hb hr hlk hP hS dX0_keepNoted_36 (congrArg (tW_X0 ad pd cQ w) (by unfold keepH; first | rw [if_pos (by omega)] | rw [if_neg (by omega)]))
theorem in_X0_dropLatest : ∀ w ∈ wsX00, w ∈ wsX0_dropLatest := fun w h => List.mem_cons_of_mem _ (List.mem_append_right _ h)
set_option maxHeartbeats 4000000 in
set_option maxRecDepth 100000 in
theorem k_X0_dropLatest (l : Launch) (dC : Nat → ClassId) (dI : Nat → Nat → Nat) (cI cQ : ClassId) (A : Nat → Prop) (ad : Nat → Nat) (pd : Nat → Nat → Nat) (w : va_W) (S : Nat → Int → Int) (hD : ∀ S, va_D A (tW_X0 ad pd cQ w S)) (h1 : 0 ≤ S 1 0 ∧ S 1 0 < 6) (h2 : 0 ≤ S 2 0 ∧ S 2 0 ≤ 5) : Met l yX0_dropLatest wsX0_dropLatest ({ frames := 0, cells := 0, slots := 0, locals := 0 }) (zPc (dC, dI) vwCl (zT cI cQ) (tW_X0 ad pd cQ w S) [.ref (ad 0)]) (zQv (dC, dI) vwCl (tW_X0 ad pd cQ w (dropH S)) A) 0 0 A := by
  refine Met.ofW (cc := cX0_dropLatest) (maxL := 1) (ret := none) (by decide) rfl ?_
  intro p e s m args below meth c s₁ B hml hv
  obtain ⟨rfl, hP, hK⟩ := hv
  have hx := B.exec
  have hb := B.bytes
  have hr := B.returns
  have hts := atoms_spec (ws := wsX0_dropLatest) B.pre
  have hown : s.vm.findClass RX0 = some m.cls := findClass_of_methodNamed B.named
  have hlk := B.notSynchronized
  have hS : va_S A s.heap s.heap [] := va_S.rf
  have hl := lv_entry ([.ref (ad 0)]) (n := 1) (Nat.le_of_ble_eq_true rfl)
  rw [lg_entry_eq]
  generalize (lg_sl ([.ref (ad 0)]) ++ List.replicate (1 - (lg_sl ([.ref (ad 0)])).length) Slot.unset).toArray = ls at hl ⊢
  have hl : lv_has ls 1 [(0, .ref (ad 0))] := hl
  have hin : ∀ w ∈ wsX00, w ∈ wsX0_dropLatest := in_X0_dropLatest
  refine lv_aload_n hx hb dX0_dropLatest_0 rfl (lv_at hl 0 rfl) ?_
  refine gx_X0_2 hx hb hts hin hown hK hP (hts _ (List.mem_of_getElem? (i := 1) rfl)) dX0_dropLatest_1 ?_
  refine z_if_le (tgt := 17) hx hb dX0_dropLatest_4 (by decide) (by omega) (fun c1 => ?_) (fun c1 => ?_)
  · exact z_vret hx hb hr hlk hP hS dX0_dropLatest_17 (congrArg (tW_X0 ad pd cQ w) (by unfold dropH; first | rw [if_pos (by omega)] | rw [if_neg (by omega)]))
  · refine lv_aload_n hx hb dX0_dropLatest_7 rfl (lv_at hl 0 rfl) ?_
    refine lv_dup hx hb dX0_dropLatest_8 rfl ?_
    refine gx_X0_2 hx hb hts hin hown hK hP (hts _ (List.mem_of_getElem? (i := 1) rfl)) dX0_dropLatest_9 ?_
    refine z_iconst hx hb dX0_dropLatest_12 ?_
    refine z_isub hx hb dX0_dropLatest_13 ?_
    refine z_top (y := S 2 0 - 1) (by omega) ?_
    refine px_X0_2 hx hb hts hin hown hK hP hD hS (hts _ (List.mem_of_getElem? (i := 1) rfl)) dX0_dropLatest_14 (fun H locs hP hS => ?_)
    exact z_vret hx hb hr hlk hP hS dX0_dropLatest_17 (congrArg (tW_X0 ad pd cQ w) (by unfold dropH; first | rw [if_pos (by omega)] | rw [if_neg (by omega)]))
theorem in_X0_noted : ∀ w ∈ wsX00, w ∈ wsX0_noted := fun w h => List.mem_cons_of_mem _ (List.mem_append_right _ h)
set_option maxHeartbeats 4000000 in
set_option maxRecDepth 100000 in
theorem k_X0_noted (l : Launch) (dC : Nat → ClassId) (dI : Nat → Nat → Nat) (cI cQ : ClassId) (A : Nat → Prop) (ad : Nat → Nat) (pd : Nat → Nat → Nat) (w : va_W) (S : Nat → Int → Int) (hD : ∀ S, va_D A (tW_X0 ad pd cQ w S)) (h1 : 0 ≤ S 1 0 ∧ S 1 0 < 6) (h2 : 0 ≤ S 2 0 ∧ S 2 0 ≤ 5) : Met l yX0_noted wsX0_noted ({ frames := 1, cells := 0, slots := 0, locals := 22 }) (zPc (dC, dI) vwCl (zT cI cQ) (tW_X0 ad pd cQ w S) [.ref (ad 0)]) (zQr (dC, dI) vwCl (tW_X0 ad pd cQ w S) (pd ((S 1 0 + S 2 0) % 6).toNat 0) A) 0 0 A := by
  refine Met.ofW (cc := cX0_noted) (maxL := 1) (ret := (some (.object "TwinPlates$Plates"))) (by decide) rfl ?_
  intro p e s m args below meth c s₁ B hml hv
  obtain ⟨rfl, hP, hK⟩ := hv
  have hx := B.exec
  have hb := B.bytes
  have hr := B.returns
  have hts := atoms_spec (ws := wsX0_noted) B.pre
  have hown : s.vm.findClass RX0 = some m.cls := findClass_of_methodNamed B.named
  have hlk := B.notSynchronized
  have hS : va_S A s.heap s.heap [] := va_S.rf
  have hl := lv_entry ([.ref (ad 0)]) (n := 1) (Nat.le_of_ble_eq_true rfl)
  rw [lg_entry_eq]
  generalize (lg_sl ([.ref (ad 0)]) ++ List.replicate (1 - (lg_sl ([.ref (ad 0)])).length) Slot.unset).toArray = ls at hl ⊢
  have hl : lv_has ls 1 [(0, .ref (ad 0))] := hl
  have hin : ∀ w ∈ wsX00, w ∈ wsX0_noted := in_X0_noted
  refine lv_aload_n hx hb dX0_noted_0 rfl (lv_at hl 0 rfl) ?_
  refine gx_X0_0 hx hb hts hin hown hK hP (hts _ (List.mem_of_getElem? (i := 1) rfl)) dX0_noted_1 ?_
  refine lv_aload_n hx hb dX0_noted_4 rfl (lv_at hl 0 rfl) ?_
  refine gx_X0_1 hx hb hts hin hown hK hP (hts _ (List.mem_of_getElem? (i := 2) rfl)) dX0_noted_5 ?_
  refine lv_aload_n hx hb dX0_noted_8 rfl (lv_at hl 0 rfl) ?_
  refine gx_X0_2 hx hb hts hin hown hK hP (hts _ (List.mem_of_getElem? (i := 3) rfl)) dX0_noted_9 ?_
  refine z_iadd hx hb dX0_noted_12 ?_
  refine z_top (y := S 1 0 + S 2 0) (by omega) ?_
  refine z_bipush (z := 6) hx hb dX0_noted_13 (by decide +kernel) ?_
  refine z_calli (va_runS (As := [.int (zI (S 1 0 + S 2 0)), .int (zI 6)]) (rest := [.ref (ad 1)]) ⟨hx, hb, hml, hown, hts⟩ (k_J9_floorMod_7cf53 l dC dI cI cQ A (tW_X0 ad pd cQ w S) (S 1 0 + S 2 0) 6 (by omega) (by omega)) (va_cwS 2 hts gX0_noted_J9_floorMod_7cf53 rfl rfl rfl (by decide +kernel) ⟨Nat.le_of_ble_eq_true rfl, Nat.le_of_ble_eq_true rfl⟩) (z_preS hK hP) rfl rfl hl.1 rfl (lv_room (Nat.le_of_ble_eq_true rfl)) dX0_noted_15 ⟨Nat.zero_le _, Nat.zero_le _⟩) hS (fun _ h => h) (fun H locs hP hS _ _ => ?_)
  refine z_aald_X0 hx hb hK hP (by omega) dX0_noted_18 ?_
  exact z_aret hx hb hr hlk hP hS dX0_noted_19 rfl rfl
set_option maxHeartbeats 4000000 in
set_option maxRecDepth 100000 in
theorem k_X0_note (l : Launch) (dC : Nat → ClassId) (dI : Nat → Nat → Nat) (cI cQ : ClassId) (A : Nat → Prop) (ad : Nat → Nat) (pd : Nat → Nat → Nat) (ad2 : Nat → Nat) (S U S2 : Nat → Int → Int) (hD : ∀ U S2 : Nat → Int → Int, va_D A (tW_X0 ad pd cQ (tW_B (pd ((S 1 0 + S 2 0) % 6).toNat) ad2 cI U S2) S)) (h1 : 0 ≤ S 1 0 ∧ S 1 0 < 6) (h2 : 0 ≤ S 2 0 ∧ S 2 0 ≤ 5) : Met l yX0_note wsX0_note ({ frames := 2, cells := 0, slots := 0, locals := 100 }) (zPc (dC, dI) vwCl (zT cI cQ) (tW_X0 ad pd cQ (tW_B (pd ((S 1 0 + S 2 0) % 6).toNat) ad2 cI U S2) S) [.ref (ad 0), .ref (ad2 0)]) (zQv (dC, dI) vwCl (tW_X0 ad pd cQ (tW_B (pd ((S 1 0 + S 2 0) % 6).toNat) ad2 cI S2 S2) S) A) 0 0 A := by
  refine Met.ofW (cc := cX0_note) (maxL := 2) (ret := none) (by decide) rfl ?_
  intro p e s m args below meth c s₁ B hml hv
  obtain ⟨rfl, hP, hK⟩ := hv
  have hx := B.exec
  have hb := B.bytes
  have hr := B.returns
  have hts := atoms_spec (ws := wsX0_note) B.pre
  have hown : s.vm.findClass RX0 = some m.cls := findClass_of_methodNamed B.named
  have hlk := B.notSynchronized
  have hS : va_S A s.heap s.heap [] := va_S.rf
  have hl := lv_entry ([.ref (ad 0), .ref (ad2 0)]) (n := 2) (Nat.le_of_ble_eq_true rfl)
  rw [lg_entry_eq]
  generalize (lg_sl ([.ref (ad 0), .ref (ad2 0)]) ++ List.replicate (2 - (lg_sl ([.ref (ad 0), .ref (ad2 0)])).length) Slot.unset).toArray = ls at hl ⊢
  have hl : lv_has ls 2 [(0, .ref (ad 0)), (1, .ref (ad2 0))] := hl
  have hD0 : ∀ S9, va_D A (tW_X0 ad pd cQ (tW_B (pd ((S 1 0 + S 2 0) % 6).toNat) ad2 cI U S2) S9) := fun S9 => z_Dre (hD U S2) (by rfl)
  refine lv_aload_n hx hb dX0_note_0 rfl (lv_at hl 0 rfl) ?_
  refine z_callr (va_runV (As := []) (rest := []) ⟨hx, hb, hml, hown, hts⟩ (k_X0_noted l dC dI cI cQ A ad pd (tW_B (pd ((S 1 0 + S 2 0) % 6).toNat) ad2 cI U S2) S (hD0) h1 h2) (cwV 0 hts gX0_note_X0_noted rfl rfl rfl (by decide +kernel) ⟨Nat.le_of_ble_eq_true rfl, Nat.le_of_ble_eq_true rfl⟩) (z_preV hK hP (ci := 0) (q0 := 0) rfl rfl rfl) rfl rfl hl.1 rfl (lv_room (Nat.le_of_ble_eq_true rfl)) dX0_note_1 ⟨Nat.zero_le _, Nat.zero_le _⟩) hS (fun _ h => h) (fun H locs hP hS _ _ => ?_)
  refine lv_aload_n hx hb dX0_note_4 rfl (lv_at hl 1 rfl) ?_
  have hP2 : va_P (dC, dI) vwCl (tW_B (pd ((S 1 0 + S 2 0) % 6).toNat) ad2 cI U S2) H := z_appR (w1 := [(ad 0, .inr (0, [.ref (ad 1), .int (zI (S 1 0)), .int (zI (S 2 0))])), (ad 1, .inl (cQ, 6, .inr (.inr (.inr (.inr (fun j : Nat => some (pd j 0)))))))]) hP
  have hP3 : va_P (dC, dI) vwCl (tW_X0 ad pd cQ [] S) H := z_appL (w2 := tW_B (pd ((S 1 0 + S 2 0) % 6).toNat) ad2 cI U S2) hP
  refine z_callv (va_runV (As := [.ref (ad2 0)]) (rest := []) ⟨hx, hb, hml, hown, hts⟩ (k_X1_become l dC dI cI cQ (fun q => (A q ∧ q ≠ ad 0) ∧ q ≠ ad 1) (pd ((S 1 0 + S 2 0) % 6).toNat) ad2 U S2 (fun x1 x2 => z_D2 (hD x1 x2))) (cwV 1 hts gX0_note_X1_become rfl rfl rfl (by decide +kernel) ⟨Nat.le_of_ble_eq_true rfl, Nat.le_of_ble_eq_true rfl⟩) (z_preV hK hP2 (ci := 1) (q0 := 0) rfl rfl rfl) rfl rfl hl.1 rfl (lv_room (Nat.le_of_ble_eq_true rfl)) dX0_note_5 ⟨Nat.zero_le _, Nat.zero_le _⟩) hS (fun _ h => h.1.1) (fun H locs hP hS _ hk => ?_)
  have hP4 : va_P (dC, dI) vwCl (tW_X0 ad pd cQ [] S) H := z_kept hP3 hk (fun k q hq => by rcases k with _ | _ | k <;> first | (cases hq; exact fun z => z.1.2 rfl) | (cases hq; exact fun z => z.2 rfl) | (cases hq))
  exact z_vret hx hb hr hlk (va_P.app hP4 hP) hS dX0_note_8 rfl
set_option maxHeartbeats 4000000 in
set_option maxRecDepth 100000 in
theorem k_X0_restoreNoted (l : Launch) (dC : Nat → ClassId) (dI : Nat → Nat → Nat) (cI cQ : ClassId) (A : Nat → Prop) (ad : Nat → Nat) (pd : Nat → Nat → Nat) (ad2 : Nat → Nat) (S U S2 : Nat → Int → Int) (hD : ∀ U S2 : Nat → Int → Int, va_D A (tW_X0 ad pd cQ (tW_B ad2 (pd ((S 1 0 + S 2 0) % 6).toNat) cI S2 U) S)) (h1 : 0 ≤ S 1 0 ∧ S 1 0 < 6) (h2 : 0 ≤ S 2 0 ∧ S 2 0 ≤ 5) : Met l yX0_restoreNoted wsX0_restoreNoted ({ frames := 2, cells := 0, slots := 0, locals := 100 }) (zPc (dC, dI) vwCl (zT cI cQ) (tW_X0 ad pd cQ (tW_B ad2 (pd ((S 1 0 + S 2 0) % 6).toNat) cI S2 U) S) [.ref (ad 0), .ref (ad2 0)]) (zQv (dC, dI) vwCl (tW_X0 ad pd cQ (tW_B ad2 (pd ((S 1 0 + S 2 0) % 6).toNat) cI U U) S) A) 0 0 A := by
  refine Met.ofW (cc := cX0_restoreNoted) (maxL := 2) (ret := none) (by decide) rfl ?_
  intro p e s m args below meth c s₁ B hml hv
  obtain ⟨rfl, hP, hK⟩ := hv
  have hx := B.exec
  have hb := B.bytes
  have hr := B.returns
  have hts := atoms_spec (ws := wsX0_restoreNoted) B.pre
  have hown : s.vm.findClass RX0 = some m.cls := findClass_of_methodNamed B.named
  have hlk := B.notSynchronized
  have hS : va_S A s.heap s.heap [] := va_S.rf
  have hl := lv_entry ([.ref (ad 0), .ref (ad2 0)]) (n := 2) (Nat.le_of_ble_eq_true rfl)
  rw [lg_entry_eq]
  generalize (lg_sl ([.ref (ad 0), .ref (ad2 0)]) ++ List.replicate (2 - (lg_sl ([.ref (ad 0), .ref (ad2 0)])).length) Slot.unset).toArray = ls at hl ⊢
  have hl : lv_has ls 2 [(0, .ref (ad 0)), (1, .ref (ad2 0))] := hl
  have hD0 : ∀ S9, va_D A (tW_X0 ad pd cQ (tW_B ad2 (pd ((S 1 0 + S 2 0) % 6).toNat) cI S2 U) S9) := fun S9 => z_Dre (hD U S2) (by rfl)
  refine lv_aload_n hx hb dX0_restoreNoted_0 rfl (lv_at hl 1 rfl) ?_
  refine lv_aload_n hx hb dX0_restoreNoted_1 rfl (lv_at hl 0 rfl) ?_
  refine z_callr (va_runV (As := []) (rest := [.ref (ad2 0)]) ⟨hx, hb, hml, hown, hts⟩ (k_X0_noted l dC dI cI cQ A ad pd (tW_B ad2 (pd ((S 1 0 + S 2 0) % 6).toNat) cI S2 U) S (hD0) h1 h2) (cwV 0 hts gX0_restoreNoted_X0_noted rfl rfl rfl (by decide +kernel) ⟨Nat.le_of_ble_eq_true rfl, Nat.le_of_ble_eq_true rfl⟩) (z_preV hK hP (ci := 0) (q0 := 0) rfl rfl rfl) rfl rfl hl.1 rfl (lv_room (Nat.le_of_ble_eq_true rfl)) dX0_restoreNoted_2 ⟨Nat.zero_le _, Nat.zero_le _⟩) hS (fun _ h => h) (fun H locs hP hS _ _ => ?_)
  have hP2 : va_P (dC, dI) vwCl (tW_B ad2 (pd ((S 1 0 + S 2 0) % 6).toNat) cI S2 U) H := z_appR (w1 := [(ad 0, .inr (0, [.ref (ad 1), .int (zI (S 1 0)), .int (zI (S 2 0))])), (ad 1, .inl (cQ, 6, .inr (.inr (.inr (.inr (fun j : Nat => some (pd j 0)))))))]) hP
  have hP3 : va_P (dC, dI) vwCl (tW_X0 ad pd cQ [] S) H := z_appL (w2 := tW_B ad2 (pd ((S 1 0 + S 2 0) % 6).toNat) cI S2 U) hP
  refine z_callv (va_runV (As := [.ref ((pd ((S 1 0 + S 2 0) % 6).toNat) 0)]) (rest := []) ⟨hx, hb, hml, hown, hts⟩ (k_X1_become l dC dI cI cQ (fun q => (A q ∧ q ≠ ad 0) ∧ q ≠ ad 1) ad2 (pd ((S 1 0 + S 2 0) % 6).toNat) S2 U (fun x1 x2 => z_D2 (hD x2 x1))) (cwV 1 hts gX0_restoreNoted_X1_become rfl rfl rfl (by decide +kernel) ⟨Nat.le_of_ble_eq_true rfl, Nat.le_of_ble_eq_true rfl⟩) (z_preV hK hP2 (ci := 1) (q0 := 0) rfl rfl rfl) rfl rfl hl.1 rfl (lv_room (Nat.le_of_ble_eq_true rfl)) dX0_restoreNoted_5 ⟨Nat.zero_le _, Nat.zero_le _⟩) hS (fun _ h => h.1.1) (fun H locs hP hS _ hk => ?_)
  have hP4 : va_P (dC, dI) vwCl (tW_X0 ad pd cQ [] S) H := z_kept hP3 hk (fun k q hq => by rcases k with _ | _ | k <;> first | (cases hq; exact fun z => z.1.2 rfl) | (cases hq; exact fun z => z.2 rfl) | (cases hq))
  exact z_vret hx hb hr hlk (va_P.app hP4 hP) hS dX0_restoreNoted_8 rfl
