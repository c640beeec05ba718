/-! Math.floorMod -/
theorem zI_iremT {a b : Int} (ha : -2147483648 ≤ a ∧ a < 2147483648) (hb : 0 < b ∧ b < 2147483648) : zI a - zI a / zI b * zI b = zI (a.tmod b) := by
  have e1 : (zI a).toInt = a := zI_toInt ha
  have e2 : (zI b).toInt = b := zI_toInt ⟨by omega, hb.2⟩
  have h : (zI a / zI b).toInt = a.tdiv b := by
    rw [Int32.toInt_div_of_ne_right _ _ (by
      intro q
      have q2 := congrArg Int32.toInt q
      rw [e2] at q2
      have q3 : ((-1 : Int32)).toInt = -1 := by decide +kernel
      omega), e1, e2]
  rw [← zI_self (zI a / zI b), h, zI_mul, zI_sub, Int.tmod_def, Int.mul_comm]
theorem zx_neg (x : Int32) : x < 0 ↔ x.toBitVec.msb = true := by
  rw [Int32.lt_iff_toInt_lt, BitVec.msb_eq_toInt, Int32.toInt_zero]
  show x.toBitVec.toInt < 0 ↔ _
  simp
theorem zx_xor {a b : Int} (ha : -2147483648 ≤ a ∧ a < 2147483648) (hb : 0 < b ∧ b < 2147483648) : (zI a ^^^ zI b < 0) ↔ a < 0 := by
  have h1 := zx_neg (zI a)
  have h2 := zx_neg (zI b)
  have h3 := zx_neg (zI a ^^^ zI b)
  rw [Int32.toBitVec_xor, BitVec.msb_xor] at h3
  have n0 : ¬ zI b < 0 := zI_nneg (by omega) hb.2
  have e0 : (zI b).toBitVec.msb = false := by
    cases hq : (zI b).toBitVec.msb with
    | false => rfl
    | true => exact absurd (h2.mpr hq) n0
  rw [e0, Bool.xor_false] at h3
  rw [h3, ← h1, ← zI_0, zI_lt ha (by omega)]
theorem fm_neg {x y : Int} (hx : x < 0) (hy : 0 < y) : (x.tmod y = 0 → x % y = 0) ∧ (x.tmod y ≠ 0 → x.tmod y + y = x % y) := by
  have e := Int.tmod_eq_emod (a := x) (b := y)
  have hn : ((y.natAbs : Nat) : Int) = y := by omega
  by_cases hd : y ∣ x
  · have e0 := Int.emod_eq_zero_of_dvd hd
    rw [if_pos (Or.inr hd), e0] at e
    exact ⟨fun _ => e0, fun h => absurd (by omega) h⟩
  · rw [if_neg (by rintro (q | q); omega; exact hd q)] at e
    have h1 := Int.emod_lt_of_pos x hy
    exact ⟨fun h => by omega, fun h => by omega⟩
section ZFM
variable {p : Program} {l : Launch} {e : Env} {R : Room} {s : State} {m : MethodId} {args : Array Value} {below : List Frame} {meth : Method} {c : Code} {H : Heap} {locs : List Loc} {cells slots : Nat} {Q : State → Prop}
variable {cc : ByteArray} {pc : Nat} {ls : Array Slot} {rest : List Value}
theorem z_iremT (hx : p.tables.exec = Jvm.exec) (hb : c.code = cc) {x y : Int} (hdg : decode cc pc = .ok (.irem, 1)) (ha : -2147483648 ≤ x ∧ x < 2147483648) (hbb : 0 < y ∧ y < 2147483648) (k : W p l e R s m args below meth c H locs cells slots Q (F0 m (pc + 1) ls (.int (zI (x.tmod y)) :: rest))) : W p l e R s m args below meth c H locs cells slots Q (F0 m pc ls (.int (zI y) :: .int (zI x) :: rest)) := lv_irem hx hb hdg (zI_ne0 (by omega) (by omega)) (by rw [zI_iremT ha hbb]; exact k)
theorem z_ifx_ge (hx : p.tables.exec = Jvm.exec) (hb : c.code = cc) {x y : Int} {off : Int} {tgt : Nat} (hdg : decode cc pc = .ok (.ifCond .ge off, 3)) (ht : (pc : Int) + off = (tgt : Int)) (ha : -2147483648 ≤ x ∧ x < 2147483648) (hbb : 0 < y ∧ y < 2147483648) (kt : 0 ≤ x → W p l e R s m args below meth c H locs cells slots Q (F0 m tgt ls rest)) (kf : ¬ 0 ≤ x → W p l e R s m args below meth c H locs cells slots Q (F0 m (pc + 3) ls rest)) : W p l e R s m args below meth c H locs cells slots Q (F0 m pc ls (.int (zI x ^^^ zI y) :: rest)) :=
  lv_if_ge hx hb hdg ht (fun h => kt (by have h2 : ¬ x < 0 := fun q => (Int32.not_lt.mpr h) ((zx_xor ha hbb).mpr q); omega)) (fun h => kf (by have := (zx_xor ha hbb).mp (Int32.not_le.mp h); omega))
end ZFM
/-- as Met.ofW, for a method of a class some of whose methods an entry may run -/
theorem met_ofWF {l : Launch} {y : MethodName} {ws ws' : List Cond} {rm : Room} {Pc : Array Value → State → Prop} {Qc : Array Value → State → Outcome → State → Prop} {mc ms : Nat} {free : Addr → Prop} {cc : ByteArray} {maxL : Nat} {ret : Option FieldType}
    (hy : plainFor y = true) (hw : ws = Cond.code y cc maxL ret :: ws')
    (body : ∀ p e s m args below meth c s₁, BodyLoose p l y (headSpec ws rm) cc maxL ret e s m args below meth c s₁ → c.maxLocals = maxL → Pc args s →
      W p l e (headSpec ws rm).room s m args below meth c s.heap [] 0 0 (MQ below Qc args s mc ms free) (entryFrame m args maxL)) : Met l y ws rm Pc Qc mc ms free := by
  refine MetFree.of_bodySF (code := cc) (maxLocals := maxL) (ret := ret) hy ?_ ?_
  · intro args s m h hn
    obtain ⟨meth, c, h1, h2, h3, h4, h5, h6, -, -⟩ := Cond.code_spec hn (atoms_spec (ws := ws) h _ (by rw [hw]; exact List.mem_cons_self))
    exact ⟨meth, c, h1, h2, h3, h4, h5, h6⟩
  · intro p e s m args below meth c s₁ B hml hP _
    have hh0 : s₁.heap = s.heap := by rw [B.state]; rfl
    obtain ⟨t, a1, o, b1, b2, b3⟩ := body p e s m args below meth c s₁ B hml hP s₁ hh0 (Stand.of_body B)
    exact ⟨t, o, a1, b1, b2, ⟨b3.1, b3.2⟩⟩

set_option maxHeartbeats 4000000 in
set_option maxRecDepth 100000 in
theorem k_J9_floorMod_7cf53 (l : Launch) (dC : Nat → ClassId) (dI : Nat → Nat → Nat) (cI cQ : ClassId) (A : Nat → Prop) (ws : va_W) (x y : Int) (h0 : -2147483648 ≤ x ∧ x < 2147483648) (h1 : 0 < y ∧ y < 2147483648) : Met l yJ9_floorMod_7cf53 wsJ9_floorMod_7cf53 ({ frames := 0, cells := 0, slots := 0, locals := 0 }) (zPc (dC, dI) vwCl (zT cI cQ) ws [.int (zI x), .int (zI y)]) (zQi (dC, dI) vwCl ws (x % y) A) 0 0 A := by
  refine met_ofWF (cc := cJ9_floorMod_7cf53) (maxL := 3) (ret := (some .int)) (by decide +kernel) rfl ?_
  intro p e s m args below meth c s₁ B hml hv
  obtain ⟨rfl, hP, hK⟩ := hv
  have hx := B.exec
  have hb := B.bytes
  have hr := B.returns
  have hts := atoms_spec (ws := wsJ9_floorMod_7cf53) B.pre
  have hown : s.vm.findClass RJ9 = some m.cls := findClass_of_methodNamed B.named
  have hlk := B.notSynchronized
  have hS : va_S A s.heap s.heap [] := va_S.rf
  have hl := lv_entry ([.int (zI x), .int (zI y)]) (n := 3) (Nat.le_of_ble_eq_true rfl)
  rw [lg_entry_eq]
  generalize (lg_sl ([.int (zI x), .int (zI y)]) ++ List.replicate (3 - (lg_sl ([.int (zI x), .int (zI y)])).length) Slot.unset).toArray = ls at hl ⊢
  have hl : lv_has ls 3 [(0, .int (zI x)), (1, .int (zI y))] := hl
  have hmr := Int.tmod_lt_of_pos x h1.1
  have hml2 : -y < x.tmod y := Int.lt_tmod_of_pos x h1.1
  have hfn : x < 0 → (x.tmod y = 0 → x % y = 0) ∧ (x.tmod y ≠ 0 → x.tmod y + y = x % y) := fun h => fm_neg h h1.1
  have hfp : 0 ≤ x → x.tmod y = x % y := fun h => Int.tmod_eq_emod_of_nonneg h
  refine lv_iload_n hx hb dJ9_floorMod_7cf53_0 rfl (lv_at hl 0 rfl) ?_
  refine lv_iload_n hx hb dJ9_floorMod_7cf53_1 rfl (lv_at hl 1 rfl) ?_
  refine z_iremT hx hb dJ9_floorMod_7cf53_2 (by omega) (by omega) ?_
  refine lv_istore_n (lv' := [(2, .int (zI (x.tmod y))), (0, .int (zI x)), (1, .int (zI y))]) hx hb dJ9_floorMod_7cf53_3 rfl hl (by decide) rfl (fun ls hl => ?_)
  refine lv_iload_n hx hb dJ9_floorMod_7cf53_4 rfl (lv_at hl 1 rfl) ?_
  refine lv_iload_n hx hb dJ9_floorMod_7cf53_5 rfl (lv_at hl 2 rfl) ?_
  refine lv_ixor hx hb dJ9_floorMod_7cf53_6 ?_
  refine z_ifx_ge (tgt := 18) hx hb dJ9_floorMod_7cf53_7 (by decide) (by omega) (by omega) (fun c1 => ?_) (fun c1 => ?_)
  · refine lv_iload_n hx hb dJ9_floorMod_7cf53_18 rfl (lv_at hl 0 rfl) ?_
    exact z_iret hx hb hr hlk hP hS dJ9_floorMod_7cf53_19 (by first | exact hfp (by omega) | exact (hfn (by omega)).2 (by omega) | (rw [(hfn (by omega)).1 (by omega)]; omega)) rfl
  · refine lv_iload_n hx hb dJ9_floorMod_7cf53_10 rfl (lv_at hl 0 rfl) ?_
    refine z_if_eq (tgt := 18) hx hb dJ9_floorMod_7cf53_11 (by decide) (by omega) (fun c2 => ?_) (fun c2 => ?_)
    · refine lv_iload_n hx hb dJ9_floorMod_7cf53_18 rfl (lv_at hl 0 rfl) ?_
      exact z_iret hx hb hr hlk hP hS dJ9_floorMod_7cf53_19 (by first | exact hfp (by omega) | exact (hfn (by omega)).2 (by omega) | (rw [(hfn (by omega)).1 (by omega)]; omega)) rfl
    · refine lv_iload_n hx hb dJ9_floorMod_7cf53_14 rfl (lv_at hl 0 rfl) ?_
      refine lv_iload_n hx hb dJ9_floorMod_7cf53_15 rfl (lv_at hl 2 rfl) ?_
      refine z_iadd hx hb dJ9_floorMod_7cf53_16 ?_
      exact z_iret hx hb hr hlk hP hS dJ9_floorMod_7cf53_17 (by first | exact hfp (by omega) | exact (hfn (by omega)).2 (by omega) | (rw [(hfn (by omega)).1 (by omega)]; omega)) rfl
