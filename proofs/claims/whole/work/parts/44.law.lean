/-! the law: the reference's region beside the object's -/
theorem rng_X4 {b k : Nat} {cI : ClassId} {S : Nat → Int → Int} {q : Nat × va_E} (h : (tW_X4 (fun j => b + j) cI S)[k]? = some q) : rg b (b + 8) q.1 ∧ q.1 = b + k := by
  rcases k with _ | _ | _ | _ | _ | _ | _ | _ | k <;> first | (cases h; exact ⟨⟨by show b ≤ b + _; omega, by show b + _ < b + 8; omega⟩, rfl⟩) | (cases h)
theorem D_X4 (b : Nat) (cI : ClassId) (S : Nat → Int → Int) : va_D (rg b (b + 8)) (tW_X4 (fun j => b + j) cI S) :=
  ⟨fun i j p q hi hj e => by have a1 := (rng_X4 hi).2; have a2 := (rng_X4 hj).2; omega, fun k q hk => (rng_X4 hk).1⟩
theorem D_rg {a b a' b' : Nat} {w : va_W} (h : va_D (rg a b) w) (h1 : a' ≤ a) (h2 : b ≤ b') : va_D (rg a' b') w := D_wk h (fun q z => rg_sub z h1 h2)
theorem D_3s (o : Nat) (cI : ClassId) (U : Nat → Nat → Int → Int) : va_D (rg (o + 15) (o + 51)) (W3s o cI U) :=
  D_ap2 (D_rg (a' := o + 15) (b' := o + 21) (D_X1 (o + 15 + 6 * 0) cI (U 0)) (by omega) (by omega)) (D_ap2 (D_rg (a' := o + 21) (b' := o + 27) (D_X1 (o + 15 + 6 * 1) cI (U 1)) (by omega) (by omega)) (D_ap2 (D_rg (a' := o + 27) (b' := o + 33) (D_X1 (o + 15 + 6 * 2) cI (U 2)) (by omega) (by omega)) (D_ap2 (D_rg (a' := o + 33) (b' := o + 39) (D_X1 (o + 15 + 6 * 3) cI (U 3)) (by omega) (by omega)) (D_ap2 (D_rg (a' := o + 39) (b' := o + 45) (D_X1 (o + 15 + 6 * 4) cI (U 4)) (by omega) (by omega)) (D_rg (a' := o + 45) (b' := o + 51) (D_X1 (o + 15 + 6 * 5) cI (U 5)) (by omega) (by omega)) (by omega) (by omega)) (by omega) (by omega)) (by omega) (by omega)) (by omega) (by omega)) (by omega) (by omega)
theorem D_3 (o : Nat) (cI cQ : ClassId) (U : Nat → Nat → Int → Int) (Sh Sn Sf Sp : Nat → Int → Int) : va_D (rg o (o + 57)) (W3 o cI cQ U Sh Sn Sf Sp) :=
  D_ap2 (z_D0 (A := rg o (o + 1)) (a := o) ⟨Nat.le_refl _, Nat.lt_succ_self _⟩) (D_ap2 (D_X1 (o + 1) cI Sn) (D_ap2 (D_X1 (o + 7) cI Sf) (D_ap2 (D_X0 (o + 13) (rS o) cQ Sh) (D_ap2 (D_3s o cI U) (D_X2 (o + 51) cI Sp) (by omega) (by omega)) (by omega) (by omega)) (by omega) (by omega)) (by omega) (by omega)) (by omega) (by omega)
section LK
variable {D : va_G} {H H1 : Heap} {o : Nat} {cI cQ : ClassId} {U : Nat → Nat → Int → Int} {Sh Sn Sf Sp R : Nat → Int → Int}
theorem kp_4 (h : va_P D vwCl (tW_X4 (fun j => o + 57 + j) cI R) H) (hk : ∀ q : Nat, q < H.size → ¬ rg o (o + 57) q → H1[q]? = H[q]?) : va_P D vwCl (tW_X4 (fun j => o + 57 + j) cI R) H1 := z_kept h hk (fun k q hq z => by have a := (rng_X4 hq).1.1; have b := z.2; omega)
theorem kp_3 (h : va_P D vwCl (W3 o cI cQ U Sh Sn Sf Sp) H) (hk : ∀ q : Nat, q < H.size → ¬ rg (o + 57) (o + 57 + 8) q → H1[q]? = H[q]?) : va_P D vwCl (W3 o cI cQ U Sh Sn Sf Sp) H1 := z_kept h hk (fun k q hq z => by have a := ((D_3 o cI cQ U Sh Sn Sf Sp).2 k q hq).2; have b := z.1; omega)
end LK
/-- the script's ints -/
def sx (xs : Nat → Int32) (j : Int) : Int := (xs j.toNat).toInt
theorem sx_r (xs : Nat → Int32) (j : Int) : -2147483648 ≤ sx xs j ∧ sx xs j < 2147483648 := zI_rng _
theorem and31 (x : Int32) : 0 ≤ (x &&& zI 31).toInt ∧ (x &&& zI 31).toInt ≤ 31 := by
  have h0 : (zI 31).toBitVec.toNat = 31 := by decide +kernel
  have h1 : (x &&& zI 31).toBitVec.toNat ≤ 31 := by
    rw [Int32.toBitVec_and, BitVec.toNat_and, h0]
    exact Nat.and_le_right
  have h2 : (x &&& zI 31).toInt = ((x &&& zI 31).toBitVec.toNat : Int) := by
    show (x &&& zI 31).toBitVec.toInt = _
    rw [BitVec.toInt_eq_toNat_of_lt (by omega)]
  omega
section LS
variable {p : Program} {l : Launch} {e : Env} {R : Room} {s : State} {m : MethodId} {args : Array Value} {below : List Frame} {meth : Method} {c : Code} {H : Heap} {locs : List Loc} {cells slots : Nat} {Q : State → Prop}
variable {cc : ByteArray} {pc : Nat} {ls : Array Slot} {rest : List Value} {A : Nat → Prop} {H0 : Heap}
theorem z_sld (hx : p.tables.exec = Jvm.exec) (hb : c.code = cc) {b L : Nat} {xs : Nat → Int32} (hX : va_X b L xs s H0) (hbl : b < H0.size) (hbA : ¬ A b) (hS : va_S A H0 H locs) (hL : L ≤ 2560) {i : Int} (hin : 0 ≤ i ∧ i < (L : Int)) (hdg : decode cc pc = .ok (.iaload, 1))
    (kk : W p l e R s m args below meth c H locs cells slots Q (F0 m (pc + 1) ls (.int (zI (sx xs i)) :: rest))) : W p l e R s m args below meth c H locs cells slots Q (F0 m pc ls (.int (zI i) :: .ref b :: rest)) := by
  refine va_sld hx hb hX hbl hbA hS (zI_in hin.1 hin.2 (by omega)) hdg ?_
  have ex : xs (zI i).toNatClampNeg = zI (sx xs i) := by
    rw [zI_clamp hin.1 (by omega)]
    exact (zI_self _).symm
  rw [ex]
  exact kk
theorem z_slen (hx : p.tables.exec = Jvm.exec) (hb : c.code = cc) {b L : Nat} {xs : Nat → Int32} (hX : va_X b L xs s H0) (hbl : b < H0.size) (hbA : ¬ A b) (hS : va_S A H0 H locs) (hdg : decode cc pc = .ok (.arraylength, 1))
    (kk : W p l e R s m args below meth c H locs cells slots Q (F0 m (pc + 1) ls (.int (zI (L : Int)) :: rest))) : W p l e R s m args below meth c H locs cells slots Q (F0 m pc ls (.ref b :: rest)) := by
  refine va_slen hx hb hX hbl hbA hS hdg ?_
  have ex : Int32.ofNat L = zI (L : Int) := (Int32.ofInt_eq_ofNat).symm
  rw [ex]
  exact kk
end LS
/-- what stays over the law's whole run -/
def lC (p : Program) (s : State) (m : MethodId) (c : Code) (b L : Nat) (xs : Nat → Int32) (dC : Nat → ClassId) (dI : Nat → Nat → Nat) (cI cQ : ClassId) (o : Nat) : Prop :=
  p.tables.exec = Jvm.exec ∧ c.code = cL_law ∧ c.maxLocals = 4 ∧ s.vm.findClass RL = some m.cls ∧ (∀ w ∈ wsL_law, w.before #[Value.ref b] s = true) ∧ va_X b L xs s s.heap ∧ b < s.heap.size ∧ va_K (dC, dI) vwCl (zT cI cQ) s ∧ o = s.heap.size ∧ L ≤ 2560
def lA (s : State) : Nat → Prop := fun q => s.heap.size ≤ q
def lG (p : Program) (l : Launch) (e : Env) (s : State) (m : MethodId) (b : Nat) (below : List Frame) (meth : Method) (c : Code) (dC : Nat → ClassId) (dI : Nat → Nat → Nat) (cI cQ : ClassId) (o : Nat) (Q : State → Prop) (g : JFrame) : Prop :=
  ∀ (U : Nat → Nat → Int → Int) (Sh Sn Sf Sp R : Nat → Int → Int) (H : Heap) (locs : List Loc), Top R U Sh Sn Sp → va_P (dC, dI) vwCl (W3 o cI cQ U Sh Sn Sf Sp) H → va_P (dC, dI) vwCl (tW_X4 (fun j => o + 57 + j) cI R) H → va_S (lA s) s.heap H locs → W p l e room_1 s m #[Value.ref b] below meth c H locs 600000 7302250 Q g
section LL9
variable {p : Program} {l : Launch} {e : Env} {s : State} {m : MethodId} {b : Nat} {below : List Frame} {meth : Method} {c : Code} {Q : State → Prop} {L : Nat} {xs : Nat → Int32} {dC : Nat → ClassId} {dI : Nat → Nat → Nat} {cI cQ : ClassId} {o : Nat} {ls : Array Slot} {i : Int}
set_option maxHeartbeats 4000000 in
set_option maxRecDepth 100000 in
theorem lc_read (C : lC p s m c b L xs dC dI cI cQ o) (hi : 0 ≤ i ∧ i + 4 < (L : Int)) (hl : lv_has ls 4 [(0, .ref b), (1, .ref o), (2, .ref (o + 57)), (3, .int (zI i))]) (kk : lG p l e s m b below meth c dC dI cI cQ o Q (F0 m 517 ls [])) : lG p l e s m b below meth c dC dI cI cQ o Q (F0 m 116 ls []) := by
  intro U Sh Sn Sf Sp R H locs T hP3 hP4 hS
  obtain ⟨hx, hb, hml, hown, hts, hX, hbl, hK, ho, hL⟩ := C
  have hbA : ¬ lA s b := Nat.not_le.mpr hbl
  have i3 : ∀ q, rg o (o + 57) q → lA s q := fun q z => by have t := z.1; show s.heap.size ≤ q; omega
  have i4 : ∀ q, rg (o + 57) (o + 57 + 8) q → lA s q := fun q z => by have t := z.1; show s.heap.size ≤ q; omega
  have t1 := T.1
  have tt := T.2.1
  have a0 := t1.2.1
  have e0 := t1.1.1.1
  have w := LG_WF t1 (by omega)
  have wa := LG_WFA t1 (by omega)
  have hRh := T.2.2.2.1.1
  have h1 := T.2.2.2.1.2.1
  have h2 := T.2.2.2.1.2.2.1
  have h2R : 0 ≤ R 2 0 ∧ R 2 0 ≤ 5 := by omega
  have h7 := T.2.2.1
  have hRp := T.2.2.2.2.2.1
  have x4 := T.2.2.2.2.2.2.2.1
  have x5 : 0 ≤ R 5 0 ∧ R 5 0 ≤ 80 := by omega
  have hB := w.1.1
  have n7 := a0.2.2
  refine lv_aload_n hx hb dL_law_116 rfl (lv_at hl 1 rfl) ?_
  refine lv_aload_n hx hb dL_law_117 rfl (lv_at hl 0 rfl) ?_
  refine lv_iload_n hx hb dL_law_118 rfl (lv_at hl 3 rfl) ?_
  refine z_iconst hx hb dL_law_119 ?_
  refine z_iadd hx hb dL_law_120 ?_
  refine z_sld hx hb hX hbl hbA hS hL (by omega) dL_law_121 ?_
  refine lv_aload_n hx hb dL_law_122 rfl (lv_at hl 0 rfl) ?_
  refine lv_iload_n hx hb dL_law_123 rfl (lv_at hl 3 rfl) ?_
  refine z_iconst hx hb dL_law_124 ?_
  refine z_iadd hx hb dL_law_125 ?_
  refine z_sld hx hb hX hbl hbA hS hL (by omega) dL_law_126 ?_
  refine z_calli (va_runV (As := [.int (zI (sx xs (i + 1))), .int (zI (sx xs (i + 2)))]) (rest := []) ⟨hx, hb, hml, hown, hts⟩ (k_X3_read l dC dI cI cQ (rg o (o + 57)) o U Sh Sn Sf Sp (fun _ h => h) (sx xs (i + 1)) (sx xs (i + 2)) h1 h2 w.1 (sx_r xs (i + 1)) (sx_r xs (i + 2)) (by have t := (T_read T (sx xs (i + 1)) (sx xs (i + 2))).2.2; omega)) (cwV 2 hts gL_law_X3_read rfl rfl rfl (by decide +kernel) ⟨Nat.le_of_ble_eq_true rfl, Nat.le_of_ble_eq_true rfl⟩) (z_preV hK hP3 (ci := 3) (q0 := 0) rfl rfl rfl) rfl rfl hl.1 rfl (lv_room (Nat.le_of_ble_eq_true rfl)) dL_law_127 ⟨Nat.le_of_ble_eq_true rfl, Nat.le_of_ble_eq_true rfl⟩) hS i3 (fun H1 locs1 hP3 hS _ hk => ?_)
  have hP4 := kp_4 hP4 hk
  refine lv_aload_n hx hb dL_law_130 rfl (lv_at hl 2 rfl) ?_
  refine lv_aload_n hx hb dL_law_131 rfl (lv_at hl 0 rfl) ?_
  refine lv_iload_n hx hb dL_law_132 rfl (lv_at hl 3 rfl) ?_
  refine z_iconst hx hb dL_law_133 ?_
  refine z_iadd hx hb dL_law_134 ?_
  refine z_sld hx hb hX hbl hbA hS hL (by omega) dL_law_135 ?_
  refine lv_aload_n hx hb dL_law_136 rfl (lv_at hl 0 rfl) ?_
  refine lv_iload_n hx hb dL_law_137 rfl (lv_at hl 3 rfl) ?_
  refine z_iconst hx hb dL_law_138 ?_
  refine z_iadd hx hb dL_law_139 ?_
  refine z_sld hx hb hX hbl hbA hS hL (by omega) dL_law_140 ?_
  refine z_calli (va_runV (As := [.int (zI (sx xs (i + 1))), .int (zI (sx xs (i + 2)))]) (rest := [.int (zI (tkReadR Sn (sx xs (i + 1)) (sx xs (i + 2))))]) ⟨hx, hb, hml, hown, hts⟩ (k_X4_read l dC dI cI cQ (rg (o + 57) (o + 57 + 8)) (fun j => o + 57 + j) R (D_X4 (o + 57) cI) (sx xs (i + 1)) (sx xs (i + 2)) wa.1 h2R (Or.inl h7) (sx_r xs (i + 1)) (sx_r xs (i + 2))) (cwV 2 hts gL_law_X4_read rfl rfl rfl (by decide +kernel) ⟨Nat.le_of_ble_eq_true rfl, Nat.le_of_ble_eq_true rfl⟩) (z_preV hK hP4 (ci := 4) (q0 := 0) rfl rfl rfl) rfl rfl hl.1 rfl (lv_room (Nat.le_of_ble_eq_true rfl)) dL_law_141 ⟨Nat.le_of_ble_eq_true rfl, Nat.le_of_ble_eq_true rfl⟩) hS i4 (fun H2 locs2 hP4 hS _ hk => ?_)
  have hP3 := kp_3 hP3 hk
  have TT := T_read T (sx xs (i + 1)) (sx xs (i + 2))
  refine lv_icmp_eq (tgt := 517) hx hb dL_law_144 (by decide) (fun _ => ?_) (fun z => ?_)
  · exact kk _ _ _ _ _ _ H2 locs2 TT.2.1 hP3 hP4 hS
  · exact absurd (congrArg zI TT.1.symm) z
set_option maxHeartbeats 4000000 in
set_option maxRecDepth 100000 in
theorem lc_write (C : lC p s m c b L xs dC dI cI cQ o) (hi : 0 ≤ i ∧ i + 4 < (L : Int)) (hl : lv_has ls 4 [(0, .ref b), (1, .ref o), (2, .ref (o + 57)), (3, .int (zI i))]) (kk : lG p l e s m b below meth c dC dI cI cQ o Q (F0 m 517 ls [])) : lG p l e s m b below meth c dC dI cI cQ o Q (F0 m 149 ls []) := by
  intro U Sh Sn Sf Sp R H locs T hP3 hP4 hS
  obtain ⟨hx, hb, hml, hown, hts, hX, hbl, hK, ho, hL⟩ := C
  have hbA : ¬ lA s b := Nat.not_le.mpr hbl
  have i3 : ∀ q, rg o (o + 57) q → lA s q := fun q z => by have t := z.1; show s.heap.size ≤ q; omega
  have i4 : ∀ q, rg (o + 57) (o + 57 + 8) q → lA s q := fun q z => by have t := z.1; show s.heap.size ≤ q; omega
  have t1 := T.1
  have tt := T.2.1
  have a0 := t1.2.1
  have e0 := t1.1.1.1
  have w := LG_WF t1 (by omega)
  have wa := LG_WFA t1 (by omega)
  have hRh := T.2.2.2.1.1
  have h1 := T.2.2.2.1.2.1
  have h2 := T.2.2.2.1.2.2.1
  have h2R : 0 ≤ R 2 0 ∧ R 2 0 ≤ 5 := by omega
  have h7 := T.2.2.1
  have hRp := T.2.2.2.2.2.1
  have x4 := T.2.2.2.2.2.2.2.1
  have x5 : 0 ≤ R 5 0 ∧ R 5 0 ≤ 80 := by omega
  have hB := w.1.1
  have n7 := a0.2.2
  refine lv_aload_n hx hb dL_law_149 rfl (lv_at hl 1 rfl) ?_
  refine lv_aload_n hx hb dL_law_150 rfl (lv_at hl 0 rfl) ?_
  refine lv_iload_n hx hb dL_law_151 rfl (lv_at hl 3 rfl) ?_
  refine z_iconst hx hb dL_law_152 ?_
  refine z_iadd hx hb dL_law_153 ?_
  refine z_sld hx hb hX hbl hbA hS hL (by omega) dL_law_154 ?_
  refine lv_aload_n hx hb dL_law_155 rfl (lv_at hl 0 rfl) ?_
  refine lv_iload_n hx hb dL_law_156 rfl (lv_at hl 3 rfl) ?_
  refine z_iconst hx hb dL_law_157 ?_
  refine z_iadd hx hb dL_law_158 ?_
  refine z_sld hx hb hX hbl hbA hS hL (by omega) dL_law_159 ?_
  refine lv_aload_n hx hb dL_law_160 rfl (lv_at hl 0 rfl) ?_
  refine lv_iload_n hx hb dL_law_161 rfl (lv_at hl 3 rfl) ?_
  refine z_iconst hx hb dL_law_162 ?_
  refine z_iadd hx hb dL_law_163 ?_
  refine z_sld hx hb hX hbl hbA hS hL (by omega) dL_law_164 ?_
  refine z_calli (va_runV (As := [.int (zI (sx xs (i + 1))), .int (zI (sx xs (i + 2))), .int (zI (sx xs (i + 3)))]) (rest := []) ⟨hx, hb, hml, hown, hts⟩ (k_X3_write l dC dI cI cQ (rg o (o + 57)) o U Sh Sn Sf Sp (fun _ h => h) (sx xs (i + 1)) (sx xs (i + 2)) (sx xs (i + 3)) h1 h2 w.1 (sx_r xs (i + 1)) (sx_r xs (i + 2)) (sx_r xs (i + 3)) (by have t := (T_write T (sx xs (i + 1)) (sx xs (i + 2)) (sx xs (i + 3))).2.2; omega)) (cwV 3 hts gL_law_X3_write rfl rfl rfl (by decide +kernel) ⟨Nat.le_of_ble_eq_true rfl, Nat.le_of_ble_eq_true rfl⟩) (z_preV hK hP3 (ci := 3) (q0 := 0) rfl rfl rfl) rfl rfl hl.1 rfl (lv_room (Nat.le_of_ble_eq_true rfl)) dL_law_165 ⟨Nat.le_of_ble_eq_true rfl, Nat.le_of_ble_eq_true rfl⟩) hS i3 (fun H1 locs1 hP3 hS _ hk => ?_)
  have hP4 := kp_4 hP4 hk
  refine lv_aload_n hx hb dL_law_168 rfl (lv_at hl 2 rfl) ?_
  refine lv_aload_n hx hb dL_law_169 rfl (lv_at hl 0 rfl) ?_
  refine lv_iload_n hx hb dL_law_170 rfl (lv_at hl 3 rfl) ?_
  refine z_iconst hx hb dL_law_171 ?_
  refine z_iadd hx hb dL_law_172 ?_
  refine z_sld hx hb hX hbl hbA hS hL (by omega) dL_law_173 ?_
  refine lv_aload_n hx hb dL_law_174 rfl (lv_at hl 0 rfl) ?_
  refine lv_iload_n hx hb dL_law_175 rfl (lv_at hl 3 rfl) ?_
  refine z_iconst hx hb dL_law_176 ?_
  refine z_iadd hx hb dL_law_177 ?_
  refine z_sld hx hb hX hbl hbA hS hL (by omega) dL_law_178 ?_
  refine lv_aload_n hx hb dL_law_179 rfl (lv_at hl 0 rfl) ?_
  refine lv_iload_n hx hb dL_law_180 rfl (lv_at hl 3 rfl) ?_
  refine z_iconst hx hb dL_law_181 ?_
  refine z_iadd hx hb dL_law_182 ?_
  refine z_sld hx hb hX hbl hbA hS hL (by omega) dL_law_183 ?_
  refine z_calli (va_runV (As := [.int (zI (sx xs (i + 1))), .int (zI (sx xs (i + 2))), .int (zI (sx xs (i + 3)))]) (rest := [.int (zI (tkWriteR Sn (sx xs (i + 1)) (sx xs (i + 2)) (sx xs (i + 3))))]) ⟨hx, hb, hml, hown, hts⟩ (k_X4_write l dC dI cI cQ (rg (o + 57) (o + 57 + 8)) (fun j => o + 57 + j) R (D_X4 (o + 57) cI) (sx xs (i + 1)) (sx xs (i + 2)) (sx xs (i + 3)) wa.1 h2R (Or.inl h7) (sx_r xs (i + 1)) (sx_r xs (i + 2)) (sx_r xs (i + 3))) (cwV 3 hts gL_law_X4_write rfl rfl rfl (by decide +kernel) ⟨Nat.le_of_ble_eq_true rfl, Nat.le_of_ble_eq_true rfl⟩) (z_preV hK hP4 (ci := 4) (q0 := 0) rfl rfl rfl) rfl rfl hl.1 rfl (lv_room (Nat.le_of_ble_eq_true rfl)) dL_law_184 ⟨Nat.le_of_ble_eq_true rfl, Nat.le_of_ble_eq_true rfl⟩) hS i4 (fun H2 locs2 hP4 hS _ hk => ?_)
  have hP3 := kp_3 hP3 hk
  have TT := T_write T (sx xs (i + 1)) (sx xs (i + 2)) (sx xs (i + 3))
  refine lv_icmp_eq (tgt := 517) hx hb dL_law_187 (by decide) (fun _ => ?_) (fun z => ?_)
  · exact kk _ _ _ _ _ _ H2 locs2 TT.2.1 hP3 hP4 hS
  · exact absurd (congrArg zI TT.1.symm) z
set_option maxHeartbeats 4000000 in
set_option maxRecDepth 100000 in
theorem lc_pass (C : lC p s m c b L xs dC dI cI cQ o) (hi : 0 ≤ i ∧ i + 4 < (L : Int)) (hl : lv_has ls 4 [(0, .ref b), (1, .ref o), (2, .ref (o + 57)), (3, .int (zI i))]) (kk : lG p l e s m b below meth c dC dI cI cQ o Q (F0 m 517 ls [])) : lG p l e s m b below meth c dC dI cI cQ o Q (F0 m 192 ls []) := by
  intro U Sh Sn Sf Sp R H locs T hP3 hP4 hS
  obtain ⟨hx, hb, hml, hown, hts, hX, hbl, hK, ho, hL⟩ := C
  have hbA : ¬ lA s b := Nat.not_le.mpr hbl
  have i3 : ∀ q, rg o (o + 57) q → lA s q := fun q z => by have t := z.1; show s.heap.size ≤ q; omega
  have i4 : ∀ q, rg (o + 57) (o + 57 + 8) q → lA s q := fun q z => by have t := z.1; show s.heap.size ≤ q; omega
  have t1 := T.1
  have tt := T.2.1
  have a0 := t1.2.1
  have e0 := t1.1.1.1
  have w := LG_WF t1 (by omega)
  have wa := LG_WFA t1 (by omega)
  have hRh := T.2.2.2.1.1
  have h1 := T.2.2.2.1.2.1
  have h2 := T.2.2.2.1.2.2.1
  have h2R : 0 ≤ R 2 0 ∧ R 2 0 ≤ 5 := by omega
  have h7 := T.2.2.1
  have hRp := T.2.2.2.2.2.1
  have x4 := T.2.2.2.2.2.2.2.1
  have x5 : 0 ≤ R 5 0 ∧ R 5 0 ≤ 80 := by omega
  have hB := w.1.1
  have n7 := a0.2.2
  refine lv_aload_n hx hb dL_law_192 rfl (lv_at hl 1 rfl) ?_
  refine lv_aload_n hx hb dL_law_193 rfl (lv_at hl 0 rfl) ?_
  refine lv_iload_n hx hb dL_law_194 rfl (lv_at hl 3 rfl) ?_
  refine z_iconst hx hb dL_law_195 ?_
  refine z_iadd hx hb dL_law_196 ?_
  refine z_sld hx hb hX hbl hbA hS hL (by omega) dL_law_197 ?_
  refine z_calli (va_runV (As := [.int (zI (sx xs (i + 1)))]) (rest := []) ⟨hx, hb, hml, hown, hts⟩ (k_X3_pass l dC dI cI cQ (rg o (o + 57)) o U Sh Sn Sf Sp (fun _ h => h) (sx xs (i + 1)) h1 h2 w.1 (fun q k k0 k1 => LG_allW t1 (n := (sx xs (i + 1))) (by omega) k k0 (by omega)) (sx_r xs (i + 1)) (by have t := (T_pass T (sx xs (i + 1))).2.2; omega)) (cwV 1 hts gL_law_X3_pass rfl rfl rfl (by decide +kernel) ⟨Nat.le_of_ble_eq_true rfl, Nat.le_of_ble_eq_true rfl⟩) (z_preV hK hP3 (ci := 3) (q0 := 0) rfl rfl rfl) rfl rfl hl.1 rfl (lv_room (Nat.le_of_ble_eq_true rfl)) dL_law_198 ⟨Nat.le_of_ble_eq_true rfl, Nat.le_of_ble_eq_true rfl⟩) hS i3 (fun H1 locs1 hP3 hS _ hk => ?_)
  have hP4 := kp_4 hP4 hk
  refine lv_aload_n hx hb dL_law_201 rfl (lv_at hl 2 rfl) ?_
  refine lv_aload_n hx hb dL_law_202 rfl (lv_at hl 0 rfl) ?_
  refine lv_iload_n hx hb dL_law_203 rfl (lv_at hl 3 rfl) ?_
  refine z_iconst hx hb dL_law_204 ?_
  refine z_iadd hx hb dL_law_205 ?_
  refine z_sld hx hb hX hbl hbA hS hL (by omega) dL_law_206 ?_
  refine z_calli (va_runV (As := [.int (zI (sx xs (i + 1)))]) (rest := [.int (zI (letPassR Sn (sx xs (i + 1))))]) ⟨hx, hb, hml, hown, hts⟩ (k_X4_pass l dC dI cI cQ (rg (o + 57) (o + 57 + 8)) (fun j => o + 57 + j) R (D_X4 (o + 57) cI) (sx xs (i + 1)) wa.1 h2R (Or.inl h7) (sx_r xs (i + 1)) (fun q k k0 k1 => LG_allA t1 (n := (sx xs (i + 1))) (by omega) k k0 k1)) (cwV 1 hts gL_law_X4_pass rfl rfl rfl (by decide +kernel) ⟨Nat.le_of_ble_eq_true rfl, Nat.le_of_ble_eq_true rfl⟩) (z_preV hK hP4 (ci := 4) (q0 := 0) rfl rfl rfl) rfl rfl hl.1 rfl (lv_room (Nat.le_of_ble_eq_true rfl)) dL_law_207 ⟨Nat.le_of_ble_eq_true rfl, Nat.le_of_ble_eq_true rfl⟩) hS i4 (fun H2 locs2 hP4 hS _ hk => ?_)
  have hP3 := kp_3 hP3 hk
  have TT := T_pass T (sx xs (i + 1))
  refine lv_icmp_eq (tgt := 517) hx hb dL_law_210 (by decide) (fun _ => ?_) (fun z => ?_)
  · exact kk _ _ _ _ _ _ H2 locs2 TT.2.1 hP3 hP4 hS
  · exact absurd (congrArg zI TT.1.symm) z
set_option maxHeartbeats 4000000 in
set_option maxRecDepth 100000 in
theorem lc_cut (C : lC p s m c b L xs dC dI cI cQ o) (hi : 0 ≤ i ∧ i + 4 < (L : Int)) (hl : lv_has ls 4 [(0, .ref b), (1, .ref o), (2, .ref (o + 57)), (3, .int (zI i))]) (kk : lG p l e s m b below meth c dC dI cI cQ o Q (F0 m 517 ls [])) : lG p l e s m b below meth c dC dI cI cQ o Q (F0 m 215 ls []) := by
  intro U Sh Sn Sf Sp R H locs T hP3 hP4 hS
  obtain ⟨hx, hb, hml, hown, hts, hX, hbl, hK, ho, hL⟩ := C
  have hbA : ¬ lA s b := Nat.not_le.mpr hbl
  have i3 : ∀ q, rg o (o + 57) q → lA s q := fun q z => by have t := z.1; show s.heap.size ≤ q; omega
  have i4 : ∀ q, rg (o + 57) (o + 57 + 8) q → lA s q := fun q z => by have t := z.1; show s.heap.size ≤ q; omega
  have t1 := T.1
  have tt := T.2.1
  have a0 := t1.2.1
  have e0 := t1.1.1.1
  have w := LG_WF t1 (by omega)
  have wa := LG_WFA t1 (by omega)
  have hRh := T.2.2.2.1.1
  have h1 := T.2.2.2.1.2.1
  have h2 := T.2.2.2.1.2.2.1
  have h2R : 0 ≤ R 2 0 ∧ R 2 0 ≤ 5 := by omega
  have h7 := T.2.2.1
  have hRp := T.2.2.2.2.2.1
  have x4 := T.2.2.2.2.2.2.2.1
  have x5 : 0 ≤ R 5 0 ∧ R 5 0 ≤ 80 := by omega
  have hB := w.1.1
  have n7 := a0.2.2
  refine lv_aload_n hx hb dL_law_215 rfl (lv_at hl 1 rfl) ?_
  refine z_calli (va_runV (As := []) (rest := []) ⟨hx, hb, hml, hown, hts⟩ (k_X3_cut l dC dI cI cQ (rg o (o + 57)) o U Sh Sn Sf Sp (fun _ h => h)  h1 h2 w.1 (LG_tearW t1 tt) (by have t := (T_cut T).2.2; omega)) (cwV 0 hts gL_law_X3_cut rfl rfl rfl (by decide +kernel) ⟨Nat.le_of_ble_eq_true rfl, Nat.le_of_ble_eq_true rfl⟩) (z_preV hK hP3 (ci := 3) (q0 := 0) rfl rfl rfl) rfl rfl hl.1 rfl (lv_room (Nat.le_of_ble_eq_true rfl)) dL_law_216 ⟨Nat.le_of_ble_eq_true rfl, Nat.le_of_ble_eq_true rfl⟩) hS i3 (fun H1 locs1 hP3 hS _ hk => ?_)
  have hP4 := kp_4 hP4 hk
  refine lv_aload_n hx hb dL_law_219 rfl (lv_at hl 2 rfl) ?_
  refine z_calli (va_runV (As := []) (rest := [.int (zI (cutR Sn))]) ⟨hx, hb, hml, hown, hts⟩ (k_X4_cut l dC dI cI cQ (rg (o + 57) (o + 57 + 8)) (fun j => o + 57 + j) R (D_X4 (o + 57) cI)  wa.1 h2R (Or.inl h7)) (cwV 0 hts gL_law_X4_cut rfl rfl rfl (by decide +kernel) ⟨Nat.le_of_ble_eq_true rfl, Nat.le_of_ble_eq_true rfl⟩) (z_preV hK hP4 (ci := 4) (q0 := 0) rfl rfl rfl) rfl rfl hl.1 rfl (lv_room (Nat.le_of_ble_eq_true rfl)) dL_law_220 ⟨Nat.le_of_ble_eq_true rfl, Nat.le_of_ble_eq_true rfl⟩) hS i4 (fun H2 locs2 hP4 hS _ hk => ?_)
  have hP3 := kp_3 hP3 hk
  have TT := T_cut T
  refine lv_icmp_eq (tgt := 517) hx hb dL_law_223 (by decide) (fun _ => ?_) (fun z => ?_)
  · exact kk _ _ _ _ _ _ H2 locs2 TT.2.1 hP3 hP4 hS
  · exact absurd (congrArg zI TT.1.symm) z
set_option maxHeartbeats 4000000 in
set_option maxRecDepth 100000 in
theorem lc_sweep (C : lC p s m c b L xs dC dI cI cQ o) (hi : 0 ≤ i ∧ i + 4 < (L : Int)) (hl : lv_has ls 4 [(0, .ref b), (1, .ref o), (2, .ref (o + 57)), (3, .int (zI i))]) (kk : lG p l e s m b below meth c dC dI cI cQ o Q (F0 m 517 ls [])) : lG p l e s m b below meth c dC dI cI cQ o Q (F0 m 228 ls []) := by
  intro U Sh Sn Sf Sp R H locs T hP3 hP4 hS
  obtain ⟨hx, hb, hml, hown, hts, hX, hbl, hK, ho, hL⟩ := C
  have hbA : ¬ lA s b := Nat.not_le.mpr hbl
  have i3 : ∀ q, rg o (o + 57) q → lA s q := fun q z => by have t := z.1; show s.heap.size ≤ q; omega
  have i4 : ∀ q, rg (o + 57) (o + 57 + 8) q → lA s q := fun q z => by have t := z.1; show s.heap.size ≤ q; omega
  have t1 := T.1
  have tt := T.2.1
  have a0 := t1.2.1
  have e0 := t1.1.1.1
  have w := LG_WF t1 (by omega)
  have wa := LG_WFA t1 (by omega)
  have hRh := T.2.2.2.1.1
  have h1 := T.2.2.2.1.2.1
  have h2 := T.2.2.2.1.2.2.1
  have h2R : 0 ≤ R 2 0 ∧ R 2 0 ≤ 5 := by omega
  have h7 := T.2.2.1
  have hRp := T.2.2.2.2.2.1
  have x4 := T.2.2.2.2.2.2.2.1
  have x5 : 0 ≤ R 5 0 ∧ R 5 0 ≤ 80 := by omega
  have hB := w.1.1
  have n7 := a0.2.2
  refine lv_aload_n hx hb dL_law_228 rfl (lv_at hl 1 rfl) ?_
  refine z_calli (va_runV (As := []) (rest := []) ⟨hx, hb, hml, hown, hts⟩ (k_X3_sweep l dC dI cI cQ (rg o (o + 57)) o U Sh Sn Sf Sp (fun _ h => h)  h1 h2 w.1 (fun q q0 q1 => (LG_swW t1 (by omega) (b := q) (by omega)).1) (by have t := (T_sweep T).2.2; omega)) (cwV 0 hts gL_law_X3_sweep rfl rfl rfl (by decide +kernel) ⟨Nat.le_of_ble_eq_true rfl, Nat.le_of_ble_eq_true rfl⟩) (z_preV hK hP3 (ci := 3) (q0 := 0) rfl rfl rfl) rfl rfl hl.1 rfl (lv_room (Nat.le_of_ble_eq_true rfl)) dL_law_229 ⟨Nat.le_of_ble_eq_true rfl, Nat.le_of_ble_eq_true rfl⟩) hS i3 (fun H1 locs1 hP3 hS _ hk => ?_)
  have hP4 := kp_4 hP4 hk
  refine lv_aload_n hx hb dL_law_232 rfl (lv_at hl 2 rfl) ?_
  refine z_calli (va_runV (As := []) (rest := [.int (zI (sweepBR Sn))]) ⟨hx, hb, hml, hown, hts⟩ (k_X4_sweep l dC dI cI cQ (rg (o + 57) (o + 57 + 8)) (fun j => o + 57 + j) R (D_X4 (o + 57) cI)  wa.1 h2R (Or.inl h7) (fun q q0 q1 => (LG_swW t1 (by omega) (b := q) ⟨q0, q1⟩).2) (copF_rng t1.1 t1.2)) (cwV 0 hts gL_law_X4_sweep rfl rfl rfl (by decide +kernel) ⟨Nat.le_of_ble_eq_true rfl, Nat.le_of_ble_eq_true rfl⟩) (z_preV hK hP4 (ci := 4) (q0 := 0) rfl rfl rfl) rfl rfl hl.1 rfl (lv_room (Nat.le_of_ble_eq_true rfl)) dL_law_233 ⟨Nat.le_of_ble_eq_true rfl, Nat.le_of_ble_eq_true rfl⟩) hS i4 (fun H2 locs2 hP4 hS _ hk => ?_)
  have hP3 := kp_3 hP3 hk
  have TT := T_sweep T
  refine lv_icmp_eq (tgt := 517) hx hb dL_law_236 (by decide) (fun _ => ?_) (fun z => ?_)
  · exact kk _ _ _ _ _ _ H2 locs2 TT.2.1 hP3 hP4 hS
  · exact absurd (congrArg zI TT.1.symm) z
set_option maxHeartbeats 4000000 in
set_option maxRecDepth 100000 in
theorem lc_undo (C : lC p s m c b L xs dC dI cI cQ o) (hi : 0 ≤ i ∧ i + 4 < (L : Int)) (hl : lv_has ls 4 [(0, .ref b), (1, .ref o), (2, .ref (o + 57)), (3, .int (zI i))]) (kk : lG p l e s m b below meth c dC dI cI cQ o Q (F0 m 517 ls [])) : lG p l e s m b below meth c dC dI cI cQ o Q (F0 m 241 ls []) := by
  intro U Sh Sn Sf Sp R H locs T hP3 hP4 hS
  obtain ⟨hx, hb, hml, hown, hts, hX, hbl, hK, ho, hL⟩ := C
  have hbA : ¬ lA s b := Nat.not_le.mpr hbl
  have i3 : ∀ q, rg o (o + 57) q → lA s q := fun q z => by have t := z.1; show s.heap.size ≤ q; omega
  have i4 : ∀ q, rg (o + 57) (o + 57 + 8) q → lA s q := fun q z => by have t := z.1; show s.heap.size ≤ q; omega
  have t1 := T.1
  have tt := T.2.1
  have a0 := t1.2.1
  have e0 := t1.1.1.1
  have w := LG_WF t1 (by omega)
  have wa := LG_WFA t1 (by omega)
  have hRh := T.2.2.2.1.1
  have h1 := T.2.2.2.1.2.1
  have h2 := T.2.2.2.1.2.2.1
  have h2R : 0 ≤ R 2 0 ∧ R 2 0 ≤ 5 := by omega
  have h7 := T.2.2.1
  have hRp := T.2.2.2.2.2.1
  have x4 := T.2.2.2.2.2.2.2.1
  have x5 : 0 ≤ R 5 0 ∧ R 5 0 ≤ 80 := by omega
  have hB := w.1.1
  have n7 := a0.2.2
  refine lv_aload_n hx hb dL_law_241 rfl (lv_at hl 1 rfl) ?_
  refine z_calli (va_runV (As := []) (rest := []) ⟨hx, hb, hml, hown, hts⟩ (k_X3_undo l dC dI cI cQ (rg o (o + 57)) o U Sh Sn Sf Sp (fun _ h => h)  h1 h2) (cwV 0 hts gL_law_X3_undo rfl rfl rfl (by decide +kernel) ⟨Nat.le_of_ble_eq_true rfl, Nat.le_of_ble_eq_true rfl⟩) (z_preV hK hP3 (ci := 3) (q0 := 0) rfl rfl rfl) rfl rfl hl.1 rfl (lv_room (Nat.le_of_ble_eq_true rfl)) dL_law_242 ⟨Nat.le_of_ble_eq_true rfl, Nat.le_of_ble_eq_true rfl⟩) hS i3 (fun H1 locs1 hP3 hS _ hk => ?_)
  have hP4 := kp_4 hP4 hk
  refine lv_aload_n hx hb dL_law_245 rfl (lv_at hl 2 rfl) ?_
  refine z_calli (va_runV (As := []) (rest := [.int (zI (unR Sh))]) ⟨hx, hb, hml, hown, hts⟩ (k_X4_undo l dC dI cI cQ (rg (o + 57) (o + 57 + 8)) (fun j => o + 57 + j) R (D_X4 (o + 57) cI)  h2R) (cwV 0 hts gL_law_X4_undo rfl rfl rfl (by decide +kernel) ⟨Nat.le_of_ble_eq_true rfl, Nat.le_of_ble_eq_true rfl⟩) (z_preV hK hP4 (ci := 4) (q0 := 0) rfl rfl rfl) rfl rfl hl.1 rfl (lv_room (Nat.le_of_ble_eq_true rfl)) dL_law_246 ⟨Nat.le_of_ble_eq_true rfl, Nat.le_of_ble_eq_true rfl⟩) hS i4 (fun H2 locs2 hP4 hS _ hk => ?_)
  have hP3 := kp_3 hP3 hk
  have TT := T_undo T
  refine lv_icmp_eq (tgt := 517) hx hb dL_law_249 (by decide) (fun _ => ?_) (fun z => ?_)
  · exact kk _ _ _ _ _ _ H2 locs2 TT.2 hP3 hP4 hS
  · exact absurd (congrArg zI TT.1.symm) z
set_option maxHeartbeats 4000000 in
set_option maxRecDepth 100000 in
theorem lc_append (C : lC p s m c b L xs dC dI cI cQ o) (hi : 0 ≤ i ∧ i + 4 < (L : Int)) (hl : lv_has ls 4 [(0, .ref b), (1, .ref o), (2, .ref (o + 57)), (3, .int (zI i))]) (kk : lG p l e s m b below meth c dC dI cI cQ o Q (F0 m 517 ls [])) : lG p l e s m b below meth c dC dI cI cQ o Q (F0 m 254 ls []) := by
  intro U Sh Sn Sf Sp R H locs T hP3 hP4 hS
  obtain ⟨hx, hb, hml, hown, hts, hX, hbl, hK, ho, hL⟩ := C
  have hbA : ¬ lA s b := Nat.not_le.mpr hbl
  have i3 : ∀ q, rg o (o + 57) q → lA s q := fun q z => by have t := z.1; show s.heap.size ≤ q; omega
  have i4 : ∀ q, rg (o + 57) (o + 57 + 8) q → lA s q := fun q z => by have t := z.1; show s.heap.size ≤ q; omega
  have t1 := T.1
  have tt := T.2.1
  have a0 := t1.2.1
  have e0 := t1.1.1.1
  have w := LG_WF t1 (by omega)
  have wa := LG_WFA t1 (by omega)
  have hRh := T.2.2.2.1.1
  have h1 := T.2.2.2.1.2.1
  have h2 := T.2.2.2.1.2.2.1
  have h2R : 0 ≤ R 2 0 ∧ R 2 0 ≤ 5 := by omega
  have h7 := T.2.2.1
  have hRp := T.2.2.2.2.2.1
  have x4 := T.2.2.2.2.2.2.2.1
  have x5 : 0 ≤ R 5 0 ∧ R 5 0 ≤ 80 := by omega
  have hB := w.1.1
  have n7 := a0.2.2
  refine lv_aload_n hx hb dL_law_254 rfl (lv_at hl 1 rfl) ?_
  refine lv_aload_n hx hb dL_law_255 rfl (lv_at hl 0 rfl) ?_
  refine lv_iload_n hx hb dL_law_256 rfl (lv_at hl 3 rfl) ?_
  refine z_iconst hx hb dL_law_257 ?_
  refine z_iadd hx hb dL_law_258 ?_
  refine z_sld hx hb hX hbl hbA hS hL (by omega) dL_law_259 ?_
  refine z_calli (va_runV (As := [.int (zI (sx xs (i + 1)))]) (rest := []) ⟨hx, hb, hml, hown, hts⟩ (k_X3_append l dC dI cI cQ (rg o (o + 57)) o U Sh Sn Sf Sp (fun _ h => h) (sx xs (i + 1)) (sx_r xs (i + 1)) x4) (cwV 1 hts gL_law_X3_append rfl rfl rfl (by decide +kernel) ⟨Nat.le_of_ble_eq_true rfl, Nat.le_of_ble_eq_true rfl⟩) (z_preV hK hP3 (ci := 3) (q0 := 0) rfl rfl rfl) rfl rfl hl.1 rfl (lv_room (Nat.le_of_ble_eq_true rfl)) dL_law_260 ⟨Nat.le_of_ble_eq_true rfl, Nat.le_of_ble_eq_true rfl⟩) hS i3 (fun H1 locs1 hP3 hS _ hk => ?_)
  have hP4 := kp_4 hP4 hk
  refine lv_aload_n hx hb dL_law_263 rfl (lv_at hl 2 rfl) ?_
  refine lv_aload_n hx hb dL_law_264 rfl (lv_at hl 0 rfl) ?_
  refine lv_iload_n hx hb dL_law_265 rfl (lv_at hl 3 rfl) ?_
  refine z_iconst hx hb dL_law_266 ?_
  refine z_iadd hx hb dL_law_267 ?_
  refine z_sld hx hb hX hbl hbA hS hL (by omega) dL_law_268 ?_
  refine z_calli (va_runV (As := [.int (zI (sx xs (i + 1)))]) (rest := [.int (zI (apR Sp (sx xs (i + 1))))]) ⟨hx, hb, hml, hown, hts⟩ (k_X4_append l dC dI cI cQ (rg (o + 57) (o + 57 + 8)) (fun j => o + 57 + j) R (D_X4 (o + 57) cI) (sx xs (i + 1)) (sx_r xs (i + 1)) x5) (cwV 1 hts gL_law_X4_append rfl rfl rfl (by decide +kernel) ⟨Nat.le_of_ble_eq_true rfl, Nat.le_of_ble_eq_true rfl⟩) (z_preV hK hP4 (ci := 4) (q0 := 0) rfl rfl rfl) rfl rfl hl.1 rfl (lv_room (Nat.le_of_ble_eq_true rfl)) dL_law_269 ⟨Nat.le_of_ble_eq_true rfl, Nat.le_of_ble_eq_true rfl⟩) hS i4 (fun H2 locs2 hP4 hS _ hk => ?_)
  have hP3 := kp_3 hP3 hk
  have TT := T_append T (sx xs (i + 1))
  refine lv_icmp_eq (tgt := 517) hx hb dL_law_272 (by decide) (fun _ => ?_) (fun z => ?_)
  · exact kk _ _ _ _ _ _ H2 locs2 TT.2 hP3 hP4 hS
  · exact absurd (congrArg zI TT.1.symm) z
set_option maxHeartbeats 4000000 in
set_option maxRecDepth 100000 in
theorem lc_clearText (C : lC p s m c b L xs dC dI cI cQ o) (hi : 0 ≤ i ∧ i + 4 < (L : Int)) (hl : lv_has ls 4 [(0, .ref b), (1, .ref o), (2, .ref (o + 57)), (3, .int (zI i))]) (kk : lG p l e s m b below meth c dC dI cI cQ o Q (F0 m 517 ls [])) : lG p l e s m b below meth c dC dI cI cQ o Q (F0 m 277 ls []) := by
  intro U Sh Sn Sf Sp R H locs T hP3 hP4 hS
  obtain ⟨hx, hb, hml, hown, hts, hX, hbl, hK, ho, hL⟩ := C
  have hbA : ¬ lA s b := Nat.not_le.mpr hbl
  have i3 : ∀ q, rg o (o + 57) q → lA s q := fun q z => by have t := z.1; show s.heap.size ≤ q; omega
  have i4 : ∀ q, rg (o + 57) (o + 57 + 8) q → lA s q := fun q z => by have t := z.1; show s.heap.size ≤ q; omega
  have t1 := T.1
  have tt := T.2.1
  have a0 := t1.2.1
  have e0 := t1.1.1.1
  have w := LG_WF t1 (by omega)
  have wa := LG_WFA t1 (by omega)
  have hRh := T.2.2.2.1.1
  have h1 := T.2.2.2.1.2.1
  have h2 := T.2.2.2.1.2.2.1
  have h2R : 0 ≤ R 2 0 ∧ R 2 0 ≤ 5 := by omega
  have h7 := T.2.2.1
  have hRp := T.2.2.2.2.2.1
  have x4 := T.2.2.2.2.2.2.2.1
  have x5 : 0 ≤ R 5 0 ∧ R 5 0 ≤ 80 := by omega
  have hB := w.1.1
  have n7 := a0.2.2
  refine lv_aload_n hx hb dL_law_277 rfl (lv_at hl 1 rfl) ?_
  refine z_calli (va_runV (As := []) (rest := []) ⟨hx, hb, hml, hown, hts⟩ (k_X3_clearText l dC dI cI cQ (rg o (o + 57)) o U Sh Sn Sf Sp (fun _ h => h)  ) (cwV 0 hts gL_law_X3_clearText rfl rfl rfl (by decide +kernel) ⟨Nat.le_of_ble_eq_true rfl, Nat.le_of_ble_eq_true rfl⟩) (z_preV hK hP3 (ci := 3) (q0 := 0) rfl rfl rfl) rfl rfl hl.1 rfl (lv_room (Nat.le_of_ble_eq_true rfl)) dL_law_278 ⟨Nat.le_of_ble_eq_true rfl, Nat.le_of_ble_eq_true rfl⟩) hS i3 (fun H1 locs1 hP3 hS _ hk => ?_)
  have hP4 := kp_4 hP4 hk
  refine lv_aload_n hx hb dL_law_281 rfl (lv_at hl 2 rfl) ?_
  refine z_calli (va_runV (As := []) (rest := [.int (zI (Sp 1 0))]) ⟨hx, hb, hml, hown, hts⟩ (k_X4_clearText l dC dI cI cQ (rg (o + 57) (o + 57 + 8)) (fun j => o + 57 + j) R (D_X4 (o + 57) cI)  x5) (cwV 0 hts gL_law_X4_clearText rfl rfl rfl (by decide +kernel) ⟨Nat.le_of_ble_eq_true rfl, Nat.le_of_ble_eq_true rfl⟩) (z_preV hK hP4 (ci := 4) (q0 := 0) rfl rfl rfl) rfl rfl hl.1 rfl (lv_room (Nat.le_of_ble_eq_true rfl)) dL_law_282 ⟨Nat.le_of_ble_eq_true rfl, Nat.le_of_ble_eq_true rfl⟩) hS i4 (fun H2 locs2 hP4 hS _ hk => ?_)
  have hP3 := kp_3 hP3 hk
  have TT := T_clear T
  refine lv_icmp_eq (tgt := 517) hx hb dL_law_285 (by decide) (fun _ => ?_) (fun z => ?_)
  · exact kk _ _ _ _ _ _ H2 locs2 TT.2 hP3 hP4 hS
  · exact absurd (congrArg zI TT.1.symm) z
set_option maxHeartbeats 4000000 in
set_option maxRecDepth 100000 in
theorem lc_run (C : lC p s m c b L xs dC dI cI cQ o) (hi : 0 ≤ i ∧ i + 4 < (L : Int)) (hl : lv_has ls 4 [(0, .ref b), (1, .ref o), (2, .ref (o + 57)), (3, .int (zI i))]) (kk : lG p l e s m b below meth c dC dI cI cQ o Q (F0 m 517 ls [])) : lG p l e s m b below meth c dC dI cI cQ o Q (F0 m 290 ls []) := by
  intro U Sh Sn Sf Sp R H locs T hP3 hP4 hS
  obtain ⟨hx, hb, hml, hown, hts, hX, hbl, hK, ho, hL⟩ := C
  have hbA : ¬ lA s b := Nat.not_le.mpr hbl
  have i3 : ∀ q, rg o (o + 57) q → lA s q := fun q z => by have t := z.1; show s.heap.size ≤ q; omega
  have i4 : ∀ q, rg (o + 57) (o + 57 + 8) q → lA s q := fun q z => by have t := z.1; show s.heap.size ≤ q; omega
  have t1 := T.1
  have tt := T.2.1
  have a0 := t1.2.1
  have e0 := t1.1.1.1
  have w := LG_WF t1 (by omega)
  have wa := LG_WFA t1 (by omega)
  have hRh := T.2.2.2.1.1
  have h1 := T.2.2.2.1.2.1
  have h2 := T.2.2.2.1.2.2.1
  have h2R : 0 ≤ R 2 0 ∧ R 2 0 ≤ 5 := by omega
  have h7 := T.2.2.1
  have hRp := T.2.2.2.2.2.1
  have x4 := T.2.2.2.2.2.2.2.1
  have x5 : 0 ≤ R 5 0 ∧ R 5 0 ≤ 80 := by omega
  have hB := w.1.1
  have n7 := a0.2.2
  obtain ⟨f1, f2, S2, S3, r1, r2, rg1, rr1, rg2, rr2, rs3, r06, rE, rT, rX, rXP, rper⟩ := T_run T
  have hTx : TxO R := ⟨by rw [T.2.2.2.2.1]; exact T.2.2.2.2.2.2.1, x5⟩
  refine lv_aload_n hx hb dL_law_290 rfl (lv_at hl 1 rfl) ?_
  refine z_calli (va_runV (As := []) (rest := []) ⟨hx, hb, hml, hown, hts⟩ (k_X3_run l dC dI cI cQ (rg o (o + 57)) o U Sh Sn Sf Sp (fun _ h => h)  h1 h2 rX rXP (fun k k0 k1 _ => rper k k0 k1)) (cwV 0 hts gL_law_X3_run rfl rfl rfl (by decide +kernel) ⟨Nat.le_of_ble_eq_true rfl, Nat.le_of_ble_eq_true rfl⟩) (z_preV hK hP3 (ci := 3) (q0 := 0) rfl rfl rfl) rfl rfl hl.1 rfl (lv_room (Nat.le_of_ble_eq_true rfl)) dL_law_291 ⟨Nat.le_of_ble_eq_true rfl, Nat.le_of_ble_eq_true rfl⟩) hS i3 (fun H1 locs1 hP3 hS _ hk => ?_)
  have hP4 := kp_4 hP4 hk
  refine lv_aload_n hx hb dL_law_294 rfl (lv_at hl 2 rfl) ?_
  refine z_calli (va_runV (As := []) (rest := [.int (zI (ruR Sn Sp))]) ⟨hx, hb, hml, hown, hts⟩ (k_X4_run l dC dI cI cQ (rg (o + 57) (o + 57 + 8)) (fun j => o + 57 + j) R (D_X4 (o + 57) cI) f1 f2 S2 S3 r1 r2 hTx rg1 rr1 rg2 rr2 rs3 r06) (cwV 0 hts gL_law_X4_run rfl rfl rfl (by decide +kernel) ⟨Nat.le_of_ble_eq_true rfl, Nat.le_of_ble_eq_true rfl⟩) (z_preV hK hP4 (ci := 4) (q0 := 0) rfl rfl rfl) rfl rfl hl.1 rfl (lv_room (Nat.le_of_ble_eq_true rfl)) dL_law_295 ⟨Nat.le_of_ble_eq_true rfl, Nat.le_of_ble_eq_true rfl⟩) hS i4 (fun H2 locs2 hP4 hS _ hk => ?_)
  have hP3 := kp_3 hP3 hk
  have TT := And.intro rE rT
  refine lv_icmp_eq (tgt := 517) hx hb dL_law_298 (by decide) (fun _ => ?_) (fun z => ?_)
  · exact kk _ _ _ _ _ _ H2 locs2 TT.2 hP3 hP4 hS
  · exact absurd (congrArg zI TT.1.symm) z
end LL9
