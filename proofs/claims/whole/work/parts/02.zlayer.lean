/-! z: ints of the machine as whole numbers -/
def zI (z : Int) : Int32 := Int32.ofInt z
theorem zI_add (a b : Int) : zI a + zI b = zI (a + b) := (Int32.ofInt_add a b).symm
theorem zI_sub (a b : Int) : zI a - zI b = zI (a - b) := (Int32.ofInt_sub a b).symm
theorem zI_mul (a b : Int) : zI a * zI b = zI (a * b) := (Int32.ofInt_mul a b).symm
theorem zI_neg (a : Int) : -zI a = zI (-a) := (Int32.ofInt_neg a).symm
theorem zI_self (x : Int32) : zI x.toInt = x := Int32.ofInt_toInt x
theorem zI_toInt {z : Int} (h : -2147483648 ≤ z ∧ z < 2147483648) : (zI z).toInt = z := Int32.toInt_ofInt_of_le (by have := h.1; omega) (by have := h.2; omega)
theorem zI_lt {a b : Int} (ha : -2147483648 ≤ a ∧ a < 2147483648) (hb : -2147483648 ≤ b ∧ b < 2147483648) : zI a < zI b ↔ a < b := by
  rw [Int32.lt_iff_toInt_lt, zI_toInt ha, zI_toInt hb]
theorem zI_le {a b : Int} (ha : -2147483648 ≤ a ∧ a < 2147483648) (hb : -2147483648 ≤ b ∧ b < 2147483648) : zI a ≤ zI b ↔ a ≤ b := by
  rw [Int32.le_iff_toInt_le, zI_toInt ha, zI_toInt hb]
theorem zI_eq {a b : Int} (ha : -2147483648 ≤ a ∧ a < 2147483648) (hb : -2147483648 ≤ b ∧ b < 2147483648) : zI a = zI b ↔ a = b := by
  rw [← Int32.toInt_inj, zI_toInt ha, zI_toInt hb]
theorem zI_clamp {z : Int} (h0 : 0 ≤ z) (h1 : z < 2147483648) : (zI z).toNatClampNeg = z.toNat := by
  show (zI z).toInt.toNat = z.toNat
  rw [zI_toInt ⟨by omega, h1⟩]
theorem zI_0 : zI 0 = 0 := by decide +kernel
theorem zI_nneg {z : Int} (h0 : 0 ≤ z) (h1 : z < 2147483648) : ¬ zI z < 0 := by
  rw [← zI_0, zI_lt ⟨by omega, h1⟩ (by omega)]; omega
theorem zI_in {z : Int} {n : Nat} (h0 : 0 ≤ z) (h1 : z < n) (hn : n ≤ 2147483647) : vp_in (zI z) n := by
  intro h
  rcases h with h | h
  · exact zI_nneg h0 (by omega) h
  · rw [zI_clamp h0 (by omega)] at h; omega
theorem zI_rng (x : Int32) : -2147483648 ≤ x.toInt ∧ x.toInt < 2147483648 := ⟨by have := Int32.le_toInt x; omega, by have := Int32.toInt_lt x; omega⟩
theorem zI_tdiv {a b : Int} (ha : 0 ≤ a ∧ a < 2147483648) (hb : 0 < b ∧ b < 2147483648) : zI a / zI b = zI (a / b) := by
  have e1 : (zI a).toInt = a := zI_toInt ⟨by omega, ha.2⟩
  have e2 : (zI b).toInt = b := zI_toInt ⟨by omega, hb.2⟩
  have h : (zI a / zI b).toInt = a / b := by
    rw [Int32.toInt_div_of_ne_right _ _ (by
      intro q
      have q2 := congrArg Int32.toInt q
      rw [e2] at q2
      have q3 : ((-1 : Int32)).toInt = -1 := by decide +kernel
      omega), e1, e2, Int.tdiv_eq_ediv_of_nonneg ha.1]
  have h2 : 0 ≤ a / b ∧ a / b ≤ a := ⟨Int.ediv_nonneg ha.1 (by omega), Int.ediv_le_self _ ha.1⟩
  rw [← zI_self (zI a / zI b), h]
theorem zI_irem {a b : Int} (ha : 0 ≤ a ∧ a < 2147483648) (hb : 0 < b ∧ b < 2147483648) : zI a - zI a / zI b * zI b = zI (a % b) := by
  rw [zI_tdiv ha hb, zI_mul, zI_sub]
  have : a % b = a - a / b * b := by rw [Int.emod_def, Int.mul_comm]
  rw [this]
theorem zI_ne0 {b : Int} (hb : b ≠ 0) (hb2 : -2147483648 ≤ b ∧ b < 2147483648) : ¬ zI b = 0 := by
  rw [← zI_0, zI_eq hb2 (by omega)]; exact hb
/-! states of a region: the rows and the numbers of an object, by the places of its fields -/
def up1 (f : Int → Int) (e v : Int) : Int → Int := fun j => if j = e then v else f j
def upR (S : Nat → Int → Int) (k : Nat) (f : Int → Int) : Nat → Int → Int := fun i => if i = k then f else S i
def up2 (S : Nat → Int → Int) (k : Nat) (e v : Int) : Nat → Int → Int := upR S k (up1 (S k) e v)
theorem up1_eq (f : Int → Int) (e v : Int) : up1 f e v e = v := if_pos rfl
theorem up1_ne {f : Int → Int} {e v j : Int} (h : j ≠ e) : up1 f e v j = f j := if_neg h
theorem upR_eq (S : Nat → Int → Int) (k : Nat) (f : Int → Int) : upR S k f k = f := if_pos rfl
theorem upR_ne {S : Nat → Int → Int} {k i : Nat} {f : Int → Int} (h : i ≠ k) : upR S k f i = S i := if_neg h
theorem upR_self (S : Nat → Int → Int) (k : Nat) : upR S k (S k) = S := by
  funext i
  unfold upR
  split
  · rename_i h; rw [h]
  · rfl
theorem upR_upR (S : Nat → Int → Int) (k : Nat) (f g : Int → Int) : upR (upR S k f) k g = upR S k g := by
  funext i
  unfold upR
  split <;> rfl
theorem up2_eq (S : Nat → Int → Int) (k : Nat) (e v : Int) : up2 S k e v k e = v := by
  unfold up2; rw [upR_eq, up1_eq]
theorem up2_ne {S : Nat → Int → Int} {k : Nat} {e v j : Int} (h : j ≠ e) : up2 S k e v k j = S k j := by
  unfold up2; rw [upR_eq, up1_ne h]
theorem up2_nr {S : Nat → Int → Int} {k i : Nat} {e v : Int} (h : i ≠ k) : up2 S k e v i = S i := by
  unfold up2; rw [upR_ne h]
/-! contracts: the world of the cells before and behind -/
def zPc (D : va_G) (cl : List vw_C) (tys : List (ClassId × FieldType)) (ws : va_W) (av : List Value) : Array Value → State → Prop := va_Pc av (fun U => va_P D cl ws U.heap ∧ va_K D cl tys U)
def zQi (D : va_G) (cl : List vw_C) (ws : va_W) (r : Int) (A : Nat → Prop) : Array Value → State → Outcome → State → Prop := va_Qi (fun (x : Int32) (_ : Unit) => x = zI r) (fun _ t => va_P D cl ws t.heap) A
def zQv (D : va_G) (cl : List vw_C) (ws : va_W) (A : Nat → Prop) : Array Value → State → Outcome → State → Prop := va_Qv (fun _ : Unit => True) (fun _ t => va_P D cl ws t.heap) A
def zQr (D : va_G) (cl : List vw_C) (ws : va_W) (r : Nat) (A : Nat → Prop) : Array Value → State → Outcome → State → Prop := va_Qr (fun _ : Unit => True) (fun _ a t => a = r ∧ va_P D cl ws t.heap) A
theorem zPc_blind (D : va_G) (cl : List vw_C) (tys : List (ClassId × FieldType)) (ws : va_W) (av : List Value) : FrameBlind (zPc D cl tys ws av) :=
  fun a U g mk q => ⟨q.1, q.2.1, va_K.moved (u := U) (U := U.calling g mk a) (Vm.Alike.refl U.vm) q.2.2⟩
section ZR
variable {p : Program} {l : Launch} {e : Env} {R : Room} {s : State} {m : MethodId} {args : Array Value} {below : List Frame} {meth : Method} {c : Code} {H : Heap} {locs : List Loc} {cells slots : Nat} {Q : State → Prop}
variable {cc : ByteArray} {pc : Nat} {ls : Array Slot} {rest : List Value} {D : va_G} {cl : List vw_C} {A : Nat → Prop} {a : Nat} {tys : List (ClassId × FieldType)} {ws : va_W} {H0 : Heap}

theorem z_iconst (hx : p.tables.exec = Jvm.exec) (hb : c.code = cc) {n : Int} (hdg : decode cc pc = .ok (.iconst n, 1)) (k : W p l e R s m args below meth c H locs cells slots Q (F0 m (pc + 1) ls (.int (zI n) :: rest))) : W p l e R s m args below meth c H locs cells slots Q (F0 m pc ls rest) := lv_iconst hx hb hdg rfl k
theorem z_bipush (hx : p.tables.exec = Jvm.exec) (hb : c.code = cc) {n z : Int} (hdg : decode cc pc = .ok (.bipush n, 2)) (hv : (Int8.ofInt n).toInt32 = zI z) (k : W p l e R s m args below meth c H locs cells slots Q (F0 m (pc + 2) ls (.int (zI z) :: rest))) : W p l e R s m args below meth c H locs cells slots Q (F0 m pc ls rest) := lv_bipush hx hb hdg hv k
theorem z_sipush (hx : p.tables.exec = Jvm.exec) (hb : c.code = cc) {n z : Int} (hdg : decode cc pc = .ok (.sipush n, 3)) (hv : (Int16.ofInt n).toInt32 = zI z) (k : W p l e R s m args below meth c H locs cells slots Q (F0 m (pc + 3) ls (.int (zI z) :: rest))) : W p l e R s m args below meth c H locs cells slots Q (F0 m pc ls rest) := lv_sipush hx hb hdg hv k
theorem z_iadd (hx : p.tables.exec = Jvm.exec) (hb : c.code = cc) {x y : Int} (hdg : decode cc pc = .ok (.iadd, 1)) (k : W p l e R s m args below meth c H locs cells slots Q (F0 m (pc + 1) ls (.int (zI (x + y)) :: rest))) : W p l e R s m args below meth c H locs cells slots Q (F0 m pc ls (.int (zI y) :: .int (zI x) :: rest)) := lv_iadd hx hb hdg (by rw [zI_add]; exact k)
theorem z_isub (hx : p.tables.exec = Jvm.exec) (hb : c.code = cc) {x y : Int} (hdg : decode cc pc = .ok (.isub, 1)) (k : W p l e R s m args below meth c H locs cells slots Q (F0 m (pc + 1) ls (.int (zI (x - y)) :: rest))) : W p l e R s m args below meth c H locs cells slots Q (F0 m pc ls (.int (zI y) :: .int (zI x) :: rest)) := lv_isub hx hb hdg (by rw [zI_sub]; exact k)
theorem z_imul (hx : p.tables.exec = Jvm.exec) (hb : c.code = cc) {x y : Int} (hdg : decode cc pc = .ok (.imul, 1)) (k : W p l e R s m args below meth c H locs cells slots Q (F0 m (pc + 1) ls (.int (zI (x * y)) :: rest))) : W p l e R s m args below meth c H locs cells slots Q (F0 m pc ls (.int (zI y) :: .int (zI x) :: rest)) := lv_imul hx hb hdg (by rw [zI_mul]; exact k)
theorem z_ineg (hx : p.tables.exec = Jvm.exec) (hb : c.code = cc) {x : Int} (hdg : decode cc pc = .ok (.ineg, 1)) (k : W p l e R s m args below meth c H locs cells slots Q (F0 m (pc + 1) ls (.int (zI (-x)) :: rest))) : W p l e R s m args below meth c H locs cells slots Q (F0 m pc ls (.int (zI x) :: rest)) := lv_ineg hx hb hdg (by rw [zI_neg]; exact k)
theorem z_idiv (hx : p.tables.exec = Jvm.exec) (hb : c.code = cc) {x y : Int} (hdg : decode cc pc = .ok (.idiv, 1)) (ha : 0 ≤ x ∧ x < 2147483648) (hbb : 0 < y ∧ y < 2147483648) (k : W p l e R s m args below meth c H locs cells slots Q (F0 m (pc + 1) ls (.int (zI (x / y)) :: rest))) : W p l e R s m args below meth c H locs cells slots Q (F0 m pc ls (.int (zI y) :: .int (zI x) :: rest)) := lv_idiv hx hb hdg (zI_ne0 (by omega) (by omega)) (by rw [zI_tdiv ha hbb]; exact k)
theorem z_irem (hx : p.tables.exec = Jvm.exec) (hb : c.code = cc) {x y : Int} (hdg : decode cc pc = .ok (.irem, 1)) (ha : 0 ≤ x ∧ x < 2147483648) (hbb : 0 < y ∧ y < 2147483648) (k : W p l e R s m args below meth c H locs cells slots Q (F0 m (pc + 1) ls (.int (zI (x % y)) :: rest))) : W p l e R s m args below meth c H locs cells slots Q (F0 m pc ls (.int (zI y) :: .int (zI x) :: rest)) := lv_irem hx hb hdg (zI_ne0 (by omega) (by omega)) (by rw [zI_irem ha hbb]; exact k)
theorem z_icmp_lt (hx : p.tables.exec = Jvm.exec) (hb : c.code = cc) {x y : Int} {off : Int} {tgt : Nat} (hdg : decode cc pc = .ok (.if_icmp .lt off, 3)) (ht : (pc : Int) + off = (tgt : Int)) (hp : -2147483648 ≤ x ∧ x < 2147483648) (hq : -2147483648 ≤ y ∧ y < 2147483648) (kt : x < y → W p l e R s m args below meth c H locs cells slots Q (F0 m tgt ls rest)) (kf : ¬ (x < y) → W p l e R s m args below meth c H locs cells slots Q (F0 m (pc + 3) ls rest)) : W p l e R s m args below meth c H locs cells slots Q (F0 m pc ls (.int (zI y) :: .int (zI x) :: rest)) := lv_icmp_lt hx hb hdg ht (fun h => kt ((zI_lt hp hq).mp h)) (fun h => kf (fun h2 => h ((zI_lt hp hq).mpr h2)))
theorem z_icmp_le (hx : p.tables.exec = Jvm.exec) (hb : c.code = cc) {x y : Int} {off : Int} {tgt : Nat} (hdg : decode cc pc = .ok (.if_icmp .le off, 3)) (ht : (pc : Int) + off = (tgt : Int)) (hp : -2147483648 ≤ x ∧ x < 2147483648) (hq : -2147483648 ≤ y ∧ y < 2147483648) (kt : x ≤ y → W p l e R s m args below meth c H locs cells slots Q (F0 m tgt ls rest)) (kf : ¬ (x ≤ y) → W p l e R s m args below meth c H locs cells slots Q (F0 m (pc + 3) ls rest)) : W p l e R s m args below meth c H locs cells slots Q (F0 m pc ls (.int (zI y) :: .int (zI x) :: rest)) := lv_icmp_le hx hb hdg ht (fun h => kt ((zI_le hp hq).mp h)) (fun h => kf (fun h2 => h ((zI_le hp hq).mpr h2)))
theorem z_icmp_gt (hx : p.tables.exec = Jvm.exec) (hb : c.code = cc) {x y : Int} {off : Int} {tgt : Nat} (hdg : decode cc pc = .ok (.if_icmp .gt off, 3)) (ht : (pc : Int) + off = (tgt : Int)) (hp : -2147483648 ≤ x ∧ x < 2147483648) (hq : -2147483648 ≤ y ∧ y < 2147483648) (kt : y < x → W p l e R s m args below meth c H locs cells slots Q (F0 m tgt ls rest)) (kf : ¬ (y < x) → W p l e R s m args below meth c H locs cells slots Q (F0 m (pc + 3) ls rest)) : W p l e R s m args below meth c H locs cells slots Q (F0 m pc ls (.int (zI y) :: .int (zI x) :: rest)) := lv_icmp_gt hx hb hdg ht (fun h => kt ((zI_lt hq hp).mp h)) (fun h => kf (fun h2 => h ((zI_lt hq hp).mpr h2)))
theorem z_icmp_ge (hx : p.tables.exec = Jvm.exec) (hb : c.code = cc) {x y : Int} {off : Int} {tgt : Nat} (hdg : decode cc pc = .ok (.if_icmp .ge off, 3)) (ht : (pc : Int) + off = (tgt : Int)) (hp : -2147483648 ≤ x ∧ x < 2147483648) (hq : -2147483648 ≤ y ∧ y < 2147483648) (kt : y ≤ x → W p l e R s m args below meth c H locs cells slots Q (F0 m tgt ls rest)) (kf : ¬ (y ≤ x) → W p l e R s m args below meth c H locs cells slots Q (F0 m (pc + 3) ls rest)) : W p l e R s m args below meth c H locs cells slots Q (F0 m pc ls (.int (zI y) :: .int (zI x) :: rest)) := lv_icmp_ge hx hb hdg ht (fun h => kt ((zI_le hq hp).mp h)) (fun h => kf (fun h2 => h ((zI_le hq hp).mpr h2)))
theorem z_icmp_eq (hx : p.tables.exec = Jvm.exec) (hb : c.code = cc) {x y : Int} {off : Int} {tgt : Nat} (hdg : decode cc pc = .ok (.if_icmp .eq off, 3)) (ht : (pc : Int) + off = (tgt : Int)) (hp : -2147483648 ≤ x ∧ x < 2147483648) (hq : -2147483648 ≤ y ∧ y < 2147483648) (kt : x = y → W p l e R s m args below meth c H locs cells slots Q (F0 m tgt ls rest)) (kf : ¬ (x = y) → W p l e R s m args below meth c H locs cells slots Q (F0 m (pc + 3) ls rest)) : W p l e R s m args below meth c H locs cells slots Q (F0 m pc ls (.int (zI y) :: .int (zI x) :: rest)) := lv_icmp_eq hx hb hdg ht (fun h => kt ((zI_eq hp hq).mp h)) (fun h => kf (fun h2 => h ((zI_eq hp hq).mpr h2)))
theorem z_icmp_ne (hx : p.tables.exec = Jvm.exec) (hb : c.code = cc) {x y : Int} {off : Int} {tgt : Nat} (hdg : decode cc pc = .ok (.if_icmp .ne off, 3)) (ht : (pc : Int) + off = (tgt : Int)) (hp : -2147483648 ≤ x ∧ x < 2147483648) (hq : -2147483648 ≤ y ∧ y < 2147483648) (kt : x ≠ y → W p l e R s m args below meth c H locs cells slots Q (F0 m tgt ls rest)) (kf : ¬ (x ≠ y) → W p l e R s m args below meth c H locs cells slots Q (F0 m (pc + 3) ls rest)) : W p l e R s m args below meth c H locs cells slots Q (F0 m pc ls (.int (zI y) :: .int (zI x) :: rest)) := lv_icmp_ne hx hb hdg ht (fun h => kt ((not_congr (zI_eq hp hq)).mp h)) (fun h => kf (fun h2 => h2 ((zI_eq hp hq).mp h)))
theorem z_if_lt (hx : p.tables.exec = Jvm.exec) (hb : c.code = cc) {x : Int} {off : Int} {tgt : Nat} (hdg : decode cc pc = .ok (.ifCond .lt off, 3)) (ht : (pc : Int) + off = (tgt : Int)) (hp : -2147483648 ≤ x ∧ x < 2147483648) (kt : x < 0 → W p l e R s m args below meth c H locs cells slots Q (F0 m tgt ls rest)) (kf : ¬ (x < 0) → W p l e R s m args below meth c H locs cells slots Q (F0 m (pc + 3) ls rest)) : W p l e R s m args below meth c H locs cells slots Q (F0 m pc ls (.int (zI x) :: rest)) := by
  have hq : -2147483648 ≤ (0 : Int) ∧ (0 : Int) < 2147483648 := by omega
  have e := zI_lt hp hq
  rw [zI_0] at e
  exact lv_if_lt hx hb hdg ht (fun h => kt (e.mp h)) (fun h => kf (fun h2 => h (e.mpr h2)))
theorem z_if_le (hx : p.tables.exec = Jvm.exec) (hb : c.code = cc) {x : Int} {off : Int} {tgt : Nat} (hdg : decode cc pc = .ok (.ifCond .le off, 3)) (ht : (pc : Int) + off = (tgt : Int)) (hp : -2147483648 ≤ x ∧ x < 2147483648) (kt : x ≤ 0 → W p l e R s m args below meth c H locs cells slots Q (F0 m tgt ls rest)) (kf : ¬ (x ≤ 0) → W p l e R s m args below meth c H locs cells slots Q (F0 m (pc + 3) ls rest)) : W p l e R s m args below meth c H locs cells slots Q (F0 m pc ls (.int (zI x) :: rest)) := by
  have hq : -2147483648 ≤ (0 : Int) ∧ (0 : Int) < 2147483648 := by omega
  have e := zI_le hp hq
  rw [zI_0] at e
  exact lv_if_le hx hb hdg ht (fun h => kt (e.mp h)) (fun h => kf (fun h2 => h (e.mpr h2)))
theorem z_if_gt (hx : p.tables.exec = Jvm.exec) (hb : c.code = cc) {x : Int} {off : Int} {tgt : Nat} (hdg : decode cc pc = .ok (.ifCond .gt off, 3)) (ht : (pc : Int) + off = (tgt : Int)) (hp : -2147483648 ≤ x ∧ x < 2147483648) (kt : 0 < x → W p l e R s m args below meth c H locs cells slots Q (F0 m tgt ls rest)) (kf : ¬ (0 < x) → W p l e R s m args below meth c H locs cells slots Q (F0 m (pc + 3) ls rest)) : W p l e R s m args below meth c H locs cells slots Q (F0 m pc ls (.int (zI x) :: rest)) := by
  have hq : -2147483648 ≤ (0 : Int) ∧ (0 : Int) < 2147483648 := by omega
  have e := zI_lt hq hp
  rw [zI_0] at e
  exact lv_if_gt hx hb hdg ht (fun h => kt (e.mp h)) (fun h => kf (fun h2 => h (e.mpr h2)))
theorem z_if_ge (hx : p.tables.exec = Jvm.exec) (hb : c.code = cc) {x : Int} {off : Int} {tgt : Nat} (hdg : decode cc pc = .ok (.ifCond .ge off, 3)) (ht : (pc : Int) + off = (tgt : Int)) (hp : -2147483648 ≤ x ∧ x < 2147483648) (kt : 0 ≤ x → W p l e R s m args below meth c H locs cells slots Q (F0 m tgt ls rest)) (kf : ¬ (0 ≤ x) → W p l e R s m args below meth c H locs cells slots Q (F0 m (pc + 3) ls rest)) : W p l e R s m args below meth c H locs cells slots Q (F0 m pc ls (.int (zI x) :: rest)) := by
  have hq : -2147483648 ≤ (0 : Int) ∧ (0 : Int) < 2147483648 := by omega
  have e := zI_le hq hp
  rw [zI_0] at e
  exact lv_if_ge hx hb hdg ht (fun h => kt (e.mp h)) (fun h => kf (fun h2 => h (e.mpr h2)))
theorem z_if_eq (hx : p.tables.exec = Jvm.exec) (hb : c.code = cc) {x : Int} {off : Int} {tgt : Nat} (hdg : decode cc pc = .ok (.ifCond .eq off, 3)) (ht : (pc : Int) + off = (tgt : Int)) (hp : -2147483648 ≤ x ∧ x < 2147483648) (kt : x = 0 → W p l e R s m args below meth c H locs cells slots Q (F0 m tgt ls rest)) (kf : ¬ (x = 0) → W p l e R s m args below meth c H locs cells slots Q (F0 m (pc + 3) ls rest)) : W p l e R s m args below meth c H locs cells slots Q (F0 m pc ls (.int (zI x) :: rest)) := by
  have hq : -2147483648 ≤ (0 : Int) ∧ (0 : Int) < 2147483648 := by omega
  have e := zI_eq hp hq
  rw [zI_0] at e
  exact lv_if_eq hx hb hdg ht (fun h => kt (e.mp h)) (fun h => kf (fun h2 => h (e.mpr h2)))
theorem z_if_ne (hx : p.tables.exec = Jvm.exec) (hb : c.code = cc) {x : Int} {off : Int} {tgt : Nat} (hdg : decode cc pc = .ok (.ifCond .ne off, 3)) (ht : (pc : Int) + off = (tgt : Int)) (hp : -2147483648 ≤ x ∧ x < 2147483648) (kt : x ≠ 0 → W p l e R s m args below meth c H locs cells slots Q (F0 m tgt ls rest)) (kf : ¬ (x ≠ 0) → W p l e R s m args below meth c H locs cells slots Q (F0 m (pc + 3) ls rest)) : W p l e R s m args below meth c H locs cells slots Q (F0 m pc ls (.int (zI x) :: rest)) := by
  have hq : -2147483648 ≤ (0 : Int) ∧ (0 : Int) < 2147483648 := by omega
  have e := not_congr (zI_eq hp hq)
  rw [zI_0] at e
  exact lv_if_ne hx hb hdg ht (fun h => kt (e.mp h)) (fun h => kf (fun h2 => h2 (by rw [← zI_0] at h; exact (zI_eq hp hq).mp h)))
theorem z_iinc (hx : p.tables.exec = Jvm.exec) (hb : c.code = cc) {i nL k : Nat} {n x : Int} {lv lv' : List (Nat × Value)} (hdg : decode cc pc = .ok (.iinc i n, 3)) (h : lv_has ls nL lv) (hk : lv[k]? = some (i, .int (zI x))) (hn : i < nL) (hl : (i, Value.int (zI (x + n))) :: lv.filter (fun q => !(q.1 == i) && !(q.1 + 1 == i && q.2.category == 2)) = lv') (kk : ∀ ls' : Array Slot, lv_has ls' nL lv' → W p l e R s m args below meth c H locs cells slots Q (F0 m (pc + 3) ls' rest)) : W p l e R s m args below meth c H locs cells slots Q (F0 m pc ls rest) := lv_iinc hx hb hdg h hk (by show zI x + zI n = _; rw [zI_add]) hn hl kk
theorem z_iald (hx : p.tables.exec = Jvm.exec) (hb : c.code = cc) (hK : va_K D cl tys s) (hP : va_P D cl ws H) (q0 t0 : Nat) {cA : ClassId} {n : Nat} {f : Int → Int} (ha : ws[q0]? = some (a, .inl (cA, n, .inl (fun j : Nat => zI (f (j : Int)))))) (ht : tys[t0]? = some (cA, .int)) {i : Int} (h0 : 0 ≤ i ∧ i < (n : Int)) (hn : n ≤ 2147483647) (hdg : decode cc pc = .ok (.iaload, 1)) (kk : W p l e R s m args below meth c H locs cells slots Q (F0 m (pc + 1) ls (.int (zI (f i)) :: rest))) : W p l e R s m args below meth c H locs cells slots Q (F0 m pc ls (.int (zI i) :: .ref a :: rest)) := by
  refine va_iald hx hb hK hP q0 t0 ha ht (zI_in h0.1 h0.2 hn) hdg ?_
  have e9 : ((zI i).toNatClampNeg : Int) = i := by rw [zI_clamp h0.1 (by omega)]; omega
  show W p l e R s m args below meth c H locs cells slots Q (F0 m (pc + 1) ls (.int (zI (f ((zI i).toNatClampNeg : Int))) :: rest))
  rw [e9]
  exact kk
theorem z_iast (hx : p.tables.exec = Jvm.exec) (hb : c.code = cc) (hK : va_K D cl tys s) {T : (Nat → Int → Int) → va_W} {S : Nat → Int → Int} (hP : va_P D cl (T S) H) (hD : ∀ S, va_D A (T S)) (hS : va_S A H0 H locs) (q0 t0 k : Nat) {cA : ClassId} {n : Nat} (ha : (T S)[q0]? = some (a, .inl (cA, n, .inl (fun j : Nat => zI (S k (j : Int)))))) (ht : tys[t0]? = some (cA, .int)) {i x : Int} (h0 : 0 ≤ i ∧ i < (n : Int)) (hn : n ≤ 2147483647) (hset : (T S).set q0 (a, .inl (cA, n, .inl (fun j : Nat => zI (if (j : Int) = i then x else S k (j : Int))))) = T (up2 S k i x)) (hdg : decode cc pc = .ok (.iastore, 1)) (kk : ∀ (H1 : Heap) (locs1 : List Loc), va_P D cl (T (up2 S k i x)) H1 → va_S A H0 H1 locs1 → W p l e R s m args below meth c H1 locs1 cells slots Q (F0 m (pc + 1) ls rest)) : W p l e R s m args below meth c H locs cells slots Q (F0 m pc ls (.int (zI x) :: .int (zI i) :: .ref a :: rest)) := by
  refine va_iast hx hb hK hP (hD S) hS q0 t0 ha ht (zI_in h0.1 h0.2 hn) hdg (fun H1 locs1 hP1 _ hS1 => ?_)
  refine kk H1 locs1 ?_ hS1
  have e9 : upd (fun j : Nat => zI (S k (j : Int))) (zI i).toNatClampNeg (zI x) = (fun j : Nat => zI (if (j : Int) = i then x else S k (j : Int))) := by
    funext j
    unfold upd
    rw [zI_clamp h0.1 (by omega)]
    by_cases hj : j = i.toNat
    · rw [if_pos hj, if_pos (by omega)]
    · rw [if_neg hj, if_neg (by omega)]
  rw [e9, hset] at hP1
  exact hP1
theorem z_tabOut (hx : p.tables.exec = Jvm.exec) (hb : c.code = cc) {dflt lo hi : Int} {offs : Array Int} {len : Nat} {x : Int} {tgt : Nat} (hdg : decode cc pc = .ok (.tableswitch dflt lo hi offs, len)) (hr : -2147483648 ≤ x ∧ x < 2147483648) (h : x < lo ∨ hi < x) (ht : (pc : Int) + dflt = (tgt : Int)) (k : W p l e R s m args below meth c H locs cells slots Q (F0 m tgt ls rest)) : W p l e R s m args below meth c H locs cells slots Q (F0 m pc ls (.int (zI x) :: rest)) := lv_tableOut hx hb hdg (by rw [zI_toInt hr]; exact h) ht k
theorem z_tabIn (hx : p.tables.exec = Jvm.exec) (hb : c.code = cc) {dflt lo hi : Int} {offs : Array Int} {len : Nat} {x : Int} {off : Int} {tgt : Nat} (v : Nat) (hdg : decode cc pc = .ok (.tableswitch dflt lo hi offs, len)) (hr : -2147483648 ≤ x ∧ x < 2147483648) (hv : x = lo + (v : Int)) (h1 : lo ≤ x) (h2 : x ≤ hi) (ho : offs[v]? = some off) (ht : (pc : Int) + off = (tgt : Int)) (k : W p l e R s m args below meth c H locs cells slots Q (F0 m tgt ls rest)) : W p l e R s m args below meth c H locs cells slots Q (F0 m pc ls (.int (zI x) :: rest)) := by
  refine lv_tableIn hx hb hdg (by rw [zI_toInt hr]; omega) (by rw [zI_toInt hr]; omega) (off := off) ?_ ht k
  rw [zI_toInt hr, hv]
  have e : (lo + (v : Int) - lo).toNat = v := by omega
  rw [e]
  exact ho
theorem z_lookup (hx : p.tables.exec = Jvm.exec) (hb : c.code = cc) {dflt : Int} {ps : Array (Int × Int)} {len : Nat} {x : Int} {off : Int} {tgt : Nat} (hdg : decode cc pc = .ok (.lookupswitch dflt ps, len)) (hp : (ps.toList.zip (ps.toList.drop 1)).all (fun (a, next) => a.1 < next.1) = true) (hr : -2147483648 ≤ x ∧ x < 2147483648) (ho : Op.lookupswitch.offset ps.toList dflt x = off) (ht : (pc : Int) + off = (tgt : Int)) (k : W p l e R s m args below meth c H locs cells slots Q (F0 m tgt ls rest)) : W p l e R s m args below meth c H locs cells slots Q (F0 m pc ls (.int (zI x) :: rest)) := lv_lookup hx hb hdg hp (by rw [zI_toInt hr]; exact ho) ht k
theorem z_iret (hx : p.tables.exec = Jvm.exec) (hb : c.code = cc) (hr : meth.sig.returnType = some .int) (hlk : meth.locks = false) {w w' : va_W} {v r : Int} (hP : va_P D cl w H) (hS : va_S A s.heap H locs) (hdg : decode cc pc = .ok (.ireturn, 1)) (ev : v = r) (ew : w = w') : W p l e R s m args below meth c H locs cells slots (MQ below (zQi D cl w' r A) args s cells slots A) (F0 m pc ls [.int (zI v)]) := by
  subst ev; subst ew
  exact W.iret hx hb hr (fun t ht hW => ⟨⟨_, (), rfl, rfl, by show va_P D cl _ t.heap; rw [ht]; exact hP⟩, hS.F ht⟩) hS.2.2 hdg hlk
theorem z_nar1 {v : Int} (h : v = 0 ∨ v = 1) : narrow .boolean (.int (zI v)) = .int (zI v) := by
  rcases h with rfl | rfl <;> decide +kernel
theorem z_zret (hx : p.tables.exec = Jvm.exec) (hb : c.code = cc) (hr : meth.sig.returnType = some .boolean) (hlk : meth.locks = false) {w w' : va_W} {v r : Int} (hP : va_P D cl w H) (hS : va_S A s.heap H locs) (hdg : decode cc pc = .ok (.ireturn, 1)) (hv : v = 0 ∨ v = 1) (ev : v = r) (ew : w = w') : W p l e R s m args below meth c H locs cells slots (MQ below (zQi D cl w' r A) args s cells slots A) (F0 m pc ls [.int (zI v)]) := by
  subst ev; subst ew
  exact W.zret hx hb hr (z_nar1 hv) (fun t ht hW => ⟨⟨_, (), rfl, rfl, by show va_P D cl _ t.heap; rw [ht]; exact hP⟩, hS.F ht⟩) hS.2.2 hdg hlk
theorem z_vret (hx : p.tables.exec = Jvm.exec) (hb : c.code = cc) (hr : meth.sig.returnType = none) (hlk : meth.locks = false) {w w' : va_W} (hP : va_P D cl w H) (hS : va_S A s.heap H locs) (hdg : decode cc pc = .ok (.return_, 1)) (ew : w = w') : W p l e R s m args below meth c H locs cells slots (MQ below (zQv D cl w' A) args s cells slots A) (F0 m pc ls []) := by
  subst ew
  exact W.vret hx hb hr (fun t ht hW => ⟨⟨(), rfl, trivial, by show va_P D cl _ t.heap; rw [ht]; exact hP⟩, hS.F ht⟩) hS.2.2 hdg hlk
theorem z_aret (hx : p.tables.exec = Jvm.exec) (hb : c.code = cc) {cn : String} (hr : meth.sig.returnType = some (.object cn)) (hlk : meth.locks = false) {w w' : va_W} {v r : Nat} (hP : va_P D cl w H) (hS : va_S A s.heap H locs) (hdg : decode cc pc = .ok (.areturn, 1)) (ev : v = r) (ew : w = w') : W p l e R s m args below meth c H locs cells slots (MQ below (zQr D cl w' r A) args s cells slots A) (F0 m pc ls [.ref v]) := by
  subst ev; subst ew
  exact W.aret hx hb hr (Or.inl ⟨_, rfl⟩) (Or.inr ⟨_, rfl⟩) (fun t ht hW => ⟨⟨(), _, rfl, trivial, rfl, by show va_P D cl _ t.heap; rw [ht]; exact hP⟩, hS.F ht⟩) hS.2.2 hdg hlk

theorem z_calli {mc ms : Nat} {st0 : List Value} {w2 : va_W} {r : Int} {A1 : Nat → Prop} {av : Array Value} (hr : va_Run p l e R s m args below meth c H locs cells slots mc ms (F0 m pc ls st0) rest (zQi D cl w2 r A1 av) A1) (hS : va_S A H0 H locs) (hA : ∀ q, A1 q → A q)
    (kk : ∀ (H1 : Heap) (locs1 : List Loc), va_P D cl w2 H1 → va_S A H0 H1 locs1 → H.size ≤ H1.size → (∀ q : Nat, q < H.size → ¬ A1 q → H1[q]? = H[q]?) → W p l e R s m args below meth c H1 locs1 (cells + mc) (slots + ms) Q (F0 m (pc + 3) ls (.int (zI r) :: rest))) : W p l e R s m args below meth c H locs cells slots Q (F0 m pc ls st0) := by
  refine va_calli hr hS (fun q _ h => hA q h) hA (fun rv u t H1 locs1 ht hvm hw hB hz hk hS1 => ?_)
  subst hw
  rw [ht] at hB
  exact kk H1 locs1 hB hS1 hz hk
theorem z_callv {mc ms : Nat} {st0 : List Value} {w2 : va_W} {A1 : Nat → Prop} {av : Array Value} (hr : va_Run p l e R s m args below meth c H locs cells slots mc ms (F0 m pc ls st0) rest (zQv D cl w2 A1 av) A1) (hS : va_S A H0 H locs) (hA : ∀ q, A1 q → A q)
    (kk : ∀ (H1 : Heap) (locs1 : List Loc), va_P D cl w2 H1 → va_S A H0 H1 locs1 → H.size ≤ H1.size → (∀ q : Nat, q < H.size → ¬ A1 q → H1[q]? = H[q]?) → W p l e R s m args below meth c H1 locs1 (cells + mc) (slots + ms) Q (F0 m (pc + 3) ls (rest))) : W p l e R s m args below meth c H locs cells slots Q (F0 m pc ls st0) := by
  refine va_callv hr hS (fun q _ h => hA q h) hA (fun u t H1 locs1 ht hvm hw hB hz hk hS1 => ?_)
  clear hw
  rw [ht] at hB
  exact kk H1 locs1 hB hS1 hz hk
theorem z_callr {mc ms : Nat} {st0 : List Value} {w2 : va_W} {r : Nat} {A1 : Nat → Prop} {av : Array Value} (hr : va_Run p l e R s m args below meth c H locs cells slots mc ms (F0 m pc ls st0) rest (zQr D cl w2 r A1 av) A1) (hS : va_S A H0 H locs) (hA : ∀ q, A1 q → A q)
    (kk : ∀ (H1 : Heap) (locs1 : List Loc), va_P D cl w2 H1 → va_S A H0 H1 locs1 → H.size ≤ H1.size → (∀ q : Nat, q < H.size → ¬ A1 q → H1[q]? = H[q]?) → W p l e R s m args below meth c H1 locs1 (cells + mc) (slots + ms) Q (F0 m (pc + 3) ls (.ref r :: rest))) : W p l e R s m args below meth c H locs cells slots Q (F0 m pc ls st0) := by
  refine va_callr hr hS (fun q _ h => hA q h) hA (fun u ra t H1 locs1 ht hvm hw hB hz hk hS1 => ?_)
  obtain ⟨rfl, hB⟩ := hB
  rw [ht] at hB
  exact kk H1 locs1 hB hS1 hz hk
/-- what a call of an instance method asks for of its receiver and its start -/
theorem z_preV {w : va_W} {b q0 ci : Nat} {q : vw_C} {fs As : List Value} {C : String} (hK : va_K D cl tys s) (hP : va_P D cl w H) (hc : cl[ci]? = some q) (he : w[q0]? = some (b, .inr (ci, fs))) (hq : q.1 = C) : PreV s H C b (zPc D cl tys w (.ref b :: As)) As := by
  subst hq
  exact ⟨zPc_blind _ _ _ _ _, va_recv hK hP hc he, fun U hU hW => ⟨rfl, by rw [hU]; exact hP, va_K.moved hW.alike hK⟩⟩
theorem z_preS {w : va_W} {As : List Value} (hK : va_K D cl tys s) (hP : va_P D cl w H) : PreS s H (zPc D cl tys w As) As :=
  ⟨zPc_blind _ _ _ _ _, fun U hU hW => ⟨rfl, by rw [hU]; exact hP, va_K.moved hW.alike hK⟩⟩
theorem z_kept {w : va_W} {A1 : Nat → Prop} {H1 : Heap} (hP : va_P D cl w H) (hk : ∀ q : Nat, q < H.size → ¬ A1 q → H1[q]? = H[q]?) (hn : ∀ (k : Nat) (q : Nat × va_E), w[k]? = some q → ¬ A1 q.1) : va_P D cl w H1 := hP.kept (fun k q hq => hk q.1 (hP k q hq).lt (hn k q hq))
end ZR
