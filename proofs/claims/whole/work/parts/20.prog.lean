/-! the class's program: its methods -/
def adC (S : Nat → Int → Int) (sg : Int) : Nat → Int → Int := if S 1 0 < 80 then up2 (up2 S 0 (S 1 0) sg) 1 0 (S 1 0 + 1) else S
def mkC (S : Nat → Int → Int) : Nat → Int → Int := up2 S 1 0 0
def lsF (S : Nat → Int → Int) (k : Int) : Int := if 0 ≤ k ∧ k < S 4 0 then S 3 k else 0
def unC (S : Nat → Int → Int) : Nat → Int → Int := (unF 80 (un0 S)).1
theorem acP_r {S : Nat → Int → Int} (h : sgP S = 114) : acP S ↔ (rnP (ac0 S) (S 8 0) 0 44 ∧ rnP (rnC (ac0 S) (S 8 0) 0 44) (S 8 0) 1 59) := by unfold acP; rw [if_pos h]
theorem acP_w {S : Nat → Int → Int} (h : sgP S = 119) : acP S ↔ (rnP (ac0 S) (S 8 0) 0 44 ∧ rnP (rnC (ac0 S) (S 8 0) 0 44) (S 8 0) 1 61 ∧ rnP (rnC (rnC (ac0 S) (S 8 0) 0 44) (S 8 0) 1 61) (S 8 0) 2 59) := by unfold acP; rw [if_neg (by omega), if_pos h]
theorem acP_t {S : Nat → Int → Int} (h : sgP S = 116) : acP S ↔ rnP (ac0 S) (S 8 0) 0 59 := by unfold acP; rw [if_neg (by omega), if_neg (by omega), if_pos h]
theorem acP_x {S : Nat → Int → Int} (h : sgP S = 120) : acP S ↔ sgP (ac0 S) = 59 := by unfold acP; rw [if_neg (by omega), if_neg (by omega), if_neg (by omega), if_pos h]
theorem acP_n {S : Nat → Int → Int} (h : sgP S ≠ 114 ∧ sgP S ≠ 119 ∧ sgP S ≠ 116 ∧ sgP S ≠ 120) : ¬ acP S := by unfold acP; rw [if_neg (by omega), if_neg (by omega), if_neg (by omega), if_neg (by omega)]; exact fun q => q
theorem acC_r {S : Nat → Int → Int} (h : sgP S = 114) : acC S = (if rnP (ac0 S) (S 8 0) 0 44 then (rnC (rnC (ac0 S) (S 8 0) 0 44) (S 8 0) 1 59) else (rnC (ac0 S) (S 8 0) 0 44)) := by unfold acC; rw [if_pos h]
theorem acC_w {S : Nat → Int → Int} (h : sgP S = 119) : acC S = (if rnP (ac0 S) (S 8 0) 0 44 then (if rnP (rnC (ac0 S) (S 8 0) 0 44) (S 8 0) 1 61 then (rnC (rnC (rnC (ac0 S) (S 8 0) 0 44) (S 8 0) 1 61) (S 8 0) 2 59) else (rnC (rnC (ac0 S) (S 8 0) 0 44) (S 8 0) 1 61)) else (rnC (ac0 S) (S 8 0) 0 44)) := by unfold acC; rw [if_neg (by omega), if_pos h]
theorem acC_t {S : Nat → Int → Int} (h : sgP S = 116) : acC S = (rnC (ac0 S) (S 8 0) 0 59) := by unfold acC; rw [if_neg (by omega), if_neg (by omega), if_pos h]
theorem acC_x {S : Nat → Int → Int} (h : sgP S = 120) : acC S = rsC (ac0 S) 59 := by unfold acC; rw [if_neg (by omega), if_neg (by omega), if_neg (by omega), if_pos h]
theorem acC_n {S : Nat → Int → Int} (h : sgP S ≠ 114 ∧ sgP S ≠ 119 ∧ sgP S ≠ 116 ∧ sgP S ≠ 120) : acC S = S := by unfold acC; rw [if_neg (by omega), if_neg (by omega), if_neg (by omega), if_neg (by omega)]
theorem op1_c (S : Nat → Int → Int) : (sgP S = 40 ∧ op1 S = S) ∨ (sgP S ≠ 40 ∧ op1 S = up2 S 8 0 (S 8 0 + 1)) := by
  by_cases q : sgP S = 40
  · exact Or.inl ⟨q, if_pos q⟩
  · exact Or.inr ⟨q, if_neg q⟩
theorem inF_end {n k : Int} (S : Nat → Int → Int) (h : n - k ≤ 0) : inF (n - k).toNat S k = S := by
  rw [show (n - k).toNat = 0 from by omega, inF]
theorem in_go {n k : Int} (S : Nat → Int → Int) (le : Int) (h : k < n) (e : S 3 k = le := by rfl) : inF (n - k).toNat S k = inF (n - (k + 1)).toNat (asC S le) (k + 1) := by
  rw [show (n - k).toNat = (n - (k + 1)).toNat + 1 from by omega, inF, e]
theorem pieP_op {S : Nat → Int → Int} (h : sgP S = 40 ∨ (50 ≤ sgP S ∧ sgP S ≤ 57)) : pieP S ↔ opP S := by unfold pieP; rw [if_pos h]
theorem pieP_cl {S : Nat → Int → Int} (h : sgP S = 41) : pieP S ↔ S 7 0 ≠ 0 := by unfold pieP; rw [if_neg (by omega), if_pos h]
theorem pieP_ac {S : Nat → Int → Int} (h : ¬ (sgP S = 40 ∨ (50 ≤ sgP S ∧ sgP S ≤ 57))) (h2 : sgP S ≠ 41) : pieP S ↔ acP S := by unfold pieP; rw [if_neg h, if_neg h2]
theorem pieC_op {S : Nat → Int → Int} (h : sgP S = 40 ∨ (50 ≤ sgP S ∧ sgP S ≤ 57)) : pieC S = opC S := by unfold pieC; rw [if_pos h]
theorem pieC_cl {S : Nat → Int → Int} (h : sgP S = 41) : pieC S = clC S := by unfold pieC; rw [if_neg (by omega), if_pos h]
theorem pieC_ac {S : Nat → Int → Int} (h : ¬ (sgP S = 40 ∨ (50 ≤ sgP S ∧ sgP S ≤ 57))) (h2 : sgP S ≠ 41) : pieC S = acC S := by unfold pieC; rw [if_neg h, if_neg h2]
theorem un_end {n : Int} {S : Nat → Int → Int} (h : n ≤ 0 ∨ S 1 0 ≤ S 8 0) : unF n.toNat S = (S, decide (S 7 0 = 0)) := by
  by_cases q : n ≤ 0
  · rw [show n.toNat = 0 from by omega, unF]
  · rw [show n.toNat = (n - 1).toNat + 1 from by omega, unF, if_neg (by omega)]
theorem un_no {n : Int} {S : Nat → Int → Int} (h : 0 < n) (h2 : S 8 0 < S 1 0) (h3 : ¬ pieP S) : unF n.toNat S = (pieC S, false) := by
  rw [show n.toNat = (n - 1).toNat + 1 from by omega, unF, if_pos h2, if_neg h3]
theorem un_go {n : Int} {S : Nat → Int → Int} (h : 0 < n) (h2 : S 8 0 < S 1 0) (h3 : pieP S) : unF n.toNat S = unF (n - 1).toNat (pieC S) := by
  rw [show n.toNat = (n - 1).toNat + 1 from by omega, unF, if_pos h2, if_pos h3]

theorem in_X2_length : ∀ w ∈ wsX20, w ∈ wsX2_length := fun w h => List.mem_cons_of_mem _ (List.mem_append_right _ h)
set_option maxHeartbeats 4000000 in
set_option maxRecDepth 100000 in
theorem k_X2_length (l : Launch) (dC : Nat → ClassId) (dI : Nat → Nat → Nat) (cI cQ : ClassId) (A : Nat → Prop) (ad : Nat → Nat) (S : Nat → Int → Int) (hD : ∀ S, va_D A (tW_X2 ad cI S)) : Met l yX2_length wsX2_length ({ frames := 0, cells := 0, slots := 0, locals := 0 }) (zPc (dC, dI) vwCl (zT cI cQ) (tW_X2 ad cI S) [.ref (ad 0)]) (zQi (dC, dI) vwCl (tW_X2 ad cI S) (S 1 0) A) 0 0 A := by
  refine Met.ofW (cc := cX2_length) (maxL := 1) (ret := (some .int)) (by decide) rfl ?_
  intro p e s m args below meth c s₁ B hml hv
  obtain ⟨rfl, hP, hK⟩ := hv
  have hx := B.exec
  have hb := B.bytes
  have hr := B.returns
  have hts := atoms_spec (ws := wsX2_length) B.pre
  have hown : s.vm.findClass RX2 = some m.cls := findClass_of_methodNamed B.named
  have hlk := B.notSynchronized
  have hS : va_S A s.heap s.heap [] := va_S.rf
  have hl := lv_entry ([.ref (ad 0)]) (n := 1) (Nat.le_of_ble_eq_true rfl)
  rw [lg_entry_eq]
  generalize (lg_sl ([.ref (ad 0)]) ++ List.replicate (1 - (lg_sl ([.ref (ad 0)])).length) Slot.unset).toArray = ls at hl ⊢
  have hl : lv_has ls 1 [(0, .ref (ad 0))] := hl
  have hin : ∀ w ∈ wsX20, w ∈ wsX2_length := in_X2_length
  refine lv_aload_n hx hb dX2_length_0 rfl (lv_at hl 0 rfl) ?_
  refine gx_X2_1 hx hb hts hin hown hK hP (hts _ (List.mem_of_getElem? (i := 1) rfl)) dX2_length_1 ?_
  exact z_iret hx hb hr hlk hP hS dX2_length_4 rfl rfl
theorem in_X2_isFull : ∀ w ∈ wsX20, w ∈ wsX2_isFull := fun w h => List.mem_cons_of_mem _ (List.mem_append_right _ h)
set_option maxHeartbeats 4000000 in
set_option maxRecDepth 100000 in
theorem k_X2_isFull (l : Launch) (dC : Nat → ClassId) (dI : Nat → Nat → Nat) (cI cQ : ClassId) (A : Nat → Prop) (ad : Nat → Nat) (S : Nat → Int → Int) (hD : ∀ S, va_D A (tW_X2 ad cI S)) (h1 : 0 ≤ S 1 0 ∧ S 1 0 ≤ 80) : Met l yX2_isFull wsX2_isFull ({ frames := 0, cells := 0, slots := 0, locals := 0 }) (zPc (dC, dI) vwCl (zT cI cQ) (tW_X2 ad cI S) [.ref (ad 0)]) (zQi (dC, dI) vwCl (tW_X2 ad cI S) (if 80 ≤ S 1 0 then 1 else 0) A) 0 0 A := by
  refine Met.ofW (cc := cX2_isFull) (maxL := 1) (ret := (some .boolean)) (by decide) rfl ?_
  intro p e s m args below meth c s₁ B hml hv
  obtain ⟨rfl, hP, hK⟩ := hv
  have hx := B.exec
  have hb := B.bytes
  have hr := B.returns
  have hts := atoms_spec (ws := wsX2_isFull) B.pre
  have hown : s.vm.findClass RX2 = some m.cls := findClass_of_methodNamed B.named
  have hlk := B.notSynchronized
  have hS : va_S A s.heap s.heap [] := va_S.rf
  have hl := lv_entry ([.ref (ad 0)]) (n := 1) (Nat.le_of_ble_eq_true rfl)
  rw [lg_entry_eq]
  generalize (lg_sl ([.ref (ad 0)]) ++ List.replicate (1 - (lg_sl ([.ref (ad 0)])).length) Slot.unset).toArray = ls at hl ⊢
  have hl : lv_has ls 1 [(0, .ref (ad 0))] := hl
  have hin : ∀ w ∈ wsX20, w ∈ wsX2_isFull := in_X2_isFull
  refine lv_aload_n hx hb dX2_isFull_0 rfl (lv_at hl 0 rfl) ?_
  refine gx_X2_1 hx hb hts hin hown hK hP (hts _ (List.mem_of_getElem? (i := 1) rfl)) dX2_isFull_1 ?_
  refine z_bipush (z := 80) hx hb dX2_isFull_4 (by decide +kernel) ?_
  refine z_icmp_lt (tgt := 13) hx hb dX2_isFull_6 (by decide) (by omega) (by omega) (fun c1 => ?_) (fun c1 => ?_)
  · refine z_iconst hx hb dX2_isFull_13 ?_
    exact z_zret hx hb hr hlk hP hS dX2_isFull_14 (by omega) (by first | rw [if_pos (by omega)] | rw [if_neg (by omega)]) rfl
  · refine z_iconst hx hb dX2_isFull_9 ?_
    refine lv_goto (tgt := 14) hx hb dX2_isFull_10 (by decide) ?_
    exact z_zret hx hb hr hlk hP hS dX2_isFull_14 (by omega) (by first | rw [if_pos (by omega)] | rw [if_neg (by omega)]) rfl
theorem in_X2_addSign : ∀ w ∈ wsX20, w ∈ wsX2_addSign := fun w h => List.mem_cons_of_mem _ (List.mem_append_right _ h)
set_option maxHeartbeats 4000000 in
set_option maxRecDepth 100000 in
theorem k_X2_addSign (l : Launch) (dC : Nat → ClassId) (dI : Nat → Nat → Nat) (cI cQ : ClassId) (A : Nat → Prop) (ad : Nat → Nat) (S : Nat → Int → Int) (hD : ∀ S, va_D A (tW_X2 ad cI S)) (sg : Int) (h1 : 0 ≤ S 1 0 ∧ S 1 0 ≤ 80) : Met l yX2_addSign wsX2_addSign ({ frames := 1, cells := 0, slots := 0, locals := 20 }) (zPc (dC, dI) vwCl (zT cI cQ) (tW_X2 ad cI S) [.ref (ad 0), .int (zI sg)]) (zQv (dC, dI) vwCl (tW_X2 ad cI (adC S sg)) A) 0 0 A := by
  refine Met.ofW (cc := cX2_addSign) (maxL := 2) (ret := none) (by decide) rfl ?_
  intro p e s m args below meth c s₁ B hml hv
  obtain ⟨rfl, hP, hK⟩ := hv
  have hx := B.exec
  have hb := B.bytes
  have hr := B.returns
  have hts := atoms_spec (ws := wsX2_addSign) B.pre
  have hown : s.vm.findClass RX2 = some m.cls := findClass_of_methodNamed B.named
  have hlk := B.notSynchronized
  have hS : va_S A s.heap s.heap [] := va_S.rf
  have hl := lv_entry ([.ref (ad 0), .int (zI sg)]) (n := 2) (Nat.le_of_ble_eq_true rfl)
  rw [lg_entry_eq]
  generalize (lg_sl ([.ref (ad 0), .int (zI sg)]) ++ List.replicate (2 - (lg_sl ([.ref (ad 0), .int (zI sg)])).length) Slot.unset).toArray = ls at hl ⊢
  have hl : lv_has ls 2 [(0, .ref (ad 0)), (1, .int (zI sg))] := hl
  have hin : ∀ w ∈ wsX20, w ∈ wsX2_addSign := in_X2_addSign
  refine lv_aload_n hx hb dX2_addSign_0 rfl (lv_at hl 0 rfl) ?_
  refine z_calli (va_runV (As := []) (rest := []) ⟨hx, hb, hml, hown, hts⟩ (k_X2_isFull l dC dI cI cQ A ad S hD (by omega)) (cwV 0 hts gX2_addSign_X2_isFull rfl rfl rfl (by decide +kernel) ⟨Nat.le_of_ble_eq_true rfl, Nat.le_of_ble_eq_true rfl⟩) (z_preV hK hP (ci := 2) (q0 := 0) rfl rfl rfl) rfl rfl hl.1 rfl (lv_room (Nat.le_of_ble_eq_true rfl)) dX2_addSign_1 ⟨Nat.zero_le _, Nat.zero_le _⟩) hS (fun _ h => h) (fun H locs hP hS _ _ => ?_)
  refine z_ifb_ne (tgt := 27) hx hb dX2_addSign_4 (by decide) (fun c1 => ?_) (fun c1 => ?_)
  · exact z_vret hx hb hr hlk hP hS dX2_addSign_27 (congrArg (tW_X2 ad cI) (by unfold adC; first | rw [if_pos (by omega)] | rw [if_neg (by omega)]))
  · refine lv_aload_n hx hb dX2_addSign_7 rfl (lv_at hl 0 rfl) ?_
    refine gx_X2_0 hx hb hts hin hown hK hP (hts _ (List.mem_of_getElem? (i := 1) rfl)) dX2_addSign_8 ?_
    refine lv_aload_n hx hb dX2_addSign_11 rfl (lv_at hl 0 rfl) ?_
    refine gx_X2_1 hx hb hts hin hown hK hP (hts _ (List.mem_of_getElem? (i := 2) rfl)) dX2_addSign_12 ?_
    refine lv_iload_n hx hb dX2_addSign_15 rfl (lv_at hl 1 rfl) ?_
    refine st_X2_0 hx hb hK hP hD hS (by omega) dX2_addSign_16 (fun H locs hP hS => ?_)
    refine lv_aload_n hx hb dX2_addSign_17 rfl (lv_at hl 0 rfl) ?_
    refine lv_dup hx hb dX2_addSign_18 rfl ?_
    refine gx_X2_1 hx hb hts hin hown hK hP (hts _ (List.mem_of_getElem? (i := 2) rfl)) dX2_addSign_19 ?_
    refine z_top (y := S 1 0) (rfl) ?_
    refine z_iconst hx hb dX2_addSign_22 ?_
    refine z_iadd hx hb dX2_addSign_23 ?_
    refine z_top (y := S 1 0 + 1) (by omega) ?_
    refine px_X2_1 hx hb hts hin hown hK hP hD hS (hts _ (List.mem_of_getElem? (i := 2) rfl)) dX2_addSign_24 (fun H locs hP hS => ?_)
    exact z_vret hx hb hr hlk hP hS dX2_addSign_27 (congrArg (tW_X2 ad cI) (by unfold adC; first | rw [if_pos (by omega)] | rw [if_neg (by omega)]))
theorem in_X2_makeEmpty : ∀ w ∈ wsX20, w ∈ wsX2_makeEmpty := fun w h => List.mem_cons_of_mem _ (List.mem_append_right _ h)
set_option maxHeartbeats 4000000 in
set_option maxRecDepth 100000 in
theorem k_X2_makeEmpty (l : Launch) (dC : Nat → ClassId) (dI : Nat → Nat → Nat) (cI cQ : ClassId) (A : Nat → Prop) (ad : Nat → Nat) (S : Nat → Int → Int) (hD : ∀ S, va_D A (tW_X2 ad cI S)) : Met l yX2_makeEmpty wsX2_makeEmpty ({ frames := 0, cells := 0, slots := 0, locals := 0 }) (zPc (dC, dI) vwCl (zT cI cQ) (tW_X2 ad cI S) [.ref (ad 0)]) (zQv (dC, dI) vwCl (tW_X2 ad cI (mkC S)) A) 0 0 A := by
  refine Met.ofW (cc := cX2_makeEmpty) (maxL := 1) (ret := none) (by decide) rfl ?_
  intro p e s m args below meth c s₁ B hml hv
  obtain ⟨rfl, hP, hK⟩ := hv
  have hx := B.exec
  have hb := B.bytes
  have hr := B.returns
  have hts := atoms_spec (ws := wsX2_makeEmpty) B.pre
  have hown : s.vm.findClass RX2 = some m.cls := findClass_of_methodNamed B.named
  have hlk := B.notSynchronized
  have hS : va_S A s.heap s.heap [] := va_S.rf
  have hl := lv_entry ([.ref (ad 0)]) (n := 1) (Nat.le_of_ble_eq_true rfl)
  rw [lg_entry_eq]
  generalize (lg_sl ([.ref (ad 0)]) ++ List.replicate (1 - (lg_sl ([.ref (ad 0)])).length) Slot.unset).toArray = ls at hl ⊢
  have hl : lv_has ls 1 [(0, .ref (ad 0))] := hl
  have hin : ∀ w ∈ wsX20, w ∈ wsX2_makeEmpty := in_X2_makeEmpty
  refine lv_aload_n hx hb dX2_makeEmpty_0 rfl (lv_at hl 0 rfl) ?_
  refine z_iconst hx hb dX2_makeEmpty_1 ?_
  refine px_X2_1 hx hb hts hin hown hK hP hD hS (hts _ (List.mem_of_getElem? (i := 1) rfl)) dX2_makeEmpty_2 (fun H locs hP hS => ?_)
  exact z_vret hx hb hr hlk hP hS dX2_makeEmpty_5 (congrArg (tW_X2 ad cI) (by rfl))
theorem in_X2_signAt : ∀ w ∈ wsX20, w ∈ wsX2_signAt := fun w h => List.mem_cons_of_mem _ (List.mem_append_right _ h)
set_option maxHeartbeats 4000000 in
set_option maxRecDepth 100000 in
theorem k_X2_signAt (l : Launch) (dC : Nat → ClassId) (dI : Nat → Nat → Nat) (cI cQ : ClassId) (A : Nat → Prop) (ad : Nat → Nat) (S : Nat → Int → Int) (hD : ∀ S, va_D A (tW_X2 ad cI S)) (w : Int) (h1 : 0 ≤ S 1 0 ∧ S 1 0 ≤ 80) (hp : 0 ≤ w ∧ w ≤ 1000) : Met l yX2_signAt wsX2_signAt ({ frames := 0, cells := 0, slots := 0, locals := 0 }) (zPc (dC, dI) vwCl (zT cI cQ) (tW_X2 ad cI S) [.ref (ad 0), .int (zI w)]) (zQi (dC, dI) vwCl (tW_X2 ad cI S) (sgF (S 0) (S 1 0) w) A) 0 0 A := by
  refine Met.ofW (cc := cX2_signAt) (maxL := 2) (ret := (some .int)) (by decide) rfl ?_
  intro p e s m args below meth c s₁ B hml hv
  obtain ⟨rfl, hP, hK⟩ := hv
  have hx := B.exec
  have hb := B.bytes
  have hr := B.returns
  have hts := atoms_spec (ws := wsX2_signAt) B.pre
  have hown : s.vm.findClass RX2 = some m.cls := findClass_of_methodNamed B.named
  have hlk := B.notSynchronized
  have hS : va_S A s.heap s.heap [] := va_S.rf
  have hl := lv_entry ([.ref (ad 0), .int (zI w)]) (n := 2) (Nat.le_of_ble_eq_true rfl)
  rw [lg_entry_eq]
  generalize (lg_sl ([.ref (ad 0), .int (zI w)]) ++ List.replicate (2 - (lg_sl ([.ref (ad 0), .int (zI w)])).length) Slot.unset).toArray = ls at hl ⊢
  have hl : lv_has ls 2 [(0, .ref (ad 0)), (1, .int (zI w))] := hl
  have hin : ∀ w ∈ wsX20, w ∈ wsX2_signAt := in_X2_signAt
  refine lv_iload_n hx hb dX2_signAt_0 rfl (lv_at hl 1 rfl) ?_
  refine z_if_lt (tgt := 21) hx hb dX2_signAt_1 (by decide) (by omega) (fun c1 => ?_) (fun c1 => ?_)
  · refine z_iconst hx hb dX2_signAt_21 ?_
    exact z_iret hx hb hr hlk hP hS dX2_signAt_22 (by first | (exfalso; omega) | (unfold sgF; rw [if_pos (by omega)]; done) | (unfold sgF; rw [if_neg (by omega)])) rfl
  · refine lv_iload_n hx hb dX2_signAt_4 rfl (lv_at hl 1 rfl) ?_
    refine lv_aload_n hx hb dX2_signAt_5 rfl (lv_at hl 0 rfl) ?_
    refine gx_X2_1 hx hb hts hin hown hK hP (hts _ (List.mem_of_getElem? (i := 1) rfl)) dX2_signAt_6 ?_
    refine z_icmp_ge (tgt := 21) hx hb dX2_signAt_9 (by decide) (by omega) (by omega) (fun c2 => ?_) (fun c2 => ?_)
    · refine z_iconst hx hb dX2_signAt_21 ?_
      exact z_iret hx hb hr hlk hP hS dX2_signAt_22 (by first | (exfalso; omega) | (unfold sgF; rw [if_pos (by omega)]; done) | (unfold sgF; rw [if_neg (by omega)])) rfl
    · refine lv_aload_n hx hb dX2_signAt_12 rfl (lv_at hl 0 rfl) ?_
      refine gx_X2_0 hx hb hts hin hown hK hP (hts _ (List.mem_of_getElem? (i := 2) rfl)) dX2_signAt_13 ?_
      refine lv_iload_n hx hb dX2_signAt_16 rfl (lv_at hl 1 rfl) ?_
      refine ld_X2_0 (v := S 0 w) hx hb hK hP (by omega) rfl dX2_signAt_17 ?_
      refine lv_goto (tgt := 22) hx hb dX2_signAt_18 (by decide) ?_
      exact z_iret hx hb hr hlk hP hS dX2_signAt_22 (by first | (exfalso; omega) | (unfold sgF; rw [if_pos (by omega)]; done) | (unfold sgF; rw [if_neg (by omega)])) rfl
theorem in_X2_steps : ∀ w ∈ wsX20, w ∈ wsX2_steps := fun w h => List.mem_cons_of_mem _ (List.mem_append_right _ h)
set_option maxHeartbeats 4000000 in
set_option maxRecDepth 100000 in
theorem k_X2_steps (l : Launch) (dC : Nat → ClassId) (dI : Nat → Nat → Nat) (cI cQ : ClassId) (A : Nat → Prop) (ad : Nat → Nat) (S : Nat → Int → Int) (hD : ∀ S, va_D A (tW_X2 ad cI S)) : Met l yX2_steps wsX2_steps ({ frames := 0, cells := 0, slots := 0, locals := 0 }) (zPc (dC, dI) vwCl (zT cI cQ) (tW_X2 ad cI S) [.ref (ad 0)]) (zQi (dC, dI) vwCl (tW_X2 ad cI S) (S 4 0) A) 0 0 A := by
  refine Met.ofW (cc := cX2_steps) (maxL := 1) (ret := (some .int)) (by decide) rfl ?_
  intro p e s m args below meth c s₁ B hml hv
  obtain ⟨rfl, hP, hK⟩ := hv
  have hx := B.exec
  have hb := B.bytes
  have hr := B.returns
  have hts := atoms_spec (ws := wsX2_steps) B.pre
  have hown : s.vm.findClass RX2 = some m.cls := findClass_of_methodNamed B.named
  have hlk := B.notSynchronized
  have hS : va_S A s.heap s.heap [] := va_S.rf
  have hl := lv_entry ([.ref (ad 0)]) (n := 1) (Nat.le_of_ble_eq_true rfl)
  rw [lg_entry_eq]
  generalize (lg_sl ([.ref (ad 0)]) ++ List.replicate (1 - (lg_sl ([.ref (ad 0)])).length) Slot.unset).toArray = ls at hl ⊢
  have hl : lv_has ls 1 [(0, .ref (ad 0))] := hl
  have hin : ∀ w ∈ wsX20, w ∈ wsX2_steps := in_X2_steps
  refine lv_aload_n hx hb dX2_steps_0 rfl (lv_at hl 0 rfl) ?_
  refine gx_X2_4 hx hb hts hin hown hK hP (hts _ (List.mem_of_getElem? (i := 1) rfl)) dX2_steps_1 ?_
  exact z_iret hx hb hr hlk hP hS dX2_steps_4 rfl rfl
theorem in_X2_hasTooManySteps : ∀ w ∈ wsX20, w ∈ wsX2_hasTooManySteps := fun w h => List.mem_cons_of_mem _ (List.mem_append_right _ h)
set_option maxHeartbeats 4000000 in
set_option maxRecDepth 100000 in
theorem k_X2_hasTooManySteps (l : Launch) (dC : Nat → ClassId) (dI : Nat → Nat → Nat) (cI cQ : ClassId) (A : Nat → Prop) (ad : Nat → Nat) (S : Nat → Int → Int) (hD : ∀ S, va_D A (tW_X2 ad cI S)) (h4 : 0 ≤ S 4 0 ∧ S 4 0 ≤ 101) : Met l yX2_hasTooManySteps wsX2_hasTooManySteps ({ frames := 0, cells := 0, slots := 0, locals := 0 }) (zPc (dC, dI) vwCl (zT cI cQ) (tW_X2 ad cI S) [.ref (ad 0)]) (zQi (dC, dI) vwCl (tW_X2 ad cI S) (if 100 < S 4 0 then 1 else 0) A) 0 0 A := by
  refine Met.ofW (cc := cX2_hasTooManySteps) (maxL := 1) (ret := (some .boolean)) (by decide) rfl ?_
  intro p e s m args below meth c s₁ B hml hv
  obtain ⟨rfl, hP, hK⟩ := hv
  have hx := B.exec
  have hb := B.bytes
  have hr := B.returns
  have hts := atoms_spec (ws := wsX2_hasTooManySteps) B.pre
  have hown : s.vm.findClass RX2 = some m.cls := findClass_of_methodNamed B.named
  have hlk := B.notSynchronized
  have hS : va_S A s.heap s.heap [] := va_S.rf
  have hl := lv_entry ([.ref (ad 0)]) (n := 1) (Nat.le_of_ble_eq_true rfl)
  rw [lg_entry_eq]
  generalize (lg_sl ([.ref (ad 0)]) ++ List.replicate (1 - (lg_sl ([.ref (ad 0)])).length) Slot.unset).toArray = ls at hl ⊢
  have hl : lv_has ls 1 [(0, .ref (ad 0))] := hl
  have hin : ∀ w ∈ wsX20, w ∈ wsX2_hasTooManySteps := in_X2_hasTooManySteps
  refine lv_aload_n hx hb dX2_hasTooManySteps_0 rfl (lv_at hl 0 rfl) ?_
  refine gx_X2_4 hx hb hts hin hown hK hP (hts _ (List.mem_of_getElem? (i := 1) rfl)) dX2_hasTooManySteps_1 ?_
  refine z_bipush (z := 100) hx hb dX2_hasTooManySteps_4 (by decide +kernel) ?_
  refine z_icmp_le (tgt := 13) hx hb dX2_hasTooManySteps_6 (by decide) (by omega) (by omega) (fun c1 => ?_) (fun c1 => ?_)
  · refine z_iconst hx hb dX2_hasTooManySteps_13 ?_
    exact z_zret hx hb hr hlk hP hS dX2_hasTooManySteps_14 (by omega) (by first | rw [if_pos (by omega)] | rw [if_neg (by omega)]) rfl
  · refine z_iconst hx hb dX2_hasTooManySteps_9 ?_
    refine lv_goto (tgt := 14) hx hb dX2_hasTooManySteps_10 (by decide) ?_
    exact z_zret hx hb hr hlk hP hS dX2_hasTooManySteps_14 (by omega) (by first | rw [if_pos (by omega)] | rw [if_neg (by omega)]) rfl
theorem in_X2_letterOfStep : ∀ w ∈ wsX20, w ∈ wsX2_letterOfStep := fun w h => List.mem_cons_of_mem _ (List.mem_append_right _ h)
set_option maxHeartbeats 4000000 in
set_option maxRecDepth 100000 in
theorem k_X2_letterOfStep (l : Launch) (dC : Nat → ClassId) (dI : Nat → Nat → Nat) (cI cQ : ClassId) (A : Nat → Prop) (ad : Nat → Nat) (S : Nat → Int → Int) (hD : ∀ S, va_D A (tW_X2 ad cI S)) (k : Int) (h4 : 0 ≤ S 4 0 ∧ S 4 0 ≤ 101) (q0 : -2147483648 ≤ k ∧ k < 2147483648) : Met l yX2_letterOfStep wsX2_letterOfStep ({ frames := 0, cells := 0, slots := 0, locals := 0 }) (zPc (dC, dI) vwCl (zT cI cQ) (tW_X2 ad cI S) [.ref (ad 0), .int (zI k)]) (zQi (dC, dI) vwCl (tW_X2 ad cI S) (lsF S k) A) 0 0 A := by
  refine Met.ofW (cc := cX2_letterOfStep) (maxL := 2) (ret := (some .int)) (by decide) rfl ?_
  intro p e s m args below meth c s₁ B hml hv
  obtain ⟨rfl, hP, hK⟩ := hv
  have hx := B.exec
  have hb := B.bytes
  have hr := B.returns
  have hts := atoms_spec (ws := wsX2_letterOfStep) B.pre
  have hown : s.vm.findClass RX2 = some m.cls := findClass_of_methodNamed B.named
  have hlk := B.notSynchronized
  have hS : va_S A s.heap s.heap [] := va_S.rf
  have hl := lv_entry ([.ref (ad 0), .int (zI k)]) (n := 2) (Nat.le_of_ble_eq_true rfl)
  rw [lg_entry_eq]
  generalize (lg_sl ([.ref (ad 0), .int (zI k)]) ++ List.replicate (2 - (lg_sl ([.ref (ad 0), .int (zI k)])).length) Slot.unset).toArray = ls at hl ⊢
  have hl : lv_has ls 2 [(0, .ref (ad 0)), (1, .int (zI k))] := hl
  have hin : ∀ w ∈ wsX20, w ∈ wsX2_letterOfStep := in_X2_letterOfStep
  refine lv_iload_n hx hb dX2_letterOfStep_0 rfl (lv_at hl 1 rfl) ?_
  refine z_if_lt (tgt := 21) hx hb dX2_letterOfStep_1 (by decide) (by omega) (fun c1 => ?_) (fun c1 => ?_)
  · refine z_iconst hx hb dX2_letterOfStep_21 ?_
    exact z_iret hx hb hr hlk hP hS dX2_letterOfStep_22 (by unfold lsF; first | rw [if_pos (by omega)] | rw [if_neg (by omega)]) rfl
  · refine lv_iload_n hx hb dX2_letterOfStep_4 rfl (lv_at hl 1 rfl) ?_
    refine lv_aload_n hx hb dX2_letterOfStep_5 rfl (lv_at hl 0 rfl) ?_
    refine gx_X2_4 hx hb hts hin hown hK hP (hts _ (List.mem_of_getElem? (i := 1) rfl)) dX2_letterOfStep_6 ?_
    refine z_icmp_ge (tgt := 21) hx hb dX2_letterOfStep_9 (by decide) (by omega) (by omega) (fun c2 => ?_) (fun c2 => ?_)
    · refine z_iconst hx hb dX2_letterOfStep_21 ?_
      exact z_iret hx hb hr hlk hP hS dX2_letterOfStep_22 (by unfold lsF; first | rw [if_pos (by omega)] | rw [if_neg (by omega)]) rfl
    · refine lv_aload_n hx hb dX2_letterOfStep_12 rfl (lv_at hl 0 rfl) ?_
      refine gx_X2_3 hx hb hts hin hown hK hP (hts _ (List.mem_of_getElem? (i := 2) rfl)) dX2_letterOfStep_13 ?_
      refine lv_iload_n hx hb dX2_letterOfStep_16 rfl (lv_at hl 1 rfl) ?_
      refine ld_X2_3 (v := S 3 k) hx hb hK hP (by omega) rfl dX2_letterOfStep_17 ?_
      refine lv_goto (tgt := 22) hx hb dX2_letterOfStep_18 (by decide) ?_
      exact z_iret hx hb hr hlk hP hS dX2_letterOfStep_22 (by unfold lsF; first | rw [if_pos (by omega)] | rw [if_neg (by omega)]) rfl
theorem in_X2_numberBehind : ∀ w ∈ wsX20, w ∈ wsX2_numberBehind := fun w h => List.mem_cons_of_mem _ (List.mem_append_right _ h)
set_option maxHeartbeats 4000000 in
set_option maxRecDepth 100000 in
theorem k_X2_numberBehind (l : Launch) (dC : Nat → ClassId) (dI : Nat → Nat → Nat) (cI cQ : ClassId) (A : Nat → Prop) (ad : Nat → Nat) (S : Nat → Int → Int) (hD : ∀ S, va_D A (tW_X2 ad cI S)) (le ix : Int) (q : 0 ≤ le ∧ le < 80) (q1 : 0 ≤ ix ∧ ix < 3) : Met l yX2_numberBehind wsX2_numberBehind ({ frames := 0, cells := 0, slots := 0, locals := 0 }) (zPc (dC, dI) vwCl (zT cI cQ) (tW_X2 ad cI S) [.ref (ad 0), .int (zI le), .int (zI ix)]) (zQi (dC, dI) vwCl (tW_X2 ad cI S) (S 2 (3 * le + ix)) A) 0 0 A := by
  refine Met.ofW (cc := cX2_numberBehind) (maxL := 3) (ret := (some .int)) (by decide) rfl ?_
  intro p e s m args below meth c s₁ B hml hv
  obtain ⟨rfl, hP, hK⟩ := hv
  have hx := B.exec
  have hb := B.bytes
  have hr := B.returns
  have hts := atoms_spec (ws := wsX2_numberBehind) B.pre
  have hown : s.vm.findClass RX2 = some m.cls := findClass_of_methodNamed B.named
  have hlk := B.notSynchronized
  have hS : va_S A s.heap s.heap [] := va_S.rf
  have hl := lv_entry ([.ref (ad 0), .int (zI le), .int (zI ix)]) (n := 3) (Nat.le_of_ble_eq_true rfl)
  rw [lg_entry_eq]
  generalize (lg_sl ([.ref (ad 0), .int (zI le), .int (zI ix)]) ++ List.replicate (3 - (lg_sl ([.ref (ad 0), .int (zI le), .int (zI ix)])).length) Slot.unset).toArray = ls at hl ⊢
  have hl : lv_has ls 3 [(0, .ref (ad 0)), (1, .int (zI le)), (2, .int (zI ix))] := hl
  have hin : ∀ w ∈ wsX20, w ∈ wsX2_numberBehind := in_X2_numberBehind
  refine lv_aload_n hx hb dX2_numberBehind_0 rfl (lv_at hl 0 rfl) ?_
  refine gx_X2_2 hx hb hts hin hown hK hP (hts _ (List.mem_of_getElem? (i := 1) rfl)) dX2_numberBehind_1 ?_
  refine lv_iload_n hx hb dX2_numberBehind_4 rfl (lv_at hl 1 rfl) ?_
  refine z_iconst hx hb dX2_numberBehind_5 ?_
  refine z_imul hx hb dX2_numberBehind_6 ?_
  refine z_top (y := 3 * le) (by omega) ?_
  refine lv_iload_n hx hb dX2_numberBehind_7 rfl (lv_at hl 2 rfl) ?_
  refine z_iadd hx hb dX2_numberBehind_8 ?_
  refine z_top (y := 3 * le + ix) (by omega) ?_
  refine ld_X2_2 (v := S 2 (3 * le + ix)) hx hb hK hP (by omega) rfl dX2_numberBehind_9 ?_
  exact z_iret hx hb hr hlk hP hS dX2_numberBehind_10 rfl rfl
theorem in_X2_place : ∀ w ∈ wsX20, w ∈ wsX2_place := fun w h => List.mem_cons_of_mem _ (List.mem_append_right _ h)
set_option maxHeartbeats 4000000 in
set_option maxRecDepth 100000 in
theorem k_X2_place (l : Launch) (dC : Nat → ClassId) (dI : Nat → Nat → Nat) (cI cQ : ClassId) (A : Nat → Prop) (ad : Nat → Nat) (S : Nat → Int → Int) (hD : ∀ S, va_D A (tW_X2 ad cI S)) : Met l yX2_place wsX2_place ({ frames := 0, cells := 0, slots := 0, locals := 0 }) (zPc (dC, dI) vwCl (zT cI cQ) (tW_X2 ad cI S) [.ref (ad 0)]) (zQi (dC, dI) vwCl (tW_X2 ad cI S) (S 8 0) A) 0 0 A := by
  refine Met.ofW (cc := cX2_place) (maxL := 1) (ret := (some .int)) (by decide) rfl ?_
  intro p e s m args below meth c s₁ B hml hv
  obtain ⟨rfl, hP, hK⟩ := hv
  have hx := B.exec
  have hb := B.bytes
  have hr := B.returns
  have hts := atoms_spec (ws := wsX2_place) B.pre
  have hown : s.vm.findClass RX2 = some m.cls := findClass_of_methodNamed B.named
  have hlk := B.notSynchronized
  have hS : va_S A s.heap s.heap [] := va_S.rf
  have hl := lv_entry ([.ref (ad 0)]) (n := 1) (Nat.le_of_ble_eq_true rfl)
  rw [lg_entry_eq]
  generalize (lg_sl ([.ref (ad 0)]) ++ List.replicate (1 - (lg_sl ([.ref (ad 0)])).length) Slot.unset).toArray = ls at hl ⊢
  have hl : lv_has ls 1 [(0, .ref (ad 0))] := hl
  have hin : ∀ w ∈ wsX20, w ∈ wsX2_place := in_X2_place
  refine lv_aload_n hx hb dX2_place_0 rfl (lv_at hl 0 rfl) ?_
  refine gx_X2_8 hx hb hts hin hown hK hP (hts _ (List.mem_of_getElem? (i := 1) rfl)) dX2_place_1 ?_
  exact z_iret hx hb hr hlk hP hS dX2_place_4 rfl rfl
set_option maxHeartbeats 4000000 in
set_option maxRecDepth 100000 in
theorem k_X2_isDigit (l : Launch) (dC : Nat → ClassId) (dI : Nat → Nat → Nat) (cI cQ : ClassId) (A : Nat → Prop) (ws : va_W) (ch : Int) (q0 : -2147483648 ≤ ch ∧ ch < 2147483648) : Met l yX2_isDigit wsX2_isDigit ({ frames := 0, cells := 0, slots := 0, locals := 0 }) (zPc (dC, dI) vwCl (zT cI cQ) ws [.int (zI ch)]) (zQi (dC, dI) vwCl ws (if 48 ≤ ch ∧ ch ≤ 57 then 1 else 0) A) 0 0 A := by
  refine Met.ofW (cc := cX2_isDigit) (maxL := 1) (ret := (some .boolean)) (by decide) rfl ?_
  intro p e s m args below meth c s₁ B hml hv
  obtain ⟨rfl, hP, hK⟩ := hv
  have hx := B.exec
  have hb := B.bytes
  have hr := B.returns
  have hts := atoms_spec (ws := wsX2_isDigit) B.pre
  have hown : s.vm.findClass RX2 = some m.cls := findClass_of_methodNamed B.named
  have hlk := B.notSynchronized
  have hS : va_S A s.heap s.heap [] := va_S.rf
  have hl := lv_entry ([.int (zI ch)]) (n := 1) (Nat.le_of_ble_eq_true rfl)
  rw [lg_entry_eq]
  generalize (lg_sl ([.int (zI ch)]) ++ List.replicate (1 - (lg_sl ([.int (zI ch)])).length) Slot.unset).toArray = ls at hl ⊢
  have hl : lv_has ls 1 [(0, .int (zI ch))] := hl
  refine lv_iload_n hx hb dX2_isDigit_0 rfl (lv_at hl 0 rfl) ?_
  refine z_bipush (z := 48) hx hb dX2_isDigit_1 (by decide +kernel) ?_
  refine z_icmp_lt (tgt := 16) hx hb dX2_isDigit_3 (by decide) (by omega) (by omega) (fun c1 => ?_) (fun c1 => ?_)
  · refine z_iconst hx hb dX2_isDigit_16 ?_
    exact z_zret hx hb hr hlk hP hS dX2_isDigit_17 (by omega) (by first | rw [if_pos (by omega)] | rw [if_neg (by omega)]) rfl
  · refine lv_iload_n hx hb dX2_isDigit_6 rfl (lv_at hl 0 rfl) ?_
    refine z_bipush (z := 57) hx hb dX2_isDigit_7 (by decide +kernel) ?_
    refine z_icmp_gt (tgt := 16) hx hb dX2_isDigit_9 (by decide) (by omega) (by omega) (fun c2 => ?_) (fun c2 => ?_)
    · refine z_iconst hx hb dX2_isDigit_16 ?_
      exact z_zret hx hb hr hlk hP hS dX2_isDigit_17 (by omega) (by first | rw [if_pos (by omega)] | rw [if_neg (by omega)]) rfl
    · refine z_iconst hx hb dX2_isDigit_12 ?_
      refine lv_goto (tgt := 17) hx hb dX2_isDigit_13 (by decide) ?_
      exact z_zret hx hb hr hlk hP hS dX2_isDigit_17 (by omega) (by first | rw [if_pos (by omega)] | rw [if_neg (by omega)]) rfl
theorem in_X2_addStep : ∀ w ∈ wsX20, w ∈ wsX2_addStep := fun w h => List.mem_cons_of_mem _ (List.mem_append_right _ h)
set_option maxHeartbeats 4000000 in
set_option maxRecDepth 100000 in
theorem k_X2_addStep (l : Launch) (dC : Nat → ClassId) (dI : Nat → Nat → Nat) (cI cQ : ClassId) (A : Nat → Prop) (ad : Nat → Nat) (S : Nat → Int → Int) (hD : ∀ S, va_D A (tW_X2 ad cI S)) (le : Int) (h4 : 0 ≤ S 4 0 ∧ S 4 0 ≤ 101) : Met l yX2_addStep wsX2_addStep ({ frames := 0, cells := 0, slots := 0, locals := 0 }) (zPc (dC, dI) vwCl (zT cI cQ) (tW_X2 ad cI S) [.ref (ad 0), .int (zI le)]) (zQv (dC, dI) vwCl (tW_X2 ad cI (asC S le)) A) 0 0 A := by
  refine Met.ofW (cc := cX2_addStep) (maxL := 2) (ret := none) (by decide) rfl ?_
  intro p e s m args below meth c s₁ B hml hv
  obtain ⟨rfl, hP, hK⟩ := hv
  have hx := B.exec
  have hb := B.bytes
  have hr := B.returns
  have hts := atoms_spec (ws := wsX2_addStep) B.pre
  have hown : s.vm.findClass RX2 = some m.cls := findClass_of_methodNamed B.named
  have hlk := B.notSynchronized
  have hS : va_S A s.heap s.heap [] := va_S.rf
  have hl := lv_entry ([.ref (ad 0), .int (zI le)]) (n := 2) (Nat.le_of_ble_eq_true rfl)
  rw [lg_entry_eq]
  generalize (lg_sl ([.ref (ad 0), .int (zI le)]) ++ List.replicate (2 - (lg_sl ([.ref (ad 0), .int (zI le)])).length) Slot.unset).toArray = ls at hl ⊢
  have hl : lv_has ls 2 [(0, .ref (ad 0)), (1, .int (zI le))] := hl
  have hin : ∀ w ∈ wsX20, w ∈ wsX2_addStep := in_X2_addStep
  refine lv_aload_n hx hb dX2_addStep_0 rfl (lv_at hl 0 rfl) ?_
  refine gx_X2_4 hx hb hts hin hown hK hP (hts _ (List.mem_of_getElem? (i := 1) rfl)) dX2_addStep_1 ?_
  refine lv_aload_n hx hb dX2_addStep_4 rfl (lv_at hl 0 rfl) ?_
  refine gx_X2_3 hx hb hts hin hown hK hP (hts _ (List.mem_of_getElem? (i := 2) rfl)) dX2_addStep_5 ?_
  refine va_alen (v := zI 101) hx hb hK hP 3 0 rfl rfl rfl dX2_addStep_8 ?_
  refine z_icmp_ge (tgt := 32) hx hb dX2_addStep_9 (by decide) (by omega) (by omega) (fun c1 => ?_) (fun c1 => ?_)
  · exact z_vret hx hb hr hlk hP hS dX2_addStep_32 (congrArg (tW_X2 ad cI) (by unfold asC; first | rw [if_pos (by omega)] | rw [if_neg (by omega)]))
  · refine lv_aload_n hx hb dX2_addStep_12 rfl (lv_at hl 0 rfl) ?_
    refine gx_X2_3 hx hb hts hin hown hK hP (hts _ (List.mem_of_getElem? (i := 2) rfl)) dX2_addStep_13 ?_
    refine lv_aload_n hx hb dX2_addStep_16 rfl (lv_at hl 0 rfl) ?_
    refine gx_X2_4 hx hb hts hin hown hK hP (hts _ (List.mem_of_getElem? (i := 1) rfl)) dX2_addStep_17 ?_
    refine lv_iload_n hx hb dX2_addStep_20 rfl (lv_at hl 1 rfl) ?_
    refine st_X2_3 hx hb hK hP hD hS (by omega) dX2_addStep_21 (fun H locs hP hS => ?_)
    refine lv_aload_n hx hb dX2_addStep_22 rfl (lv_at hl 0 rfl) ?_
    refine lv_dup hx hb dX2_addStep_23 rfl ?_
    refine gx_X2_4 hx hb hts hin hown hK hP (hts _ (List.mem_of_getElem? (i := 1) rfl)) dX2_addStep_24 ?_
    refine z_top (y := S 4 0) (rfl) ?_
    refine z_iconst hx hb dX2_addStep_27 ?_
    refine z_iadd hx hb dX2_addStep_28 ?_
    refine z_top (y := S 4 0 + 1) (by omega) ?_
    refine px_X2_4 hx hb hts hin hown hK hP hD hS (hts _ (List.mem_of_getElem? (i := 1) rfl)) dX2_addStep_29 (fun H locs hP hS => ?_)
    exact z_vret hx hb hr hlk hP hS dX2_addStep_32 (congrArg (tW_X2 ad cI) (by unfold asC; first | rw [if_pos (by omega)] | rw [if_neg (by omega)]))
theorem in_X2_readSign : ∀ w ∈ wsX20, w ∈ wsX2_readSign := fun w h => List.mem_cons_of_mem _ (List.mem_append_right _ h)
set_option maxHeartbeats 4000000 in
set_option maxRecDepth 100000 in
theorem k_X2_readSign (l : Launch) (dC : Nat → ClassId) (dI : Nat → Nat → Nat) (cI cQ : ClassId) (A : Nat → Prop) (ad : Nat → Nat) (S : Nat → Int → Int) (hD : ∀ S, va_D A (tW_X2 ad cI S)) (ch : Int) (hX : CX S) (q0 : -2147483648 ≤ ch ∧ ch < 2147483648) : Met l yX2_readSign wsX2_readSign ({ frames := 1, cells := 0, slots := 0, locals := 21 }) (zPc (dC, dI) vwCl (zT cI cQ) (tW_X2 ad cI S) [.ref (ad 0), .int (zI ch)]) (zQi (dC, dI) vwCl (tW_X2 ad cI (rsC S ch)) (if sgP S = ch then 1 else 0) A) 0 0 A := by
  refine Met.ofW (cc := cX2_readSign) (maxL := 2) (ret := (some .boolean)) (by decide) rfl ?_
  intro p e s m args below meth c s₁ B hml hv
  obtain ⟨rfl, hP, hK⟩ := hv
  have hx := B.exec
  have hb := B.bytes
  have hr := B.returns
  have hts := atoms_spec (ws := wsX2_readSign) B.pre
  have hown : s.vm.findClass RX2 = some m.cls := findClass_of_methodNamed B.named
  have hlk := B.notSynchronized
  have hS : va_S A s.heap s.heap [] := va_S.rf
  have hl := lv_entry ([.ref (ad 0), .int (zI ch)]) (n := 2) (Nat.le_of_ble_eq_true rfl)
  rw [lg_entry_eq]
  generalize (lg_sl ([.ref (ad 0), .int (zI ch)]) ++ List.replicate (2 - (lg_sl ([.ref (ad 0), .int (zI ch)])).length) Slot.unset).toArray = ls at hl ⊢
  have hl : lv_has ls 2 [(0, .ref (ad 0)), (1, .int (zI ch))] := hl
  have hin : ∀ w ∈ wsX20, w ∈ wsX2_readSign := in_X2_readSign
  obtain ⟨hT, h1, h8, h4, h7, h6, h5⟩ := id hX
  have esg : sgP S = sgF (S 0) (S 1 0) (S 8 0) := rfl
  have g0 := sgF_rng hT (S 1 0) (S 8 0)
  refine lv_aload_n hx hb dX2_readSign_0 rfl (lv_at hl 0 rfl) ?_
  refine lv_aload_n hx hb dX2_readSign_1 rfl (lv_at hl 0 rfl) ?_
  refine gx_X2_8 hx hb hts hin hown hK hP (hts _ (List.mem_of_getElem? (i := 1) rfl)) dX2_readSign_2 ?_
  refine z_calli (va_runV (As := [.int (zI (S 8 0))]) (rest := []) ⟨hx, hb, hml, hown, hts⟩ (k_X2_signAt l dC dI cI cQ A ad S hD (S 8 0) (by omega) (by omega)) (cwV 1 hts gX2_readSign_X2_signAt rfl rfl rfl (by decide +kernel) ⟨Nat.le_of_ble_eq_true rfl, Nat.le_of_ble_eq_true rfl⟩) (z_preV hK hP (ci := 2) (q0 := 0) rfl rfl rfl) rfl rfl hl.1 rfl (lv_room (Nat.le_of_ble_eq_true rfl)) dX2_readSign_5 ⟨Nat.zero_le _, Nat.zero_le _⟩) hS (fun _ h => h) (fun H locs hP hS _ _ => ?_)
  refine z_top (y := (sgF (S 0) (S 1 0) (S 8 0))) (by rfl) ?_
  refine lv_iload_n hx hb dX2_readSign_8 rfl (lv_at hl 1 rfl) ?_
  refine z_icmp_eq (tgt := 14) hx hb dX2_readSign_9 (by decide) (by omega) (by omega) (fun c1 => ?_) (fun c1 => ?_)
  · refine lv_aload_n hx hb dX2_readSign_14 rfl (lv_at hl 0 rfl) ?_
    refine lv_dup hx hb dX2_readSign_15 rfl ?_
    refine gx_X2_8 hx hb hts hin hown hK hP (hts _ (List.mem_of_getElem? (i := 1) rfl)) dX2_readSign_16 ?_
    refine z_iconst hx hb dX2_readSign_19 ?_
    refine z_iadd hx hb dX2_readSign_20 ?_
    refine z_top (y := S 8 0 + 1) (by omega) ?_
    refine px_X2_8 hx hb hts hin hown hK hP hD hS (hts _ (List.mem_of_getElem? (i := 1) rfl)) dX2_readSign_21 (fun H locs hP hS => ?_)
    refine z_iconst hx hb dX2_readSign_24 ?_
    exact z_zret hx hb hr hlk hP hS dX2_readSign_25 (by omega) (by first | rw [if_pos (by omega)] | rw [if_neg (by omega)]) (congrArg (tW_X2 ad cI) (by unfold rsC; first | rw [if_pos (by omega)] | rw [if_neg (by omega)]))
  · refine z_iconst hx hb dX2_readSign_12 ?_
    exact z_zret hx hb hr hlk hP hS dX2_readSign_13 (by omega) (by first | rw [if_pos (by omega)] | rw [if_neg (by omega)]) (congrArg (tW_X2 ad cI) (by unfold rsC; first | rw [if_pos (by omega)] | rw [if_neg (by omega)]))
theorem in_X2_readNumber : ∀ w ∈ wsX20, w ∈ wsX2_readNumber := fun w h => List.mem_cons_of_mem _ (List.mem_append_right _ h)
set_option maxHeartbeats 4000000 in
set_option maxRecDepth 100000 in
theorem k_X2_readNumber (l : Launch) (dC : Nat → ClassId) (dI : Nat → Nat → Nat) (cI cQ : ClassId) (A : Nat → Prop) (ad : Nat → Nat) (S : Nat → Int → Int) (hD : ∀ S, va_D A (tW_X2 ad cI S)) (le ix ch : Int) (hX : CX S) (q : 0 ≤ le ∧ le < 80) (q1 : 0 ≤ ix ∧ ix < 3) (q2 : 1 ≤ ch ∧ ch ≤ 255) : Met l yX2_readNumber wsX2_readNumber ({ frames := 2, cells := 0, slots := 0, locals := 42 }) (zPc (dC, dI) vwCl (zT cI cQ) (tW_X2 ad cI S) [.ref (ad 0), .int (zI le), .int (zI ix), .int (zI ch)]) (zQi (dC, dI) vwCl (tW_X2 ad cI (rnC S le ix ch)) (if rnP S le ix ch then 1 else 0) A) 0 0 A := by
  refine Met.ofW (cc := cX2_readNumber) (maxL := 6) (ret := (some .boolean)) (by decide) rfl ?_
  intro p e s m args below meth c s₁ B hml hv
  obtain ⟨rfl, hP, hK⟩ := hv
  have hx := B.exec
  have hb := B.bytes
  have hr := B.returns
  have hts := atoms_spec (ws := wsX2_readNumber) B.pre
  have hown : s.vm.findClass RX2 = some m.cls := findClass_of_methodNamed B.named
  have hlk := B.notSynchronized
  have hS : va_S A s.heap s.heap [] := va_S.rf
  have hl := lv_entry ([.ref (ad 0), .int (zI le), .int (zI ix), .int (zI ch)]) (n := 6) (Nat.le_of_ble_eq_true rfl)
  rw [lg_entry_eq]
  generalize (lg_sl ([.ref (ad 0), .int (zI le), .int (zI ix), .int (zI ch)]) ++ List.replicate (6 - (lg_sl ([.ref (ad 0), .int (zI le), .int (zI ix), .int (zI ch)])).length) Slot.unset).toArray = ls at hl ⊢
  have hl : lv_has ls 6 [(0, .ref (ad 0)), (1, .int (zI le)), (2, .int (zI ix)), (3, .int (zI ch))] := hl
  have hin : ∀ w ∈ wsX20, w ∈ wsX2_readNumber := in_X2_readNumber
  obtain ⟨hT, h1, h8, h4, h7, h6, h5⟩ := id hX
  have esg : sgP S = sgF (S 0) (S 1 0) (S 8 0) := rfl
  have g0 := sgF_rng hT (S 1 0) (S 8 0)
  have g1 := sgF_rng hT (S 1 0) (S 8 0 + 1)
  have g2 := sgF_rng hT (S 1 0) (S 8 0 + 2)
  refine z_iconst hx hb dX2_readNumber_0 ?_
  refine lv_istore (lv' := [(4, .int (zI 0)), (0, .ref (ad 0)), (1, .int (zI le)), (2, .int (zI ix)), (3, .int (zI ch))]) hx hb dX2_readNumber_1 hl (by decide) rfl (fun ls hl => ?_)
  refine z_iconst hx hb dX2_readNumber_3 ?_
  refine lv_istore (lv' := [(5, .int (zI 0)), (4, .int (zI 0)), (0, .ref (ad 0)), (1, .int (zI le)), (2, .int (zI ix)), (3, .int (zI ch))]) hx hb dX2_readNumber_4 hl (by decide) rfl (fun ls hl => ?_)
  have hloop6 : ∀ (n : Nat) (nu dg : Int) (S1 : Nat → Int → Int), (0 ≤ dg ∧ dg ≤ 3) → (S1 = up2 S 8 0 (S 8 0 + dg)) → ((dg = 0 ∧ nu = 0) ∨ (dg = 1 ∧ 48 ≤ sgF (S 0) (S 1 0) (S 8 0) ∧ sgF (S 0) (S 1 0) (S 8 0) ≤ 57 ∧ nu = sgF (S 0) (S 1 0) (S 8 0) - 48) ∨ (dg = 2 ∧ 49 ≤ sgF (S 0) (S 1 0) (S 8 0) ∧ sgF (S 0) (S 1 0) (S 8 0) ≤ 57 ∧ 48 ≤ sgF (S 0) (S 1 0) (S 8 0 + 1) ∧ sgF (S 0) (S 1 0) (S 8 0 + 1) ≤ 57 ∧ nu = 10 * sgF (S 0) (S 1 0) (S 8 0) + sgF (S 0) (S 1 0) (S 8 0 + 1) - 528) ∨ (dg = 3 ∧ 49 ≤ sgF (S 0) (S 1 0) (S 8 0) ∧ sgF (S 0) (S 1 0) (S 8 0) ≤ 57 ∧ 48 ≤ sgF (S 0) (S 1 0) (S 8 0 + 1) ∧ sgF (S 0) (S 1 0) (S 8 0 + 1) ≤ 57 ∧ 48 ≤ sgF (S 0) (S 1 0) (S 8 0 + 2) ∧ sgF (S 0) (S 1 0) (S 8 0 + 2) ≤ 57 ∧ nu = 100 * sgF (S 0) (S 1 0) (S 8 0) + 10 * sgF (S 0) (S 1 0) (S 8 0 + 1) + sgF (S 0) (S 1 0) (S 8 0 + 2) - 5328)) → (3 - dg < (n : Int)) → ∀ (H : Heap) (locs : List Loc), va_P (dC, dI) vwCl (tW_X2 ad cI S1) H → va_S A s.heap H locs → ∀ ls : Array Slot, lv_has ls 6 [(5, .int (zI dg)), (4, .int (zI nu)), (0, .ref (ad 0)), (1, .int (zI le)), (2, .int (zI ix)), (3, .int (zI ch))] → W p l e (headSpec wsX2_readNumber ({ frames := 2, cells := 0, slots := 0, locals := 42 })).room s m ([.ref (ad 0), .int (zI le), .int (zI ix), .int (zI ch)] : List Value).toArray below meth c H locs 0 0 (MQ below (zQi (dC, dI) vwCl (tW_X2 ad cI (rnC S le ix ch)) (if rnP S le ix ch then 1 else 0) A) ([.ref (ad 0), .int (zI le), .int (zI ix), .int (zI ch)] : List Value).toArray s 0 0 A) (F0 m 6 ls []) := by
    intro n
    induction n with
    | zero =>
      intro nu dg S1 i0 i1 i2 hm
      exfalso
      omega
    | succ n ih =>
      intro nu dg S1 i0 i1 i2 hm H locs hP hS ls hl
      have ih6 := ih
      clear ih
      subst i1
      have hd0 : dg ≠ 0 ∨ sgF (S 0) (S 1 0) (S 8 0 + dg) = sgF (S 0) (S 1 0) (S 8 0) := (Classical.em (dg = 0)).elim (fun q => Or.inr (by rw [q, show S 8 0 + 0 = S 8 0 from by omega])) Or.inl
      have hd1 : dg ≠ 1 ∨ sgF (S 0) (S 1 0) (S 8 0 + dg) = sgF (S 0) (S 1 0) (S 8 0 + 1) := (Classical.em (dg = 1)).elim (fun q => Or.inr (by rw [q])) Or.inl
      have hd2 : dg ≠ 2 ∨ sgF (S 0) (S 1 0) (S 8 0 + dg) = sgF (S 0) (S 1 0) (S 8 0 + 2) := (Classical.em (dg = 2)).elim (fun q => Or.inr (by rw [q])) Or.inl
      have gd := sgF_rng hT (S 1 0) (S 8 0 + dg)
      refine lv_iload hx hb dX2_readNumber_6 (lv_at hl 0 rfl) ?_
      refine z_iconst hx hb dX2_readNumber_8 ?_
      refine z_icmp_ge (tgt := 71) hx hb dX2_readNumber_9 (by decide) (by omega) (by omega) (fun c1 => ?_) (fun c1 => ?_)
      · refine lv_aload_n hx hb dX2_readNumber_71 rfl (lv_at hl 2 rfl) ?_
        refine gx_X2_2 hx hb hts hin hown hK hP (hts _ (List.mem_of_getElem? (i := 2) rfl)) dX2_readNumber_72 ?_
        refine lv_iload_n hx hb dX2_readNumber_75 rfl (lv_at hl 3 rfl) ?_
        refine z_iconst hx hb dX2_readNumber_76 ?_
        refine z_imul hx hb dX2_readNumber_77 ?_
        refine z_top (y := 3 * le) (by omega) ?_
        refine lv_iload_n hx hb dX2_readNumber_78 rfl (lv_at hl 4 rfl) ?_
        refine z_iadd hx hb dX2_readNumber_79 ?_
        refine z_top (y := 3 * le + ix) (by omega) ?_
        refine lv_iload hx hb dX2_readNumber_80 (lv_at hl 1 rfl) ?_
        refine st_X2_2 hx hb hK hP hD hS (by omega) dX2_readNumber_82 (fun H locs hP hS => ?_)
        have hl9 : nmLen (S 0) (S 1 0) (S 8 0) = dg := by (unfold nmLen; (repeat' split) <;> omega)
        have hv9 : nmVal (S 0) (S 1 0) (S 8 0) = nu := by (unfold nmVal; rw [hl9]; (repeat' split) <;> omega)
        rw [show (up2 (up2 S 8 0 (S 8 0 + dg)) 2 (3 * le + ix) nu) = rn1 S le ix from by (unfold rn1; rw [hl9, hv9])] at hP
        refine lv_iload hx hb dX2_readNumber_83 (lv_at hl 0 rfl) ?_
        refine z_if_le (tgt := 100) hx hb dX2_readNumber_85 (by decide) (by omega) (fun c2 => ?_) (fun c2 => ?_)
        · refine z_iconst hx hb dX2_readNumber_100 ?_
          exact z_zret hx hb hr hlk hP hS dX2_readNumber_101 (by omega) (by first | (exfalso; omega) | (rw [if_pos (show rnP S le ix ch from ⟨by omega, by assumption⟩)]; done) | (rw [if_neg (show ¬ rnP S le ix ch from fun q => absurd q.2 (by assumption))]; done) | (rw [if_neg (show ¬ rnP S le ix ch from fun q => absurd q.1 (by omega))])) (congrArg (tW_X2 ad cI) (by unfold rnC; first | (exfalso; omega) | (rw [if_pos (show isDg (sgP S) from by omega)]; done) | rw [if_neg (show ¬ isDg (sgP S) from by omega)]))
        · refine lv_aload_n hx hb dX2_readNumber_88 rfl (lv_at hl 2 rfl) ?_
          refine lv_iload_n hx hb dX2_readNumber_89 rfl (lv_at hl 5 rfl) ?_
          refine z_calli (va_runV (As := [.int (zI ch)]) (rest := []) ⟨hx, hb, hml, hown, hts⟩ (k_X2_readSign l dC dI cI cQ A ad (rn1 S le ix) hD ch (by exact CX_rn1 hX le ix) (by omega)) (cwV 1 hts gX2_readNumber_X2_readSign rfl rfl rfl (by decide +kernel) ⟨Nat.le_of_ble_eq_true rfl, Nat.le_of_ble_eq_true rfl⟩) (z_preV hK hP (ci := 2) (q0 := 0) rfl rfl rfl) rfl rfl hl.1 rfl (lv_room (Nat.le_of_ble_eq_true rfl)) dX2_readNumber_90 ⟨Nat.zero_le _, Nat.zero_le _⟩) hS (fun _ h => h) (fun H locs hP hS _ _ => ?_)
          refine z_ifb_eq (tgt := 100) hx hb dX2_readNumber_93 (by decide) (fun c3 => ?_) (fun c3 => ?_)
          · refine z_iconst hx hb dX2_readNumber_100 ?_
            exact z_zret hx hb hr hlk hP hS dX2_readNumber_101 (by omega) (by first | (exfalso; omega) | (rw [if_pos (show rnP S le ix ch from ⟨by omega, by assumption⟩)]; done) | (rw [if_neg (show ¬ rnP S le ix ch from fun q => absurd q.2 (by assumption))]; done) | (rw [if_neg (show ¬ rnP S le ix ch from fun q => absurd q.1 (by omega))])) (congrArg (tW_X2 ad cI) (by unfold rnC; first | (exfalso; omega) | (rw [if_pos (show isDg (sgP S) from by omega)]; done) | rw [if_neg (show ¬ isDg (sgP S) from by omega)]))
          · refine z_iconst hx hb dX2_readNumber_96 ?_
            refine lv_goto (tgt := 101) hx hb dX2_readNumber_97 (by decide) ?_
            exact z_zret hx hb hr hlk hP hS dX2_readNumber_101 (by omega) (by first | (exfalso; omega) | (rw [if_pos (show rnP S le ix ch from ⟨by omega, by assumption⟩)]; done) | (rw [if_neg (show ¬ rnP S le ix ch from fun q => absurd q.2 (by assumption))]; done) | (rw [if_neg (show ¬ rnP S le ix ch from fun q => absurd q.1 (by omega))])) (congrArg (tW_X2 ad cI) (by unfold rnC; first | (exfalso; omega) | (rw [if_pos (show isDg (sgP S) from by omega)]; done) | rw [if_neg (show ¬ isDg (sgP S) from by omega)]))
      · refine lv_aload_n hx hb dX2_readNumber_12 rfl (lv_at hl 2 rfl) ?_
        refine lv_aload_n hx hb dX2_readNumber_13 rfl (lv_at hl 2 rfl) ?_
        refine gx_X2_8 hx hb hts hin hown hK hP (hts _ (List.mem_of_getElem? (i := 1) rfl)) dX2_readNumber_14 ?_
        refine z_top (y := S 8 0 + dg) (up2_eq _ _ _ _) ?_
        refine z_calli (va_runV (As := [.int (zI (S 8 0 + dg))]) (rest := []) ⟨hx, hb, hml, hown, hts⟩ (k_X2_signAt l dC dI cI cQ A ad (up2 S 8 0 (S 8 0 + dg)) hD (S 8 0 + dg) (by first | omega | exact h1) (by omega)) (cwV 1 hts gX2_readNumber_X2_signAt rfl rfl rfl (by decide +kernel) ⟨Nat.le_of_ble_eq_true rfl, Nat.le_of_ble_eq_true rfl⟩) (z_preV hK hP (ci := 2) (q0 := 0) rfl rfl rfl) rfl rfl hl.1 rfl (lv_room (Nat.le_of_ble_eq_true rfl)) dX2_readNumber_17 ⟨Nat.zero_le _, Nat.zero_le _⟩) hS (fun _ h => h) (fun H locs hP hS _ _ => ?_)
        refine z_top (y := (sgF (S 0) (S 1 0) (S 8 0 + dg))) (by rfl) ?_
        refine z_calli (va_runS (As := [.int (zI (sgF (S 0) (S 1 0) (S 8 0 + dg)))]) (rest := []) ⟨hx, hb, hml, hown, hts⟩ (k_X2_isDigit l dC dI cI cQ A (tW_X2 ad cI (up2 S 8 0 (S 8 0 + dg))) (sgF (S 0) (S 1 0) (S 8 0 + dg)) (by omega)) (va_cwS 1 hts gX2_readNumber_X2_isDigit rfl rfl rfl (by decide +kernel) ⟨Nat.le_of_ble_eq_true rfl, Nat.le_of_ble_eq_true rfl⟩) (z_preS hK hP) rfl rfl hl.1 rfl (lv_room (Nat.le_of_ble_eq_true rfl)) dX2_readNumber_20 ⟨Nat.zero_le _, Nat.zero_le _⟩) hS (fun _ h => h) (fun H locs hP hS _ _ => ?_)
        refine z_ifb_eq (tgt := 71) hx hb dX2_readNumber_23 (by decide) (fun c4 => ?_) (fun c4 => ?_)
        · refine lv_aload_n hx hb dX2_readNumber_71 rfl (lv_at hl 2 rfl) ?_
          refine gx_X2_2 hx hb hts hin hown hK hP (hts _ (List.mem_of_getElem? (i := 2) rfl)) dX2_readNumber_72 ?_
          refine lv_iload_n hx hb dX2_readNumber_75 rfl (lv_at hl 3 rfl) ?_
          refine z_iconst hx hb dX2_readNumber_76 ?_
          refine z_imul hx hb dX2_readNumber_77 ?_
          refine z_top (y := 3 * le) (by omega) ?_
          refine lv_iload_n hx hb dX2_readNumber_78 rfl (lv_at hl 4 rfl) ?_
          refine z_iadd hx hb dX2_readNumber_79 ?_
          refine z_top (y := 3 * le + ix) (by omega) ?_
          refine lv_iload hx hb dX2_readNumber_80 (lv_at hl 1 rfl) ?_
          refine st_X2_2 hx hb hK hP hD hS (by omega) dX2_readNumber_82 (fun H locs hP hS => ?_)
          have hl9 : nmLen (S 0) (S 1 0) (S 8 0) = dg := by (unfold nmLen; (repeat' split) <;> omega)
          have hv9 : nmVal (S 0) (S 1 0) (S 8 0) = nu := by (unfold nmVal; rw [hl9]; (repeat' split) <;> omega)
          rw [show (up2 (up2 S 8 0 (S 8 0 + dg)) 2 (3 * le + ix) nu) = rn1 S le ix from by (unfold rn1; rw [hl9, hv9])] at hP
          refine lv_iload hx hb dX2_readNumber_83 (lv_at hl 0 rfl) ?_
          refine z_if_le (tgt := 100) hx hb dX2_readNumber_85 (by decide) (by omega) (fun c5 => ?_) (fun c5 => ?_)
          · refine z_iconst hx hb dX2_readNumber_100 ?_
            exact z_zret hx hb hr hlk hP hS dX2_readNumber_101 (by omega) (by first | (exfalso; omega) | (rw [if_pos (show rnP S le ix ch from ⟨by omega, by assumption⟩)]; done) | (rw [if_neg (show ¬ rnP S le ix ch from fun q => absurd q.2 (by assumption))]; done) | (rw [if_neg (show ¬ rnP S le ix ch from fun q => absurd q.1 (by omega))])) (congrArg (tW_X2 ad cI) (by unfold rnC; first | (exfalso; omega) | (rw [if_pos (show isDg (sgP S) from by omega)]; done) | rw [if_neg (show ¬ isDg (sgP S) from by omega)]))
          · refine lv_aload_n hx hb dX2_readNumber_88 rfl (lv_at hl 2 rfl) ?_
            refine lv_iload_n hx hb dX2_readNumber_89 rfl (lv_at hl 5 rfl) ?_
            refine z_calli (va_runV (As := [.int (zI ch)]) (rest := []) ⟨hx, hb, hml, hown, hts⟩ (k_X2_readSign l dC dI cI cQ A ad (rn1 S le ix) hD ch (by exact CX_rn1 hX le ix) (by omega)) (cwV 1 hts gX2_readNumber_X2_readSign rfl rfl rfl (by decide +kernel) ⟨Nat.le_of_ble_eq_true rfl, Nat.le_of_ble_eq_true rfl⟩) (z_preV hK hP (ci := 2) (q0 := 0) rfl rfl rfl) rfl rfl hl.1 rfl (lv_room (Nat.le_of_ble_eq_true rfl)) dX2_readNumber_90 ⟨Nat.zero_le _, Nat.zero_le _⟩) hS (fun _ h => h) (fun H locs hP hS _ _ => ?_)
            refine z_ifb_eq (tgt := 100) hx hb dX2_readNumber_93 (by decide) (fun c6 => ?_) (fun c6 => ?_)
            · refine z_iconst hx hb dX2_readNumber_100 ?_
              exact z_zret hx hb hr hlk hP hS dX2_readNumber_101 (by omega) (by first | (exfalso; omega) | (rw [if_pos (show rnP S le ix ch from ⟨by omega, by assumption⟩)]; done) | (rw [if_neg (show ¬ rnP S le ix ch from fun q => absurd q.2 (by assumption))]; done) | (rw [if_neg (show ¬ rnP S le ix ch from fun q => absurd q.1 (by omega))])) (congrArg (tW_X2 ad cI) (by unfold rnC; first | (exfalso; omega) | (rw [if_pos (show isDg (sgP S) from by omega)]; done) | rw [if_neg (show ¬ isDg (sgP S) from by omega)]))
            · refine z_iconst hx hb dX2_readNumber_96 ?_
              refine lv_goto (tgt := 101) hx hb dX2_readNumber_97 (by decide) ?_
              exact z_zret hx hb hr hlk hP hS dX2_readNumber_101 (by omega) (by first | (exfalso; omega) | (rw [if_pos (show rnP S le ix ch from ⟨by omega, by assumption⟩)]; done) | (rw [if_neg (show ¬ rnP S le ix ch from fun q => absurd q.2 (by assumption))]; done) | (rw [if_neg (show ¬ rnP S le ix ch from fun q => absurd q.1 (by omega))])) (congrArg (tW_X2 ad cI) (by unfold rnC; first | (exfalso; omega) | (rw [if_pos (show isDg (sgP S) from by omega)]; done) | rw [if_neg (show ¬ isDg (sgP S) from by omega)]))
        · refine lv_iload hx hb dX2_readNumber_26 (lv_at hl 0 rfl) ?_
          refine z_if_eq (tgt := 36) hx hb dX2_readNumber_28 (by decide) (by omega) (fun c7 => ?_) (fun c7 => ?_)
          · refine lv_iload hx hb dX2_readNumber_36 (lv_at hl 1 rfl) ?_
            refine z_bipush (z := 10) hx hb dX2_readNumber_38 (by decide +kernel) ?_
            refine z_imul hx hb dX2_readNumber_40 ?_
            refine z_top (y := 10 * nu) (by omega) ?_
            refine lv_aload_n hx hb dX2_readNumber_41 rfl (lv_at hl 2 rfl) ?_
            refine lv_aload_n hx hb dX2_readNumber_42 rfl (lv_at hl 2 rfl) ?_
            refine gx_X2_8 hx hb hts hin hown hK hP (hts _ (List.mem_of_getElem? (i := 1) rfl)) dX2_readNumber_43 ?_
            refine z_top (y := S 8 0 + dg) (up2_eq _ _ _ _) ?_
            refine z_calli (va_runV (As := [.int (zI (S 8 0 + dg))]) (rest := [.int (zI (10 * nu))]) ⟨hx, hb, hml, hown, hts⟩ (k_X2_signAt l dC dI cI cQ A ad (up2 S 8 0 (S 8 0 + dg)) hD (S 8 0 + dg) (by first | omega | exact h1) (by omega)) (cwV 1 hts gX2_readNumber_X2_signAt rfl rfl rfl (by decide +kernel) ⟨Nat.le_of_ble_eq_true rfl, Nat.le_of_ble_eq_true rfl⟩) (z_preV hK hP (ci := 2) (q0 := 0) rfl rfl rfl) rfl rfl hl.1 rfl (lv_room (Nat.le_of_ble_eq_true rfl)) dX2_readNumber_46 ⟨Nat.zero_le _, Nat.zero_le _⟩) hS (fun _ h => h) (fun H locs hP hS _ _ => ?_)
            refine z_top (y := (sgF (S 0) (S 1 0) (S 8 0 + dg))) (by rfl) ?_
            refine z_iadd hx hb dX2_readNumber_49 ?_
            refine z_top (y := 10 * nu + (sgF (S 0) (S 1 0) (S 8 0 + dg))) (by omega) ?_
            refine z_bipush (z := 48) hx hb dX2_readNumber_50 (by decide +kernel) ?_
            refine z_isub hx hb dX2_readNumber_52 ?_
            refine z_top (y := 10 * nu + (sgF (S 0) (S 1 0) (S 8 0 + dg)) - 48) (by omega) ?_
            refine lv_istore (lv' := [(4, .int (zI (10 * nu + (sgF (S 0) (S 1 0) (S 8 0 + dg)) - 48))), (5, .int (zI dg)), (0, .ref (ad 0)), (1, .int (zI le)), (2, .int (zI ix)), (3, .int (zI ch))]) hx hb dX2_readNumber_53 hl (by decide) rfl (fun ls hl => ?_)
            refine z_iinc (lv' := [(5, .int (zI (dg + 1))), (4, .int (zI (10 * nu + (sgF (S 0) (S 1 0) (S 8 0 + dg)) - 48))), (0, .ref (ad 0)), (1, .int (zI le)), (2, .int (zI ix)), (3, .int (zI ch))]) hx hb dX2_readNumber_55 hl (k := 1) rfl (by decide) (by rw [show (dg : Int) + (1) = (dg + 1) from by omega]; rfl) (fun ls hl => ?_)
            refine lv_aload_n hx hb dX2_readNumber_58 rfl (lv_at hl 2 rfl) ?_
            refine lv_dup hx hb dX2_readNumber_59 rfl ?_
            refine gx_X2_8 hx hb hts hin hown hK hP (hts _ (List.mem_of_getElem? (i := 1) rfl)) dX2_readNumber_60 ?_
            refine z_top (y := S 8 0 + dg) (up2_eq _ _ _ _) ?_
            refine z_iconst hx hb dX2_readNumber_63 ?_
            refine z_iadd hx hb dX2_readNumber_64 ?_
            refine z_top (y := S 8 0 + dg + 1) (by omega) ?_
            refine px_X2_8 hx hb hts hin hown hK hP hD hS (hts _ (List.mem_of_getElem? (i := 1) rfl)) dX2_readNumber_65 (fun H locs hP hS => ?_)
            refine lv_goto (tgt := 6) hx hb dX2_readNumber_68 (by decide) ?_
            exact ih6 (10 * nu + (sgF (S 0) (S 1 0) (S 8 0 + dg)) - 48) (dg + 1) (up2 (up2 S 8 0 (S 8 0 + dg)) 8 0 (S 8 0 + dg + 1)) (by omega) (by rw [up2_tw]; first | rfl | rw [show S 8 0 + (dg + 1) = S 8 0 + dg + 1 from by omega]) (by omega) (by omega) _ _ hP hS ls (lv_sub hl [0, 1, 2, 3, 4, 5] rfl)
          · refine lv_iload hx hb dX2_readNumber_31 (lv_at hl 1 rfl) ?_
            refine z_if_le (tgt := 71) hx hb dX2_readNumber_33 (by decide) (by omega) (fun c8 => ?_) (fun c8 => ?_)
            · refine lv_aload_n hx hb dX2_readNumber_71 rfl (lv_at hl 2 rfl) ?_
              refine gx_X2_2 hx hb hts hin hown hK hP (hts _ (List.mem_of_getElem? (i := 2) rfl)) dX2_readNumber_72 ?_
              refine lv_iload_n hx hb dX2_readNumber_75 rfl (lv_at hl 3 rfl) ?_
              refine z_iconst hx hb dX2_readNumber_76 ?_
              refine z_imul hx hb dX2_readNumber_77 ?_
              refine z_top (y := 3 * le) (by omega) ?_
              refine lv_iload_n hx hb dX2_readNumber_78 rfl (lv_at hl 4 rfl) ?_
              refine z_iadd hx hb dX2_readNumber_79 ?_
              refine z_top (y := 3 * le + ix) (by omega) ?_
              refine lv_iload hx hb dX2_readNumber_80 (lv_at hl 1 rfl) ?_
              refine st_X2_2 hx hb hK hP hD hS (by omega) dX2_readNumber_82 (fun H locs hP hS => ?_)
              have hl9 : nmLen (S 0) (S 1 0) (S 8 0) = dg := by (unfold nmLen; (repeat' split) <;> omega)
              have hv9 : nmVal (S 0) (S 1 0) (S 8 0) = nu := by (unfold nmVal; rw [hl9]; (repeat' split) <;> omega)
              rw [show (up2 (up2 S 8 0 (S 8 0 + dg)) 2 (3 * le + ix) nu) = rn1 S le ix from by (unfold rn1; rw [hl9, hv9])] at hP
              refine lv_iload hx hb dX2_readNumber_83 (lv_at hl 0 rfl) ?_
              refine z_if_le (tgt := 100) hx hb dX2_readNumber_85 (by decide) (by omega) (fun c9 => ?_) (fun c9 => ?_)
              · refine z_iconst hx hb dX2_readNumber_100 ?_
                exact z_zret hx hb hr hlk hP hS dX2_readNumber_101 (by omega) (by first | (exfalso; omega) | (rw [if_pos (show rnP S le ix ch from ⟨by omega, by assumption⟩)]; done) | (rw [if_neg (show ¬ rnP S le ix ch from fun q => absurd q.2 (by assumption))]; done) | (rw [if_neg (show ¬ rnP S le ix ch from fun q => absurd q.1 (by omega))])) (congrArg (tW_X2 ad cI) (by unfold rnC; first | (exfalso; omega) | (rw [if_pos (show isDg (sgP S) from by omega)]; done) | rw [if_neg (show ¬ isDg (sgP S) from by omega)]))
              · refine lv_aload_n hx hb dX2_readNumber_88 rfl (lv_at hl 2 rfl) ?_
                refine lv_iload_n hx hb dX2_readNumber_89 rfl (lv_at hl 5 rfl) ?_
                refine z_calli (va_runV (As := [.int (zI ch)]) (rest := []) ⟨hx, hb, hml, hown, hts⟩ (k_X2_readSign l dC dI cI cQ A ad (rn1 S le ix) hD ch (by exact CX_rn1 hX le ix) (by omega)) (cwV 1 hts gX2_readNumber_X2_readSign rfl rfl rfl (by decide +kernel) ⟨Nat.le_of_ble_eq_true rfl, Nat.le_of_ble_eq_true rfl⟩) (z_preV hK hP (ci := 2) (q0 := 0) rfl rfl rfl) rfl rfl hl.1 rfl (lv_room (Nat.le_of_ble_eq_true rfl)) dX2_readNumber_90 ⟨Nat.zero_le _, Nat.zero_le _⟩) hS (fun _ h => h) (fun H locs hP hS _ _ => ?_)
                refine z_ifb_eq (tgt := 100) hx hb dX2_readNumber_93 (by decide) (fun c10 => ?_) (fun c10 => ?_)
                · refine z_iconst hx hb dX2_readNumber_100 ?_
                  exact z_zret hx hb hr hlk hP hS dX2_readNumber_101 (by omega) (by first | (exfalso; omega) | (rw [if_pos (show rnP S le ix ch from ⟨by omega, by assumption⟩)]; done) | (rw [if_neg (show ¬ rnP S le ix ch from fun q => absurd q.2 (by assumption))]; done) | (rw [if_neg (show ¬ rnP S le ix ch from fun q => absurd q.1 (by omega))])) (congrArg (tW_X2 ad cI) (by unfold rnC; first | (exfalso; omega) | (rw [if_pos (show isDg (sgP S) from by omega)]; done) | rw [if_neg (show ¬ isDg (sgP S) from by omega)]))
                · refine z_iconst hx hb dX2_readNumber_96 ?_
                  refine lv_goto (tgt := 101) hx hb dX2_readNumber_97 (by decide) ?_
                  exact z_zret hx hb hr hlk hP hS dX2_readNumber_101 (by omega) (by first | (exfalso; omega) | (rw [if_pos (show rnP S le ix ch from ⟨by omega, by assumption⟩)]; done) | (rw [if_neg (show ¬ rnP S le ix ch from fun q => absurd q.2 (by assumption))]; done) | (rw [if_neg (show ¬ rnP S le ix ch from fun q => absurd q.1 (by omega))])) (congrArg (tW_X2 ad cI) (by unfold rnC; first | (exfalso; omega) | (rw [if_pos (show isDg (sgP S) from by omega)]; done) | rw [if_neg (show ¬ isDg (sgP S) from by omega)]))
            · refine lv_iload hx hb dX2_readNumber_36 (lv_at hl 1 rfl) ?_
              refine z_bipush (z := 10) hx hb dX2_readNumber_38 (by decide +kernel) ?_
              refine z_imul hx hb dX2_readNumber_40 ?_
              refine z_top (y := 10 * nu) (by omega) ?_
              refine lv_aload_n hx hb dX2_readNumber_41 rfl (lv_at hl 2 rfl) ?_
              refine lv_aload_n hx hb dX2_readNumber_42 rfl (lv_at hl 2 rfl) ?_
              refine gx_X2_8 hx hb hts hin hown hK hP (hts _ (List.mem_of_getElem? (i := 1) rfl)) dX2_readNumber_43 ?_
              refine z_top (y := S 8 0 + dg) (up2_eq _ _ _ _) ?_
              refine z_calli (va_runV (As := [.int (zI (S 8 0 + dg))]) (rest := [.int (zI (10 * nu))]) ⟨hx, hb, hml, hown, hts⟩ (k_X2_signAt l dC dI cI cQ A ad (up2 S 8 0 (S 8 0 + dg)) hD (S 8 0 + dg) (by first | omega | exact h1) (by omega)) (cwV 1 hts gX2_readNumber_X2_signAt rfl rfl rfl (by decide +kernel) ⟨Nat.le_of_ble_eq_true rfl, Nat.le_of_ble_eq_true rfl⟩) (z_preV hK hP (ci := 2) (q0 := 0) rfl rfl rfl) rfl rfl hl.1 rfl (lv_room (Nat.le_of_ble_eq_true rfl)) dX2_readNumber_46 ⟨Nat.zero_le _, Nat.zero_le _⟩) hS (fun _ h => h) (fun H locs hP hS _ _ => ?_)
              refine z_top (y := (sgF (S 0) (S 1 0) (S 8 0 + dg))) (by rfl) ?_
              refine z_iadd hx hb dX2_readNumber_49 ?_
              refine z_top (y := 10 * nu + (sgF (S 0) (S 1 0) (S 8 0 + dg))) (by omega) ?_
              refine z_bipush (z := 48) hx hb dX2_readNumber_50 (by decide +kernel) ?_
              refine z_isub hx hb dX2_readNumber_52 ?_
              refine z_top (y := 10 * nu + (sgF (S 0) (S 1 0) (S 8 0 + dg)) - 48) (by omega) ?_
              refine lv_istore (lv' := [(4, .int (zI (10 * nu + (sgF (S 0) (S 1 0) (S 8 0 + dg)) - 48))), (5, .int (zI dg)), (0, .ref (ad 0)), (1, .int (zI le)), (2, .int (zI ix)), (3, .int (zI ch))]) hx hb dX2_readNumber_53 hl (by decide) rfl (fun ls hl => ?_)
              refine z_iinc (lv' := [(5, .int (zI (dg + 1))), (4, .int (zI (10 * nu + (sgF (S 0) (S 1 0) (S 8 0 + dg)) - 48))), (0, .ref (ad 0)), (1, .int (zI le)), (2, .int (zI ix)), (3, .int (zI ch))]) hx hb dX2_readNumber_55 hl (k := 1) rfl (by decide) (by rw [show (dg : Int) + (1) = (dg + 1) from by omega]; rfl) (fun ls hl => ?_)
              refine lv_aload_n hx hb dX2_readNumber_58 rfl (lv_at hl 2 rfl) ?_
              refine lv_dup hx hb dX2_readNumber_59 rfl ?_
              refine gx_X2_8 hx hb hts hin hown hK hP (hts _ (List.mem_of_getElem? (i := 1) rfl)) dX2_readNumber_60 ?_
              refine z_top (y := S 8 0 + dg) (up2_eq _ _ _ _) ?_
              refine z_iconst hx hb dX2_readNumber_63 ?_
              refine z_iadd hx hb dX2_readNumber_64 ?_
              refine z_top (y := S 8 0 + dg + 1) (by omega) ?_
              refine px_X2_8 hx hb hts hin hown hK hP hD hS (hts _ (List.mem_of_getElem? (i := 1) rfl)) dX2_readNumber_65 (fun H locs hP hS => ?_)
              refine lv_goto (tgt := 6) hx hb dX2_readNumber_68 (by decide) ?_
              exact ih6 (10 * nu + (sgF (S 0) (S 1 0) (S 8 0 + dg)) - 48) (dg + 1) (up2 (up2 S 8 0 (S 8 0 + dg)) 8 0 (S 8 0 + dg + 1)) (by omega) (by rw [up2_tw]; first | rfl | rw [show S 8 0 + (dg + 1) = S 8 0 + dg + 1 from by omega]) (by omega) (by omega) _ _ hP hS ls (lv_sub hl [0, 1, 2, 3, 4, 5] rfl)
  exact hloop6 ((3 - 0 : Int) + 1).toNat 0 0 S (by omega) (by rw [show S 8 0 + 0 = S 8 0 from by omega, up2_id0]) (by omega) (by omega) _ _ hP hS ls (lv_sub hl [0, 1, 2, 3, 4, 5] rfl)
theorem in_X2_readAct : ∀ w ∈ wsX20, w ∈ wsX2_readAct := fun w h => List.mem_cons_of_mem _ (List.mem_append_right _ h)
set_option maxHeartbeats 4000000 in
set_option maxRecDepth 100000 in
theorem k_X2_readAct (l : Launch) (dC : Nat → ClassId) (dI : Nat → Nat → Nat) (cI cQ : ClassId) (A : Nat → Prop) (ad : Nat → Nat) (S : Nat → Int → Int) (hD : ∀ S, va_D A (tW_X2 ad cI S)) (hX : CX S) : Met l yX2_readAct wsX2_readAct ({ frames := 3, cells := 0, slots := 0, locals := 67 }) (zPc (dC, dI) vwCl (zT cI cQ) (tW_X2 ad cI S) [.ref (ad 0)]) (zQi (dC, dI) vwCl (tW_X2 ad cI (acC S)) (if acP S then 1 else 0) A) 0 0 A := by
  refine Met.ofW (cc := cX2_readAct) (maxL := 2) (ret := (some .boolean)) (by decide) rfl ?_
  intro p e s m args below meth c s₁ B hml hv
  obtain ⟨rfl, hP, hK⟩ := hv
  have hx := B.exec
  have hb := B.bytes
  have hr := B.returns
  have hts := atoms_spec (ws := wsX2_readAct) B.pre
  have hown : s.vm.findClass RX2 = some m.cls := findClass_of_methodNamed B.named
  have hlk := B.notSynchronized
  have hS : va_S A s.heap s.heap [] := va_S.rf
  have hl := lv_entry ([.ref (ad 0)]) (n := 2) (Nat.le_of_ble_eq_true rfl)
  rw [lg_entry_eq]
  generalize (lg_sl ([.ref (ad 0)]) ++ List.replicate (2 - (lg_sl ([.ref (ad 0)])).length) Slot.unset).toArray = ls at hl ⊢
  have hl : lv_has ls 2 [(0, .ref (ad 0))] := hl
  have hin : ∀ w ∈ wsX20, w ∈ wsX2_readAct := in_X2_readAct
  obtain ⟨hT, h1, h8, h4, h7, h6, h5⟩ := id hX
  have esg : sgP S = sgF (S 0) (S 1 0) (S 8 0) := rfl
  have g0 := sgF_rng hT (S 1 0) (S 8 0)
  refine lv_aload_n hx hb dX2_readAct_0 rfl (lv_at hl 0 rfl) ?_
  refine gx_X2_8 hx hb hts hin hown hK hP (hts _ (List.mem_of_getElem? (i := 1) rfl)) dX2_readAct_1 ?_
  refine lv_istore_n (lv' := [(1, .int (zI (S 8 0))), (0, .ref (ad 0))]) hx hb dX2_readAct_4 rfl hl (by decide) rfl (fun ls hl => ?_)
  refine lv_aload_n hx hb dX2_readAct_5 rfl (lv_at hl 1 rfl) ?_
  refine lv_iload_n hx hb dX2_readAct_6 rfl (lv_at hl 0 rfl) ?_
  refine z_calli (va_runV (As := [.int (zI (S 8 0))]) (rest := []) ⟨hx, hb, hml, hown, hts⟩ (k_X2_signAt l dC dI cI cQ A ad S hD (S 8 0) (by omega) (by omega)) (cwV 1 hts gX2_readAct_X2_signAt rfl rfl rfl (by decide +kernel) ⟨Nat.le_of_ble_eq_true rfl, Nat.le_of_ble_eq_true rfl⟩) (z_preV hK hP (ci := 2) (q0 := 0) rfl rfl rfl) rfl rfl hl.1 rfl (lv_room (Nat.le_of_ble_eq_true rfl)) dX2_readAct_7 ⟨Nat.zero_le _, Nat.zero_le _⟩) hS (fun _ h => h) (fun H locs hP hS _ _ => ?_)
  refine z_top (y := (sgF (S 0) (S 1 0) (S 8 0))) (by rfl) ?_
  rcases (show ((sgF (S 0) (S 1 0) (S 8 0)) < 114 ∨ 120 < (sgF (S 0) (S 1 0) (S 8 0))) ∨ (sgF (S 0) (S 1 0) (S 8 0)) = 114 ∨ (sgF (S 0) (S 1 0) (S 8 0)) = 115 ∨ (sgF (S 0) (S 1 0) (S 8 0)) = 116 ∨ (sgF (S 0) (S 1 0) (S 8 0)) = 117 ∨ (sgF (S 0) (S 1 0) (S 8 0)) = 118 ∨ (sgF (S 0) (S 1 0) (S 8 0)) = 119 ∨ (sgF (S 0) (S 1 0) (S 8 0)) = 120 from by omega) with c1 | c1 | c1 | c1 | c1 | c1 | c1 | c1
  · refine z_tabOut (tgt := 195) hx hb dX2_readAct_10 (by omega) c1 (by decide) ?_
    refine z_iconst hx hb dX2_readAct_195 ?_
    have hq : sgP S ≠ 114 ∧ sgP S ≠ 119 ∧ sgP S ≠ 116 ∧ sgP S ≠ 120 := by omega
    exact z_zret hx hb hr hlk hP hS dX2_readAct_196 (by omega) (by rw [if_neg (acP_n hq)]) (congrArg (tW_X2 ad cI) (by rw [acC_n hq]))
  · refine z_tabIn (tgt := 52) hx hb 0 dX2_readAct_10 (by omega) (by omega) (by omega) (by omega) rfl (by decide) ?_
    have hlt : S 8 0 < S 1 0 := sgF_in (T := S 0) (n := S 1 0) (p := S 8 0) (by omega)
    refine lv_aload_n hx hb dX2_readAct_52 rfl (lv_at hl 1 rfl) ?_
    refine lv_dup hx hb dX2_readAct_53 rfl ?_
    refine gx_X2_8 hx hb hts hin hown hK hP (hts _ (List.mem_of_getElem? (i := 1) rfl)) dX2_readAct_54 ?_
    refine z_iconst hx hb dX2_readAct_57 ?_
    refine z_iadd hx hb dX2_readAct_58 ?_
    refine z_top (y := S 8 0 + 1) (by omega) ?_
    refine px_X2_8 hx hb hts hin hown hK hP hD hS (hts _ (List.mem_of_getElem? (i := 1) rfl)) dX2_readAct_59 (fun H locs hP hS => ?_)
    refine lv_aload_n hx hb dX2_readAct_62 rfl (lv_at hl 1 rfl) ?_
    refine lv_iload_n hx hb dX2_readAct_63 rfl (lv_at hl 0 rfl) ?_
    refine z_callv (va_runV (As := [.int (zI (S 8 0))]) (rest := []) ⟨hx, hb, hml, hown, hts⟩ (k_X2_addStep l dC dI cI cQ A ad (up2 S 8 0 (S 8 0 + 1)) hD (S 8 0) (by exact h4)) (cwV 1 hts gX2_readAct_X2_addStep rfl rfl rfl (by decide +kernel) ⟨Nat.le_of_ble_eq_true rfl, Nat.le_of_ble_eq_true rfl⟩) (z_preV hK hP (ci := 2) (q0 := 0) rfl rfl rfl) rfl rfl hl.1 rfl (lv_room (Nat.le_of_ble_eq_true rfl)) dX2_readAct_64 ⟨Nat.zero_le _, Nat.zero_le _⟩) hS (fun _ h => h) (fun H locs hP hS _ _ => ?_)
    rw [show asC (up2 S 8 0 (S 8 0 + 1)) (S 8 0) = ac0 S from rfl] at hP
    refine lv_aload_n hx hb dX2_readAct_67 rfl (lv_at hl 1 rfl) ?_
    refine lv_iload_n hx hb dX2_readAct_68 rfl (lv_at hl 0 rfl) ?_
    refine z_iconst hx hb dX2_readAct_69 ?_
    refine z_bipush (z := 44) hx hb dX2_readAct_70 (by decide +kernel) ?_
    refine z_calli (va_runV (As := [.int (zI (S 8 0)), .int (zI 0), .int (zI 44)]) (rest := []) ⟨hx, hb, hml, hown, hts⟩ (k_X2_readNumber l dC dI cI cQ A ad (ac0 S) hD (S 8 0) 0 44 (by repeat (first | exact CX_ac0 hX hlt | refine CX_rn ?_ _ _ (by decide))) (by omega) (by omega) (by omega)) (cwV 3 hts gX2_readAct_X2_readNumber rfl rfl rfl (by decide +kernel) ⟨Nat.le_of_ble_eq_true rfl, Nat.le_of_ble_eq_true rfl⟩) (z_preV hK hP (ci := 2) (q0 := 0) rfl rfl rfl) rfl rfl hl.1 rfl (lv_room (Nat.le_of_ble_eq_true rfl)) dX2_readAct_72 ⟨Nat.zero_le _, Nat.zero_le _⟩) hS (fun _ h => h) (fun H locs hP hS _ _ => ?_)
    refine z_ifb_eq (tgt := 93) hx hb dX2_readAct_75 (by decide) (fun c2 => ?_) (fun c2 => ?_)
    · refine z_iconst hx hb dX2_readAct_93 ?_
      have hq : sgP S = 114 := by omega
      exact z_zret hx hb hr hlk hP hS dX2_readAct_94 (by omega) (by first | (rw [if_pos ((acP_r hq).mpr ⟨by assumption, by assumption⟩)]; done) | (rw [if_neg (fun q => absurd ((acP_r hq).mp q).1 (by assumption))]; done) | rw [if_neg (fun q => absurd ((acP_r hq).mp q).2 (by assumption))]) (congrArg (tW_X2 ad cI) (by rw [acC_r hq]; first | (rw [if_pos (by assumption)]; done) | rw [if_neg (by assumption)]))
    · refine lv_aload_n hx hb dX2_readAct_78 rfl (lv_at hl 1 rfl) ?_
      refine lv_iload_n hx hb dX2_readAct_79 rfl (lv_at hl 0 rfl) ?_
      refine z_iconst hx hb dX2_readAct_80 ?_
      refine z_bipush (z := 59) hx hb dX2_readAct_81 (by decide +kernel) ?_
      refine z_calli (va_runV (As := [.int (zI (S 8 0)), .int (zI 1), .int (zI 59)]) (rest := []) ⟨hx, hb, hml, hown, hts⟩ (k_X2_readNumber l dC dI cI cQ A ad (rnC (ac0 S) (S 8 0) 0 44) hD (S 8 0) 1 59 (by repeat (first | exact CX_ac0 hX hlt | refine CX_rn ?_ _ _ (by decide))) (by omega) (by omega) (by omega)) (cwV 3 hts gX2_readAct_X2_readNumber rfl rfl rfl (by decide +kernel) ⟨Nat.le_of_ble_eq_true rfl, Nat.le_of_ble_eq_true rfl⟩) (z_preV hK hP (ci := 2) (q0 := 0) rfl rfl rfl) rfl rfl hl.1 rfl (lv_room (Nat.le_of_ble_eq_true rfl)) dX2_readAct_83 ⟨Nat.zero_le _, Nat.zero_le _⟩) hS (fun _ h => h) (fun H locs hP hS _ _ => ?_)
      refine z_ifb_eq (tgt := 93) hx hb dX2_readAct_86 (by decide) (fun c3 => ?_) (fun c3 => ?_)
      · refine z_iconst hx hb dX2_readAct_93 ?_
        have hq : sgP S = 114 := by omega
        exact z_zret hx hb hr hlk hP hS dX2_readAct_94 (by omega) (by first | (rw [if_pos ((acP_r hq).mpr ⟨by assumption, by assumption⟩)]; done) | (rw [if_neg (fun q => absurd ((acP_r hq).mp q).1 (by assumption))]; done) | rw [if_neg (fun q => absurd ((acP_r hq).mp q).2 (by assumption))]) (congrArg (tW_X2 ad cI) (by rw [acC_r hq]; first | (rw [if_pos (by assumption)]; done) | rw [if_neg (by assumption)]))
      · refine z_iconst hx hb dX2_readAct_89 ?_
        refine lv_goto (tgt := 94) hx hb dX2_readAct_90 (by decide) ?_
        have hq : sgP S = 114 := by omega
        exact z_zret hx hb hr hlk hP hS dX2_readAct_94 (by omega) (by first | (rw [if_pos ((acP_r hq).mpr ⟨by assumption, by assumption⟩)]; done) | (rw [if_neg (fun q => absurd ((acP_r hq).mp q).1 (by assumption))]; done) | rw [if_neg (fun q => absurd ((acP_r hq).mp q).2 (by assumption))]) (congrArg (tW_X2 ad cI) (by rw [acC_r hq]; first | (rw [if_pos (by assumption)]; done) | rw [if_neg (by assumption)]))
  · refine z_tabIn (tgt := 195) hx hb 1 dX2_readAct_10 (by omega) (by omega) (by omega) (by omega) rfl (by decide) ?_
    refine z_iconst hx hb dX2_readAct_195 ?_
    have hq : sgP S ≠ 114 ∧ sgP S ≠ 119 ∧ sgP S ≠ 116 ∧ sgP S ≠ 120 := by omega
    exact z_zret hx hb hr hlk hP hS dX2_readAct_196 (by omega) (by rw [if_neg (acP_n hq)]) (congrArg (tW_X2 ad cI) (by rw [acC_n hq]))
  · refine z_tabIn (tgt := 149) hx hb 2 dX2_readAct_10 (by omega) (by omega) (by omega) (by omega) rfl (by decide) ?_
    have hlt : S 8 0 < S 1 0 := sgF_in (T := S 0) (n := S 1 0) (p := S 8 0) (by omega)
    refine lv_aload_n hx hb dX2_readAct_149 rfl (lv_at hl 1 rfl) ?_
    refine lv_dup hx hb dX2_readAct_150 rfl ?_
    refine gx_X2_8 hx hb hts hin hown hK hP (hts _ (List.mem_of_getElem? (i := 1) rfl)) dX2_readAct_151 ?_
    refine z_iconst hx hb dX2_readAct_154 ?_
    refine z_iadd hx hb dX2_readAct_155 ?_
    refine z_top (y := S 8 0 + 1) (by omega) ?_
    refine px_X2_8 hx hb hts hin hown hK hP hD hS (hts _ (List.mem_of_getElem? (i := 1) rfl)) dX2_readAct_156 (fun H locs hP hS => ?_)
    refine lv_aload_n hx hb dX2_readAct_159 rfl (lv_at hl 1 rfl) ?_
    refine lv_iload_n hx hb dX2_readAct_160 rfl (lv_at hl 0 rfl) ?_
    refine z_callv (va_runV (As := [.int (zI (S 8 0))]) (rest := []) ⟨hx, hb, hml, hown, hts⟩ (k_X2_addStep l dC dI cI cQ A ad (up2 S 8 0 (S 8 0 + 1)) hD (S 8 0) (by exact h4)) (cwV 1 hts gX2_readAct_X2_addStep rfl rfl rfl (by decide +kernel) ⟨Nat.le_of_ble_eq_true rfl, Nat.le_of_ble_eq_true rfl⟩) (z_preV hK hP (ci := 2) (q0 := 0) rfl rfl rfl) rfl rfl hl.1 rfl (lv_room (Nat.le_of_ble_eq_true rfl)) dX2_readAct_161 ⟨Nat.zero_le _, Nat.zero_le _⟩) hS (fun _ h => h) (fun H locs hP hS _ _ => ?_)
    rw [show asC (up2 S 8 0 (S 8 0 + 1)) (S 8 0) = ac0 S from rfl] at hP
    refine lv_aload_n hx hb dX2_readAct_164 rfl (lv_at hl 1 rfl) ?_
    refine lv_iload_n hx hb dX2_readAct_165 rfl (lv_at hl 0 rfl) ?_
    refine z_iconst hx hb dX2_readAct_166 ?_
    refine z_bipush (z := 59) hx hb dX2_readAct_167 (by decide +kernel) ?_
    refine z_calli (va_runV (As := [.int (zI (S 8 0)), .int (zI 0), .int (zI 59)]) (rest := []) ⟨hx, hb, hml, hown, hts⟩ (k_X2_readNumber l dC dI cI cQ A ad (ac0 S) hD (S 8 0) 0 59 (by repeat (first | exact CX_ac0 hX hlt | refine CX_rn ?_ _ _ (by decide))) (by omega) (by omega) (by omega)) (cwV 3 hts gX2_readAct_X2_readNumber rfl rfl rfl (by decide +kernel) ⟨Nat.le_of_ble_eq_true rfl, Nat.le_of_ble_eq_true rfl⟩) (z_preV hK hP (ci := 2) (q0 := 0) rfl rfl rfl) rfl rfl hl.1 rfl (lv_room (Nat.le_of_ble_eq_true rfl)) dX2_readAct_169 ⟨Nat.zero_le _, Nat.zero_le _⟩) hS (fun _ h => h) (fun H locs hP hS _ _ => ?_)
    have hq : sgP S = 116 := by omega
    exact z_zret hx hb hr hlk hP hS dX2_readAct_172 (by split <;> simp) (by first | exact b01 (acP_t hq) | exact b01 (acP_t hq).symm) (congrArg (tW_X2 ad cI) (by rw [acC_t hq]))
  · refine z_tabIn (tgt := 195) hx hb 3 dX2_readAct_10 (by omega) (by omega) (by omega) (by omega) rfl (by decide) ?_
    refine z_iconst hx hb dX2_readAct_195 ?_
    have hq : sgP S ≠ 114 ∧ sgP S ≠ 119 ∧ sgP S ≠ 116 ∧ sgP S ≠ 120 := by omega
    exact z_zret hx hb hr hlk hP hS dX2_readAct_196 (by omega) (by rw [if_neg (acP_n hq)]) (congrArg (tW_X2 ad cI) (by rw [acC_n hq]))
  · refine z_tabIn (tgt := 195) hx hb 4 dX2_readAct_10 (by omega) (by omega) (by omega) (by omega) rfl (by decide) ?_
    refine z_iconst hx hb dX2_readAct_195 ?_
    have hq : sgP S ≠ 114 ∧ sgP S ≠ 119 ∧ sgP S ≠ 116 ∧ sgP S ≠ 120 := by omega
    exact z_zret hx hb hr hlk hP hS dX2_readAct_196 (by omega) (by rw [if_neg (acP_n hq)]) (congrArg (tW_X2 ad cI) (by rw [acC_n hq]))
  · refine z_tabIn (tgt := 95) hx hb 5 dX2_readAct_10 (by omega) (by omega) (by omega) (by omega) rfl (by decide) ?_
    have hlt : S 8 0 < S 1 0 := sgF_in (T := S 0) (n := S 1 0) (p := S 8 0) (by omega)
    refine lv_aload_n hx hb dX2_readAct_95 rfl (lv_at hl 1 rfl) ?_
    refine lv_dup hx hb dX2_readAct_96 rfl ?_
    refine gx_X2_8 hx hb hts hin hown hK hP (hts _ (List.mem_of_getElem? (i := 1) rfl)) dX2_readAct_97 ?_
    refine z_iconst hx hb dX2_readAct_100 ?_
    refine z_iadd hx hb dX2_readAct_101 ?_
    refine z_top (y := S 8 0 + 1) (by omega) ?_
    refine px_X2_8 hx hb hts hin hown hK hP hD hS (hts _ (List.mem_of_getElem? (i := 1) rfl)) dX2_readAct_102 (fun H locs hP hS => ?_)
    refine lv_aload_n hx hb dX2_readAct_105 rfl (lv_at hl 1 rfl) ?_
    refine lv_iload_n hx hb dX2_readAct_106 rfl (lv_at hl 0 rfl) ?_
    refine z_callv (va_runV (As := [.int (zI (S 8 0))]) (rest := []) ⟨hx, hb, hml, hown, hts⟩ (k_X2_addStep l dC dI cI cQ A ad (up2 S 8 0 (S 8 0 + 1)) hD (S 8 0) (by exact h4)) (cwV 1 hts gX2_readAct_X2_addStep rfl rfl rfl (by decide +kernel) ⟨Nat.le_of_ble_eq_true rfl, Nat.le_of_ble_eq_true rfl⟩) (z_preV hK hP (ci := 2) (q0 := 0) rfl rfl rfl) rfl rfl hl.1 rfl (lv_room (Nat.le_of_ble_eq_true rfl)) dX2_readAct_107 ⟨Nat.zero_le _, Nat.zero_le _⟩) hS (fun _ h => h) (fun H locs hP hS _ _ => ?_)
    rw [show asC (up2 S 8 0 (S 8 0 + 1)) (S 8 0) = ac0 S from rfl] at hP
    refine lv_aload_n hx hb dX2_readAct_110 rfl (lv_at hl 1 rfl) ?_
    refine lv_iload_n hx hb dX2_readAct_111 rfl (lv_at hl 0 rfl) ?_
    refine z_iconst hx hb dX2_readAct_112 ?_
    refine z_bipush (z := 44) hx hb dX2_readAct_113 (by decide +kernel) ?_
    refine z_calli (va_runV (As := [.int (zI (S 8 0)), .int (zI 0), .int (zI 44)]) (rest := []) ⟨hx, hb, hml, hown, hts⟩ (k_X2_readNumber l dC dI cI cQ A ad (ac0 S) hD (S 8 0) 0 44 (by repeat (first | exact CX_ac0 hX hlt | refine CX_rn ?_ _ _ (by decide))) (by omega) (by omega) (by omega)) (cwV 3 hts gX2_readAct_X2_readNumber rfl rfl rfl (by decide +kernel) ⟨Nat.le_of_ble_eq_true rfl, Nat.le_of_ble_eq_true rfl⟩) (z_preV hK hP (ci := 2) (q0 := 0) rfl rfl rfl) rfl rfl hl.1 rfl (lv_room (Nat.le_of_ble_eq_true rfl)) dX2_readAct_115 ⟨Nat.zero_le _, Nat.zero_le _⟩) hS (fun _ h => h) (fun H locs hP hS _ _ => ?_)
    refine z_ifb_eq (tgt := 147) hx hb dX2_readAct_118 (by decide) (fun c4 => ?_) (fun c4 => ?_)
    · refine z_iconst hx hb dX2_readAct_147 ?_
      have hq : sgP S = 119 := by omega
      exact z_zret hx hb hr hlk hP hS dX2_readAct_148 (by omega) (by first | (rw [if_pos ((acP_w hq).mpr ⟨by assumption, by assumption, by assumption⟩)]; done) | (rw [if_neg (fun q => absurd ((acP_w hq).mp q).1 (by assumption))]; done) | (rw [if_neg (fun q => absurd ((acP_w hq).mp q).2.1 (by assumption))]; done) | rw [if_neg (fun q => absurd ((acP_w hq).mp q).2.2 (by assumption))]) (congrArg (tW_X2 ad cI) (by rw [acC_w hq]; first | (rw [if_pos (by assumption), if_pos (by assumption)]; done) | (rw [if_pos (by assumption), if_neg (by assumption)]; done) | (rw [if_neg (by assumption)])))
    · refine lv_aload_n hx hb dX2_readAct_121 rfl (lv_at hl 1 rfl) ?_
      refine lv_iload_n hx hb dX2_readAct_122 rfl (lv_at hl 0 rfl) ?_
      refine z_iconst hx hb dX2_readAct_123 ?_
      refine z_bipush (z := 61) hx hb dX2_readAct_124 (by decide +kernel) ?_
      refine z_calli (va_runV (As := [.int (zI (S 8 0)), .int (zI 1), .int (zI 61)]) (rest := []) ⟨hx, hb, hml, hown, hts⟩ (k_X2_readNumber l dC dI cI cQ A ad (rnC (ac0 S) (S 8 0) 0 44) hD (S 8 0) 1 61 (by repeat (first | exact CX_ac0 hX hlt | refine CX_rn ?_ _ _ (by decide))) (by omega) (by omega) (by omega)) (cwV 3 hts gX2_readAct_X2_readNumber rfl rfl rfl (by decide +kernel) ⟨Nat.le_of_ble_eq_true rfl, Nat.le_of_ble_eq_true rfl⟩) (z_preV hK hP (ci := 2) (q0 := 0) rfl rfl rfl) rfl rfl hl.1 rfl (lv_room (Nat.le_of_ble_eq_true rfl)) dX2_readAct_126 ⟨Nat.zero_le _, Nat.zero_le _⟩) hS (fun _ h => h) (fun H locs hP hS _ _ => ?_)
      refine z_ifb_eq (tgt := 147) hx hb dX2_readAct_129 (by decide) (fun c5 => ?_) (fun c5 => ?_)
      · refine z_iconst hx hb dX2_readAct_147 ?_
        have hq : sgP S = 119 := by omega
        exact z_zret hx hb hr hlk hP hS dX2_readAct_148 (by omega) (by first | (rw [if_pos ((acP_w hq).mpr ⟨by assumption, by assumption, by assumption⟩)]; done) | (rw [if_neg (fun q => absurd ((acP_w hq).mp q).1 (by assumption))]; done) | (rw [if_neg (fun q => absurd ((acP_w hq).mp q).2.1 (by assumption))]; done) | rw [if_neg (fun q => absurd ((acP_w hq).mp q).2.2 (by assumption))]) (congrArg (tW_X2 ad cI) (by rw [acC_w hq]; first | (rw [if_pos (by assumption), if_pos (by assumption)]; done) | (rw [if_pos (by assumption), if_neg (by assumption)]; done) | (rw [if_neg (by assumption)])))
      · refine lv_aload_n hx hb dX2_readAct_132 rfl (lv_at hl 1 rfl) ?_
        refine lv_iload_n hx hb dX2_readAct_133 rfl (lv_at hl 0 rfl) ?_
        refine z_iconst hx hb dX2_readAct_134 ?_
        refine z_bipush (z := 59) hx hb dX2_readAct_135 (by decide +kernel) ?_
        refine z_calli (va_runV (As := [.int (zI (S 8 0)), .int (zI 2), .int (zI 59)]) (rest := []) ⟨hx, hb, hml, hown, hts⟩ (k_X2_readNumber l dC dI cI cQ A ad (rnC (rnC (ac0 S) (S 8 0) 0 44) (S 8 0) 1 61) hD (S 8 0) 2 59 (by repeat (first | exact CX_ac0 hX hlt | refine CX_rn ?_ _ _ (by decide))) (by omega) (by omega) (by omega)) (cwV 3 hts gX2_readAct_X2_readNumber rfl rfl rfl (by decide +kernel) ⟨Nat.le_of_ble_eq_true rfl, Nat.le_of_ble_eq_true rfl⟩) (z_preV hK hP (ci := 2) (q0 := 0) rfl rfl rfl) rfl rfl hl.1 rfl (lv_room (Nat.le_of_ble_eq_true rfl)) dX2_readAct_137 ⟨Nat.zero_le _, Nat.zero_le _⟩) hS (fun _ h => h) (fun H locs hP hS _ _ => ?_)
        refine z_ifb_eq (tgt := 147) hx hb dX2_readAct_140 (by decide) (fun c6 => ?_) (fun c6 => ?_)
        · refine z_iconst hx hb dX2_readAct_147 ?_
          have hq : sgP S = 119 := by omega
          exact z_zret hx hb hr hlk hP hS dX2_readAct_148 (by omega) (by first | (rw [if_pos ((acP_w hq).mpr ⟨by assumption, by assumption, by assumption⟩)]; done) | (rw [if_neg (fun q => absurd ((acP_w hq).mp q).1 (by assumption))]; done) | (rw [if_neg (fun q => absurd ((acP_w hq).mp q).2.1 (by assumption))]; done) | rw [if_neg (fun q => absurd ((acP_w hq).mp q).2.2 (by assumption))]) (congrArg (tW_X2 ad cI) (by rw [acC_w hq]; first | (rw [if_pos (by assumption), if_pos (by assumption)]; done) | (rw [if_pos (by assumption), if_neg (by assumption)]; done) | (rw [if_neg (by assumption)])))
        · refine z_iconst hx hb dX2_readAct_143 ?_
          refine lv_goto (tgt := 148) hx hb dX2_readAct_144 (by decide) ?_
          have hq : sgP S = 119 := by omega
          exact z_zret hx hb hr hlk hP hS dX2_readAct_148 (by omega) (by first | (rw [if_pos ((acP_w hq).mpr ⟨by assumption, by assumption, by assumption⟩)]; done) | (rw [if_neg (fun q => absurd ((acP_w hq).mp q).1 (by assumption))]; done) | (rw [if_neg (fun q => absurd ((acP_w hq).mp q).2.1 (by assumption))]; done) | rw [if_neg (fun q => absurd ((acP_w hq).mp q).2.2 (by assumption))]) (congrArg (tW_X2 ad cI) (by rw [acC_w hq]; first | (rw [if_pos (by assumption), if_pos (by assumption)]; done) | (rw [if_pos (by assumption), if_neg (by assumption)]; done) | (rw [if_neg (by assumption)])))
  · refine z_tabIn (tgt := 173) hx hb 6 dX2_readAct_10 (by omega) (by omega) (by omega) (by omega) rfl (by decide) ?_
    have hlt : S 8 0 < S 1 0 := sgF_in (T := S 0) (n := S 1 0) (p := S 8 0) (by omega)
    refine lv_aload_n hx hb dX2_readAct_173 rfl (lv_at hl 1 rfl) ?_
    refine lv_dup hx hb dX2_readAct_174 rfl ?_
    refine gx_X2_8 hx hb hts hin hown hK hP (hts _ (List.mem_of_getElem? (i := 1) rfl)) dX2_readAct_175 ?_
    refine z_iconst hx hb dX2_readAct_178 ?_
    refine z_iadd hx hb dX2_readAct_179 ?_
    refine z_top (y := S 8 0 + 1) (by omega) ?_
    refine px_X2_8 hx hb hts hin hown hK hP hD hS (hts _ (List.mem_of_getElem? (i := 1) rfl)) dX2_readAct_180 (fun H locs hP hS => ?_)
    refine lv_aload_n hx hb dX2_readAct_183 rfl (lv_at hl 1 rfl) ?_
    refine lv_iload_n hx hb dX2_readAct_184 rfl (lv_at hl 0 rfl) ?_
    refine z_callv (va_runV (As := [.int (zI (S 8 0))]) (rest := []) ⟨hx, hb, hml, hown, hts⟩ (k_X2_addStep l dC dI cI cQ A ad (up2 S 8 0 (S 8 0 + 1)) hD (S 8 0) (by exact h4)) (cwV 1 hts gX2_readAct_X2_addStep rfl rfl rfl (by decide +kernel) ⟨Nat.le_of_ble_eq_true rfl, Nat.le_of_ble_eq_true rfl⟩) (z_preV hK hP (ci := 2) (q0 := 0) rfl rfl rfl) rfl rfl hl.1 rfl (lv_room (Nat.le_of_ble_eq_true rfl)) dX2_readAct_185 ⟨Nat.zero_le _, Nat.zero_le _⟩) hS (fun _ h => h) (fun H locs hP hS _ _ => ?_)
    rw [show asC (up2 S 8 0 (S 8 0 + 1)) (S 8 0) = ac0 S from rfl] at hP
    refine lv_aload_n hx hb dX2_readAct_188 rfl (lv_at hl 1 rfl) ?_
    refine z_bipush (z := 59) hx hb dX2_readAct_189 (by decide +kernel) ?_
    refine z_calli (va_runV (As := [.int (zI 59)]) (rest := []) ⟨hx, hb, hml, hown, hts⟩ (k_X2_readSign l dC dI cI cQ A ad (ac0 S) hD 59 (by repeat (first | exact CX_ac0 hX hlt | refine CX_rn ?_ _ _ (by decide))) (by omega)) (cwV 1 hts gX2_readAct_X2_readSign rfl rfl rfl (by decide +kernel) ⟨Nat.le_of_ble_eq_true rfl, Nat.le_of_ble_eq_true rfl⟩) (z_preV hK hP (ci := 2) (q0 := 0) rfl rfl rfl) rfl rfl hl.1 rfl (lv_room (Nat.le_of_ble_eq_true rfl)) dX2_readAct_191 ⟨Nat.zero_le _, Nat.zero_le _⟩) hS (fun _ h => h) (fun H locs hP hS _ _ => ?_)
    have hq : sgP S = 120 := by omega
    exact z_zret hx hb hr hlk hP hS dX2_readAct_194 (by split <;> simp) (by first | exact b01 (acP_x hq) | exact b01 (acP_x hq).symm) (congrArg (tW_X2 ad cI) (by rw [acC_x hq]))
theorem in_X2_openGroup : ∀ w ∈ wsX20, w ∈ wsX2_openGroup := fun w h => List.mem_cons_of_mem _ (List.mem_append_right _ h)
set_option maxHeartbeats 4000000 in
set_option maxRecDepth 100000 in
theorem k_X2_openGroup (l : Launch) (dC : Nat → ClassId) (dI : Nat → Nat → Nat) (cI cQ : ClassId) (A : Nat → Prop) (ad : Nat → Nat) (S : Nat → Int → Int) (hD : ∀ S, va_D A (tW_X2 ad cI S)) (hX : CX S) : Met l yX2_openGroup wsX2_openGroup ({ frames := 1, cells := 0, slots := 0, locals := 21 }) (zPc (dC, dI) vwCl (zT cI cQ) (tW_X2 ad cI S) [.ref (ad 0)]) (zQi (dC, dI) vwCl (tW_X2 ad cI (opC S)) (if opP S then 1 else 0) A) 0 0 A := by
  refine Met.ofW (cc := cX2_openGroup) (maxL := 2) (ret := (some .boolean)) (by decide) rfl ?_
  intro p e s m args below meth c s₁ B hml hv
  obtain ⟨rfl, hP, hK⟩ := hv
  have hx := B.exec
  have hb := B.bytes
  have hr := B.returns
  have hts := atoms_spec (ws := wsX2_openGroup) B.pre
  have hown : s.vm.findClass RX2 = some m.cls := findClass_of_methodNamed B.named
  have hlk := B.notSynchronized
  have hS : va_S A s.heap s.heap [] := va_S.rf
  have hl := lv_entry ([.ref (ad 0)]) (n := 2) (Nat.le_of_ble_eq_true rfl)
  rw [lg_entry_eq]
  generalize (lg_sl ([.ref (ad 0)]) ++ List.replicate (2 - (lg_sl ([.ref (ad 0)])).length) Slot.unset).toArray = ls at hl ⊢
  have hl : lv_has ls 2 [(0, .ref (ad 0))] := hl
  have hin : ∀ w ∈ wsX20, w ∈ wsX2_openGroup := in_X2_openGroup
  obtain ⟨hT, h1, h8, h4, h7, h6, h5⟩ := id hX
  have esg : sgP S = sgF (S 0) (S 1 0) (S 8 0) := rfl
  have g0 := sgF_rng hT (S 1 0) (S 8 0)
  have g1 := sgF_rng hT (S 1 0) (S 8 0 + 1)
  have es1 : sgP (up2 S 8 0 (S 8 0 + 1)) = sgF (S 0) (S 1 0) (S 8 0 + 1) := rfl
  refine z_iconst hx hb dX2_openGroup_0 ?_
  refine lv_istore_n (lv' := [(1, .int (zI 1)), (0, .ref (ad 0))]) hx hb dX2_openGroup_1 rfl hl (by decide) rfl (fun ls hl => ?_)
  refine lv_aload_n hx hb dX2_openGroup_2 rfl (lv_at hl 1 rfl) ?_
  refine lv_aload_n hx hb dX2_openGroup_3 rfl (lv_at hl 1 rfl) ?_
  refine gx_X2_8 hx hb hts hin hown hK hP (hts _ (List.mem_of_getElem? (i := 1) rfl)) dX2_openGroup_4 ?_
  refine z_calli (va_runV (As := [.int (zI (S 8 0))]) (rest := []) ⟨hx, hb, hml, hown, hts⟩ (k_X2_signAt l dC dI cI cQ A ad S hD (S 8 0) (by first | omega | exact h1) (by omega)) (cwV 1 hts gX2_openGroup_X2_signAt rfl rfl rfl (by decide +kernel) ⟨Nat.le_of_ble_eq_true rfl, Nat.le_of_ble_eq_true rfl⟩) (z_preV hK hP (ci := 2) (q0 := 0) rfl rfl rfl) rfl rfl hl.1 rfl (lv_room (Nat.le_of_ble_eq_true rfl)) dX2_openGroup_7 ⟨Nat.zero_le _, Nat.zero_le _⟩) hS (fun _ h => h) (fun H locs hP hS _ _ => ?_)
  refine z_top (y := (sgF (S 0) (S 1 0) (S 8 0))) (by rfl) ?_
  refine z_bipush (z := 40) hx hb dX2_openGroup_10 (by decide +kernel) ?_
  refine z_icmp_eq (tgt := 37) hx hb dX2_openGroup_12 (by decide) (by omega) (by omega) (fun c1 => ?_) (fun c1 => ?_)
  · refine lv_aload_n hx hb dX2_openGroup_37 rfl (lv_at hl 1 rfl) ?_
    refine lv_aload_n hx hb dX2_openGroup_38 rfl (lv_at hl 1 rfl) ?_
    refine gx_X2_8 hx hb hts hin hown hK hP (hts _ (List.mem_of_getElem? (i := 1) rfl)) dX2_openGroup_39 ?_
    refine z_calli (va_runV (As := [.int (zI (S 8 0))]) (rest := []) ⟨hx, hb, hml, hown, hts⟩ (k_X2_signAt l dC dI cI cQ A ad S hD (S 8 0) (by first | omega | exact h1) (by omega)) (cwV 1 hts gX2_openGroup_X2_signAt rfl rfl rfl (by decide +kernel) ⟨Nat.le_of_ble_eq_true rfl, Nat.le_of_ble_eq_true rfl⟩) (z_preV hK hP (ci := 2) (q0 := 0) rfl rfl rfl) rfl rfl hl.1 rfl (lv_room (Nat.le_of_ble_eq_true rfl)) dX2_openGroup_42 ⟨Nat.zero_le _, Nat.zero_le _⟩) hS (fun _ h => h) (fun H locs hP hS _ _ => ?_)
    refine z_top (y := (sgF (S 0) (S 1 0) (S 8 0))) (by rfl) ?_
    refine z_bipush (z := 40) hx hb dX2_openGroup_45 (by decide +kernel) ?_
    refine z_icmp_ne (tgt := 58) hx hb dX2_openGroup_47 (by decide) (by omega) (by omega) (fun c2 => ?_) (fun c2 => ?_)
    · refine z_iconst hx hb dX2_openGroup_58 ?_
      have eo := op1_c S
      exact z_zret hx hb hr hlk hP hS dX2_openGroup_59 (by omega) (by rcases eo with ⟨a, b⟩ | ⟨a, b⟩ <;> first | (exfalso; omega) | (rw [if_pos (show opP S from ⟨by rw [b]; omega, by omega⟩)]; done) | (rw [if_neg (show ¬ opP S from fun q => by have q1 := q.1; have q2 := q.2; rw [b] at q1; omega)])) (congrArg (tW_X2 ad cI) (by unfold opC; rcases eo with ⟨a, b⟩ | ⟨a, b⟩ <;> first | (exfalso; omega) | (rw [if_pos (show sgP (op1 S) = 40 ∧ S 7 0 < 3 from ⟨by rw [b]; omega, by omega⟩), b]; first | (rw [if_pos a]; done) | (rw [if_neg a, up2_eq, show S 8 0 + 1 + 1 = S 8 0 + 2 from by omega]; rfl)) | (rw [if_neg (show ¬ (sgP (op1 S) = 40 ∧ S 7 0 < 3) from fun q => by have q1 := q.1; have q2 := q.2; rw [b] at q1; omega), b])))
    · refine lv_aload_n hx hb dX2_openGroup_50 rfl (lv_at hl 1 rfl) ?_
      refine gx_X2_7 hx hb hts hin hown hK hP (hts _ (List.mem_of_getElem? (i := 2) rfl)) dX2_openGroup_51 ?_
      refine z_iconst hx hb dX2_openGroup_54 ?_
      refine z_icmp_lt (tgt := 60) hx hb dX2_openGroup_55 (by decide) (by omega) (by omega) (fun c3 => ?_) (fun c3 => ?_)
      · refine lv_aload_n hx hb dX2_openGroup_60 rfl (lv_at hl 1 rfl) ?_
        refine gx_X2_5 hx hb hts hin hown hK hP (hts _ (List.mem_of_getElem? (i := 3) rfl)) dX2_openGroup_61 ?_
        refine lv_aload_n hx hb dX2_openGroup_64 rfl (lv_at hl 1 rfl) ?_
        refine gx_X2_7 hx hb hts hin hown hK hP (hts _ (List.mem_of_getElem? (i := 2) rfl)) dX2_openGroup_65 ?_
        refine lv_iload_n hx hb dX2_openGroup_68 rfl (lv_at hl 0 rfl) ?_
        refine st_X2_5 hx hb hK hP hD hS (by omega) dX2_openGroup_69 (fun H locs hP hS => ?_)
        refine lv_aload_n hx hb dX2_openGroup_70 rfl (lv_at hl 1 rfl) ?_
        refine gx_X2_6 hx hb hts hin hown hK hP (hts _ (List.mem_of_getElem? (i := 4) rfl)) dX2_openGroup_71 ?_
        refine lv_aload_n hx hb dX2_openGroup_74 rfl (lv_at hl 1 rfl) ?_
        refine gx_X2_7 hx hb hts hin hown hK hP (hts _ (List.mem_of_getElem? (i := 2) rfl)) dX2_openGroup_75 ?_
        refine z_top (y := S 7 0) (rfl) ?_
        refine lv_aload_n hx hb dX2_openGroup_78 rfl (lv_at hl 1 rfl) ?_
        refine gx_X2_4 hx hb hts hin hown hK hP (hts _ (List.mem_of_getElem? (i := 5) rfl)) dX2_openGroup_79 ?_
        refine z_top (y := S 4 0) (rfl) ?_
        refine st_X2_6 hx hb hK hP hD hS (by omega) dX2_openGroup_82 (fun H locs hP hS => ?_)
        refine lv_aload_n hx hb dX2_openGroup_83 rfl (lv_at hl 1 rfl) ?_
        refine lv_dup hx hb dX2_openGroup_84 rfl ?_
        refine gx_X2_7 hx hb hts hin hown hK hP (hts _ (List.mem_of_getElem? (i := 2) rfl)) dX2_openGroup_85 ?_
        refine z_top (y := S 7 0) (rfl) ?_
        refine z_iconst hx hb dX2_openGroup_88 ?_
        refine z_iadd hx hb dX2_openGroup_89 ?_
        refine z_top (y := S 7 0 + 1) (by omega) ?_
        refine px_X2_7 hx hb hts hin hown hK hP hD hS (hts _ (List.mem_of_getElem? (i := 2) rfl)) dX2_openGroup_90 (fun H locs hP hS => ?_)
        refine lv_aload_n hx hb dX2_openGroup_93 rfl (lv_at hl 1 rfl) ?_
        refine lv_dup hx hb dX2_openGroup_94 rfl ?_
        refine gx_X2_8 hx hb hts hin hown hK hP (hts _ (List.mem_of_getElem? (i := 1) rfl)) dX2_openGroup_95 ?_
        refine z_top (y := S 8 0) (rfl) ?_
        refine z_iconst hx hb dX2_openGroup_98 ?_
        refine z_iadd hx hb dX2_openGroup_99 ?_
        refine z_top (y := S 8 0 + 1) (by omega) ?_
        refine px_X2_8 hx hb hts hin hown hK hP hD hS (hts _ (List.mem_of_getElem? (i := 1) rfl)) dX2_openGroup_100 (fun H locs hP hS => ?_)
        refine z_iconst hx hb dX2_openGroup_103 ?_
        have eo := op1_c S
        exact z_zret hx hb hr hlk hP hS dX2_openGroup_104 (by omega) (by rcases eo with ⟨a, b⟩ | ⟨a, b⟩ <;> first | (exfalso; omega) | (rw [if_pos (show opP S from ⟨by rw [b]; omega, by omega⟩)]; done) | (rw [if_neg (show ¬ opP S from fun q => by have q1 := q.1; have q2 := q.2; rw [b] at q1; omega)])) (congrArg (tW_X2 ad cI) (by unfold opC; rcases eo with ⟨a, b⟩ | ⟨a, b⟩ <;> first | (exfalso; omega) | (rw [if_pos (show sgP (op1 S) = 40 ∧ S 7 0 < 3 from ⟨by rw [b]; omega, by omega⟩), b]; first | (rw [if_pos a]; done) | (rw [if_neg a, up2_eq, show S 8 0 + 1 + 1 = S 8 0 + 2 from by omega]; rfl)) | (rw [if_neg (show ¬ (sgP (op1 S) = 40 ∧ S 7 0 < 3) from fun q => by have q1 := q.1; have q2 := q.2; rw [b] at q1; omega), b])))
      · refine z_iconst hx hb dX2_openGroup_58 ?_
        have eo := op1_c S
        exact z_zret hx hb hr hlk hP hS dX2_openGroup_59 (by omega) (by rcases eo with ⟨a, b⟩ | ⟨a, b⟩ <;> first | (exfalso; omega) | (rw [if_pos (show opP S from ⟨by rw [b]; omega, by omega⟩)]; done) | (rw [if_neg (show ¬ opP S from fun q => by have q1 := q.1; have q2 := q.2; rw [b] at q1; omega)])) (congrArg (tW_X2 ad cI) (by unfold opC; rcases eo with ⟨a, b⟩ | ⟨a, b⟩ <;> first | (exfalso; omega) | (rw [if_pos (show sgP (op1 S) = 40 ∧ S 7 0 < 3 from ⟨by rw [b]; omega, by omega⟩), b]; first | (rw [if_pos a]; done) | (rw [if_neg a, up2_eq, show S 8 0 + 1 + 1 = S 8 0 + 2 from by omega]; rfl)) | (rw [if_neg (show ¬ (sgP (op1 S) = 40 ∧ S 7 0 < 3) from fun q => by have q1 := q.1; have q2 := q.2; rw [b] at q1; omega), b])))
  · refine lv_aload_n hx hb dX2_openGroup_15 rfl (lv_at hl 1 rfl) ?_
    refine lv_aload_n hx hb dX2_openGroup_16 rfl (lv_at hl 1 rfl) ?_
    refine gx_X2_8 hx hb hts hin hown hK hP (hts _ (List.mem_of_getElem? (i := 1) rfl)) dX2_openGroup_17 ?_
    refine z_calli (va_runV (As := [.int (zI (S 8 0))]) (rest := []) ⟨hx, hb, hml, hown, hts⟩ (k_X2_signAt l dC dI cI cQ A ad S hD (S 8 0) (by first | omega | exact h1) (by omega)) (cwV 1 hts gX2_openGroup_X2_signAt rfl rfl rfl (by decide +kernel) ⟨Nat.le_of_ble_eq_true rfl, Nat.le_of_ble_eq_true rfl⟩) (z_preV hK hP (ci := 2) (q0 := 0) rfl rfl rfl) rfl rfl hl.1 rfl (lv_room (Nat.le_of_ble_eq_true rfl)) dX2_openGroup_20 ⟨Nat.zero_le _, Nat.zero_le _⟩) hS (fun _ h => h) (fun H locs hP hS _ _ => ?_)
    refine z_top (y := (sgF (S 0) (S 1 0) (S 8 0))) (by rfl) ?_
    refine z_bipush (z := 48) hx hb dX2_openGroup_23 (by decide +kernel) ?_
    refine z_isub hx hb dX2_openGroup_25 ?_
    refine lv_istore_n (lv' := [(1, .int (zI ((sgF (S 0) (S 1 0) (S 8 0)) - 48))), (0, .ref (ad 0))]) hx hb dX2_openGroup_26 rfl hl (by decide) rfl (fun ls hl => ?_)
    refine lv_aload_n hx hb dX2_openGroup_27 rfl (lv_at hl 1 rfl) ?_
    refine lv_dup hx hb dX2_openGroup_28 rfl ?_
    refine gx_X2_8 hx hb hts hin hown hK hP (hts _ (List.mem_of_getElem? (i := 1) rfl)) dX2_openGroup_29 ?_
    refine z_iconst hx hb dX2_openGroup_32 ?_
    refine z_iadd hx hb dX2_openGroup_33 ?_
    refine z_top (y := S 8 0 + 1) (by omega) ?_
    refine px_X2_8 hx hb hts hin hown hK hP hD hS (hts _ (List.mem_of_getElem? (i := 1) rfl)) dX2_openGroup_34 (fun H locs hP hS => ?_)
    refine lv_aload_n hx hb dX2_openGroup_37 rfl (lv_at hl 1 rfl) ?_
    refine lv_aload_n hx hb dX2_openGroup_38 rfl (lv_at hl 1 rfl) ?_
    refine gx_X2_8 hx hb hts hin hown hK hP (hts _ (List.mem_of_getElem? (i := 1) rfl)) dX2_openGroup_39 ?_
    refine z_top (y := S 8 0 + 1) (up2_eq _ _ _ _) ?_
    refine z_calli (va_runV (As := [.int (zI (S 8 0 + 1))]) (rest := []) ⟨hx, hb, hml, hown, hts⟩ (k_X2_signAt l dC dI cI cQ A ad (up2 S 8 0 (S 8 0 + 1)) hD (S 8 0 + 1) (by first | omega | exact h1) (by omega)) (cwV 1 hts gX2_openGroup_X2_signAt rfl rfl rfl (by decide +kernel) ⟨Nat.le_of_ble_eq_true rfl, Nat.le_of_ble_eq_true rfl⟩) (z_preV hK hP (ci := 2) (q0 := 0) rfl rfl rfl) rfl rfl hl.1 rfl (lv_room (Nat.le_of_ble_eq_true rfl)) dX2_openGroup_42 ⟨Nat.zero_le _, Nat.zero_le _⟩) hS (fun _ h => h) (fun H locs hP hS _ _ => ?_)
    refine z_top (y := (sgF (S 0) (S 1 0) (S 8 0 + 1))) (by rfl) ?_
    refine z_bipush (z := 40) hx hb dX2_openGroup_45 (by decide +kernel) ?_
    refine z_icmp_ne (tgt := 58) hx hb dX2_openGroup_47 (by decide) (by omega) (by omega) (fun c4 => ?_) (fun c4 => ?_)
    · refine z_iconst hx hb dX2_openGroup_58 ?_
      have eo := op1_c S
      exact z_zret hx hb hr hlk hP hS dX2_openGroup_59 (by omega) (by rcases eo with ⟨a, b⟩ | ⟨a, b⟩ <;> first | (exfalso; omega) | (rw [if_pos (show opP S from ⟨by rw [b]; omega, by omega⟩)]; done) | (rw [if_neg (show ¬ opP S from fun q => by have q1 := q.1; have q2 := q.2; rw [b] at q1; omega)])) (congrArg (tW_X2 ad cI) (by unfold opC; rcases eo with ⟨a, b⟩ | ⟨a, b⟩ <;> first | (exfalso; omega) | (rw [if_pos (show sgP (op1 S) = 40 ∧ S 7 0 < 3 from ⟨by rw [b]; omega, by omega⟩), b]; first | (rw [if_pos a]; done) | (rw [if_neg a, up2_eq, show S 8 0 + 1 + 1 = S 8 0 + 2 from by omega]; rfl)) | (rw [if_neg (show ¬ (sgP (op1 S) = 40 ∧ S 7 0 < 3) from fun q => by have q1 := q.1; have q2 := q.2; rw [b] at q1; omega), b])))
    · refine lv_aload_n hx hb dX2_openGroup_50 rfl (lv_at hl 1 rfl) ?_
      refine gx_X2_7 hx hb hts hin hown hK hP (hts _ (List.mem_of_getElem? (i := 2) rfl)) dX2_openGroup_51 ?_
      refine z_top (y := S 7 0) (rfl) ?_
      refine z_iconst hx hb dX2_openGroup_54 ?_
      refine z_icmp_lt (tgt := 60) hx hb dX2_openGroup_55 (by decide) (by omega) (by omega) (fun c5 => ?_) (fun c5 => ?_)
      · refine lv_aload_n hx hb dX2_openGroup_60 rfl (lv_at hl 1 rfl) ?_
        refine gx_X2_5 hx hb hts hin hown hK hP (hts _ (List.mem_of_getElem? (i := 3) rfl)) dX2_openGroup_61 ?_
        refine lv_aload_n hx hb dX2_openGroup_64 rfl (lv_at hl 1 rfl) ?_
        refine gx_X2_7 hx hb hts hin hown hK hP (hts _ (List.mem_of_getElem? (i := 2) rfl)) dX2_openGroup_65 ?_
        refine z_top (y := S 7 0) (rfl) ?_
        refine lv_iload_n hx hb dX2_openGroup_68 rfl (lv_at hl 0 rfl) ?_
        refine st_X2_5 hx hb hK hP hD hS (by omega) dX2_openGroup_69 (fun H locs hP hS => ?_)
        refine lv_aload_n hx hb dX2_openGroup_70 rfl (lv_at hl 1 rfl) ?_
        refine gx_X2_6 hx hb hts hin hown hK hP (hts _ (List.mem_of_getElem? (i := 4) rfl)) dX2_openGroup_71 ?_
        refine lv_aload_n hx hb dX2_openGroup_74 rfl (lv_at hl 1 rfl) ?_
        refine gx_X2_7 hx hb hts hin hown hK hP (hts _ (List.mem_of_getElem? (i := 2) rfl)) dX2_openGroup_75 ?_
        refine z_top (y := S 7 0) (rfl) ?_
        refine lv_aload_n hx hb dX2_openGroup_78 rfl (lv_at hl 1 rfl) ?_
        refine gx_X2_4 hx hb hts hin hown hK hP (hts _ (List.mem_of_getElem? (i := 5) rfl)) dX2_openGroup_79 ?_
        refine z_top (y := S 4 0) (rfl) ?_
        refine st_X2_6 hx hb hK hP hD hS (by omega) dX2_openGroup_82 (fun H locs hP hS => ?_)
        refine lv_aload_n hx hb dX2_openGroup_83 rfl (lv_at hl 1 rfl) ?_
        refine lv_dup hx hb dX2_openGroup_84 rfl ?_
        refine gx_X2_7 hx hb hts hin hown hK hP (hts _ (List.mem_of_getElem? (i := 2) rfl)) dX2_openGroup_85 ?_
        refine z_top (y := S 7 0) (rfl) ?_
        refine z_iconst hx hb dX2_openGroup_88 ?_
        refine z_iadd hx hb dX2_openGroup_89 ?_
        refine z_top (y := S 7 0 + 1) (by omega) ?_
        refine px_X2_7 hx hb hts hin hown hK hP hD hS (hts _ (List.mem_of_getElem? (i := 2) rfl)) dX2_openGroup_90 (fun H locs hP hS => ?_)
        refine lv_aload_n hx hb dX2_openGroup_93 rfl (lv_at hl 1 rfl) ?_
        refine lv_dup hx hb dX2_openGroup_94 rfl ?_
        refine gx_X2_8 hx hb hts hin hown hK hP (hts _ (List.mem_of_getElem? (i := 1) rfl)) dX2_openGroup_95 ?_
        refine z_top (y := S 8 0 + 1) (((congrFun (up2_nr (by decide)) _).trans (((congrFun (up2_nr (by decide)) _).trans (((congrFun (up2_nr (by decide)) _).trans (up2_eq _ _ _ _))))))) ?_
        refine z_iconst hx hb dX2_openGroup_98 ?_
        refine z_iadd hx hb dX2_openGroup_99 ?_
        refine z_top (y := S 8 0 + 2) (by omega) ?_
        refine px_X2_8 hx hb hts hin hown hK hP hD hS (hts _ (List.mem_of_getElem? (i := 1) rfl)) dX2_openGroup_100 (fun H locs hP hS => ?_)
        refine z_iconst hx hb dX2_openGroup_103 ?_
        have eo := op1_c S
        exact z_zret hx hb hr hlk hP hS dX2_openGroup_104 (by omega) (by rcases eo with ⟨a, b⟩ | ⟨a, b⟩ <;> first | (exfalso; omega) | (rw [if_pos (show opP S from ⟨by rw [b]; omega, by omega⟩)]; done) | (rw [if_neg (show ¬ opP S from fun q => by have q1 := q.1; have q2 := q.2; rw [b] at q1; omega)])) (congrArg (tW_X2 ad cI) (by unfold opC; rcases eo with ⟨a, b⟩ | ⟨a, b⟩ <;> first | (exfalso; omega) | (rw [if_pos (show sgP (op1 S) = 40 ∧ S 7 0 < 3 from ⟨by rw [b]; omega, by omega⟩), b]; first | (rw [if_pos a]; done) | (rw [if_neg a, up2_eq, show S 8 0 + 1 + 1 = S 8 0 + 2 from by omega]; rfl)) | (rw [if_neg (show ¬ (sgP (op1 S) = 40 ∧ S 7 0 < 3) from fun q => by have q1 := q.1; have q2 := q.2; rw [b] at q1; omega), b])))
      · refine z_iconst hx hb dX2_openGroup_58 ?_
        have eo := op1_c S
        exact z_zret hx hb hr hlk hP hS dX2_openGroup_59 (by omega) (by rcases eo with ⟨a, b⟩ | ⟨a, b⟩ <;> first | (exfalso; omega) | (rw [if_pos (show opP S from ⟨by rw [b]; omega, by omega⟩)]; done) | (rw [if_neg (show ¬ opP S from fun q => by have q1 := q.1; have q2 := q.2; rw [b] at q1; omega)])) (congrArg (tW_X2 ad cI) (by unfold opC; rcases eo with ⟨a, b⟩ | ⟨a, b⟩ <;> first | (exfalso; omega) | (rw [if_pos (show sgP (op1 S) = 40 ∧ S 7 0 < 3 from ⟨by rw [b]; omega, by omega⟩), b]; first | (rw [if_pos a]; done) | (rw [if_neg a, up2_eq, show S 8 0 + 1 + 1 = S 8 0 + 2 from by omega]; rfl)) | (rw [if_neg (show ¬ (sgP (op1 S) = 40 ∧ S 7 0 < 3) from fun q => by have q1 := q.1; have q2 := q.2; rw [b] at q1; omega), b])))
theorem in_X2_closeGroup : ∀ w ∈ wsX20, w ∈ wsX2_closeGroup := fun w h => List.mem_cons_of_mem _ (List.mem_append_right _ h)
set_option maxHeartbeats 4000000 in
set_option maxRecDepth 100000 in
theorem k_X2_closeGroup (l : Launch) (dC : Nat → ClassId) (dI : Nat → Nat → Nat) (cI cQ : ClassId) (A : Nat → Prop) (ad : Nat → Nat) (S : Nat → Int → Int) (hD : ∀ S, va_D A (tW_X2 ad cI S)) (hX : CX S) : Met l yX2_closeGroup wsX2_closeGroup ({ frames := 1, cells := 0, slots := 0, locals := 21 }) (zPc (dC, dI) vwCl (zT cI cQ) (tW_X2 ad cI S) [.ref (ad 0)]) (zQi (dC, dI) vwCl (tW_X2 ad cI (clC S)) (if S 7 0 ≠ 0 then 1 else 0) A) 0 0 A := by
  refine Met.ofW (cc := cX2_closeGroup) (maxL := 5) (ret := (some .boolean)) (by decide) rfl ?_
  intro p e s m args below meth c s₁ B hml hv
  obtain ⟨rfl, hP, hK⟩ := hv
  have hx := B.exec
  have hb := B.bytes
  have hr := B.returns
  have hts := atoms_spec (ws := wsX2_closeGroup) B.pre
  have hown : s.vm.findClass RX2 = some m.cls := findClass_of_methodNamed B.named
  have hlk := B.notSynchronized
  have hS : va_S A s.heap s.heap [] := va_S.rf
  have hl := lv_entry ([.ref (ad 0)]) (n := 5) (Nat.le_of_ble_eq_true rfl)
  rw [lg_entry_eq]
  generalize (lg_sl ([.ref (ad 0)]) ++ List.replicate (5 - (lg_sl ([.ref (ad 0)])).length) Slot.unset).toArray = ls at hl ⊢
  have hl : lv_has ls 5 [(0, .ref (ad 0))] := hl
  have hin : ∀ w ∈ wsX20, w ∈ wsX2_closeGroup := in_X2_closeGroup
  obtain ⟨hT, h1, h8, h4, h7, h6, h5⟩ := id hX
  have esg : sgP S = sgF (S 0) (S 1 0) (S 8 0) := rfl
  have h6d := h6 (S 7 0 - 1)
  have h5d := h5 (S 7 0 - 1)
  refine lv_aload_n hx hb dX2_closeGroup_0 rfl (lv_at hl 0 rfl) ?_
  refine gx_X2_7 hx hb hts hin hown hK hP (hts _ (List.mem_of_getElem? (i := 1) rfl)) dX2_closeGroup_1 ?_
  refine z_if_ne (tgt := 9) hx hb dX2_closeGroup_4 (by decide) (by omega) (fun c1 => ?_) (fun c1 => ?_)
  · refine lv_aload_n hx hb dX2_closeGroup_9 rfl (lv_at hl 0 rfl) ?_
    refine lv_dup hx hb dX2_closeGroup_10 rfl ?_
    refine gx_X2_7 hx hb hts hin hown hK hP (hts _ (List.mem_of_getElem? (i := 1) rfl)) dX2_closeGroup_11 ?_
    refine z_iconst hx hb dX2_closeGroup_14 ?_
    refine z_isub hx hb dX2_closeGroup_15 ?_
    refine z_top (y := S 7 0 - 1) (by omega) ?_
    refine px_X2_7 hx hb hts hin hown hK hP hD hS (hts _ (List.mem_of_getElem? (i := 1) rfl)) dX2_closeGroup_16 (fun H locs hP hS => ?_)
    refine lv_aload_n hx hb dX2_closeGroup_19 rfl (lv_at hl 0 rfl) ?_
    refine gx_X2_6 hx hb hts hin hown hK hP (hts _ (List.mem_of_getElem? (i := 2) rfl)) dX2_closeGroup_20 ?_
    refine lv_aload_n hx hb dX2_closeGroup_23 rfl (lv_at hl 0 rfl) ?_
    refine gx_X2_7 hx hb hts hin hown hK hP (hts _ (List.mem_of_getElem? (i := 1) rfl)) dX2_closeGroup_24 ?_
    refine z_top (y := S 7 0 - 1) (up2_eq _ _ _ _) ?_
    refine ld_X2_6 (v := S 6 (S 7 0 - 1)) hx hb hK hP (by omega) rfl dX2_closeGroup_27 ?_
    refine lv_istore_n (lv' := [(1, .int (zI (S 6 (S 7 0 - 1)))), (0, .ref (ad 0))]) hx hb dX2_closeGroup_28 rfl hl (by decide) rfl (fun ls hl => ?_)
    refine lv_aload_n hx hb dX2_closeGroup_29 rfl (lv_at hl 1 rfl) ?_
    refine gx_X2_4 hx hb hts hin hown hK hP (hts _ (List.mem_of_getElem? (i := 3) rfl)) dX2_closeGroup_30 ?_
    refine z_top (y := S 4 0) (rfl) ?_
    refine lv_istore_n (lv' := [(2, .int (zI (S 4 0))), (1, .int (zI (S 6 (S 7 0 - 1)))), (0, .ref (ad 0))]) hx hb dX2_closeGroup_33 rfl hl (by decide) rfl (fun ls hl => ?_)
    refine z_iconst hx hb dX2_closeGroup_34 ?_
    refine lv_istore_n (lv' := [(3, .int (zI 1)), (2, .int (zI (S 4 0))), (1, .int (zI (S 6 (S 7 0 - 1)))), (0, .ref (ad 0))]) hx hb dX2_closeGroup_35 rfl hl (by decide) rfl (fun ls hl => ?_)
    have hloop36 : ∀ (n : Nat) (tn : Int) (S2 : Nat → Int → Int), (1 ≤ tn ∧ tn ≤ 1000 ∧ (tn = 1 ∨ tn ≤ S 5 (S 7 0 - 1))) → (S2 = itZ (rpC (S 4 0) (S 6 (S 7 0 - 1))) (tn - 1) (up2 S 7 0 (S 7 0 - 1))) → (S2 7 0 = S 7 0 - 1) → (S2 5 = S 5) → (S2 8 0 = S 8 0) → (0 ≤ S2 4 0 ∧ S2 4 0 ≤ 101) → (((S 5 (S 7 0 - 1) - tn).toNat : Int) < (n : Int)) → ∀ (H : Heap) (locs : List Loc), va_P (dC, dI) vwCl (tW_X2 ad cI S2) H → va_S A s.heap H locs → ∀ ls : Array Slot, lv_has ls 5 [(3, .int (zI tn)), (2, .int (zI (S 4 0))), (1, .int (zI (S 6 (S 7 0 - 1)))), (0, .ref (ad 0))] → W p l e (headSpec wsX2_closeGroup ({ frames := 1, cells := 0, slots := 0, locals := 21 })).room s m ([.ref (ad 0)] : List Value).toArray below meth c H locs 0 0 (MQ below (zQi (dC, dI) vwCl (tW_X2 ad cI (clC S)) (if S 7 0 ≠ 0 then 1 else 0) A) ([.ref (ad 0)] : List Value).toArray s 0 0 A) (F0 m 36 ls []) := by
      intro n
      induction n with
      | zero =>
        intro tn S2 i0 i1 q7S2 q5S2 q8S2 r4S2 hm
        exfalso
        omega
      | succ n ih =>
        intro tn S2 i0 i1 q7S2 q5S2 q8S2 r4S2 hm H locs hP hS ls hl
        have ih36 := ih
        clear ih
        refine lv_iload_n hx hb dX2_closeGroup_36 rfl (lv_at hl 0 rfl) ?_
        refine lv_aload_n hx hb dX2_closeGroup_37 rfl (lv_at hl 3 rfl) ?_
        refine gx_X2_5 hx hb hts hin hown hK hP (hts _ (List.mem_of_getElem? (i := 4) rfl)) dX2_closeGroup_38 ?_
        refine lv_aload_n hx hb dX2_closeGroup_41 rfl (lv_at hl 3 rfl) ?_
        refine gx_X2_7 hx hb hts hin hown hK hP (hts _ (List.mem_of_getElem? (i := 1) rfl)) dX2_closeGroup_42 ?_
        refine z_top (y := S 7 0 - 1) (q7S2) ?_
        refine ld_X2_5 (v := S 5 (S 7 0 - 1)) hx hb hK hP (by omega) (congrFun q5S2 _) dX2_closeGroup_45 ?_
        refine z_icmp_ge (tgt := 81) hx hb dX2_closeGroup_46 (by decide) (by omega) (by omega) (fun c2 => ?_) (fun c2 => ?_)
        · refine lv_aload_n hx hb dX2_closeGroup_81 rfl (lv_at hl 3 rfl) ?_
          refine lv_dup hx hb dX2_closeGroup_82 rfl ?_
          refine gx_X2_8 hx hb hts hin hown hK hP (hts _ (List.mem_of_getElem? (i := 6) rfl)) dX2_closeGroup_83 ?_
          refine z_top (y := S 8 0) (q8S2) ?_
          refine z_iconst hx hb dX2_closeGroup_86 ?_
          refine z_iadd hx hb dX2_closeGroup_87 ?_
          refine z_top (y := S 8 0 + 1) (by omega) ?_
          refine px_X2_8 hx hb hts hin hown hK hP hD hS (hts _ (List.mem_of_getElem? (i := 6) rfl)) dX2_closeGroup_88 (fun H locs hP hS => ?_)
          refine z_iconst hx hb dX2_closeGroup_91 ?_
          exact z_zret hx hb hr hlk hP hS dX2_closeGroup_92 (by omega) (by first | rw [if_pos (by omega)] | rw [if_neg (by omega)]) (congrArg (tW_X2 ad cI) (by unfold clC; rw [if_neg (by omega), i1]; unfold itZ; rw [show (tn - 1).toNat = (S 5 (S 7 0 - 1) - 1).toNat from by omega]))
        · refine lv_iload_n hx hb dX2_closeGroup_49 rfl (lv_at hl 2 rfl) ?_
          refine lv_istore (lv' := [(4, .int (zI (S 6 (S 7 0 - 1)))), (3, .int (zI tn)), (2, .int (zI (S 4 0))), (1, .int (zI (S 6 (S 7 0 - 1)))), (0, .ref (ad 0))]) hx hb dX2_closeGroup_50 hl (by decide) rfl (fun ls hl => ?_)
          have hloop52 : ∀ (n : Nat) (sp : Int) (S3 : Nat → Int → Int), (0 ≤ sp ∧ sp ≤ 1000) → (inF (S 4 0 - sp).toNat S3 sp = inF (S 4 0 - S 6 (S 7 0 - 1)).toNat S2 (S 6 (S 7 0 - 1))) → (S3 7 0 = S 7 0 - 1) → (S3 5 = S 5) → (S3 8 0 = S 8 0) → (0 ≤ S3 4 0 ∧ S3 4 0 ≤ 101) → (((S 4 0 - sp).toNat : Int) < (n : Int)) → ∀ (H : Heap) (locs : List Loc), va_P (dC, dI) vwCl (tW_X2 ad cI S3) H → va_S A s.heap H locs → ∀ ls : Array Slot, lv_has ls 5 [(4, .int (zI sp)), (3, .int (zI tn)), (2, .int (zI (S 4 0))), (1, .int (zI (S 6 (S 7 0 - 1)))), (0, .ref (ad 0))] → W p l e (headSpec wsX2_closeGroup ({ frames := 1, cells := 0, slots := 0, locals := 21 })).room s m ([.ref (ad 0)] : List Value).toArray below meth c H locs 0 0 (MQ below (zQi (dC, dI) vwCl (tW_X2 ad cI (clC S)) (if S 7 0 ≠ 0 then 1 else 0) A) ([.ref (ad 0)] : List Value).toArray s 0 0 A) (F0 m 52 ls []) := by
            intro n
            induction n with
            | zero =>
              intro sp S3 j0 j1 q7S3 q5S3 q8S3 r4S3 hm
              exfalso
              omega
            | succ n ih =>
              intro sp S3 j0 j1 q7S3 q5S3 q8S3 r4S3 hm H locs hP hS ls hl
              have ih52 := ih
              clear ih
              refine lv_iload hx hb dX2_closeGroup_52 (lv_at hl 0 rfl) ?_
              refine lv_iload_n hx hb dX2_closeGroup_54 rfl (lv_at hl 2 rfl) ?_
              refine z_icmp_ge (tgt := 75) hx hb dX2_closeGroup_55 (by decide) (by omega) (by omega) (fun c3 => ?_) (fun c3 => ?_)
              · refine z_iinc (lv' := [(3, .int (zI (tn + 1))), (4, .int (zI sp)), (2, .int (zI (S 4 0))), (1, .int (zI (S 6 (S 7 0 - 1)))), (0, .ref (ad 0))]) hx hb dX2_closeGroup_75 hl (k := 1) rfl (by decide) (by rw [show (tn : Int) + (1) = (tn + 1) from by omega]; rfl) (fun ls hl => ?_)
                refine lv_goto (tgt := 36) hx hb dX2_closeGroup_78 (by decide) ?_
                exact ih36 (tn + 1) S3 (by omega) (by rw [show tn + 1 - 1 = tn - 1 + 1 from by omega, itZ_succ _ _ (by omega), ← i1]; unfold rpC; rw [← j1, inF_end _ (by omega)]) (by exact q7S3) (by exact q5S3) (by exact q8S3) (by exact r4S3) (by omega) _ _ hP hS ls (lv_sub hl [0, 2, 3, 4] rfl)
              · refine lv_aload_n hx hb dX2_closeGroup_58 rfl (lv_at hl 4 rfl) ?_
                refine lv_aload_n hx hb dX2_closeGroup_59 rfl (lv_at hl 4 rfl) ?_
                refine gx_X2_3 hx hb hts hin hown hK hP (hts _ (List.mem_of_getElem? (i := 5) rfl)) dX2_closeGroup_60 ?_
                refine lv_iload hx hb dX2_closeGroup_63 (lv_at hl 0 rfl) ?_
                refine ld_X2_3 (v := S3 3 sp) hx hb hK hP (by omega) rfl dX2_closeGroup_65 ?_
                refine z_callv (va_runV (As := [.int (zI (S3 3 sp))]) (rest := []) ⟨hx, hb, hml, hown, hts⟩ (k_X2_addStep l dC dI cI cQ A ad S3 hD (S3 3 sp) (by exact r4S3)) (cwV 1 hts gX2_closeGroup_X2_addStep rfl rfl rfl (by decide +kernel) ⟨Nat.le_of_ble_eq_true rfl, Nat.le_of_ble_eq_true rfl⟩) (z_preV hK hP (ci := 2) (q0 := 0) rfl rfl rfl) rfl rfl hl.1 rfl (lv_room (Nat.le_of_ble_eq_true rfl)) dX2_closeGroup_66 ⟨Nat.zero_le _, Nat.zero_le _⟩) hS (fun _ h => h) (fun H locs hP hS _ _ => ?_)
                refine z_iinc (lv' := [(4, .int (zI (sp + 1))), (3, .int (zI tn)), (2, .int (zI (S 4 0))), (1, .int (zI (S 6 (S 7 0 - 1)))), (0, .ref (ad 0))]) hx hb dX2_closeGroup_69 hl (k := 0) rfl (by decide) (by rw [show (sp : Int) + (1) = (sp + 1) from by omega]; rfl) (fun ls hl => ?_)
                refine lv_goto (tgt := 52) hx hb dX2_closeGroup_72 (by decide) ?_
                exact ih52 (sp + 1) (asC S3 (S3 3 sp)) (by omega) (by exact (in_go S3 _ (by omega)).symm.trans j1) (by rw [asC_o _ _ (by decide) (by decide)]; exact q7S3) (by rw [asC_o _ _ (by decide) (by decide)]; exact q5S3) (by rw [asC_o _ _ (by decide) (by decide)]; exact q8S3) (by exact asC_4 _ _ r4S3) (by omega) _ _ hP hS ls (lv_sub hl [0, 1, 2, 3, 4] rfl)
          exact hloop52 ((((S 4 0 - (S 6 (S 7 0 - 1))).toNat : Int) : Int) + 1).toNat (S 6 (S 7 0 - 1)) S2 (by omega) (by rfl) (by exact q7S2) (by exact q5S2) (by exact q8S2) (by exact r4S2) (by omega) _ _ hP hS ls (lv_sub hl [0, 1, 2, 3, 4] rfl)
    exact hloop36 ((((S 5 (S 7 0 - 1) - 1).toNat : Int) : Int) + 1).toNat 1 (up2 S 7 0 (S 7 0 - 1)) (by omega) (by rfl) (by exact up2_eq _ _ _ _) (by rfl) (by rfl) (by exact h4) (by omega) _ _ hP hS ls (lv_sub hl [0, 1, 2, 3] rfl)
  · refine z_iconst hx hb dX2_closeGroup_7 ?_
    exact z_zret hx hb hr hlk hP hS dX2_closeGroup_8 (by omega) (by first | rw [if_pos (by omega)] | rw [if_neg (by omega)]) (congrArg (tW_X2 ad cI) (by unfold clC; rw [if_pos (by omega)]))
theorem in_X2_readPiece : ∀ w ∈ wsX20, w ∈ wsX2_readPiece := fun w h => List.mem_cons_of_mem _ (List.mem_append_right _ h)
set_option maxHeartbeats 4000000 in
set_option maxRecDepth 100000 in
theorem k_X2_readPiece (l : Launch) (dC : Nat → ClassId) (dI : Nat → Nat → Nat) (cI cQ : ClassId) (A : Nat → Prop) (ad : Nat → Nat) (S : Nat → Int → Int) (hD : ∀ S, va_D A (tW_X2 ad cI S)) (hX : CX S) (hlt : S 8 0 < S 1 0) : Met l yX2_readPiece wsX2_readPiece ({ frames := 4, cells := 0, slots := 0, locals := 88 }) (zPc (dC, dI) vwCl (zT cI cQ) (tW_X2 ad cI S) [.ref (ad 0)]) (zQi (dC, dI) vwCl (tW_X2 ad cI (pieC S)) (if pieP S then 1 else 0) A) 0 0 A := by
  refine Met.ofW (cc := cX2_readPiece) (maxL := 2) (ret := (some .boolean)) (by decide) rfl ?_
  intro p e s m args below meth c s₁ B hml hv
  obtain ⟨rfl, hP, hK⟩ := hv
  have hx := B.exec
  have hb := B.bytes
  have hr := B.returns
  have hts := atoms_spec (ws := wsX2_readPiece) B.pre
  have hown : s.vm.findClass RX2 = some m.cls := findClass_of_methodNamed B.named
  have hlk := B.notSynchronized
  have hS : va_S A s.heap s.heap [] := va_S.rf
  have hl := lv_entry ([.ref (ad 0)]) (n := 2) (Nat.le_of_ble_eq_true rfl)
  rw [lg_entry_eq]
  generalize (lg_sl ([.ref (ad 0)]) ++ List.replicate (2 - (lg_sl ([.ref (ad 0)])).length) Slot.unset).toArray = ls at hl ⊢
  have hl : lv_has ls 2 [(0, .ref (ad 0))] := hl
  have hin : ∀ w ∈ wsX20, w ∈ wsX2_readPiece := in_X2_readPiece
  obtain ⟨hT, h1, h8, h4, h7, h6, h5⟩ := id hX
  have esg : sgP S = sgF (S 0) (S 1 0) (S 8 0) := rfl
  have g0 := sgF_rng hT (S 1 0) (S 8 0)
  refine lv_aload_n hx hb dX2_readPiece_0 rfl (lv_at hl 0 rfl) ?_
  refine lv_aload_n hx hb dX2_readPiece_1 rfl (lv_at hl 0 rfl) ?_
  refine gx_X2_8 hx hb hts hin hown hK hP (hts _ (List.mem_of_getElem? (i := 1) rfl)) dX2_readPiece_2 ?_
  refine z_calli (va_runV (As := [.int (zI (S 8 0))]) (rest := []) ⟨hx, hb, hml, hown, hts⟩ (k_X2_signAt l dC dI cI cQ A ad S hD (S 8 0) (by omega) (by omega)) (cwV 1 hts gX2_readPiece_X2_signAt rfl rfl rfl (by decide +kernel) ⟨Nat.le_of_ble_eq_true rfl, Nat.le_of_ble_eq_true rfl⟩) (z_preV hK hP (ci := 2) (q0 := 0) rfl rfl rfl) rfl rfl hl.1 rfl (lv_room (Nat.le_of_ble_eq_true rfl)) dX2_readPiece_5 ⟨Nat.zero_le _, Nat.zero_le _⟩) hS (fun _ h => h) (fun H locs hP hS _ _ => ?_)
  refine z_top (y := (sgF (S 0) (S 1 0) (S 8 0))) (by rfl) ?_
  refine z_top (y := sgP S) (by rfl) ?_
  refine z_name (fun ch e_ch => ?_)
  refine lv_istore_n (lv' := [(1, .int (zI ch)), (0, .ref (ad 0))]) hx hb dX2_readPiece_8 rfl hl (by decide) rfl (fun ls hl => ?_)
  refine lv_iload_n hx hb dX2_readPiece_9 rfl (lv_at hl 0 rfl) ?_
  refine z_bipush (z := 40) hx hb dX2_readPiece_10 (by decide +kernel) ?_
  refine z_icmp_eq (tgt := 27) hx hb dX2_readPiece_12 (by decide) (by omega) (by omega) (fun c1 => ?_) (fun c1 => ?_)
  · refine lv_aload_n hx hb dX2_readPiece_27 rfl (lv_at hl 1 rfl) ?_
    refine z_calli (va_runV (As := []) (rest := []) ⟨hx, hb, hml, hown, hts⟩ (k_X2_openGroup l dC dI cI cQ A ad S hD (by exact hX)) (cwV 0 hts gX2_readPiece_X2_openGroup rfl rfl rfl (by decide +kernel) ⟨Nat.le_of_ble_eq_true rfl, Nat.le_of_ble_eq_true rfl⟩) (z_preV hK hP (ci := 2) (q0 := 0) rfl rfl rfl) rfl rfl hl.1 rfl (lv_room (Nat.le_of_ble_eq_true rfl)) dX2_readPiece_28 ⟨Nat.zero_le _, Nat.zero_le _⟩) hS (fun _ h => h) (fun H locs hP hS _ _ => ?_)
    exact z_zret hx hb hr hlk hP hS dX2_readPiece_31 (by split <;> simp) (by first | exact b01 (pieP_op (by omega)) | exact b01 (pieP_op (by omega)).symm) (congrArg (tW_X2 ad cI) (by rw [pieC_op (by omega)]))
  · refine lv_iload_n hx hb dX2_readPiece_15 rfl (lv_at hl 0 rfl) ?_
    refine z_bipush (z := 50) hx hb dX2_readPiece_16 (by decide +kernel) ?_
    refine z_icmp_lt (tgt := 32) hx hb dX2_readPiece_18 (by decide) (by omega) (by omega) (fun c2 => ?_) (fun c2 => ?_)
    · refine lv_iload_n hx hb dX2_readPiece_32 rfl (lv_at hl 0 rfl) ?_
      refine z_bipush (z := 41) hx hb dX2_readPiece_33 (by decide +kernel) ?_
      refine z_icmp_ne (tgt := 43) hx hb dX2_readPiece_35 (by decide) (by omega) (by omega) (fun c3 => ?_) (fun c3 => ?_)
      · refine lv_aload_n hx hb dX2_readPiece_43 rfl (lv_at hl 1 rfl) ?_
        refine z_calli (va_runV (As := []) (rest := []) ⟨hx, hb, hml, hown, hts⟩ (k_X2_readAct l dC dI cI cQ A ad S hD (by exact hX)) (cwV 0 hts gX2_readPiece_X2_readAct rfl rfl rfl (by decide +kernel) ⟨Nat.le_of_ble_eq_true rfl, Nat.le_of_ble_eq_true rfl⟩) (z_preV hK hP (ci := 2) (q0 := 0) rfl rfl rfl) rfl rfl hl.1 rfl (lv_room (Nat.le_of_ble_eq_true rfl)) dX2_readPiece_44 ⟨Nat.zero_le _, Nat.zero_le _⟩) hS (fun _ h => h) (fun H locs hP hS _ _ => ?_)
        exact z_zret hx hb hr hlk hP hS dX2_readPiece_47 (by split <;> simp) (by first | exact b01 (pieP_ac (by omega) (by omega)) | exact b01 (pieP_ac (by omega) (by omega)).symm) (congrArg (tW_X2 ad cI) (by rw [pieC_ac (by omega) (by omega)]))
      · refine lv_aload_n hx hb dX2_readPiece_38 rfl (lv_at hl 1 rfl) ?_
        refine z_calli (va_runV (As := []) (rest := []) ⟨hx, hb, hml, hown, hts⟩ (k_X2_closeGroup l dC dI cI cQ A ad S hD (by exact hX)) (cwV 0 hts gX2_readPiece_X2_closeGroup rfl rfl rfl (by decide +kernel) ⟨Nat.le_of_ble_eq_true rfl, Nat.le_of_ble_eq_true rfl⟩) (z_preV hK hP (ci := 2) (q0 := 0) rfl rfl rfl) rfl rfl hl.1 rfl (lv_room (Nat.le_of_ble_eq_true rfl)) dX2_readPiece_39 ⟨Nat.zero_le _, Nat.zero_le _⟩) hS (fun _ h => h) (fun H locs hP hS _ _ => ?_)
        exact z_zret hx hb hr hlk hP hS dX2_readPiece_42 (by split <;> simp) (by first | exact b01 (pieP_cl (by omega)) | exact b01 (pieP_cl (by omega)).symm) (congrArg (tW_X2 ad cI) (by rw [pieC_cl (by omega)]))
    · refine lv_iload_n hx hb dX2_readPiece_21 rfl (lv_at hl 0 rfl) ?_
      refine z_bipush (z := 57) hx hb dX2_readPiece_22 (by decide +kernel) ?_
      refine z_icmp_gt (tgt := 32) hx hb dX2_readPiece_24 (by decide) (by omega) (by omega) (fun c4 => ?_) (fun c4 => ?_)
      · refine lv_iload_n hx hb dX2_readPiece_32 rfl (lv_at hl 0 rfl) ?_
        refine z_bipush (z := 41) hx hb dX2_readPiece_33 (by decide +kernel) ?_
        refine z_icmp_ne (tgt := 43) hx hb dX2_readPiece_35 (by decide) (by omega) (by omega) (fun c5 => ?_) (fun c5 => ?_)
        · refine lv_aload_n hx hb dX2_readPiece_43 rfl (lv_at hl 1 rfl) ?_
          refine z_calli (va_runV (As := []) (rest := []) ⟨hx, hb, hml, hown, hts⟩ (k_X2_readAct l dC dI cI cQ A ad S hD (by exact hX)) (cwV 0 hts gX2_readPiece_X2_readAct rfl rfl rfl (by decide +kernel) ⟨Nat.le_of_ble_eq_true rfl, Nat.le_of_ble_eq_true rfl⟩) (z_preV hK hP (ci := 2) (q0 := 0) rfl rfl rfl) rfl rfl hl.1 rfl (lv_room (Nat.le_of_ble_eq_true rfl)) dX2_readPiece_44 ⟨Nat.zero_le _, Nat.zero_le _⟩) hS (fun _ h => h) (fun H locs hP hS _ _ => ?_)
          exact z_zret hx hb hr hlk hP hS dX2_readPiece_47 (by split <;> simp) (by first | exact b01 (pieP_ac (by omega) (by omega)) | exact b01 (pieP_ac (by omega) (by omega)).symm) (congrArg (tW_X2 ad cI) (by rw [pieC_ac (by omega) (by omega)]))
        · refine lv_aload_n hx hb dX2_readPiece_38 rfl (lv_at hl 1 rfl) ?_
          refine z_calli (va_runV (As := []) (rest := []) ⟨hx, hb, hml, hown, hts⟩ (k_X2_closeGroup l dC dI cI cQ A ad S hD (by exact hX)) (cwV 0 hts gX2_readPiece_X2_closeGroup rfl rfl rfl (by decide +kernel) ⟨Nat.le_of_ble_eq_true rfl, Nat.le_of_ble_eq_true rfl⟩) (z_preV hK hP (ci := 2) (q0 := 0) rfl rfl rfl) rfl rfl hl.1 rfl (lv_room (Nat.le_of_ble_eq_true rfl)) dX2_readPiece_39 ⟨Nat.zero_le _, Nat.zero_le _⟩) hS (fun _ h => h) (fun H locs hP hS _ _ => ?_)
          exact z_zret hx hb hr hlk hP hS dX2_readPiece_42 (by split <;> simp) (by first | exact b01 (pieP_cl (by omega)) | exact b01 (pieP_cl (by omega)).symm) (congrArg (tW_X2 ad cI) (by rw [pieC_cl (by omega)]))
      · refine lv_aload_n hx hb dX2_readPiece_27 rfl (lv_at hl 1 rfl) ?_
        refine z_calli (va_runV (As := []) (rest := []) ⟨hx, hb, hml, hown, hts⟩ (k_X2_openGroup l dC dI cI cQ A ad S hD (by exact hX)) (cwV 0 hts gX2_readPiece_X2_openGroup rfl rfl rfl (by decide +kernel) ⟨Nat.le_of_ble_eq_true rfl, Nat.le_of_ble_eq_true rfl⟩) (z_preV hK hP (ci := 2) (q0 := 0) rfl rfl rfl) rfl rfl hl.1 rfl (lv_room (Nat.le_of_ble_eq_true rfl)) dX2_readPiece_28 ⟨Nat.zero_le _, Nat.zero_le _⟩) hS (fun _ h => h) (fun H locs hP hS _ _ => ?_)
        exact z_zret hx hb hr hlk hP hS dX2_readPiece_31 (by split <;> simp) (by first | exact b01 (pieP_op (by omega)) | exact b01 (pieP_op (by omega)).symm) (congrArg (tW_X2 ad cI) (by rw [pieC_op (by omega)]))
theorem in_X2_isUnderstood : ∀ w ∈ wsX20, w ∈ wsX2_isUnderstood := fun w h => List.mem_cons_of_mem _ (List.mem_append_right _ h)
set_option maxHeartbeats 4000000 in
set_option maxRecDepth 100000 in
theorem k_X2_isUnderstood (l : Launch) (dC : Nat → ClassId) (dI : Nat → Nat → Nat) (cI cQ : ClassId) (A : Nat → Prop) (ad : Nat → Nat) (S : Nat → Int → Int) (hD : ∀ S, va_D A (tW_X2 ad cI S)) (hX : CX (un0 S)) : Met l yX2_isUnderstood wsX2_isUnderstood ({ frames := 5, cells := 0, slots := 0, locals := 109 }) (zPc (dC, dI) vwCl (zT cI cQ) (tW_X2 ad cI S) [.ref (ad 0)]) (zQi (dC, dI) vwCl (tW_X2 ad cI (unC S)) (if (unF 80 (un0 S)).2 = true then 1 else 0) A) 0 0 A := by
  refine Met.ofW (cc := cX2_isUnderstood) (maxL := 2) (ret := (some .boolean)) (by decide) rfl ?_
  intro p e s m args below meth c s₁ B hml hv
  obtain ⟨rfl, hP, hK⟩ := hv
  have hx := B.exec
  have hb := B.bytes
  have hr := B.returns
  have hts := atoms_spec (ws := wsX2_isUnderstood) B.pre
  have hown : s.vm.findClass RX2 = some m.cls := findClass_of_methodNamed B.named
  have hlk := B.notSynchronized
  have hS : va_S A s.heap s.heap [] := va_S.rf
  have hl := lv_entry ([.ref (ad 0)]) (n := 2) (Nat.le_of_ble_eq_true rfl)
  rw [lg_entry_eq]
  generalize (lg_sl ([.ref (ad 0)]) ++ List.replicate (2 - (lg_sl ([.ref (ad 0)])).length) Slot.unset).toArray = ls at hl ⊢
  have hl : lv_has ls 2 [(0, .ref (ad 0))] := hl
  have hin : ∀ w ∈ wsX20, w ∈ wsX2_isUnderstood := in_X2_isUnderstood
  refine lv_aload_n hx hb dX2_isUnderstood_0 rfl (lv_at hl 0 rfl) ?_
  refine z_iconst hx hb dX2_isUnderstood_1 ?_
  refine px_X2_8 hx hb hts hin hown hK hP hD hS (hts _ (List.mem_of_getElem? (i := 1) rfl)) dX2_isUnderstood_2 (fun H locs hP hS => ?_)
  refine lv_aload_n hx hb dX2_isUnderstood_5 rfl (lv_at hl 0 rfl) ?_
  refine z_iconst hx hb dX2_isUnderstood_6 ?_
  refine px_X2_4 hx hb hts hin hown hK hP hD hS (hts _ (List.mem_of_getElem? (i := 2) rfl)) dX2_isUnderstood_7 (fun H locs hP hS => ?_)
  refine lv_aload_n hx hb dX2_isUnderstood_10 rfl (lv_at hl 0 rfl) ?_
  refine z_iconst hx hb dX2_isUnderstood_11 ?_
  refine px_X2_7 hx hb hts hin hown hK hP hD hS (hts _ (List.mem_of_getElem? (i := 3) rfl)) dX2_isUnderstood_12 (fun H locs hP hS => ?_)
  refine z_iconst hx hb dX2_isUnderstood_15 ?_
  refine lv_istore_n (lv' := [(1, .int (zI 0)), (0, .ref (ad 0))]) hx hb dX2_isUnderstood_16 rfl hl (by decide) rfl (fun ls hl => ?_)
  have hloop17 : ∀ (n : Nat) (k : Int) (S1 : Nat → Int → Int), (0 ≤ k ∧ k ≤ 80) → (CX S1) → (unF (80 - k).toNat S1 = unF 80 (un0 S)) → (80 - k < (n : Int)) → ∀ (H : Heap) (locs : List Loc), va_P (dC, dI) vwCl (tW_X2 ad cI S1) H → va_S A s.heap H locs → ∀ ls : Array Slot, lv_has ls 2 [(1, .int (zI k)), (0, .ref (ad 0))] → W p l e (headSpec wsX2_isUnderstood ({ frames := 5, cells := 0, slots := 0, locals := 109 })).room s m ([.ref (ad 0)] : List Value).toArray below meth c H locs 0 0 (MQ below (zQi (dC, dI) vwCl (tW_X2 ad cI (unC S)) (if (unF 80 (un0 S)).2 = true then 1 else 0) A) ([.ref (ad 0)] : List Value).toArray s 0 0 A) (F0 m 17 ls []) := by
    intro n
    induction n with
    | zero =>
      intro k S1 i0 iX i1 hm
      exfalso
      omega
    | succ n ih =>
      intro k S1 i0 iX i1 hm H locs hP hS ls hl
      have ih17 := ih
      clear ih
      have x1 := iX.2.1
      have x8 := iX.2.2.1
      have x7 := iX.2.2.2.2.1
      refine lv_iload_n hx hb dX2_isUnderstood_17 rfl (lv_at hl 0 rfl) ?_
      refine z_bipush (z := 80) hx hb dX2_isUnderstood_18 (by decide +kernel) ?_
      refine z_icmp_ge (tgt := 49) hx hb dX2_isUnderstood_20 (by decide) (by omega) (by omega) (fun c1 => ?_) (fun c1 => ?_)
      · refine lv_aload_n hx hb dX2_isUnderstood_49 rfl (lv_at hl 1 rfl) ?_
        refine gx_X2_7 hx hb hts hin hown hK hP (hts _ (List.mem_of_getElem? (i := 3) rfl)) dX2_isUnderstood_50 ?_
        refine z_if_ne (tgt := 60) hx hb dX2_isUnderstood_53 (by decide) (by omega) (fun c2 => ?_) (fun c2 => ?_)
        · refine z_iconst hx hb dX2_isUnderstood_60 ?_
          exact z_zret hx hb hr hlk hP hS dX2_isUnderstood_61 (by omega) (by rw [← i1, un_end (n := 80 - k) (by omega)]; by_cases q : S1 7 0 = 0 <;> first | (exfalso; omega) | (simp [q]; done) | simp [q]) (congrArg (tW_X2 ad cI) (by unfold unC; rw [← i1, un_end (n := 80 - k) (by omega)]))
        · refine z_iconst hx hb dX2_isUnderstood_56 ?_
          refine lv_goto (tgt := 61) hx hb dX2_isUnderstood_57 (by decide) ?_
          exact z_zret hx hb hr hlk hP hS dX2_isUnderstood_61 (by omega) (by rw [← i1, un_end (n := 80 - k) (by omega)]; by_cases q : S1 7 0 = 0 <;> first | (exfalso; omega) | (simp [q]; done) | simp [q]) (congrArg (tW_X2 ad cI) (by unfold unC; rw [← i1, un_end (n := 80 - k) (by omega)]))
      · refine lv_aload_n hx hb dX2_isUnderstood_23 rfl (lv_at hl 1 rfl) ?_
        refine gx_X2_8 hx hb hts hin hown hK hP (hts _ (List.mem_of_getElem? (i := 1) rfl)) dX2_isUnderstood_24 ?_
        refine lv_aload_n hx hb dX2_isUnderstood_27 rfl (lv_at hl 1 rfl) ?_
        refine gx_X2_1 hx hb hts hin hown hK hP (hts _ (List.mem_of_getElem? (i := 4) rfl)) dX2_isUnderstood_28 ?_
        refine z_icmp_ge (tgt := 49) hx hb dX2_isUnderstood_31 (by decide) (by omega) (by omega) (fun c3 => ?_) (fun c3 => ?_)
        · refine lv_aload_n hx hb dX2_isUnderstood_49 rfl (lv_at hl 1 rfl) ?_
          refine gx_X2_7 hx hb hts hin hown hK hP (hts _ (List.mem_of_getElem? (i := 3) rfl)) dX2_isUnderstood_50 ?_
          refine z_if_ne (tgt := 60) hx hb dX2_isUnderstood_53 (by decide) (by omega) (fun c4 => ?_) (fun c4 => ?_)
          · refine z_iconst hx hb dX2_isUnderstood_60 ?_
            exact z_zret hx hb hr hlk hP hS dX2_isUnderstood_61 (by omega) (by rw [← i1, un_end (n := 80 - k) (by omega)]; by_cases q : S1 7 0 = 0 <;> first | (exfalso; omega) | (simp [q]; done) | simp [q]) (congrArg (tW_X2 ad cI) (by unfold unC; rw [← i1, un_end (n := 80 - k) (by omega)]))
          · refine z_iconst hx hb dX2_isUnderstood_56 ?_
            refine lv_goto (tgt := 61) hx hb dX2_isUnderstood_57 (by decide) ?_
            exact z_zret hx hb hr hlk hP hS dX2_isUnderstood_61 (by omega) (by rw [← i1, un_end (n := 80 - k) (by omega)]; by_cases q : S1 7 0 = 0 <;> first | (exfalso; omega) | (simp [q]; done) | simp [q]) (congrArg (tW_X2 ad cI) (by unfold unC; rw [← i1, un_end (n := 80 - k) (by omega)]))
        · refine lv_aload_n hx hb dX2_isUnderstood_34 rfl (lv_at hl 1 rfl) ?_
          refine z_calli (va_runV (As := []) (rest := []) ⟨hx, hb, hml, hown, hts⟩ (k_X2_readPiece l dC dI cI cQ A ad S1 hD (by exact iX) (by omega)) (cwV 0 hts gX2_isUnderstood_X2_readPiece rfl rfl rfl (by decide +kernel) ⟨Nat.le_of_ble_eq_true rfl, Nat.le_of_ble_eq_true rfl⟩) (z_preV hK hP (ci := 2) (q0 := 0) rfl rfl rfl) rfl rfl hl.1 rfl (lv_room (Nat.le_of_ble_eq_true rfl)) dX2_isUnderstood_35 ⟨Nat.zero_le _, Nat.zero_le _⟩) hS (fun _ h => h) (fun H locs hP hS _ _ => ?_)
          refine z_ifb_ne (tgt := 43) hx hb dX2_isUnderstood_38 (by decide) (fun c5 => ?_) (fun c5 => ?_)
          · refine z_iinc (lv' := [(1, .int (zI (k + 1))), (0, .ref (ad 0))]) hx hb dX2_isUnderstood_43 hl (k := 0) rfl (by decide) (by rw [show (k : Int) + (1) = (k + 1) from by omega]; rfl) (fun ls hl => ?_)
            refine lv_goto (tgt := 17) hx hb dX2_isUnderstood_46 (by decide) ?_
            exact ih17 (k + 1) (pieC S1) (by omega) (by exact CX_pie iX (by omega)) (by rw [← i1, un_go (n := 80 - k) (by omega) (by omega) (by assumption), show 80 - (k + 1) = 80 - k - 1 from by omega]) (by omega) _ _ hP hS ls (lv_sub hl [0, 1] rfl)
          · refine z_iconst hx hb dX2_isUnderstood_41 ?_
            exact z_zret hx hb hr hlk hP hS dX2_isUnderstood_42 (by omega) (by rw [← i1, un_no (n := 80 - k) (by omega) (by omega) (by assumption)]; rfl) (congrArg (tW_X2 ad cI) (by unfold unC; rw [← i1, un_no (n := 80 - k) (by omega) (by omega) (by assumption)]))
  exact hloop17 ((80 - 0 : Int) + 1).toNat 0 (up2 (up2 (up2 S 8 0 0) 4 0 0) 7 0 0) (by omega) (by exact hX) (by rfl) (by omega) _ _ hP hS ls (lv_sub hl [0, 1] rfl)
