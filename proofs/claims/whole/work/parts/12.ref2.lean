/-! the reference, further -/
theorem passesM_it (S : Nat → Int → Int) (f : Int → Int) : passesM (upR S 0 f) = upR S 0 (passesF f) := by
  unfold passesM
  rw [upR_eq, upR_upR]
def copF9 (A : Int → Int) (wh k : Int) : Int := sumZ (fun k => A (5 * k + wh + 5)) k
def cutsM (S : Nat → Int → Int) : Nat → Int → Int := upR S 0 (cutsF (S 0))
def sweepsM (S : Nat → Int → Int) : Nat → Int → Int := upR S 0 (sweepsF (S 0))
def nrrF (a b se wh : Int) : Int := if (0 ≤ se ∧ se ≤ 11) ∧ 0 ≤ wh ∧ wh ≤ 1 then (if wh = 0 then (if a < b then 0 else 1) else (if a < b then a else b)) else -1
def countF (S : Nat → Int → Int) (wh : Int) : Int :=
  if wh = 0 then S 0 0 else if wh = 1 then S 0 1 else if wh = 2 ∨ wh = 3 then (S 0 0 + 6 * (wh - 2)) % 12 else if wh = 4 then S 0 2 else if wh = 5 ∨ wh = 6 ∨ wh = 7 then inStF (S 0) (wh - 5) else if wh = 8 then copF (S 0) 3 else if wh = 9 then copF (S 0) 2 else if wh = 10 then unlF (S 0) else if wh = 11 then S 0 3 else if wh = 12 then S 0 4 else if wh = 13 then S 2 0 else if wh = 14 then S 5 0 else -1
def apnM (S : Nat → Int → Int) (ch : Int) : Nat → Int → Int := if (1 ≤ ch ∧ ch ≤ 255) ∧ S 5 0 ≠ 80 then up2 (up2 S 4 (S 5 0) ch) 5 0 (S 5 0 + 1) else S
def clrM (S : Nat → Int → Int) : Nat → Int → Int := up2 S 5 0 0
theorem cutK_0 (A : Int → Int) (j : Int) : cutKF A 0 j = A j := by
  unfold cutKF
  rw [if_neg (by omega), if_neg (by omega)]
theorem cutK_lo (A : Int → Int) {k j : Int} (h : j < 5) : cutKF A k j = A j := by
  unfold cutKF
  rw [if_neg (by omega), if_neg (by omega)]
theorem cutK_at9 (A : Int → Int) {k i : Int} (h : 0 ≤ k) (hi : i = 5 * k + 9) : cutKF A k i = A (5 * k + 9) := by
  subst hi
  unfold cutKF
  rw [if_neg (by omega), if_neg (by omega)]
theorem cutK_at7 (A : Int → Int) {k i : Int} (h : 0 ≤ k) (hi : i = 5 * k + 7) : cutKF A k i = A (5 * k + 7) := by
  subst hi
  unfold cutKF
  rw [if_neg (by omega), if_neg (by omega)]
theorem cutK_hit (S : Nat → Int → Int) {k : Int} (h : 0 ≤ k ∧ k < 96) (h2 : S 0 (5 * k + 9) = S 0 0 - 1) : putM (putM (upR S 0 (cutKF (S 0) k)) (k / 48) (k % 48) 2 1) (k / 48) (k % 48) 3 0 = upR S 0 (cutKF (S 0) (k + 1)) := by
  simp only [putM_eq, upR_eq, upR_upR]
  refine upR_cg (fun j => ?_)
  rw [show (240 * (k / 48) + 5 * (k % 48) + 2 + 5 : Int) = 5 * k + 7 by omega, show (240 * (k / 48) + 5 * (k % 48) + 3 + 5 : Int) = 5 * k + 8 by omega]
  unfold up1 cutKF
  (try dsimp only)
  by_cases q8 : j = 5 * k + 8
  · rw [if_pos q8, if_neg (by omega), if_pos (by omega)]
  · rw [if_neg q8]
    by_cases q7 : j = 5 * k + 7
    · rw [if_pos q7, if_pos ⟨by omega, by omega, by omega, by rw [q7, show (5 * k + 7 + 2 : Int) = 5 * k + 9 by omega]; exact h2⟩]
    · rw [if_neg q7]
      by_cases p1 : 5 ≤ j ∧ j < 5 * k + 5 ∧ j % 5 = 2 ∧ S 0 (j + 2) = S 0 0 - 1
      · rw [if_pos p1, if_pos ⟨p1.1, by omega, p1.2.2.1, p1.2.2.2⟩]
      · rw [if_neg p1, if_neg (show ¬ (5 ≤ j ∧ j < 5 * (k + 1) + 5 ∧ j % 5 = 2 ∧ S 0 (j + 2) = S 0 0 - 1) from fun z => p1 ⟨z.1, by omega, z.2.2.1, z.2.2.2⟩)]
        by_cases p2 : 5 ≤ j ∧ j < 5 * k + 5 ∧ j % 5 = 3
        · rw [if_pos p2, if_pos (by omega)]
        · rw [if_neg p2, if_neg (by omega)]
theorem cutK_miss (S : Nat → Int → Int) {k : Int} (h : 0 ≤ k ∧ k < 96) (h2 : S 0 (5 * k + 9) ≠ S 0 0 - 1) : putM (upR S 0 (cutKF (S 0) k)) (k / 48) (k % 48) 3 0 = upR S 0 (cutKF (S 0) (k + 1)) := by
  simp only [putM_eq, upR_eq, upR_upR]
  refine upR_cg (fun j => ?_)
  rw [show (240 * (k / 48) + 5 * (k % 48) + 3 + 5 : Int) = 5 * k + 8 by omega]
  unfold up1 cutKF
  (try dsimp only)
  by_cases q8 : j = 5 * k + 8
  · rw [if_pos q8, if_neg (by omega), if_pos (by omega)]
  · rw [if_neg q8]
    by_cases p1 : 5 ≤ j ∧ j < 5 * k + 5 ∧ j % 5 = 2 ∧ S 0 (j + 2) = S 0 0 - 1
    · rw [if_pos p1, if_pos ⟨p1.1, by omega, p1.2.2.1, p1.2.2.2⟩]
    · rw [if_neg p1, if_neg (show ¬ (5 ≤ j ∧ j < 5 * (k + 1) + 5 ∧ j % 5 = 2 ∧ S 0 (j + 2) = S 0 0 - 1) from fun z => by
        by_cases q7 : j = 5 * k + 7
        · exact h2 (by have := z.2.2.2; rwa [q7, show (5 * k + 7 + 2 : Int) = 5 * k + 9 by omega] at this)
        · exact p1 ⟨z.1, by omega, z.2.2.1, z.2.2.2⟩)]
      by_cases p2 : 5 ≤ j ∧ j < 5 * k + 5 ∧ j % 5 = 3
      · rw [if_pos p2, if_pos (by omega)]
      · rw [if_neg p2, if_neg (by omega)]
theorem cutO_0 (A : Int → Int) (j : Int) : cutOF A 0 j = A j := by
  unfold cutOF
  rw [if_neg (by omega)]
theorem cutO_lo (A : Int → Int) {o j : Int} (h : j < 5) : cutOF (cutKF A 96) o j = A j := by
  unfold cutOF
  rw [if_neg (by omega), cutK_lo A h]
theorem cutK_hi (A : Int → Int) {k j : Int} (hk : k ≤ 96) (h : 485 ≤ j) : cutKF A k j = A j := by
  unfold cutKF
  rw [if_neg (by omega), if_neg (by omega)]
theorem cutO_at (A : Int → Int) {o i : Int} (h : 0 ≤ o) (hi : i = 8 * o + 488) : cutOF (cutKF A 96) o i = A (8 * o + 488) := by
  subst hi
  unfold cutOF
  rw [if_neg (by omega), cutK_hi A (by omega) (by omega)]
theorem cutO_hit (S : Nat → Int → Int) {o : Int} (h : 0 ≤ o) (h2 : S 0 (8 * o + 488) = 0) : tellM (upR S 0 (cutOF (cutKF (S 0) 96) o)) o 3 2 = upR S 0 (cutOF (cutKF (S 0) 96) (o + 1)) := by
  simp only [tellM_eq, upR_eq, upR_upR]
  refine upR_cg (fun j => ?_)
  rw [show (8 * o + 3 + 485 : Int) = 8 * o + 488 by omega]
  unfold up1 cutOF
  (try dsimp only)
  by_cases q : j = 8 * o + 488
  · rw [if_pos q, if_pos ⟨by omega, by omega, by omega, by rw [q, cutK_hi _ (by omega) (by omega)]; exact h2⟩]
  · rw [if_neg q]
    by_cases p : 485 ≤ j ∧ j < 8 * o + 485 ∧ j % 8 = 0 ∧ cutKF (S 0) 96 j = 0
    · rw [if_pos p, if_pos ⟨p.1, by omega, p.2.2.1, p.2.2.2⟩]
    · rw [if_neg p, if_neg (show ¬ (485 ≤ j ∧ j < 8 * (o + 1) + 485 ∧ j % 8 = 0 ∧ cutKF (S 0) 96 j = 0) from fun z => p ⟨z.1, by omega, z.2.2.1, z.2.2.2⟩)]
theorem cutO_miss (S : Nat → Int → Int) {o : Int} (h : 0 ≤ o) (h2 : S 0 (8 * o + 488) ≠ 0) : upR S 0 (cutOF (cutKF (S 0) 96) o) = upR S 0 (cutOF (cutKF (S 0) 96) (o + 1)) := by
  refine upR_cg (fun j => ?_)
  unfold cutOF
  by_cases p : 485 ≤ j ∧ j < 8 * o + 485 ∧ j % 8 = 0 ∧ cutKF (S 0) 96 j = 0
  · rw [if_pos p, if_pos ⟨p.1, by omega, p.2.2.1, p.2.2.2⟩]
  · rw [if_neg p, if_neg (show ¬ (485 ≤ j ∧ j < 8 * (o + 1) + 485 ∧ j % 8 = 0 ∧ cutKF (S 0) 96 j = 0) from fun z => by
      by_cases q : j = 8 * o + 488
      · exact h2 (by have := z.2.2.2; rwa [q, cutK_hi _ (by omega) (by omega)] at this)
      · exact p ⟨z.1, by omega, z.2.2.1, z.2.2.2⟩)]
theorem up1_self (f : Int → Int) (e : Int) : up1 f e (f e) = f := by
  funext j
  unfold up1
  split
  · rename_i h; rw [h]
  · rfl
theorem behF_rng (A : Int → Int) (b : Int) : behF A b = -9 ∨ behF A b = 0 ∨ behF A b = 1 := by
  unfold behF
  (repeat' split) <;> omega
theorem sw_step (S : Nat → Int → Int) (X : Int → Int) (b : Int) (T : Nat → Int → Int)
    (h : (tornF X b = 2 ∧ T = upR S 0 (up1 (wipF X b) 3 (X 3 + 1))) ∨ (tornF X b ≠ 2 ∧ behF X b = -9 ∧ T = upR S 0 X) ∨ (tornF X b ≠ 2 ∧ behF X b ≠ -9 ∧ T = upR S 0 (takF X (behF X b) b))) : T = upR S 0 (swF b X) := by
  unfold swF
  rcases h with ⟨h1, h2⟩ | ⟨h1, h2, h3⟩ | ⟨h1, h2, h3⟩
  · rw [if_pos h1]; exact h2
  · rw [if_neg h1, if_pos h2]; exact h3
  · rw [if_neg h1, if_neg h2]; exact h3

theorem in_X4_pass : ∀ w ∈ wsX40, w ∈ wsX4_pass := fun w h => List.mem_cons_of_mem _ (List.mem_append_right _ h)
set_option maxHeartbeats 4000000 in
set_option maxRecDepth 100000 in
theorem k_X4_pass (l : Launch) (dC : Nat → ClassId) (dI : Nat → Nat → Nat) (cI cQ : ClassId) (A : Nat → Prop) (ad : Nat → Nat) (S : Nat → Int → Int) (hD : ∀ S, va_D A (tW_X4 ad cI S)) (ticks : Int) (hA : WFA (S 0)) (h : 0 ≤ S 2 0 ∧ S 2 0 ≤ 5) (h7 : S 7 0 = 0 ∨ S 7 0 = 1) (q0 : -2147483648 ≤ ticks ∧ ticks < 2147483648) (hall : (1 ≤ ticks ∧ ticks ≤ 200) ∧ S 0 0 + ticks ≤ 20000 → ∀ k : Int, 0 ≤ k → k ≤ ticks → WFA (itZ passesF k (S 0)) ∧ (0 < wkF (itZ passesF k (S 0)) (itZ passesF k (S 0) 1) → WFA (headsF (itZ passesF k (S 0)) 0))) : Met l yX4_pass wsX4_pass ({ frames := 4, cells := 0, slots := 0, locals := 94 }) (zPc (dC, dI) vwCl (zT cI cQ) (tW_X4 ad cI S) [.ref (ad 0), .int (zI ticks)]) (zQi (dC, dI) vwCl (tW_X4 ad cI (passM S ticks)) (passR (S 0) ticks) A) 0 0 A := by
  refine Met.ofW (cc := cX4_pass) (maxL := 4) (ret := (some .int)) (by decide) rfl ?_
  intro p e s m args below meth c s₁ B hml hv
  obtain ⟨rfl, hP, hK⟩ := hv
  have hx := B.exec
  have hb := B.bytes
  have hr := B.returns
  have hts := atoms_spec (ws := wsX4_pass) B.pre
  have hown : s.vm.findClass RX4 = some m.cls := findClass_of_methodNamed B.named
  have hlk := B.notSynchronized
  have hS : va_S A s.heap s.heap [] := va_S.rf
  have hl := lv_entry ([.ref (ad 0), .int (zI ticks)]) (n := 4) (Nat.le_of_ble_eq_true rfl)
  rw [lg_entry_eq]
  generalize (lg_sl ([.ref (ad 0), .int (zI ticks)]) ++ List.replicate (4 - (lg_sl ([.ref (ad 0), .int (zI ticks)])).length) Slot.unset).toArray = ls at hl ⊢
  have hl : lv_has ls 4 [(0, .ref (ad 0)), (1, .int (zI ticks))] := hl
  have hin : ∀ w ∈ wsX40, w ∈ wsX4_pass := in_X4_pass
  obtain ⟨hB0, hA0, hA1, hA2⟩ := id hA
  have hB : ∀ (k : Nat) (j : Int), 0 ≤ j → j < 965 → j ≠ 3 → j ≠ 4 → -1000000 ≤ S 0 j ∧ S 0 j ≤ 1000000 := fun _ j => hB0 j
  refine lv_iload_n hx hb dX4_pass_0 rfl (lv_at hl 1 rfl) ?_
  refine z_iconst hx hb dX4_pass_1 ?_
  refine z_sipush (z := 200) hx hb dX4_pass_2 (by decide +kernel) ?_
  refine z_calli (va_runS (As := [.int (zI ticks), .int (zI 1), .int (zI 200)]) (rest := []) ⟨hx, hb, hml, hown, hts⟩ (k_X4_within l dC dI cI cQ A (tW_X4 ad cI S) ticks 1 200 (by omega) (by omega) (by omega)) (va_cwS 3 hts gX4_pass_X4_within rfl rfl rfl (by decide +kernel) ⟨Nat.le_of_ble_eq_true rfl, Nat.le_of_ble_eq_true rfl⟩) (z_preS hK hP) rfl rfl hl.1 rfl (lv_room (Nat.le_of_ble_eq_true rfl)) dX4_pass_5 ⟨Nat.zero_le _, Nat.zero_le _⟩) hS (fun _ h => h) (fun H locs hP hS _ _ => ?_)
  refine z_ifb_ne (tgt := 13) hx hb dX4_pass_8 (by decide) (fun c1 => ?_) (fun c1 => ?_)
  · refine lv_aload_n hx hb dX4_pass_13 rfl (lv_at hl 0 rfl) ?_
    refine gx_X4_0 hx hb hts hin hown hK hP (hts _ (List.mem_of_getElem? (i := 1) rfl)) dX4_pass_14 ?_
    refine z_iconst hx hb dX4_pass_17 ?_
    refine ld_X4_0 (v := S 0 0) hx hb hK hP (by omega) rfl dX4_pass_18 ?_
    have b1 := hB 0 0 (by omega) (by omega) (by omega) (by omega)
    refine lv_iload_n hx hb dX4_pass_19 rfl (lv_at hl 1 rfl) ?_
    refine z_iadd hx hb dX4_pass_20 ?_
    refine z_top (y := S 0 0 + ticks) (by omega) ?_
    refine z_sipush (z := 20000) hx hb dX4_pass_21 (by decide +kernel) ?_
    refine z_icmp_le (tgt := 30) hx hb dX4_pass_24 (by decide) (by omega) (by omega) (fun c2 => ?_) (fun c2 => ?_)
    · refine lv_aload_n hx hb dX4_pass_30 rfl (lv_at hl 0 rfl) ?_
      refine z_callv (va_runV (As := []) (rest := []) ⟨hx, hb, hml, hown, hts⟩ (k_X4_saves l dC dI cI cQ A ad S hD (by exact h) (by exact h7)) (cwV 0 hts gX4_pass_X4_saves rfl rfl rfl (by decide +kernel) ⟨Nat.le_of_ble_eq_true rfl, Nat.le_of_ble_eq_true rfl⟩) (z_preV hK hP (ci := 4) (q0 := 0) rfl rfl rfl) rfl rfl hl.1 rfl (lv_room (Nat.le_of_ble_eq_true rfl)) dX4_pass_31 ⟨Nat.zero_le _, Nat.zero_le _⟩) hS (fun _ h => h) (fun H locs hP hS _ _ => ?_)
      refine lv_aload_n hx hb dX4_pass_34 rfl (lv_at hl 0 rfl) ?_
      refine z_iconst hx hb dX4_pass_35 ?_
      refine z_calli (va_runV (As := [.int (zI 1)]) (rest := []) ⟨hx, hb, hml, hown, hts⟩ (k_X4_inState l dC dI cI cQ A ad (savesM S) hD 1 (by first | exact hall2.1 | (rw [savesM_0]; exact hA)) (by omega)) (cwV 1 hts gX4_pass_X4_inState rfl rfl rfl (by decide +kernel) ⟨Nat.le_of_ble_eq_true rfl, Nat.le_of_ble_eq_true rfl⟩) (z_preV hK hP (ci := 4) (q0 := 0) rfl rfl rfl) rfl rfl hl.1 rfl (lv_room (Nat.le_of_ble_eq_true rfl)) dX4_pass_36 ⟨Nat.zero_le _, Nat.zero_le _⟩) hS (fun _ h => h) (fun H locs hP hS _ _ => ?_)
      refine z_top (y := (inStF (S 0) 1)) (by exact congrArg (fun q : Int → Int => (inStF q 1)) (savesM_0 S)) ?_
      have ib0 := inSt_rng (A := S 0) hA2.1 1
      refine lv_istore_n (lv' := [(2, .int (zI (inStF (S 0) 1))), (0, .ref (ad 0)), (1, .int (zI ticks))]) hx hb dX4_pass_39 rfl hl (by decide) rfl (fun ls hl => ?_)
      refine z_iconst hx hb dX4_pass_40 ?_
      refine lv_istore_n (lv' := [(3, .int (zI 0)), (2, .int (zI (inStF (S 0) 1))), (0, .ref (ad 0)), (1, .int (zI ticks))]) hx hb dX4_pass_41 rfl hl (by decide) rfl (fun ls hl => ?_)
      have hloop42 : ∀ (n : Nat) (k : Int) (S1 : Nat → Int → Int), (0 ≤ k ∧ k ≤ ticks) → (S1 = upR (savesM S) 0 (itZ passesF k (S 0))) → (ticks - k < (n : Int)) → ∀ (H : Heap) (locs : List Loc), va_P (dC, dI) vwCl (tW_X4 ad cI S1) H → va_S A s.heap H locs → ∀ ls : Array Slot, lv_has ls 4 [(3, .int (zI k)), (2, .int (zI (inStF (S 0) 1))), (0, .ref (ad 0)), (1, .int (zI ticks))] → W p l e (headSpec wsX4_pass ({ frames := 4, cells := 0, slots := 0, locals := 94 })).room s m ([.ref (ad 0), .int (zI ticks)] : List Value).toArray below meth c H locs 0 0 (MQ below (zQi (dC, dI) vwCl (tW_X4 ad cI (passM S ticks)) (passR (S 0) ticks) A) ([.ref (ad 0), .int (zI ticks)] : List Value).toArray s 0 0 A) (F0 m 42 ls []) := by
        intro n
        induction n with
        | zero =>
          intro k S1 i0 i1 hm
          exfalso
          omega
        | succ n ih =>
          intro k S1 i0 i1 hm H locs hP hS ls hl
          have ih42 := ih
          clear ih
          subst i1
          obtain ⟨X, hX⟩ : ∃ X, X = itZ passesF k (S 0) := ⟨_, rfl⟩
          rw [← hX] at hP
          have hall2 := hall (by omega) k i0.1 i0.2
          rw [← hX] at hall2
          refine lv_iload_n hx hb dX4_pass_42 rfl (lv_at hl 0 rfl) ?_
          refine lv_iload_n hx hb dX4_pass_43 rfl (lv_at hl 3 rfl) ?_
          refine z_icmp_ge (tgt := 57) hx hb dX4_pass_44 (by decide) (by omega) (by omega) (fun c3 => ?_) (fun c3 => ?_)
          · refine lv_aload_n hx hb dX4_pass_57 rfl (lv_at hl 2 rfl) ?_
            refine z_iconst hx hb dX4_pass_58 ?_
            refine z_calli (va_runV (As := [.int (zI 1)]) (rest := []) ⟨hx, hb, hml, hown, hts⟩ (k_X4_inState l dC dI cI cQ A ad (upR (savesM S) 0 X) hD 1 (by first | exact hall2.1 | (rw [savesM_0]; exact hA)) (by omega)) (cwV 1 hts gX4_pass_X4_inState rfl rfl rfl (by decide +kernel) ⟨Nat.le_of_ble_eq_true rfl, Nat.le_of_ble_eq_true rfl⟩) (z_preV hK hP (ci := 4) (q0 := 0) rfl rfl rfl) rfl rfl hl.1 rfl (lv_room (Nat.le_of_ble_eq_true rfl)) dX4_pass_59 ⟨Nat.zero_le _, Nat.zero_le _⟩) hS (fun _ h => h) (fun H locs hP hS _ _ => ?_)
            refine z_top (y := (inStF (X) 1)) (by exact congrArg (fun q : Int → Int => (inStF q 1)) (rfl)) ?_
            refine lv_iload_n hx hb dX4_pass_62 rfl (lv_at hl 1 rfl) ?_
            refine z_isub hx hb dX4_pass_63 ?_
            obtain rfl : ticks = k := by omega
            exact z_iret hx hb hr hlk hP hS dX4_pass_64 (by unfold passR; first | (rw [if_pos (by omega), if_pos (by omega), ← hX]) | rw [if_pos (by omega), if_neg (by omega)] | rw [if_neg (by omega)]) (congrArg (tW_X4 ad cI) (by unfold passM; first | (rw [if_pos (by omega), ← hX]) | rw [if_neg (by omega)]))
          · refine lv_aload_n hx hb dX4_pass_47 rfl (lv_at hl 2 rfl) ?_
            refine z_callv (va_runV (As := []) (rest := []) ⟨hx, hb, hml, hown, hts⟩ (k_X4_passes l dC dI cI cQ A ad (upR (savesM S) 0 X) hD (by exact hall2.1) (by exact hall2.2)) (cwV 0 hts gX4_pass_X4_passes rfl rfl rfl (by decide +kernel) ⟨Nat.le_of_ble_eq_true rfl, Nat.le_of_ble_eq_true rfl⟩) (z_preV hK hP (ci := 4) (q0 := 0) rfl rfl rfl) rfl rfl hl.1 rfl (lv_room (Nat.le_of_ble_eq_true rfl)) dX4_pass_48 ⟨Nat.zero_le _, Nat.zero_le _⟩) hS (fun _ h => h) (fun H locs hP hS _ _ => ?_)
            refine z_iinc (lv' := [(3, .int (zI (k + 1))), (2, .int (zI (inStF (S 0) 1))), (0, .ref (ad 0)), (1, .int (zI ticks))]) hx hb dX4_pass_51 hl (k := 0) rfl (by decide) (by rw [show (k : Int) + (1) = (k + 1) from by omega]; rfl) (fun ls hl => ?_)
            refine lv_goto (tgt := 42) hx hb dX4_pass_54 (by decide) ?_
            exact ih42 (k + 1) (passesM (upR (savesM S) 0 X)) (by omega) (by rw [itZ_succ _ _ i0.1, ← hX]; exact passesM_it _ _) (by omega) _ _ hP hS ls (lv_sub hl [0, 1, 2, 3] rfl)
      exact hloop42 ((ticks - 0 : Int) + 1).toNat 0 (savesM S) (by omega) (by exact (upR_id (fun j => by rw [itZ_0, savesM_0])).symm) (by omega) _ _ hP hS ls (lv_sub hl [0, 1, 2, 3] rfl)
    · refine z_bipush (z := (-2)) hx hb dX4_pass_27 (by decide +kernel) ?_
      exact z_iret hx hb hr hlk hP hS dX4_pass_29 (by unfold passR; first | (rw [if_pos (by omega), if_pos (by omega), ← hX]) | rw [if_pos (by omega), if_neg (by omega)] | rw [if_neg (by omega)]) (congrArg (tW_X4 ad cI) (by unfold passM; first | (rw [if_pos (by omega), ← hX]) | rw [if_neg (by omega)]))
  · refine z_iconst hx hb dX4_pass_11 ?_
    exact z_iret hx hb hr hlk hP hS dX4_pass_12 (by unfold passR; first | (rw [if_pos (by omega), if_pos (by omega), ← hX]) | rw [if_pos (by omega), if_neg (by omega)] | rw [if_neg (by omega)]) (congrArg (tW_X4 ad cI) (by unfold passM; first | (rw [if_pos (by omega), ← hX]) | rw [if_neg (by omega)]))
theorem in_X4_torn : ∀ w ∈ wsX40, w ∈ wsX4_torn := fun w h => List.mem_cons_of_mem _ (List.mem_append_right _ h)
set_option maxHeartbeats 4000000 in
set_option maxRecDepth 100000 in
theorem k_X4_torn (l : Launch) (dC : Nat → ClassId) (dI : Nat → Nat → Nat) (cI cQ : ClassId) (A : Nat → Prop) (ad : Nat → Nat) (S : Nat → Int → Int) (hD : ∀ S, va_D A (tW_X4 ad cI S)) (b : Int) (h : 0 ≤ b ∧ b < 48) : Met l yX4_torn wsX4_torn ({ frames := 1, cells := 0, slots := 0, locals := 23 }) (zPc (dC, dI) vwCl (zT cI cQ) (tW_X4 ad cI S) [.ref (ad 0), .int (zI b)]) (zQi (dC, dI) vwCl (tW_X4 ad cI S) (S 0 (5 * b + 7) + S 0 (5 * b + 247)) A) 0 0 A := by
  refine Met.ofW (cc := cX4_torn) (maxL := 2) (ret := (some .int)) (by decide) rfl ?_
  intro p e s m args below meth c s₁ B hml hv
  obtain ⟨rfl, hP, hK⟩ := hv
  have hx := B.exec
  have hb := B.bytes
  have hr := B.returns
  have hts := atoms_spec (ws := wsX4_torn) B.pre
  have hown : s.vm.findClass RX4 = some m.cls := findClass_of_methodNamed B.named
  have hlk := B.notSynchronized
  have hS : va_S A s.heap s.heap [] := va_S.rf
  have hl := lv_entry ([.ref (ad 0), .int (zI b)]) (n := 2) (Nat.le_of_ble_eq_true rfl)
  rw [lg_entry_eq]
  generalize (lg_sl ([.ref (ad 0), .int (zI b)]) ++ List.replicate (2 - (lg_sl ([.ref (ad 0), .int (zI b)])).length) Slot.unset).toArray = ls at hl ⊢
  have hl : lv_has ls 2 [(0, .ref (ad 0)), (1, .int (zI b))] := hl
  have hin : ∀ w ∈ wsX40, w ∈ wsX4_torn := in_X4_torn
  refine lv_aload_n hx hb dX4_torn_0 rfl (lv_at hl 0 rfl) ?_
  refine z_iconst hx hb dX4_torn_1 ?_
  refine lv_iload_n hx hb dX4_torn_2 rfl (lv_at hl 1 rfl) ?_
  refine z_iconst hx hb dX4_torn_3 ?_
  refine z_calli (va_runV (As := [.int (zI 0), .int (zI b), .int (zI 2)]) (rest := []) ⟨hx, hb, hml, hown, hts⟩ (k_X4_of l dC dI cI cQ A ad S hD 0 b 2 (by omega)) (cwV 3 hts gX4_torn_X4_of rfl rfl rfl (by decide +kernel) ⟨Nat.le_of_ble_eq_true rfl, Nat.le_of_ble_eq_true rfl⟩) (z_preV hK hP (ci := 4) (q0 := 0) rfl rfl rfl) rfl rfl hl.1 rfl (lv_room (Nat.le_of_ble_eq_true rfl)) dX4_torn_4 ⟨Nat.zero_le _, Nat.zero_le _⟩) hS (fun _ h => h) (fun H locs hP hS _ _ => ?_)
  refine z_top (y := S 0 (5 * b + 7)) (by rw [show (240 * 0 + 5 * b + 2 + 5) = (5 * b + 7 : Int) from by omega]; first | done | exact rfl) ?_
  refine lv_aload_n hx hb dX4_torn_7 rfl (lv_at hl 0 rfl) ?_
  refine z_iconst hx hb dX4_torn_8 ?_
  refine lv_iload_n hx hb dX4_torn_9 rfl (lv_at hl 1 rfl) ?_
  refine z_iconst hx hb dX4_torn_10 ?_
  refine z_calli (va_runV (As := [.int (zI 1), .int (zI b), .int (zI 2)]) (rest := [.int (zI (S 0 (5 * b + 7)))]) ⟨hx, hb, hml, hown, hts⟩ (k_X4_of l dC dI cI cQ A ad S hD 1 b 2 (by omega)) (cwV 3 hts gX4_torn_X4_of rfl rfl rfl (by decide +kernel) ⟨Nat.le_of_ble_eq_true rfl, Nat.le_of_ble_eq_true rfl⟩) (z_preV hK hP (ci := 4) (q0 := 0) rfl rfl rfl) rfl rfl hl.1 rfl (lv_room (Nat.le_of_ble_eq_true rfl)) dX4_torn_11 ⟨Nat.zero_le _, Nat.zero_le _⟩) hS (fun _ h => h) (fun H locs hP hS _ _ => ?_)
  refine z_top (y := S 0 (5 * b + 247)) (by rw [show (240 * 1 + 5 * b + 2 + 5) = (5 * b + 247 : Int) from by omega]; first | done | exact rfl) ?_
  refine z_iadd hx hb dX4_torn_14 ?_
  refine z_top (y := S 0 (5 * b + 7) + S 0 (5 * b + 247)) (by omega) ?_
  exact z_iret hx hb hr hlk hP hS dX4_torn_15 rfl rfl
theorem in_X4_copiesThat : ∀ w ∈ wsX40, w ∈ wsX4_copiesThat := fun w h => List.mem_cons_of_mem _ (List.mem_append_right _ h)
set_option maxHeartbeats 4000000 in
set_option maxRecDepth 100000 in
theorem k_X4_copiesThat (l : Launch) (dC : Nat → ClassId) (dI : Nat → Nat → Nat) (cI cQ : ClassId) (A : Nat → Prop) (ad : Nat → Nat) (S : Nat → Int → Int) (hD : ∀ S, va_D A (tW_X4 ad cI S)) (wh : Int) (h : 0 ≤ wh ∧ wh < 4) : Met l yX4_copiesThat wsX4_copiesThat ({ frames := 1, cells := 0, slots := 0, locals := 23 }) (zPc (dC, dI) vwCl (zT cI cQ) (tW_X4 ad cI S) [.ref (ad 0), .int (zI wh)]) (zQi (dC, dI) vwCl (tW_X4 ad cI S) (copF (S 0) wh) A) 0 0 A := by
  refine Met.ofW (cc := cX4_copiesThat) (maxL := 4) (ret := (some .int)) (by decide) rfl ?_
  intro p e s m args below meth c s₁ B hml hv
  obtain ⟨rfl, hP, hK⟩ := hv
  have hx := B.exec
  have hb := B.bytes
  have hr := B.returns
  have hts := atoms_spec (ws := wsX4_copiesThat) B.pre
  have hown : s.vm.findClass RX4 = some m.cls := findClass_of_methodNamed B.named
  have hlk := B.notSynchronized
  have hS : va_S A s.heap s.heap [] := va_S.rf
  have hl := lv_entry ([.ref (ad 0), .int (zI wh)]) (n := 4) (Nat.le_of_ble_eq_true rfl)
  rw [lg_entry_eq]
  generalize (lg_sl ([.ref (ad 0), .int (zI wh)]) ++ List.replicate (4 - (lg_sl ([.ref (ad 0), .int (zI wh)])).length) Slot.unset).toArray = ls at hl ⊢
  have hl : lv_has ls 4 [(0, .ref (ad 0)), (1, .int (zI wh))] := hl
  have hin : ∀ w ∈ wsX40, w ∈ wsX4_copiesThat := in_X4_copiesThat
  refine z_iconst hx hb dX4_copiesThat_0 ?_
  refine lv_istore_n (lv' := [(2, .int (zI 0)), (0, .ref (ad 0)), (1, .int (zI wh))]) hx hb dX4_copiesThat_1 rfl hl (by decide) rfl (fun ls hl => ?_)
  refine z_iconst hx hb dX4_copiesThat_2 ?_
  refine lv_istore_n (lv' := [(3, .int (zI 0)), (2, .int (zI 0)), (0, .ref (ad 0)), (1, .int (zI wh))]) hx hb dX4_copiesThat_3 rfl hl (by decide) rfl (fun ls hl => ?_)
  have hloop4 : ∀ (n : Nat) (n0 k : Int), (0 ≤ k ∧ k ≤ 96) → (n0 = copF9 (S 0) wh k) → (96 - k < (n : Int)) → ∀ (H : Heap) (locs : List Loc), va_P (dC, dI) vwCl (tW_X4 ad cI S) H → va_S A s.heap H locs → ∀ ls : Array Slot, lv_has ls 4 [(3, .int (zI k)), (2, .int (zI n0)), (0, .ref (ad 0)), (1, .int (zI wh))] → W p l e (headSpec wsX4_copiesThat ({ frames := 1, cells := 0, slots := 0, locals := 23 })).room s m ([.ref (ad 0), .int (zI wh)] : List Value).toArray below meth c H locs 0 0 (MQ below (zQi (dC, dI) vwCl (tW_X4 ad cI S) (copF (S 0) wh) A) ([.ref (ad 0), .int (zI wh)] : List Value).toArray s 0 0 A) (F0 m 4 ls []) := by
    intro n
    induction n with
    | zero =>
      intro n0 k i0 i1 hm
      exfalso
      omega
    | succ n ih =>
      intro n0 k i0 i1 hm H locs hP hS ls hl
      have ih4 := ih
      clear ih
      refine lv_iload_n hx hb dX4_copiesThat_4 rfl (lv_at hl 0 rfl) ?_
      refine z_bipush (z := 96) hx hb dX4_copiesThat_5 (by decide +kernel) ?_
      refine z_icmp_ge (tgt := 32) hx hb dX4_copiesThat_7 (by decide) (by omega) (by omega) (fun c1 => ?_) (fun c1 => ?_)
      · refine lv_iload_n hx hb dX4_copiesThat_32 rfl (lv_at hl 1 rfl) ?_
        obtain rfl : k = 96 := by omega
        exact z_iret hx hb hr hlk hP hS dX4_copiesThat_33 (by exact i1) rfl
      · refine lv_iload_n hx hb dX4_copiesThat_10 rfl (lv_at hl 1 rfl) ?_
        refine lv_aload_n hx hb dX4_copiesThat_11 rfl (lv_at hl 2 rfl) ?_
        refine lv_iload_n hx hb dX4_copiesThat_12 rfl (lv_at hl 0 rfl) ?_
        refine z_bipush (z := 48) hx hb dX4_copiesThat_13 (by decide +kernel) ?_
        refine z_idiv hx hb dX4_copiesThat_15 (by omega) (by omega) ?_
        refine lv_iload_n hx hb dX4_copiesThat_16 rfl (lv_at hl 0 rfl) ?_
        refine z_bipush (z := 48) hx hb dX4_copiesThat_17 (by decide +kernel) ?_
        refine z_irem hx hb dX4_copiesThat_19 (by omega) (by omega) ?_
        refine lv_iload_n hx hb dX4_copiesThat_20 rfl (lv_at hl 3 rfl) ?_
        refine z_calli (va_runV (As := [.int (zI (k / 48)), .int (zI (k % 48)), .int (zI wh)]) (rest := [.int (zI n0)]) ⟨hx, hb, hml, hown, hts⟩ (k_X4_of l dC dI cI cQ A ad S hD (k / 48) (k % 48) wh (by omega)) (cwV 3 hts gX4_copiesThat_X4_of rfl rfl rfl (by decide +kernel) ⟨Nat.le_of_ble_eq_true rfl, Nat.le_of_ble_eq_true rfl⟩) (z_preV hK hP (ci := 4) (q0 := 0) rfl rfl rfl) rfl rfl hl.1 rfl (lv_room (Nat.le_of_ble_eq_true rfl)) dX4_copiesThat_21 ⟨Nat.zero_le _, Nat.zero_le _⟩) hS (fun _ h => h) (fun H locs hP hS _ _ => ?_)
        refine z_top (y := S 0 (5 * k + wh + 5)) (by exact congrArg (S 0) (by omega)) ?_
        refine z_iadd hx hb dX4_copiesThat_24 ?_
        refine z_top (y := n0 + S 0 (5 * k + wh + 5)) (by omega) ?_
        refine lv_istore_n (lv' := [(2, .int (zI (n0 + S 0 (5 * k + wh + 5)))), (3, .int (zI k)), (0, .ref (ad 0)), (1, .int (zI wh))]) hx hb dX4_copiesThat_25 rfl hl (by decide) rfl (fun ls hl => ?_)
        refine z_iinc (lv' := [(3, .int (zI (k + 1))), (2, .int (zI (n0 + S 0 (5 * k + wh + 5)))), (0, .ref (ad 0)), (1, .int (zI wh))]) hx hb dX4_copiesThat_26 hl (k := 1) rfl (by decide) (by rw [show (k : Int) + (1) = (k + 1) from by omega]; rfl) (fun ls hl => ?_)
        refine lv_goto (tgt := 4) hx hb dX4_copiesThat_29 (by decide) ?_
        exact ih4 (n0 + S 0 (5 * k + wh + 5)) (k + 1) (by omega) (by unfold copF9; rw [sumZ_succ _ i0.1]; unfold copF9 at i1; rw [← i1]) (by omega) _ _ hP hS ls (lv_sub hl [0, 1, 2, 3] rfl)
  exact hloop4 ((96 - 0 : Int) + 1).toNat 0 0 (by omega) (by rfl) (by omega) _ _ hP hS ls (lv_sub hl [0, 1, 2, 3] rfl)
theorem in_X4_unlike : ∀ w ∈ wsX40, w ∈ wsX4_unlike := fun w h => List.mem_cons_of_mem _ (List.mem_append_right _ h)
set_option maxHeartbeats 4000000 in
set_option maxRecDepth 100000 in
theorem k_X4_unlike (l : Launch) (dC : Nat → ClassId) (dI : Nat → Nat → Nat) (cI cQ : ClassId) (A : Nat → Prop) (ad : Nat → Nat) (S : Nat → Int → Int) (hD : ∀ S, va_D A (tW_X4 ad cI S)) (hA : WFA (S 0)) : Met l yX4_unlike wsX4_unlike ({ frames := 1, cells := 0, slots := 0, locals := 23 }) (zPc (dC, dI) vwCl (zT cI cQ) (tW_X4 ad cI S) [.ref (ad 0)]) (zQi (dC, dI) vwCl (tW_X4 ad cI S) (unlF (S 0)) A) 0 0 A := by
  refine Met.ofW (cc := cX4_unlike) (maxL := 3) (ret := (some .int)) (by decide) rfl ?_
  intro p e s m args below meth c s₁ B hml hv
  obtain ⟨rfl, hP, hK⟩ := hv
  have hx := B.exec
  have hb := B.bytes
  have hr := B.returns
  have hts := atoms_spec (ws := wsX4_unlike) B.pre
  have hown : s.vm.findClass RX4 = some m.cls := findClass_of_methodNamed B.named
  have hlk := B.notSynchronized
  have hS : va_S A s.heap s.heap [] := va_S.rf
  have hl := lv_entry ([.ref (ad 0)]) (n := 3) (Nat.le_of_ble_eq_true rfl)
  rw [lg_entry_eq]
  generalize (lg_sl ([.ref (ad 0)]) ++ List.replicate (3 - (lg_sl ([.ref (ad 0)])).length) Slot.unset).toArray = ls at hl ⊢
  have hl : lv_has ls 3 [(0, .ref (ad 0))] := hl
  have hin : ∀ w ∈ wsX40, w ∈ wsX4_unlike := in_X4_unlike
  obtain ⟨hB0, hA0, hA1, hA2⟩ := id hA
  have hB : ∀ (k : Nat) (j : Int), 0 ≤ j → j < 965 → j ≠ 3 → j ≠ 4 → -1000000 ≤ S 0 j ∧ S 0 j ≤ 1000000 := fun _ j => hB0 j
  refine z_iconst hx hb dX4_unlike_0 ?_
  refine lv_istore_n (lv' := [(1, .int (zI 0)), (0, .ref (ad 0))]) hx hb dX4_unlike_1 rfl hl (by decide) rfl (fun ls hl => ?_)
  refine z_iconst hx hb dX4_unlike_2 ?_
  refine lv_istore_n (lv' := [(2, .int (zI 0)), (1, .int (zI 0)), (0, .ref (ad 0))]) hx hb dX4_unlike_3 rfl hl (by decide) rfl (fun ls hl => ?_)
  have hloop4 : ∀ (n : Nat) (n0 b : Int), (0 ≤ b ∧ b ≤ 48) → (n0 = sumZ (fun b => if S 0 (5 * b + 5) ≠ S 0 (5 * b + 245) ∨ S 0 (5 * b + 6) ≠ S 0 (5 * b + 246) then 1 else 0) b) → (48 - b < (n : Int)) → ∀ (H : Heap) (locs : List Loc), va_P (dC, dI) vwCl (tW_X4 ad cI S) H → va_S A s.heap H locs → ∀ ls : Array Slot, lv_has ls 3 [(2, .int (zI b)), (1, .int (zI n0)), (0, .ref (ad 0))] → W p l e (headSpec wsX4_unlike ({ frames := 1, cells := 0, slots := 0, locals := 23 })).room s m ([.ref (ad 0)] : List Value).toArray below meth c H locs 0 0 (MQ below (zQi (dC, dI) vwCl (tW_X4 ad cI S) (unlF (S 0)) A) ([.ref (ad 0)] : List Value).toArray s 0 0 A) (F0 m 4 ls []) := by
    intro n
    induction n with
    | zero =>
      intro n0 b i0 i1 hm
      exfalso
      omega
    | succ n ih =>
      intro n0 b i0 i1 hm H locs hP hS ls hl
      have ih4 := ih
      clear ih
      refine lv_iload_n hx hb dX4_unlike_4 rfl (lv_at hl 0 rfl) ?_
      refine z_bipush (z := 48) hx hb dX4_unlike_5 (by decide +kernel) ?_
      refine z_icmp_ge (tgt := 58) hx hb dX4_unlike_7 (by decide) (by omega) (by omega) (fun c1 => ?_) (fun c1 => ?_)
      · refine lv_iload_n hx hb dX4_unlike_58 rfl (lv_at hl 1 rfl) ?_
        obtain rfl : b = 48 := by omega
        exact z_iret hx hb hr hlk hP hS dX4_unlike_59 (by exact i1) rfl
      · refine lv_iload_n hx hb dX4_unlike_10 rfl (lv_at hl 1 rfl) ?_
        refine lv_aload_n hx hb dX4_unlike_11 rfl (lv_at hl 2 rfl) ?_
        refine z_iconst hx hb dX4_unlike_12 ?_
        refine lv_iload_n hx hb dX4_unlike_13 rfl (lv_at hl 0 rfl) ?_
        refine z_iconst hx hb dX4_unlike_14 ?_
        refine z_calli (va_runV (As := [.int (zI 0), .int (zI b), .int (zI 0)]) (rest := [.int (zI n0)]) ⟨hx, hb, hml, hown, hts⟩ (k_X4_of l dC dI cI cQ A ad S hD 0 b 0 (by omega)) (cwV 3 hts gX4_unlike_X4_of rfl rfl rfl (by decide +kernel) ⟨Nat.le_of_ble_eq_true rfl, Nat.le_of_ble_eq_true rfl⟩) (z_preV hK hP (ci := 4) (q0 := 0) rfl rfl rfl) rfl rfl hl.1 rfl (lv_room (Nat.le_of_ble_eq_true rfl)) dX4_unlike_15 ⟨Nat.zero_le _, Nat.zero_le _⟩) hS (fun _ h => h) (fun H locs hP hS _ _ => ?_)
        refine z_top (y := S 0 (5 * b + 5)) (by rw [show (240 * 0 + 5 * b + 0 + 5) = (5 * b + 5 : Int) from by omega]; first | done | exact rfl) ?_
        have b1 := hB 0 (5 * b + 5) (by omega) (by omega) (by omega) (by omega)
        refine lv_aload_n hx hb dX4_unlike_18 rfl (lv_at hl 2 rfl) ?_
        refine z_iconst hx hb dX4_unlike_19 ?_
        refine lv_iload_n hx hb dX4_unlike_20 rfl (lv_at hl 0 rfl) ?_
        refine z_iconst hx hb dX4_unlike_21 ?_
        refine z_calli (va_runV (As := [.int (zI 1), .int (zI b), .int (zI 0)]) (rest := [.int (zI (S 0 (5 * b + 5))), .int (zI n0)]) ⟨hx, hb, hml, hown, hts⟩ (k_X4_of l dC dI cI cQ A ad S hD 1 b 0 (by omega)) (cwV 3 hts gX4_unlike_X4_of rfl rfl rfl (by decide +kernel) ⟨Nat.le_of_ble_eq_true rfl, Nat.le_of_ble_eq_true rfl⟩) (z_preV hK hP (ci := 4) (q0 := 0) rfl rfl rfl) rfl rfl hl.1 rfl (lv_room (Nat.le_of_ble_eq_true rfl)) dX4_unlike_22 ⟨Nat.zero_le _, Nat.zero_le _⟩) hS (fun _ h => h) (fun H locs hP hS _ _ => ?_)
        refine z_top (y := S 0 (5 * b + 245)) (by rw [show (240 * 1 + 5 * b + 0 + 5) = (5 * b + 245 : Int) from by omega]; first | done | exact rfl) ?_
        have b2 := hB 0 (5 * b + 245) (by omega) (by omega) (by omega) (by omega)
        refine z_icmp_ne (tgt := 45) hx hb dX4_unlike_25 (by decide) (by omega) (by omega) (fun c2 => ?_) (fun c2 => ?_)
        · refine z_iconst hx hb dX4_unlike_45 ?_
          refine lv_goto (tgt := 50) hx hb dX4_unlike_46 (by decide) ?_
          refine z_iadd hx hb dX4_unlike_50 ?_
          refine lv_istore_n (lv' := [(1, .int (zI (n0 + 1))), (2, .int (zI b)), (0, .ref (ad 0))]) hx hb dX4_unlike_51 rfl hl (by decide) rfl (fun ls hl => ?_)
          refine z_iinc (lv' := [(2, .int (zI (b + 1))), (1, .int (zI (n0 + 1))), (0, .ref (ad 0))]) hx hb dX4_unlike_52 hl (k := 1) rfl (by decide) (by rw [show (b : Int) + (1) = (b + 1) from by omega]; rfl) (fun ls hl => ?_)
          refine lv_goto (tgt := 4) hx hb dX4_unlike_55 (by decide) ?_
          exact ih4 (n0 + 1) (b + 1) (by omega) (by rw [sumZ_succ _ i0.1, ← i1]; split <;> omega) (by omega) _ _ hP hS ls (lv_sub hl [0, 1, 2] rfl)
        · refine lv_aload_n hx hb dX4_unlike_28 rfl (lv_at hl 2 rfl) ?_
          refine z_iconst hx hb dX4_unlike_29 ?_
          refine lv_iload_n hx hb dX4_unlike_30 rfl (lv_at hl 0 rfl) ?_
          refine z_iconst hx hb dX4_unlike_31 ?_
          refine z_calli (va_runV (As := [.int (zI 0), .int (zI b), .int (zI 1)]) (rest := [.int (zI n0)]) ⟨hx, hb, hml, hown, hts⟩ (k_X4_of l dC dI cI cQ A ad S hD 0 b 1 (by omega)) (cwV 3 hts gX4_unlike_X4_of rfl rfl rfl (by decide +kernel) ⟨Nat.le_of_ble_eq_true rfl, Nat.le_of_ble_eq_true rfl⟩) (z_preV hK hP (ci := 4) (q0 := 0) rfl rfl rfl) rfl rfl hl.1 rfl (lv_room (Nat.le_of_ble_eq_true rfl)) dX4_unlike_32 ⟨Nat.zero_le _, Nat.zero_le _⟩) hS (fun _ h => h) (fun H locs hP hS _ _ => ?_)
          refine z_top (y := S 0 (5 * b + 6)) (by rw [show (240 * 0 + 5 * b + 1 + 5) = (5 * b + 6 : Int) from by omega]; first | done | exact rfl) ?_
          have b3 := hB 0 (5 * b + 6) (by omega) (by omega) (by omega) (by omega)
          refine lv_aload_n hx hb dX4_unlike_35 rfl (lv_at hl 2 rfl) ?_
          refine z_iconst hx hb dX4_unlike_36 ?_
          refine lv_iload_n hx hb dX4_unlike_37 rfl (lv_at hl 0 rfl) ?_
          refine z_iconst hx hb dX4_unlike_38 ?_
          refine z_calli (va_runV (As := [.int (zI 1), .int (zI b), .int (zI 1)]) (rest := [.int (zI (S 0 (5 * b + 6))), .int (zI n0)]) ⟨hx, hb, hml, hown, hts⟩ (k_X4_of l dC dI cI cQ A ad S hD 1 b 1 (by omega)) (cwV 3 hts gX4_unlike_X4_of rfl rfl rfl (by decide +kernel) ⟨Nat.le_of_ble_eq_true rfl, Nat.le_of_ble_eq_true rfl⟩) (z_preV hK hP (ci := 4) (q0 := 0) rfl rfl rfl) rfl rfl hl.1 rfl (lv_room (Nat.le_of_ble_eq_true rfl)) dX4_unlike_39 ⟨Nat.zero_le _, Nat.zero_le _⟩) hS (fun _ h => h) (fun H locs hP hS _ _ => ?_)
          refine z_top (y := S 0 (5 * b + 246)) (by rw [show (240 * 1 + 5 * b + 1 + 5) = (5 * b + 246 : Int) from by omega]; first | done | exact rfl) ?_
          have b4 := hB 0 (5 * b + 246) (by omega) (by omega) (by omega) (by omega)
          refine z_icmp_eq (tgt := 49) hx hb dX4_unlike_42 (by decide) (by omega) (by omega) (fun c3 => ?_) (fun c3 => ?_)
          · refine z_iconst hx hb dX4_unlike_49 ?_
            refine z_iadd hx hb dX4_unlike_50 ?_
            refine z_top (y := n0) (by omega) ?_
            refine lv_istore_n (lv' := [(1, .int (zI n0)), (2, .int (zI b)), (0, .ref (ad 0))]) hx hb dX4_unlike_51 rfl hl (by decide) rfl (fun ls hl => ?_)
            refine z_iinc (lv' := [(2, .int (zI (b + 1))), (1, .int (zI n0)), (0, .ref (ad 0))]) hx hb dX4_unlike_52 hl (k := 1) rfl (by decide) (by rw [show (b : Int) + (1) = (b + 1) from by omega]; rfl) (fun ls hl => ?_)
            refine lv_goto (tgt := 4) hx hb dX4_unlike_55 (by decide) ?_
            exact ih4 n0 (b + 1) (by omega) (by rw [sumZ_succ _ i0.1, ← i1]; split <;> omega) (by omega) _ _ hP hS ls (lv_sub hl [0, 1, 2] rfl)
          · refine z_iconst hx hb dX4_unlike_45 ?_
            refine lv_goto (tgt := 50) hx hb dX4_unlike_46 (by decide) ?_
            refine z_iadd hx hb dX4_unlike_50 ?_
            refine lv_istore_n (lv' := [(1, .int (zI (n0 + 1))), (2, .int (zI b)), (0, .ref (ad 0))]) hx hb dX4_unlike_51 rfl hl (by decide) rfl (fun ls hl => ?_)
            refine z_iinc (lv' := [(2, .int (zI (b + 1))), (1, .int (zI (n0 + 1))), (0, .ref (ad 0))]) hx hb dX4_unlike_52 hl (k := 1) rfl (by decide) (by rw [show (b : Int) + (1) = (b + 1) from by omega]; rfl) (fun ls hl => ?_)
            refine lv_goto (tgt := 4) hx hb dX4_unlike_55 (by decide) ?_
            exact ih4 (n0 + 1) (b + 1) (by omega) (by rw [sumZ_succ _ i0.1, ← i1]; split <;> omega) (by omega) _ _ hP hS ls (lv_sub hl [0, 1, 2] rfl)
  exact hloop4 ((48 - 0 : Int) + 1).toNat 0 0 (by omega) (by rfl) (by omega) _ _ hP hS ls (lv_sub hl [0, 1, 2] rfl)
theorem in_X4_behind : ∀ w ∈ wsX40, w ∈ wsX4_behind := fun w h => List.mem_cons_of_mem _ (List.mem_append_right _ h)
set_option maxHeartbeats 4000000 in
set_option maxRecDepth 100000 in
theorem k_X4_behind (l : Launch) (dC : Nat → ClassId) (dI : Nat → Nat → Nat) (cI cQ : ClassId) (A : Nat → Prop) (ad : Nat → Nat) (S : Nat → Int → Int) (hD : ∀ S, va_D A (tW_X4 ad cI S)) (b : Int) (hA : WFA (S 0)) (h : 0 ≤ b ∧ b < 48) : Met l yX4_behind wsX4_behind ({ frames := 2, cells := 0, slots := 0, locals := 44 }) (zPc (dC, dI) vwCl (zT cI cQ) (tW_X4 ad cI S) [.ref (ad 0), .int (zI b)]) (zQi (dC, dI) vwCl (tW_X4 ad cI S) (behF (S 0) b) A) 0 0 A := by
  refine Met.ofW (cc := cX4_behind) (maxL := 3) (ret := (some .int)) (by decide) rfl ?_
  intro p e s m args below meth c s₁ B hml hv
  obtain ⟨rfl, hP, hK⟩ := hv
  have hx := B.exec
  have hb := B.bytes
  have hr := B.returns
  have hts := atoms_spec (ws := wsX4_behind) B.pre
  have hown : s.vm.findClass RX4 = some m.cls := findClass_of_methodNamed B.named
  have hlk := B.notSynchronized
  have hS : va_S A s.heap s.heap [] := va_S.rf
  have hl := lv_entry ([.ref (ad 0), .int (zI b)]) (n := 3) (Nat.le_of_ble_eq_true rfl)
  rw [lg_entry_eq]
  generalize (lg_sl ([.ref (ad 0), .int (zI b)]) ++ List.replicate (3 - (lg_sl ([.ref (ad 0), .int (zI b)])).length) Slot.unset).toArray = ls at hl ⊢
  have hl : lv_has ls 3 [(0, .ref (ad 0)), (1, .int (zI b))] := hl
  have hin : ∀ w ∈ wsX40, w ∈ wsX4_behind := in_X4_behind
  obtain ⟨hB0, hA0, hA1, hA2⟩ := id hA
  have hB : ∀ (k : Nat) (j : Int), 0 ≤ j → j < 965 → j ≠ 3 → j ≠ 4 → -1000000 ≤ S 0 j ∧ S 0 j ≤ 1000000 := fun _ j => hB0 j
  refine lv_aload_n hx hb dX4_behind_0 rfl (lv_at hl 0 rfl) ?_
  refine lv_iload_n hx hb dX4_behind_1 rfl (lv_at hl 1 rfl) ?_
  refine z_calli (va_runV (As := [.int (zI b)]) (rest := []) ⟨hx, hb, hml, hown, hts⟩ (k_X4_torn l dC dI cI cQ A ad S hD b (by omega)) (cwV 1 hts gX4_behind_X4_torn rfl rfl rfl (by decide +kernel) ⟨Nat.le_of_ble_eq_true rfl, Nat.le_of_ble_eq_true rfl⟩) (z_preV hK hP (ci := 4) (q0 := 0) rfl rfl rfl) rfl rfl hl.1 rfl (lv_room (Nat.le_of_ble_eq_true rfl)) dX4_behind_2 ⟨Nat.zero_le _, Nat.zero_le _⟩) hS (fun _ h => h) (fun H locs hP hS _ _ => ?_)
  have bx1 := hB0 (5 * b + 7) (by omega) (by omega) (by omega) (by omega)
  have bx2 := hB0 (5 * b + 247) (by omega) (by omega) (by omega) (by omega)
  refine z_iconst hx hb dX4_behind_5 ?_
  refine z_icmp_ne (tgt := 26) hx hb dX4_behind_6 (by decide) (by omega) (by omega) (fun c1 => ?_) (fun c1 => ?_)
  · refine lv_aload_n hx hb dX4_behind_26 rfl (lv_at hl 0 rfl) ?_
    refine z_iconst hx hb dX4_behind_27 ?_
    refine lv_iload_n hx hb dX4_behind_28 rfl (lv_at hl 1 rfl) ?_
    refine z_iconst hx hb dX4_behind_29 ?_
    refine z_calli (va_runV (As := [.int (zI 0), .int (zI b), .int (zI 1)]) (rest := []) ⟨hx, hb, hml, hown, hts⟩ (k_X4_of l dC dI cI cQ A ad S hD 0 b 1 (by omega)) (cwV 3 hts gX4_behind_X4_of rfl rfl rfl (by decide +kernel) ⟨Nat.le_of_ble_eq_true rfl, Nat.le_of_ble_eq_true rfl⟩) (z_preV hK hP (ci := 4) (q0 := 0) rfl rfl rfl) rfl rfl hl.1 rfl (lv_room (Nat.le_of_ble_eq_true rfl)) dX4_behind_30 ⟨Nat.zero_le _, Nat.zero_le _⟩) hS (fun _ h => h) (fun H locs hP hS _ _ => ?_)
    refine z_top (y := S 0 (5 * b + 6)) (by rw [show (240 * 0 + 5 * b + 1 + 5) = (5 * b + 6 : Int) from by omega]; first | done | exact rfl) ?_
    have b1 := hB 0 (5 * b + 6) (by omega) (by omega) (by omega) (by omega)
    refine lv_aload_n hx hb dX4_behind_33 rfl (lv_at hl 0 rfl) ?_
    refine z_iconst hx hb dX4_behind_34 ?_
    refine lv_iload_n hx hb dX4_behind_35 rfl (lv_at hl 1 rfl) ?_
    refine z_iconst hx hb dX4_behind_36 ?_
    refine z_calli (va_runV (As := [.int (zI 1), .int (zI b), .int (zI 1)]) (rest := [.int (zI (S 0 (5 * b + 6)))]) ⟨hx, hb, hml, hown, hts⟩ (k_X4_of l dC dI cI cQ A ad S hD 1 b 1 (by omega)) (cwV 3 hts gX4_behind_X4_of rfl rfl rfl (by decide +kernel) ⟨Nat.le_of_ble_eq_true rfl, Nat.le_of_ble_eq_true rfl⟩) (z_preV hK hP (ci := 4) (q0 := 0) rfl rfl rfl) rfl rfl hl.1 rfl (lv_room (Nat.le_of_ble_eq_true rfl)) dX4_behind_37 ⟨Nat.zero_le _, Nat.zero_le _⟩) hS (fun _ h => h) (fun H locs hP hS _ _ => ?_)
    refine z_top (y := S 0 (5 * b + 246)) (by rw [show (240 * 1 + 5 * b + 1 + 5) = (5 * b + 246 : Int) from by omega]; first | done | exact rfl) ?_
    have b2 := hB 0 (5 * b + 246) (by omega) (by omega) (by omega) (by omega)
    refine z_isub hx hb dX4_behind_40 ?_
    refine z_top (y := S 0 (5 * b + 6) - S 0 (5 * b + 246)) (by omega) ?_
    refine lv_istore_n (lv' := [(2, .int (zI (S 0 (5 * b + 6) - S 0 (5 * b + 246)))), (0, .ref (ad 0)), (1, .int (zI b))]) hx hb dX4_behind_41 rfl hl (by decide) rfl (fun ls hl => ?_)
    refine lv_iload_n hx hb dX4_behind_42 rfl (lv_at hl 0 rfl) ?_
    refine z_if_ne (tgt := 51) hx hb dX4_behind_43 (by decide) (by omega) (fun c2 => ?_) (fun c2 => ?_)
    · refine lv_iload_n hx hb dX4_behind_51 rfl (lv_at hl 0 rfl) ?_
      refine z_if_le (tgt := 59) hx hb dX4_behind_52 (by decide) (by omega) (fun c3 => ?_) (fun c3 => ?_)
      · refine z_iconst hx hb dX4_behind_59 ?_
        exact z_iret hx hb hr hlk hP hS dX4_behind_60 (by unfold behF tornF; (repeat' split) <;> omega) rfl
      · refine z_iconst hx hb dX4_behind_55 ?_
        refine lv_goto (tgt := 60) hx hb dX4_behind_56 (by decide) ?_
        exact z_iret hx hb hr hlk hP hS dX4_behind_60 (by unfold behF tornF; (repeat' split) <;> omega) rfl
    · refine z_bipush (z := (-9)) hx hb dX4_behind_46 (by decide +kernel) ?_
      refine lv_goto (tgt := 60) hx hb dX4_behind_48 (by decide) ?_
      exact z_iret hx hb hr hlk hP hS dX4_behind_60 (by unfold behF tornF; (repeat' split) <;> omega) rfl
  · refine lv_aload_n hx hb dX4_behind_9 rfl (lv_at hl 0 rfl) ?_
    refine z_iconst hx hb dX4_behind_10 ?_
    refine lv_iload_n hx hb dX4_behind_11 rfl (lv_at hl 1 rfl) ?_
    refine z_iconst hx hb dX4_behind_12 ?_
    refine z_calli (va_runV (As := [.int (zI 0), .int (zI b), .int (zI 2)]) (rest := []) ⟨hx, hb, hml, hown, hts⟩ (k_X4_of l dC dI cI cQ A ad S hD 0 b 2 (by omega)) (cwV 3 hts gX4_behind_X4_of rfl rfl rfl (by decide +kernel) ⟨Nat.le_of_ble_eq_true rfl, Nat.le_of_ble_eq_true rfl⟩) (z_preV hK hP (ci := 4) (q0 := 0) rfl rfl rfl) rfl rfl hl.1 rfl (lv_room (Nat.le_of_ble_eq_true rfl)) dX4_behind_13 ⟨Nat.zero_le _, Nat.zero_le _⟩) hS (fun _ h => h) (fun H locs hP hS _ _ => ?_)
    refine z_top (y := S 0 (5 * b + 7)) (by rw [show (240 * 0 + 5 * b + 2 + 5) = (5 * b + 7 : Int) from by omega]; first | done | exact rfl) ?_
    have b3 := hB 0 (5 * b + 7) (by omega) (by omega) (by omega) (by omega)
    refine z_iconst hx hb dX4_behind_16 ?_
    refine z_icmp_ne (tgt := 24) hx hb dX4_behind_17 (by decide) (by omega) (by omega) (fun c4 => ?_) (fun c4 => ?_)
    · refine z_iconst hx hb dX4_behind_24 ?_
      exact z_iret hx hb hr hlk hP hS dX4_behind_25 (by unfold behF tornF; (repeat' split) <;> omega) rfl
    · refine z_iconst hx hb dX4_behind_20 ?_
      refine lv_goto (tgt := 25) hx hb dX4_behind_21 (by decide) ?_
      exact z_iret hx hb hr hlk hP hS dX4_behind_25 (by unfold behF tornF; (repeat' split) <;> omega) rfl
theorem in_X4_cuts : ∀ w ∈ wsX40, w ∈ wsX4_cuts := fun w h => List.mem_cons_of_mem _ (List.mem_append_right _ h)
set_option maxHeartbeats 4000000 in
set_option maxRecDepth 100000 in
theorem k_X4_cuts (l : Launch) (dC : Nat → ClassId) (dI : Nat → Nat → Nat) (cI cQ : ClassId) (A : Nat → Prop) (ad : Nat → Nat) (S : Nat → Int → Int) (hD : ∀ S, va_D A (tW_X4 ad cI S)) (hA : WFA (S 0)) : Met l yX4_cuts wsX4_cuts ({ frames := 1, cells := 0, slots := 0, locals := 24 }) (zPc (dC, dI) vwCl (zT cI cQ) (tW_X4 ad cI S) [.ref (ad 0)]) (zQi (dC, dI) vwCl (tW_X4 ad cI (cutsM S)) (cutsR (S 0)) A) 0 0 A := by
  refine Met.ofW (cc := cX4_cuts) (maxL := 5) (ret := (some .int)) (by decide) rfl ?_
  intro p e s m args below meth c s₁ B hml hv
  obtain ⟨rfl, hP, hK⟩ := hv
  have hx := B.exec
  have hb := B.bytes
  have hr := B.returns
  have hts := atoms_spec (ws := wsX4_cuts) B.pre
  have hown : s.vm.findClass RX4 = some m.cls := findClass_of_methodNamed B.named
  have hlk := B.notSynchronized
  have hS : va_S A s.heap s.heap [] := va_S.rf
  have hl := lv_entry ([.ref (ad 0)]) (n := 5) (Nat.le_of_ble_eq_true rfl)
  rw [lg_entry_eq]
  generalize (lg_sl ([.ref (ad 0)]) ++ List.replicate (5 - (lg_sl ([.ref (ad 0)])).length) Slot.unset).toArray = ls at hl ⊢
  have hl : lv_has ls 5 [(0, .ref (ad 0))] := hl
  have hin : ∀ w ∈ wsX40, w ∈ wsX4_cuts := in_X4_cuts
  obtain ⟨hB0, hA0, hA1, hA2⟩ := id hA
  have hB : ∀ (k : Nat) (j : Int), 0 ≤ j → j < 965 → j ≠ 3 → j ≠ 4 → -1000000 ≤ S 0 j ∧ S 0 j ≤ 1000000 := fun _ j => hB0 j
  refine z_iconst hx hb dX4_cuts_0 ?_
  refine lv_istore_n (lv' := [(1, .int (zI 0)), (0, .ref (ad 0))]) hx hb dX4_cuts_1 rfl hl (by decide) rfl (fun ls hl => ?_)
  refine z_iconst hx hb dX4_cuts_2 ?_
  refine lv_istore_n (lv' := [(2, .int (zI 0)), (1, .int (zI 0)), (0, .ref (ad 0))]) hx hb dX4_cuts_3 rfl hl (by decide) rfl (fun ls hl => ?_)
  have hloop4 : ∀ (n : Nat) (n0 k : Int) (S1 : Nat → Int → Int), (0 ≤ k ∧ k ≤ 96) → (S1 = upR S 0 (cutKF (S 0) k)) → (n0 = sumZ (fun k => if S 0 (5 * k + 9) = S 0 0 - 1 ∧ S 0 (5 * k + 7) = 0 then 1 else 0) k) → (96 - k < (n : Int)) → ∀ (H : Heap) (locs : List Loc), va_P (dC, dI) vwCl (tW_X4 ad cI S1) H → va_S A s.heap H locs → ∀ ls : Array Slot, lv_has ls 5 [(2, .int (zI k)), (1, .int (zI n0)), (0, .ref (ad 0))] → W p l e (headSpec wsX4_cuts ({ frames := 1, cells := 0, slots := 0, locals := 24 })).room s m ([.ref (ad 0)] : List Value).toArray below meth c H locs 0 0 (MQ below (zQi (dC, dI) vwCl (tW_X4 ad cI (cutsM S)) (cutsR (S 0)) A) ([.ref (ad 0)] : List Value).toArray s 0 0 A) (F0 m 4 ls []) := by
    intro n
    induction n with
    | zero =>
      intro n0 k S1 i0 i1 i2 hm
      exfalso
      omega
    | succ n ih =>
      intro n0 k S1 i0 i1 i2 hm H locs hP hS ls hl
      have ih4 := ih
      clear ih
      subst i1
      refine lv_iload_n hx hb dX4_cuts_4 rfl (lv_at hl 0 rfl) ?_
      refine z_bipush (z := 96) hx hb dX4_cuts_5 (by decide +kernel) ?_
      refine z_icmp_ge (tgt := 83) hx hb dX4_cuts_7 (by decide) (by omega) (by omega) (fun c1 => ?_) (fun c1 => ?_)
      · obtain rfl : k = 96 := by omega
        refine z_iconst hx hb dX4_cuts_83 ?_
        refine lv_istore_n (lv' := [(2, .int (zI 0)), (1, .int (zI n0)), (0, .ref (ad 0))]) hx hb dX4_cuts_84 rfl hl (by decide) rfl (fun ls hl => ?_)
        have hloop85 : ∀ (n : Nat) (o : Int) (S1 : Nat → Int → Int), (0 ≤ o ∧ o ≤ S 0 2) → (S1 = upR S 0 (cutOF (cutKF (S 0) 96) o)) → (S 0 2 - o < (n : Int)) → ∀ (H : Heap) (locs : List Loc), va_P (dC, dI) vwCl (tW_X4 ad cI S1) H → va_S A s.heap H locs → ∀ ls : Array Slot, lv_has ls 5 [(2, .int (zI o)), (1, .int (zI n0)), (0, .ref (ad 0))] → W p l e (headSpec wsX4_cuts ({ frames := 1, cells := 0, slots := 0, locals := 24 })).room s m ([.ref (ad 0)] : List Value).toArray below meth c H locs 0 0 (MQ below (zQi (dC, dI) vwCl (tW_X4 ad cI (cutsM S)) (cutsR (S 0)) A) ([.ref (ad 0)] : List Value).toArray s 0 0 A) (F0 m 85 ls []) := by
          intro n
          induction n with
          | zero =>
            intro o S1 j0 j1 hm
            exfalso
            omega
          | succ n ih =>
            intro o S1 j0 j1 hm H locs hP hS ls hl
            have ih85 := ih
            clear ih
            subst j1
            refine lv_iload_n hx hb dX4_cuts_85 rfl (lv_at hl 0 rfl) ?_
            refine lv_aload_n hx hb dX4_cuts_86 rfl (lv_at hl 2 rfl) ?_
            refine gx_X4_0 hx hb hts hin hown hK hP (hts _ (List.mem_of_getElem? (i := 1) rfl)) dX4_cuts_87 ?_
            refine z_iconst hx hb dX4_cuts_90 ?_
            refine ld_X4_0 (v := (upR S 0 (cutOF (cutKF (S 0) 96) o)) 0 2) hx hb hK hP (by omega) rfl dX4_cuts_91 ?_
            refine z_top (y := S 0 2) (by show cutOF (cutKF (S 0) 96) o 2 = S 0 2; exact cutO_lo (S 0) (by omega)) ?_
            refine z_icmp_ge (tgt := 117) hx hb dX4_cuts_92 (by decide) (by omega) (by omega) (fun c2 => ?_) (fun c2 => ?_)
            · refine lv_iload_n hx hb dX4_cuts_117 rfl (lv_at hl 1 rfl) ?_
              obtain rfl : o = S 0 2 := by omega
              exact z_iret hx hb hr hlk hP hS dX4_cuts_118 (by exact i2) (congrArg (tW_X4 ad cI) (by unfold cutsM cutsF; rfl))
            · refine lv_aload_n hx hb dX4_cuts_95 rfl (lv_at hl 2 rfl) ?_
              refine lv_iload_n hx hb dX4_cuts_96 rfl (lv_at hl 0 rfl) ?_
              refine z_iconst hx hb dX4_cuts_97 ?_
              refine z_calli (va_runV (As := [.int (zI o), .int (zI 3)]) (rest := []) ⟨hx, hb, hml, hown, hts⟩ (k_X4_told l dC dI cI cQ A ad (upR S 0 (cutOF (cutKF (S 0) 96) o)) hD o 3 (by omega)) (cwV 2 hts gX4_cuts_X4_told rfl rfl rfl (by decide +kernel) ⟨Nat.le_of_ble_eq_true rfl, Nat.le_of_ble_eq_true rfl⟩) (z_preV hK hP (ci := 4) (q0 := 0) rfl rfl rfl) rfl rfl hl.1 rfl (lv_room (Nat.le_of_ble_eq_true rfl)) dX4_cuts_98 ⟨Nat.zero_le _, Nat.zero_le _⟩) hS (fun _ h => h) (fun H locs hP hS _ _ => ?_)
              refine z_top (y := (upR S 0 (cutOF (cutKF (S 0) 96) o)) 0 (8 * o + 488)) (by rw [show (8 * o + 3 + 485) = (8 * o + 488 : Int) from by omega]; first | done | exact rfl) ?_
              have b93 := hB0 (8 * o + 488) (by omega) (by omega) (by omega) (by omega)
              refine z_top (y := S 0 (8 * o + 488)) (by exact cutO_at (S 0) (by omega) (by omega)) ?_
              refine z_if_ne (tgt := 111) hx hb dX4_cuts_101 (by decide) (by omega) (fun c3 => ?_) (fun c3 => ?_)
              · refine z_iinc (lv' := [(2, .int (zI (o + 1))), (1, .int (zI n0)), (0, .ref (ad 0))]) hx hb dX4_cuts_111 hl (k := 0) rfl (by decide) (by rw [show (o : Int) + (1) = (o + 1) from by omega]; rfl) (fun ls hl => ?_)
                refine lv_goto (tgt := 85) hx hb dX4_cuts_114 (by decide) ?_
                exact ih85 (o + 1) (upR S 0 (cutOF (cutKF (S 0) 96) o)) (by omega) (by first | exact cutO_hit S (by omega) (by omega) | exact cutO_miss S (by omega) (by omega)) (by omega) _ _ hP hS ls (lv_sub hl [0, 1, 2] rfl)
              · refine lv_aload_n hx hb dX4_cuts_104 rfl (lv_at hl 2 rfl) ?_
                refine lv_iload_n hx hb dX4_cuts_105 rfl (lv_at hl 0 rfl) ?_
                refine z_iconst hx hb dX4_cuts_106 ?_
                refine z_iconst hx hb dX4_cuts_107 ?_
                refine z_callv (va_runV (As := [.int (zI o), .int (zI 3), .int (zI 2)]) (rest := []) ⟨hx, hb, hml, hown, hts⟩ (k_X4_tell l dC dI cI cQ A ad (upR S 0 (cutOF (cutKF (S 0) 96) o)) hD o 3 2 (by omega)) (cwV 3 hts gX4_cuts_X4_tell rfl rfl rfl (by decide +kernel) ⟨Nat.le_of_ble_eq_true rfl, Nat.le_of_ble_eq_true rfl⟩) (z_preV hK hP (ci := 4) (q0 := 0) rfl rfl rfl) rfl rfl hl.1 rfl (lv_room (Nat.le_of_ble_eq_true rfl)) dX4_cuts_108 ⟨Nat.zero_le _, Nat.zero_le _⟩) hS (fun _ h => h) (fun H locs hP hS _ _ => ?_)
                refine z_iinc (lv' := [(2, .int (zI (o + 1))), (1, .int (zI n0)), (0, .ref (ad 0))]) hx hb dX4_cuts_111 hl (k := 0) rfl (by decide) (by rw [show (o : Int) + (1) = (o + 1) from by omega]; rfl) (fun ls hl => ?_)
                refine lv_goto (tgt := 85) hx hb dX4_cuts_114 (by decide) ?_
                exact ih85 (o + 1) (tellM (upR S 0 (cutOF (cutKF (S 0) 96) o)) o 3 2) (by omega) (by first | exact cutO_hit S (by omega) (by omega) | exact cutO_miss S (by omega) (by omega)) (by omega) _ _ hP hS ls (lv_sub hl [0, 1, 2] rfl)
        exact hloop85 ((S 0 2 - 0 : Int) + 1).toNat 0 (upR S 0 (cutKF (S 0) 96)) (by omega) (by exact (upR_cg (fun j => (cutO_0 _ j).symm))) (by omega) _ _ hP hS ls (lv_sub hl [0, 1, 2] rfl)
      · refine lv_iload_n hx hb dX4_cuts_10 rfl (lv_at hl 0 rfl) ?_
        refine z_bipush (z := 48) hx hb dX4_cuts_11 (by decide +kernel) ?_
        refine z_idiv hx hb dX4_cuts_13 (by omega) (by omega) ?_
        refine lv_istore_n (lv' := [(3, .int (zI (k / 48))), (2, .int (zI k)), (1, .int (zI n0)), (0, .ref (ad 0))]) hx hb dX4_cuts_14 rfl hl (by decide) rfl (fun ls hl => ?_)
        refine lv_iload_n hx hb dX4_cuts_15 rfl (lv_at hl 1 rfl) ?_
        refine z_bipush (z := 48) hx hb dX4_cuts_16 (by decide +kernel) ?_
        refine z_irem hx hb dX4_cuts_18 (by omega) (by omega) ?_
        refine lv_istore (lv' := [(4, .int (zI (k % 48))), (3, .int (zI (k / 48))), (2, .int (zI k)), (1, .int (zI n0)), (0, .ref (ad 0))]) hx hb dX4_cuts_19 hl (by decide) rfl (fun ls hl => ?_)
        refine lv_aload_n hx hb dX4_cuts_21 rfl (lv_at hl 4 rfl) ?_
        refine lv_iload_n hx hb dX4_cuts_22 rfl (lv_at hl 1 rfl) ?_
        refine lv_iload hx hb dX4_cuts_23 (lv_at hl 0 rfl) ?_
        refine z_iconst hx hb dX4_cuts_25 ?_
        refine z_calli (va_runV (As := [.int (zI (k / 48)), .int (zI (k % 48)), .int (zI 4)]) (rest := []) ⟨hx, hb, hml, hown, hts⟩ (k_X4_of l dC dI cI cQ A ad (upR S 0 (cutKF (S 0) k)) hD (k / 48) (k % 48) 4 (by omega)) (cwV 3 hts gX4_cuts_X4_of rfl rfl rfl (by decide +kernel) ⟨Nat.le_of_ble_eq_true rfl, Nat.le_of_ble_eq_true rfl⟩) (z_preV hK hP (ci := 4) (q0 := 0) rfl rfl rfl) rfl rfl hl.1 rfl (lv_room (Nat.le_of_ble_eq_true rfl)) dX4_cuts_26 ⟨Nat.zero_le _, Nat.zero_le _⟩) hS (fun _ h => h) (fun H locs hP hS _ _ => ?_)
        refine z_top (y := (upR S 0 (cutKF (S 0) k)) 0 (240 * (k / 48) + 5 * (k % 48) + 9)) (by rw [show (240 * (k / 48) + 5 * (k % 48) + 4 + 5) = (240 * (k / 48) + 5 * (k % 48) + 9 : Int) from by omega]; first | done | exact rfl) ?_
        have b91 := hB0 (5 * k + 9) (by omega) (by omega) (by omega) (by omega)
        refine z_top (y := S 0 (5 * k + 9)) (by exact cutK_at9 (S 0) (by omega) (by omega)) ?_
        refine lv_aload_n hx hb dX4_cuts_29 rfl (lv_at hl 4 rfl) ?_
        refine gx_X4_0 hx hb hts hin hown hK hP (hts _ (List.mem_of_getElem? (i := 1) rfl)) dX4_cuts_30 ?_
        refine z_iconst hx hb dX4_cuts_33 ?_
        refine ld_X4_0 (v := (upR S 0 (cutKF (S 0) k)) 0 0) hx hb hK hP (by omega) rfl dX4_cuts_34 ?_
        refine z_top (y := S 0 0) (by show cutKF (S 0) k 0 = S 0 0; exact cutK_lo (S 0) (by omega)) ?_
        refine z_iconst hx hb dX4_cuts_35 ?_
        refine z_isub hx hb dX4_cuts_36 ?_
        refine z_top (y := S 0 0 - 1) (by omega) ?_
        refine z_icmp_ne (tgt := 68) hx hb dX4_cuts_37 (by decide) (by omega) (by omega) (fun c4 => ?_) (fun c4 => ?_)
        · refine lv_aload_n hx hb dX4_cuts_68 rfl (lv_at hl 4 rfl) ?_
          refine lv_iload_n hx hb dX4_cuts_69 rfl (lv_at hl 1 rfl) ?_
          refine lv_iload hx hb dX4_cuts_70 (lv_at hl 0 rfl) ?_
          refine z_iconst hx hb dX4_cuts_72 ?_
          refine z_iconst hx hb dX4_cuts_73 ?_
          refine z_callv (va_runV (As := [.int (zI (k / 48)), .int (zI (k % 48)), .int (zI 3), .int (zI 0)]) (rest := []) ⟨hx, hb, hml, hown, hts⟩ (k_X4_put l dC dI cI cQ A ad (upR S 0 (cutKF (S 0) k)) hD (k / 48) (k % 48) 3 0 (by omega)) (cwV 4 hts gX4_cuts_X4_put rfl rfl rfl (by decide +kernel) ⟨Nat.le_of_ble_eq_true rfl, Nat.le_of_ble_eq_true rfl⟩) (z_preV hK hP (ci := 4) (q0 := 0) rfl rfl rfl) rfl rfl hl.1 rfl (lv_room (Nat.le_of_ble_eq_true rfl)) dX4_cuts_74 ⟨Nat.zero_le _, Nat.zero_le _⟩) hS (fun _ h => h) (fun H locs hP hS _ _ => ?_)
          refine z_iinc (lv' := [(2, .int (zI (k + 1))), (4, .int (zI (k % 48))), (3, .int (zI (k / 48))), (1, .int (zI n0)), (0, .ref (ad 0))]) hx hb dX4_cuts_77 hl (k := 2) rfl (by decide) (by rw [show (k : Int) + (1) = (k + 1) from by omega]; rfl) (fun ls hl => ?_)
          refine lv_goto (tgt := 4) hx hb dX4_cuts_80 (by decide) ?_
          exact ih4 n0 (k + 1) (putM (upR S 0 (cutKF (S 0) k)) (k / 48) (k % 48) 3 0) (by omega) (by first | exact cutK_hit S (by omega) (by omega) | exact cutK_miss S (by omega) (by omega)) (by rw [sumZ_succ _ i0.1, ← i2]; split <;> omega) (by omega) _ _ hP hS ls (lv_sub hl [0, 3, 4] rfl)
        · refine lv_iload_n hx hb dX4_cuts_40 rfl (lv_at hl 3 rfl) ?_
          refine lv_aload_n hx hb dX4_cuts_41 rfl (lv_at hl 4 rfl) ?_
          refine lv_iload_n hx hb dX4_cuts_42 rfl (lv_at hl 1 rfl) ?_
          refine lv_iload hx hb dX4_cuts_43 (lv_at hl 0 rfl) ?_
          refine z_iconst hx hb dX4_cuts_45 ?_
          refine z_calli (va_runV (As := [.int (zI (k / 48)), .int (zI (k % 48)), .int (zI 2)]) (rest := [.int (zI n0)]) ⟨hx, hb, hml, hown, hts⟩ (k_X4_of l dC dI cI cQ A ad (upR S 0 (cutKF (S 0) k)) hD (k / 48) (k % 48) 2 (by omega)) (cwV 3 hts gX4_cuts_X4_of rfl rfl rfl (by decide +kernel) ⟨Nat.le_of_ble_eq_true rfl, Nat.le_of_ble_eq_true rfl⟩) (z_preV hK hP (ci := 4) (q0 := 0) rfl rfl rfl) rfl rfl hl.1 rfl (lv_room (Nat.le_of_ble_eq_true rfl)) dX4_cuts_46 ⟨Nat.zero_le _, Nat.zero_le _⟩) hS (fun _ h => h) (fun H locs hP hS _ _ => ?_)
          refine z_top (y := (upR S 0 (cutKF (S 0) k)) 0 (240 * (k / 48) + 5 * (k % 48) + 7)) (by rw [show (240 * (k / 48) + 5 * (k % 48) + 2 + 5) = (240 * (k / 48) + 5 * (k % 48) + 7 : Int) from by omega]; first | done | exact rfl) ?_
          have b92 := hB0 (5 * k + 7) (by omega) (by omega) (by omega) (by omega)
          refine z_top (y := S 0 (5 * k + 7)) (by exact cutK_at7 (S 0) (by omega) (by omega)) ?_
          refine z_if_ne (tgt := 56) hx hb dX4_cuts_49 (by decide) (by omega) (fun c5 => ?_) (fun c5 => ?_)
          · refine z_iconst hx hb dX4_cuts_56 ?_
            refine z_iadd hx hb dX4_cuts_57 ?_
            refine z_top (y := n0) (by omega) ?_
            refine lv_istore_n (lv' := [(1, .int (zI n0)), (4, .int (zI (k % 48))), (3, .int (zI (k / 48))), (2, .int (zI k)), (0, .ref (ad 0))]) hx hb dX4_cuts_58 rfl hl (by decide) rfl (fun ls hl => ?_)
            refine lv_aload_n hx hb dX4_cuts_59 rfl (lv_at hl 4 rfl) ?_
            refine lv_iload_n hx hb dX4_cuts_60 rfl (lv_at hl 2 rfl) ?_
            refine lv_iload hx hb dX4_cuts_61 (lv_at hl 1 rfl) ?_
            refine z_iconst hx hb dX4_cuts_63 ?_
            refine z_iconst hx hb dX4_cuts_64 ?_
            refine z_callv (va_runV (As := [.int (zI (k / 48)), .int (zI (k % 48)), .int (zI 2), .int (zI 1)]) (rest := []) ⟨hx, hb, hml, hown, hts⟩ (k_X4_put l dC dI cI cQ A ad (upR S 0 (cutKF (S 0) k)) hD (k / 48) (k % 48) 2 1 (by omega)) (cwV 4 hts gX4_cuts_X4_put rfl rfl rfl (by decide +kernel) ⟨Nat.le_of_ble_eq_true rfl, Nat.le_of_ble_eq_true rfl⟩) (z_preV hK hP (ci := 4) (q0 := 0) rfl rfl rfl) rfl rfl hl.1 rfl (lv_room (Nat.le_of_ble_eq_true rfl)) dX4_cuts_65 ⟨Nat.zero_le _, Nat.zero_le _⟩) hS (fun _ h => h) (fun H locs hP hS _ _ => ?_)
            refine lv_aload_n hx hb dX4_cuts_68 rfl (lv_at hl 4 rfl) ?_
            refine lv_iload_n hx hb dX4_cuts_69 rfl (lv_at hl 2 rfl) ?_
            refine lv_iload hx hb dX4_cuts_70 (lv_at hl 1 rfl) ?_
            refine z_iconst hx hb dX4_cuts_72 ?_
            refine z_iconst hx hb dX4_cuts_73 ?_
            refine z_callv (va_runV (As := [.int (zI (k / 48)), .int (zI (k % 48)), .int (zI 3), .int (zI 0)]) (rest := []) ⟨hx, hb, hml, hown, hts⟩ (k_X4_put l dC dI cI cQ A ad (putM (upR S 0 (cutKF (S 0) k)) (k / 48) (k % 48) 2 1) hD (k / 48) (k % 48) 3 0 (by omega)) (cwV 4 hts gX4_cuts_X4_put rfl rfl rfl (by decide +kernel) ⟨Nat.le_of_ble_eq_true rfl, Nat.le_of_ble_eq_true rfl⟩) (z_preV hK hP (ci := 4) (q0 := 0) rfl rfl rfl) rfl rfl hl.1 rfl (lv_room (Nat.le_of_ble_eq_true rfl)) dX4_cuts_74 ⟨Nat.zero_le _, Nat.zero_le _⟩) hS (fun _ h => h) (fun H locs hP hS _ _ => ?_)
            refine z_iinc (lv' := [(2, .int (zI (k + 1))), (1, .int (zI n0)), (4, .int (zI (k % 48))), (3, .int (zI (k / 48))), (0, .ref (ad 0))]) hx hb dX4_cuts_77 hl (k := 3) rfl (by decide) (by rw [show (k : Int) + (1) = (k + 1) from by omega]; rfl) (fun ls hl => ?_)
            refine lv_goto (tgt := 4) hx hb dX4_cuts_80 (by decide) ?_
            exact ih4 n0 (k + 1) (putM (putM (upR S 0 (cutKF (S 0) k)) (k / 48) (k % 48) 2 1) (k / 48) (k % 48) 3 0) (by omega) (by first | exact cutK_hit S (by omega) (by omega) | exact cutK_miss S (by omega) (by omega)) (by rw [sumZ_succ _ i0.1, ← i2]; split <;> omega) (by omega) _ _ hP hS ls (lv_sub hl [0, 1, 4] rfl)
          · refine z_iconst hx hb dX4_cuts_52 ?_
            refine lv_goto (tgt := 57) hx hb dX4_cuts_53 (by decide) ?_
            refine z_iadd hx hb dX4_cuts_57 ?_
            refine lv_istore_n (lv' := [(1, .int (zI (n0 + 1))), (4, .int (zI (k % 48))), (3, .int (zI (k / 48))), (2, .int (zI k)), (0, .ref (ad 0))]) hx hb dX4_cuts_58 rfl hl (by decide) rfl (fun ls hl => ?_)
            refine lv_aload_n hx hb dX4_cuts_59 rfl (lv_at hl 4 rfl) ?_
            refine lv_iload_n hx hb dX4_cuts_60 rfl (lv_at hl 2 rfl) ?_
            refine lv_iload hx hb dX4_cuts_61 (lv_at hl 1 rfl) ?_
            refine z_iconst hx hb dX4_cuts_63 ?_
            refine z_iconst hx hb dX4_cuts_64 ?_
            refine z_callv (va_runV (As := [.int (zI (k / 48)), .int (zI (k % 48)), .int (zI 2), .int (zI 1)]) (rest := []) ⟨hx, hb, hml, hown, hts⟩ (k_X4_put l dC dI cI cQ A ad (upR S 0 (cutKF (S 0) k)) hD (k / 48) (k % 48) 2 1 (by omega)) (cwV 4 hts gX4_cuts_X4_put rfl rfl rfl (by decide +kernel) ⟨Nat.le_of_ble_eq_true rfl, Nat.le_of_ble_eq_true rfl⟩) (z_preV hK hP (ci := 4) (q0 := 0) rfl rfl rfl) rfl rfl hl.1 rfl (lv_room (Nat.le_of_ble_eq_true rfl)) dX4_cuts_65 ⟨Nat.zero_le _, Nat.zero_le _⟩) hS (fun _ h => h) (fun H locs hP hS _ _ => ?_)
            refine lv_aload_n hx hb dX4_cuts_68 rfl (lv_at hl 4 rfl) ?_
            refine lv_iload_n hx hb dX4_cuts_69 rfl (lv_at hl 2 rfl) ?_
            refine lv_iload hx hb dX4_cuts_70 (lv_at hl 1 rfl) ?_
            refine z_iconst hx hb dX4_cuts_72 ?_
            refine z_iconst hx hb dX4_cuts_73 ?_
            refine z_callv (va_runV (As := [.int (zI (k / 48)), .int (zI (k % 48)), .int (zI 3), .int (zI 0)]) (rest := []) ⟨hx, hb, hml, hown, hts⟩ (k_X4_put l dC dI cI cQ A ad (putM (upR S 0 (cutKF (S 0) k)) (k / 48) (k % 48) 2 1) hD (k / 48) (k % 48) 3 0 (by omega)) (cwV 4 hts gX4_cuts_X4_put rfl rfl rfl (by decide +kernel) ⟨Nat.le_of_ble_eq_true rfl, Nat.le_of_ble_eq_true rfl⟩) (z_preV hK hP (ci := 4) (q0 := 0) rfl rfl rfl) rfl rfl hl.1 rfl (lv_room (Nat.le_of_ble_eq_true rfl)) dX4_cuts_74 ⟨Nat.zero_le _, Nat.zero_le _⟩) hS (fun _ h => h) (fun H locs hP hS _ _ => ?_)
            refine z_iinc (lv' := [(2, .int (zI (k + 1))), (1, .int (zI (n0 + 1))), (4, .int (zI (k % 48))), (3, .int (zI (k / 48))), (0, .ref (ad 0))]) hx hb dX4_cuts_77 hl (k := 3) rfl (by decide) (by rw [show (k : Int) + (1) = (k + 1) from by omega]; rfl) (fun ls hl => ?_)
            refine lv_goto (tgt := 4) hx hb dX4_cuts_80 (by decide) ?_
            exact ih4 (n0 + 1) (k + 1) (putM (putM (upR S 0 (cutKF (S 0) k)) (k / 48) (k % 48) 2 1) (k / 48) (k % 48) 3 0) (by omega) (by first | exact cutK_hit S (by omega) (by omega) | exact cutK_miss S (by omega) (by omega)) (by rw [sumZ_succ _ i0.1, ← i2]; split <;> omega) (by omega) _ _ hP hS ls (lv_sub hl [0, 1, 4] rfl)
  exact hloop4 ((96 - 0 : Int) + 1).toNat 0 0 S (by omega) (by exact (upR_id (fun j => cutK_0 (S 0) j)).symm) (by rfl) (by omega) _ _ hP hS ls (lv_sub hl [0, 1, 2] rfl)
theorem in_X4_cut : ∀ w ∈ wsX40, w ∈ wsX4_cut := fun w h => List.mem_cons_of_mem _ (List.mem_append_right _ h)
set_option maxHeartbeats 4000000 in
set_option maxRecDepth 100000 in
theorem k_X4_cut (l : Launch) (dC : Nat → ClassId) (dI : Nat → Nat → Nat) (cI cQ : ClassId) (A : Nat → Prop) (ad : Nat → Nat) (S : Nat → Int → Int) (hD : ∀ S, va_D A (tW_X4 ad cI S)) (hA : WFA (S 0)) (h : 0 ≤ S 2 0 ∧ S 2 0 ≤ 5) (h7 : S 7 0 = 0 ∨ S 7 0 = 1) : Met l yX4_cut wsX4_cut ({ frames := 2, cells := 0, slots := 0, locals := 48 }) (zPc (dC, dI) vwCl (zT cI cQ) (tW_X4 ad cI S) [.ref (ad 0)]) (zQi (dC, dI) vwCl (tW_X4 ad cI (cutM S)) (cutsR (S 0)) A) 0 0 A := by
  refine Met.ofW (cc := cX4_cut) (maxL := 1) (ret := (some .int)) (by decide) rfl ?_
  intro p e s m args below meth c s₁ B hml hv
  obtain ⟨rfl, hP, hK⟩ := hv
  have hx := B.exec
  have hb := B.bytes
  have hr := B.returns
  have hts := atoms_spec (ws := wsX4_cut) B.pre
  have hown : s.vm.findClass RX4 = some m.cls := findClass_of_methodNamed B.named
  have hlk := B.notSynchronized
  have hS : va_S A s.heap s.heap [] := va_S.rf
  have hl := lv_entry ([.ref (ad 0)]) (n := 1) (Nat.le_of_ble_eq_true rfl)
  rw [lg_entry_eq]
  generalize (lg_sl ([.ref (ad 0)]) ++ List.replicate (1 - (lg_sl ([.ref (ad 0)])).length) Slot.unset).toArray = ls at hl ⊢
  have hl : lv_has ls 1 [(0, .ref (ad 0))] := hl
  have hin : ∀ w ∈ wsX40, w ∈ wsX4_cut := in_X4_cut
  refine lv_aload_n hx hb dX4_cut_0 rfl (lv_at hl 0 rfl) ?_
  refine z_callv (va_runV (As := []) (rest := []) ⟨hx, hb, hml, hown, hts⟩ (k_X4_saves l dC dI cI cQ A ad S hD (by exact h) (by exact h7)) (cwV 0 hts gX4_cut_X4_saves rfl rfl rfl (by decide +kernel) ⟨Nat.le_of_ble_eq_true rfl, Nat.le_of_ble_eq_true rfl⟩) (z_preV hK hP (ci := 4) (q0 := 0) rfl rfl rfl) rfl rfl hl.1 rfl (lv_room (Nat.le_of_ble_eq_true rfl)) dX4_cut_1 ⟨Nat.zero_le _, Nat.zero_le _⟩) hS (fun _ h => h) (fun H locs hP hS _ _ => ?_)
  refine lv_aload_n hx hb dX4_cut_4 rfl (lv_at hl 0 rfl) ?_
  refine z_calli (va_runV (As := []) (rest := []) ⟨hx, hb, hml, hown, hts⟩ (k_X4_cuts l dC dI cI cQ A ad (savesM S) hD (by rw [savesM_0]; exact hA)) (cwV 0 hts gX4_cut_X4_cuts rfl rfl rfl (by decide +kernel) ⟨Nat.le_of_ble_eq_true rfl, Nat.le_of_ble_eq_true rfl⟩) (z_preV hK hP (ci := 4) (q0 := 0) rfl rfl rfl) rfl rfl hl.1 rfl (lv_room (Nat.le_of_ble_eq_true rfl)) dX4_cut_5 ⟨Nat.zero_le _, Nat.zero_le _⟩) hS (fun _ h => h) (fun H locs hP hS _ _ => ?_)
  refine z_top (y := (cutsR (S 0))) (by exact congrArg (fun q : Int → Int => cutsR q) (savesM_0 S)) ?_
  exact z_iret hx hb hr hlk hP hS dX4_cut_8 rfl (congrArg (tW_X4 ad cI) (by unfold cutM cutsM; rw [savesM_0]))
theorem in_X4_sweeps : ∀ w ∈ wsX40, w ∈ wsX4_sweeps := fun w h => List.mem_cons_of_mem _ (List.mem_append_right _ h)
set_option maxHeartbeats 4000000 in
set_option maxRecDepth 100000 in
theorem k_X4_sweeps (l : Launch) (dC : Nat → ClassId) (dI : Nat → Nat → Nat) (cI cQ : ClassId) (A : Nat → Prop) (ad : Nat → Nat) (S : Nat → Int → Int) (hD : ∀ S, va_D A (tW_X4 ad cI S)) (hA : WFA (S 0)) (hall : ∀ b : Int, 0 ≤ b → b ≤ 48 → WFA (ixZ swF b (S 0))) : Met l yX4_sweeps wsX4_sweeps ({ frames := 3, cells := 0, slots := 0, locals := 66 }) (zPc (dC, dI) vwCl (zT cI cQ) (tW_X4 ad cI S) [.ref (ad 0)]) (zQi (dC, dI) vwCl (tW_X4 ad cI (sweepsM S)) (sweepsR (S 0)) A) 0 0 A := by
  refine Met.ofW (cc := cX4_sweeps) (maxL := 6) (ret := (some .int)) (by decide) rfl ?_
  intro p e s m args below meth c s₁ B hml hv
  obtain ⟨rfl, hP, hK⟩ := hv
  have hx := B.exec
  have hb := B.bytes
  have hr := B.returns
  have hts := atoms_spec (ws := wsX4_sweeps) B.pre
  have hown : s.vm.findClass RX4 = some m.cls := findClass_of_methodNamed B.named
  have hlk := B.notSynchronized
  have hS : va_S A s.heap s.heap [] := va_S.rf
  have hl := lv_entry ([.ref (ad 0)]) (n := 6) (Nat.le_of_ble_eq_true rfl)
  rw [lg_entry_eq]
  generalize (lg_sl ([.ref (ad 0)]) ++ List.replicate (6 - (lg_sl ([.ref (ad 0)])).length) Slot.unset).toArray = ls at hl ⊢
  have hl : lv_has ls 6 [(0, .ref (ad 0))] := hl
  have hin : ∀ w ∈ wsX40, w ∈ wsX4_sweeps := in_X4_sweeps
  refine z_iconst hx hb dX4_sweeps_0 ?_
  refine lv_istore_n (lv' := [(1, .int (zI 0)), (0, .ref (ad 0))]) hx hb dX4_sweeps_1 rfl hl (by decide) rfl (fun ls hl => ?_)
  refine z_iconst hx hb dX4_sweeps_2 ?_
  refine lv_istore_n (lv' := [(2, .int (zI 0)), (1, .int (zI 0)), (0, .ref (ad 0))]) hx hb dX4_sweeps_3 rfl hl (by decide) rfl (fun ls hl => ?_)
  have hloop4 : ∀ (n : Nat) (n0 b : Int) (S1 : Nat → Int → Int), (0 ≤ b ∧ b ≤ 48) → (S1 = upR S 0 (ixZ swF b (S 0))) → (n0 = sumZ (swR (S 0)) b) → (48 - b < (n : Int)) → ∀ (H : Heap) (locs : List Loc), va_P (dC, dI) vwCl (tW_X4 ad cI S1) H → va_S A s.heap H locs → ∀ ls : Array Slot, lv_has ls 6 [(2, .int (zI b)), (1, .int (zI n0)), (0, .ref (ad 0))] → W p l e (headSpec wsX4_sweeps ({ frames := 3, cells := 0, slots := 0, locals := 66 })).room s m ([.ref (ad 0)] : List Value).toArray below meth c H locs 0 0 (MQ below (zQi (dC, dI) vwCl (tW_X4 ad cI (sweepsM S)) (sweepsR (S 0)) A) ([.ref (ad 0)] : List Value).toArray s 0 0 A) (F0 m 4 ls []) := by
    intro n
    induction n with
    | zero =>
      intro n0 b S1 i0 i1 i2 hm
      exfalso
      omega
    | succ n ih =>
      intro n0 b S1 i0 i1 i2 hm H locs hP hS ls hl
      have ih4 := ih
      clear ih
      subst i1
      obtain ⟨X, hX⟩ : ∃ X, X = ixZ swF b (S 0) := ⟨_, rfl⟩
      rw [← hX] at hP
      have hX0 := (hall b i0.1 i0.2).1
      rw [← hX] at hX0
      refine lv_iload_n hx hb dX4_sweeps_4 rfl (lv_at hl 0 rfl) ?_
      refine z_bipush (z := 48) hx hb dX4_sweeps_5 (by decide +kernel) ?_
      refine z_icmp_ge (tgt := 166) hx hb dX4_sweeps_7 (by decide) (by omega) (by omega) (fun c1 => ?_) (fun c1 => ?_)
      · refine lv_aload_n hx hb dX4_sweeps_166 rfl (lv_at hl 2 rfl) ?_
        refine gx_X4_0 hx hb hts hin hown hK hP (hts _ (List.mem_of_getElem? (i := 1) rfl)) dX4_sweeps_167 ?_
        refine z_iconst hx hb dX4_sweeps_170 ?_
        refine lv_dup2_11 hx hb dX4_sweeps_171 rfl rfl ?_
        refine ld_X4_0 (v := X 0) hx hb hK hP (by omega) rfl dX4_sweeps_172 ?_
        have b1 := hX0 0 (by omega) (by omega) (by omega) (by omega)
        refine z_bipush (z := 48) hx hb dX4_sweeps_173 (by decide +kernel) ?_
        refine z_iadd hx hb dX4_sweeps_175 ?_
        refine z_top (y := X 0 + 48) (by omega) ?_
        refine st_X4_0 hx hb hK hP hD hS (by omega) dX4_sweeps_176 (fun H locs hP hS => ?_)
        refine lv_aload_n hx hb dX4_sweeps_177 rfl (lv_at hl 2 rfl) ?_
        refine gx_X4_0 hx hb hts hin hown hK hP (hts _ (List.mem_of_getElem? (i := 1) rfl)) dX4_sweeps_178 ?_
        refine z_iconst hx hb dX4_sweeps_181 ?_
        refine z_iconst hx hb dX4_sweeps_182 ?_
        refine st_X4_0 hx hb hK hP hD hS (by omega) dX4_sweeps_183 (fun H locs hP hS => ?_)
        refine lv_iload_n hx hb dX4_sweeps_184 rfl (lv_at hl 1 rfl) ?_
        obtain rfl : b = 48 := by omega
        exact z_iret hx hb hr hlk hP hS dX4_sweeps_185 (by exact i2) (congrArg (tW_X4 ad cI) (by unfold sweepsM sweepsF; rw [← hX]; simp only [up2_def, upR_eq, upR_upR]))
      · refine lv_aload_n hx hb dX4_sweeps_10 rfl (lv_at hl 2 rfl) ?_
        refine lv_iload_n hx hb dX4_sweeps_11 rfl (lv_at hl 0 rfl) ?_
        have bx1 := hX0 (5 * b + 7) (by omega) (by omega) (by omega) (by omega)
        have bx2 := hX0 (5 * b + 247) (by omega) (by omega) (by omega) (by omega)
        refine z_calli (va_runV (As := [.int (zI b)]) (rest := []) ⟨hx, hb, hml, hown, hts⟩ (k_X4_torn l dC dI cI cQ A ad (upR S 0 X) hD b (by omega)) (cwV 1 hts gX4_sweeps_X4_torn rfl rfl rfl (by decide +kernel) ⟨Nat.le_of_ble_eq_true rfl, Nat.le_of_ble_eq_true rfl⟩) (z_preV hK hP (ci := 4) (q0 := 0) rfl rfl rfl) rfl rfl hl.1 rfl (lv_room (Nat.le_of_ble_eq_true rfl)) dX4_sweeps_12 ⟨Nat.zero_le _, Nat.zero_le _⟩) hS (fun _ h => h) (fun H locs hP hS _ _ => ?_)
        refine z_top (y := X (5 * b + 7) + X (5 * b + 247)) (by exact congr (congrArg (fun x y : Int => x + y) rfl) rfl) ?_
        refine z_iconst hx hb dX4_sweeps_15 ?_
        refine z_icmp_ne (tgt := 23) hx hb dX4_sweeps_16 (by decide) (by omega) (by omega) (fun c2 => ?_) (fun c2 => ?_)
        · refine z_iconst hx hb dX4_sweeps_23 ?_
          refine lv_istore_n (lv' := [(3, .int (zI 0)), (2, .int (zI b)), (1, .int (zI n0)), (0, .ref (ad 0))]) hx hb dX4_sweeps_24 rfl hl (by decide) rfl (fun ls hl => ?_)
          refine lv_iload_n hx hb dX4_sweeps_25 rfl (lv_at hl 0 rfl) ?_
          refine z_if_eq (tgt := 34) hx hb dX4_sweeps_26 (by decide) (by omega) (fun _ => ?_) (fun q => absurd (by omega) q)
          refine lv_aload_n hx hb dX4_sweeps_34 rfl (lv_at hl 3 rfl) ?_
          refine lv_iload_n hx hb dX4_sweeps_35 rfl (lv_at hl 1 rfl) ?_
          refine z_calli (va_runV (As := [.int (zI b)]) (rest := []) ⟨hx, hb, hml, hown, hts⟩ (k_X4_behind l dC dI cI cQ A ad (upR S 0 X) hD b (by have q := hall b (by omega) (by omega); rw [← hX] at q; exact q) (by omega)) (cwV 1 hts gX4_sweeps_X4_behind rfl rfl rfl (by decide +kernel) ⟨Nat.le_of_ble_eq_true rfl, Nat.le_of_ble_eq_true rfl⟩) (z_preV hK hP (ci := 4) (q0 := 0) rfl rfl rfl) rfl rfl hl.1 rfl (lv_room (Nat.le_of_ble_eq_true rfl)) dX4_sweeps_36 ⟨Nat.zero_le _, Nat.zero_le _⟩) hS (fun _ h => h) (fun H locs hP hS _ _ => ?_)
          refine z_top (y := (behF (X) b)) (by exact congrArg (fun q : Int → Int => (behF q b)) (rfl)) ?_
          refine z_name (fun bs e_bs => ?_)
          refine lv_istore (lv' := [(4, .int (zI bs)), (3, .int (zI 0)), (2, .int (zI b)), (1, .int (zI n0)), (0, .ref (ad 0))]) hx hb dX4_sweeps_39 hl (by decide) rfl (fun ls hl => ?_)
          have rgb := behF_rng X b
          try rw [← e_bs] at rgb
          refine z_iconst hx hb dX4_sweeps_41 ?_
          refine lv_istore (lv' := [(5, .int (zI 0)), (4, .int (zI bs)), (3, .int (zI 0)), (2, .int (zI b)), (1, .int (zI n0)), (0, .ref (ad 0))]) hx hb dX4_sweeps_42 hl (by decide) rfl (fun ls hl => ?_)
          refine lv_iload hx hb dX4_sweeps_44 (lv_at hl 0 rfl) ?_
          refine z_iconst hx hb dX4_sweeps_46 ?_
          refine z_icmp_ge (tgt := 87) hx hb dX4_sweeps_47 (by decide) (by omega) (by omega) (fun q => absurd q (by omega)) (fun _ => ?_)
          refine lv_iload_n hx hb dX4_sweeps_50 rfl (lv_at hl 2 rfl) ?_
          refine z_if_eq (tgt := 87) hx hb dX4_sweeps_51 (by decide) (by omega) (fun _ => ?_) (fun q => absurd (by omega) q)
          refine lv_aload_n hx hb dX4_sweeps_87 rfl (lv_at hl 5 rfl) ?_
          refine gx_X4_0 hx hb hts hin hown hK hP (hts _ (List.mem_of_getElem? (i := 1) rfl)) dX4_sweeps_88 ?_
          refine z_iconst hx hb dX4_sweeps_91 ?_
          refine lv_dup2_11 hx hb dX4_sweeps_92 rfl rfl ?_
          refine ld_X4_0 (v := X 3) hx hb hK hP (by omega) rfl dX4_sweeps_93 ?_
          refine lv_iload_n hx hb dX4_sweeps_94 rfl (lv_at hl 2 rfl) ?_
          refine z_if_eq (tgt := 102) hx hb dX4_sweeps_95 (by decide) (by omega) (fun _ => ?_) (fun q => absurd (by omega) q)
          refine z_iconst hx hb dX4_sweeps_102 ?_
          refine z_iadd hx hb dX4_sweeps_103 ?_
          refine z_top (y := X 3) (by omega) ?_
          refine st_X4_0 hx hb hK hP hD hS (by omega) dX4_sweeps_104 (fun H locs hP hS => ?_)
          refine lv_iload hx hb dX4_sweeps_105 (lv_at hl 1 rfl) ?_
          refine z_bipush (z := (-9)) hx hb dX4_sweeps_107 (by decide +kernel) ?_
          refine z_icmp_eq (tgt := 160) hx hb dX4_sweeps_109 (by decide) (by omega) (by omega) (fun c7 => ?_) (fun c7 => ?_)
          · refine z_iinc (lv' := [(2, .int (zI (b + 1))), (5, .int (zI 0)), (4, .int (zI bs)), (3, .int (zI 0)), (1, .int (zI n0)), (0, .ref (ad 0))]) hx hb dX4_sweeps_160 hl (k := 3) rfl (by decide) (by rw [show (b : Int) + (1) = (b + 1) from by omega]; rfl) (fun ls hl => ?_)
            refine lv_goto (tgt := 4) hx hb dX4_sweeps_163 (by decide) ?_
            exact ih4 n0 (b + 1) (up2 (upR S 0 X) 0 3 (X 3)) (by omega) (by rw [ixZ_succ _ _ i0.1, ← hX]; refine sw_step S X b _ ?_; first | (exfalso; omega) | (left; refine ⟨by unfold tornF; omega, ?_⟩; unfold wipF; simp only [putM_eq, upR_eq, upR_upR, up2_def, up1_self]; simp only [show 240 * (0 : Int) + 5 * b + 0 + 5 = 5 * b + 5 from by omega, show 240 * (0 : Int) + 5 * b + 1 + 5 = 5 * b + 6 from by omega, show 240 * (0 : Int) + 5 * b + 2 + 5 = 5 * b + 7 from by omega, show 240 * (1 : Int) + 5 * b + 0 + 5 = 5 * b + 245 from by omega, show 240 * (1 : Int) + 5 * b + 1 + 5 = 5 * b + 246 from by omega, show 240 * (1 : Int) + 5 * b + 2 + 5 = 5 * b + 247 from by omega]) | (right; left; refine ⟨by unfold tornF; omega, by omega, ?_⟩; simp only [putM_eq, upR_eq, upR_upR, up2_def, up1_self]) | (right; right; refine ⟨by unfold tornF; omega, by omega, ?_⟩; rw [← e_bs]; unfold takF; simp only [putM_eq, upR_eq, upR_upR, up2_def, up1_self]; simp only [show 240 * bs + 5 * b + 0 + 5 = 240 * bs + 5 * b + 5 from by omega, show 240 * bs + 5 * b + 1 + 5 = 240 * bs + 5 * b + 6 from by omega, show 240 * bs + 5 * b + 2 + 5 = 240 * bs + 5 * b + 7 from by omega])) (by rw [sumZ_succ _ i0.1, ← i2]; unfold swR; rw [← hX]; unfold tornF; split <;> omega) (by omega) _ _ hP hS ls (lv_sub hl [0, 4, 5] rfl)
          · refine lv_aload_n hx hb dX4_sweeps_112 rfl (lv_at hl 5 rfl) ?_
            refine lv_iload hx hb dX4_sweeps_113 (lv_at hl 1 rfl) ?_
            refine lv_iload_n hx hb dX4_sweeps_115 rfl (lv_at hl 3 rfl) ?_
            refine z_iconst hx hb dX4_sweeps_116 ?_
            refine lv_aload_n hx hb dX4_sweeps_117 rfl (lv_at hl 5 rfl) ?_
            refine z_iconst hx hb dX4_sweeps_118 ?_
            refine lv_iload hx hb dX4_sweeps_119 (lv_at hl 1 rfl) ?_
            refine z_isub hx hb dX4_sweeps_121 ?_
            refine z_top (y := -bs + 1) (by omega) ?_
            refine lv_iload_n hx hb dX4_sweeps_122 rfl (lv_at hl 3 rfl) ?_
            refine z_iconst hx hb dX4_sweeps_123 ?_
            refine z_calli (va_runV (As := [.int (zI (-bs + 1)), .int (zI b), .int (zI 0)]) (rest := [.int (zI 0), .int (zI b), .int (zI bs), .ref (ad 0)]) ⟨hx, hb, hml, hown, hts⟩ (k_X4_of l dC dI cI cQ A ad (up2 (upR S 0 X) 0 3 (X 3)) hD (-bs + 1) b 0 (by omega)) (cwV 3 hts gX4_sweeps_X4_of rfl rfl rfl (by decide +kernel) ⟨Nat.le_of_ble_eq_true rfl, Nat.le_of_ble_eq_true rfl⟩) (z_preV hK hP (ci := 4) (q0 := 0) rfl rfl rfl) rfl rfl hl.1 rfl (lv_room (Nat.le_of_ble_eq_true rfl)) dX4_sweeps_124 ⟨Nat.zero_le _, Nat.zero_le _⟩) hS (fun _ h => h) (fun H locs hP hS _ _ => ?_)
            refine z_top (y := X (5 * b - 240 * bs + 245)) (by rw [show (240 * (-bs + 1) + 5 * b + 0 + 5) = (5 * b - 240 * bs + 245 : Int) from by omega]; first | done | exact ((up2_ne (by omega)).trans (rfl))) ?_
            have b2 := hX0 (5 * b - 240 * bs + 245) (by omega) (by omega) (by omega) (by omega)
            refine z_callv (va_runV (As := [.int (zI bs), .int (zI b), .int (zI 0), .int (zI (X (5 * b - 240 * bs + 245)))]) (rest := []) ⟨hx, hb, hml, hown, hts⟩ (k_X4_put l dC dI cI cQ A ad (up2 (upR S 0 X) 0 3 (X 3)) hD bs b 0 (X (5 * b - 240 * bs + 245)) (by omega)) (cwV 4 hts gX4_sweeps_X4_put rfl rfl rfl (by decide +kernel) ⟨Nat.le_of_ble_eq_true rfl, Nat.le_of_ble_eq_true rfl⟩) (z_preV hK hP (ci := 4) (q0 := 0) rfl rfl rfl) rfl rfl hl.1 rfl (lv_room (Nat.le_of_ble_eq_true rfl)) dX4_sweeps_127 ⟨Nat.zero_le _, Nat.zero_le _⟩) hS (fun _ h => h) (fun H locs hP hS _ _ => ?_)
            refine lv_aload_n hx hb dX4_sweeps_130 rfl (lv_at hl 5 rfl) ?_
            refine lv_iload hx hb dX4_sweeps_131 (lv_at hl 1 rfl) ?_
            refine lv_iload_n hx hb dX4_sweeps_133 rfl (lv_at hl 3 rfl) ?_
            refine z_iconst hx hb dX4_sweeps_134 ?_
            refine lv_aload_n hx hb dX4_sweeps_135 rfl (lv_at hl 5 rfl) ?_
            refine z_iconst hx hb dX4_sweeps_136 ?_
            refine lv_iload hx hb dX4_sweeps_137 (lv_at hl 1 rfl) ?_
            refine z_isub hx hb dX4_sweeps_139 ?_
            refine z_top (y := -bs + 1) (by omega) ?_
            refine lv_iload_n hx hb dX4_sweeps_140 rfl (lv_at hl 3 rfl) ?_
            refine z_iconst hx hb dX4_sweeps_141 ?_
            refine z_calli (va_runV (As := [.int (zI (-bs + 1)), .int (zI b), .int (zI 1)]) (rest := [.int (zI 1), .int (zI b), .int (zI bs), .ref (ad 0)]) ⟨hx, hb, hml, hown, hts⟩ (k_X4_of l dC dI cI cQ A ad (putM (up2 (upR S 0 X) 0 3 (X 3)) bs b 0 (X (5 * b - 240 * bs + 245))) hD (-bs + 1) b 1 (by omega)) (cwV 3 hts gX4_sweeps_X4_of rfl rfl rfl (by decide +kernel) ⟨Nat.le_of_ble_eq_true rfl, Nat.le_of_ble_eq_true rfl⟩) (z_preV hK hP (ci := 4) (q0 := 0) rfl rfl rfl) rfl rfl hl.1 rfl (lv_room (Nat.le_of_ble_eq_true rfl)) dX4_sweeps_142 ⟨Nat.zero_le _, Nat.zero_le _⟩) hS (fun _ h => h) (fun H locs hP hS _ _ => ?_)
            refine z_top (y := X (5 * b - 240 * bs + 246)) (by rw [show (240 * (-bs + 1) + 5 * b + 1 + 5) = (5 * b - 240 * bs + 246 : Int) from by omega]; first | done | exact ((up2_ne (by omega)).trans (((up2_ne (by omega)).trans (rfl))))) ?_
            have b3 := hX0 (5 * b - 240 * bs + 246) (by omega) (by omega) (by omega) (by omega)
            refine z_callv (va_runV (As := [.int (zI bs), .int (zI b), .int (zI 1), .int (zI (X (5 * b - 240 * bs + 246)))]) (rest := []) ⟨hx, hb, hml, hown, hts⟩ (k_X4_put l dC dI cI cQ A ad (putM (up2 (upR S 0 X) 0 3 (X 3)) bs b 0 (X (5 * b - 240 * bs + 245))) hD bs b 1 (X (5 * b - 240 * bs + 246)) (by omega)) (cwV 4 hts gX4_sweeps_X4_put rfl rfl rfl (by decide +kernel) ⟨Nat.le_of_ble_eq_true rfl, Nat.le_of_ble_eq_true rfl⟩) (z_preV hK hP (ci := 4) (q0 := 0) rfl rfl rfl) rfl rfl hl.1 rfl (lv_room (Nat.le_of_ble_eq_true rfl)) dX4_sweeps_145 ⟨Nat.zero_le _, Nat.zero_le _⟩) hS (fun _ h => h) (fun H locs hP hS _ _ => ?_)
            refine lv_aload_n hx hb dX4_sweeps_148 rfl (lv_at hl 5 rfl) ?_
            refine lv_iload hx hb dX4_sweeps_149 (lv_at hl 1 rfl) ?_
            refine lv_iload_n hx hb dX4_sweeps_151 rfl (lv_at hl 3 rfl) ?_
            refine z_iconst hx hb dX4_sweeps_152 ?_
            refine z_iconst hx hb dX4_sweeps_153 ?_
            refine z_callv (va_runV (As := [.int (zI bs), .int (zI b), .int (zI 2), .int (zI 0)]) (rest := []) ⟨hx, hb, hml, hown, hts⟩ (k_X4_put l dC dI cI cQ A ad (putM (putM (up2 (upR S 0 X) 0 3 (X 3)) bs b 0 (X (5 * b - 240 * bs + 245))) bs b 1 (X (5 * b - 240 * bs + 246))) hD bs b 2 0 (by omega)) (cwV 4 hts gX4_sweeps_X4_put rfl rfl rfl (by decide +kernel) ⟨Nat.le_of_ble_eq_true rfl, Nat.le_of_ble_eq_true rfl⟩) (z_preV hK hP (ci := 4) (q0 := 0) rfl rfl rfl) rfl rfl hl.1 rfl (lv_room (Nat.le_of_ble_eq_true rfl)) dX4_sweeps_154 ⟨Nat.zero_le _, Nat.zero_le _⟩) hS (fun _ h => h) (fun H locs hP hS _ _ => ?_)
            refine z_iinc (lv' := [(1, .int (zI (n0 + 1))), (5, .int (zI 0)), (4, .int (zI bs)), (3, .int (zI 0)), (2, .int (zI b)), (0, .ref (ad 0))]) hx hb dX4_sweeps_157 hl (k := 4) rfl (by decide) (by rw [show (n0 : Int) + (1) = (n0 + 1) from by omega]; rfl) (fun ls hl => ?_)
            refine z_iinc (lv' := [(2, .int (zI (b + 1))), (1, .int (zI (n0 + 1))), (5, .int (zI 0)), (4, .int (zI bs)), (3, .int (zI 0)), (0, .ref (ad 0))]) hx hb dX4_sweeps_160 hl (k := 4) rfl (by decide) (by rw [show (b : Int) + (1) = (b + 1) from by omega]; rfl) (fun ls hl => ?_)
            refine lv_goto (tgt := 4) hx hb dX4_sweeps_163 (by decide) ?_
            exact ih4 (n0 + 1) (b + 1) (putM (putM (putM (up2 (upR S 0 X) 0 3 (X 3)) bs b 0 (X (5 * b - 240 * bs + 245))) bs b 1 (X (5 * b - 240 * bs + 246))) bs b 2 0) (by omega) (by rw [ixZ_succ _ _ i0.1, ← hX]; refine sw_step S X b _ ?_; first | (exfalso; omega) | (left; refine ⟨by unfold tornF; omega, ?_⟩; unfold wipF; simp only [putM_eq, upR_eq, upR_upR, up2_def, up1_self]; simp only [show 240 * (0 : Int) + 5 * b + 0 + 5 = 5 * b + 5 from by omega, show 240 * (0 : Int) + 5 * b + 1 + 5 = 5 * b + 6 from by omega, show 240 * (0 : Int) + 5 * b + 2 + 5 = 5 * b + 7 from by omega, show 240 * (1 : Int) + 5 * b + 0 + 5 = 5 * b + 245 from by omega, show 240 * (1 : Int) + 5 * b + 1 + 5 = 5 * b + 246 from by omega, show 240 * (1 : Int) + 5 * b + 2 + 5 = 5 * b + 247 from by omega]) | (right; left; refine ⟨by unfold tornF; omega, by omega, ?_⟩; simp only [putM_eq, upR_eq, upR_upR, up2_def, up1_self]) | (right; right; refine ⟨by unfold tornF; omega, by omega, ?_⟩; rw [← e_bs]; unfold takF; simp only [putM_eq, upR_eq, upR_upR, up2_def, up1_self]; simp only [show 240 * bs + 5 * b + 0 + 5 = 240 * bs + 5 * b + 5 from by omega, show 240 * bs + 5 * b + 1 + 5 = 240 * bs + 5 * b + 6 from by omega, show 240 * bs + 5 * b + 2 + 5 = 240 * bs + 5 * b + 7 from by omega])) (by rw [sumZ_succ _ i0.1, ← i2]; unfold swR; rw [← hX]; unfold tornF; split <;> omega) (by omega) _ _ hP hS ls (lv_sub hl [0, 1, 5] rfl)
        · refine z_iconst hx hb dX4_sweeps_19 ?_
          refine lv_goto (tgt := 24) hx hb dX4_sweeps_20 (by decide) ?_
          refine lv_istore_n (lv' := [(3, .int (zI 1)), (2, .int (zI b)), (1, .int (zI n0)), (0, .ref (ad 0))]) hx hb dX4_sweeps_24 rfl hl (by decide) rfl (fun ls hl => ?_)
          refine lv_iload_n hx hb dX4_sweeps_25 rfl (lv_at hl 0 rfl) ?_
          refine z_if_eq (tgt := 34) hx hb dX4_sweeps_26 (by decide) (by omega) (fun q => absurd q (by omega)) (fun _ => ?_)
          refine z_bipush (z := (-9)) hx hb dX4_sweeps_29 (by decide +kernel) ?_
          refine lv_goto (tgt := 39) hx hb dX4_sweeps_31 (by decide) ?_
          refine lv_istore (lv' := [(4, .int (zI (-9))), (3, .int (zI 1)), (2, .int (zI b)), (1, .int (zI n0)), (0, .ref (ad 0))]) hx hb dX4_sweeps_39 hl (by decide) rfl (fun ls hl => ?_)
          have rgb := behF_rng X b
          try rw [← e_bs] at rgb
          refine z_iconst hx hb dX4_sweeps_41 ?_
          refine lv_istore (lv' := [(5, .int (zI 0)), (4, .int (zI (-9))), (3, .int (zI 1)), (2, .int (zI b)), (1, .int (zI n0)), (0, .ref (ad 0))]) hx hb dX4_sweeps_42 hl (by decide) rfl (fun ls hl => ?_)
          refine lv_iload hx hb dX4_sweeps_44 (lv_at hl 0 rfl) ?_
          refine z_iconst hx hb dX4_sweeps_46 ?_
          refine z_icmp_ge (tgt := 87) hx hb dX4_sweeps_47 (by decide) (by omega) (by omega) (fun q => absurd q (by omega)) (fun _ => ?_)
          refine lv_iload_n hx hb dX4_sweeps_50 rfl (lv_at hl 2 rfl) ?_
          refine z_if_eq (tgt := 87) hx hb dX4_sweeps_51 (by decide) (by omega) (fun q => absurd q (by omega)) (fun _ => ?_)
          refine lv_aload_n hx hb dX4_sweeps_54 rfl (lv_at hl 5 rfl) ?_
          refine lv_iload hx hb dX4_sweeps_55 (lv_at hl 0 rfl) ?_
          refine lv_iload_n hx hb dX4_sweeps_57 rfl (lv_at hl 3 rfl) ?_
          refine z_iconst hx hb dX4_sweeps_58 ?_
          refine z_iconst hx hb dX4_sweeps_59 ?_
          refine z_callv (va_runV (As := [.int (zI 0), .int (zI b), .int (zI 0), .int (zI 0)]) (rest := []) ⟨hx, hb, hml, hown, hts⟩ (k_X4_put l dC dI cI cQ A ad (upR S 0 X) hD 0 b 0 0 (by omega)) (cwV 4 hts gX4_sweeps_X4_put rfl rfl rfl (by decide +kernel) ⟨Nat.le_of_ble_eq_true rfl, Nat.le_of_ble_eq_true rfl⟩) (z_preV hK hP (ci := 4) (q0 := 0) rfl rfl rfl) rfl rfl hl.1 rfl (lv_room (Nat.le_of_ble_eq_true rfl)) dX4_sweeps_60 ⟨Nat.zero_le _, Nat.zero_le _⟩) hS (fun _ h => h) (fun H locs hP hS _ _ => ?_)
          refine lv_aload_n hx hb dX4_sweeps_63 rfl (lv_at hl 5 rfl) ?_
          refine lv_iload hx hb dX4_sweeps_64 (lv_at hl 0 rfl) ?_
          refine lv_iload_n hx hb dX4_sweeps_66 rfl (lv_at hl 3 rfl) ?_
          refine z_iconst hx hb dX4_sweeps_67 ?_
          refine z_iconst hx hb dX4_sweeps_68 ?_
          refine z_callv (va_runV (As := [.int (zI 0), .int (zI b), .int (zI 1), .int (zI 0)]) (rest := []) ⟨hx, hb, hml, hown, hts⟩ (k_X4_put l dC dI cI cQ A ad (putM (upR S 0 X) 0 b 0 0) hD 0 b 1 0 (by omega)) (cwV 4 hts gX4_sweeps_X4_put rfl rfl rfl (by decide +kernel) ⟨Nat.le_of_ble_eq_true rfl, Nat.le_of_ble_eq_true rfl⟩) (z_preV hK hP (ci := 4) (q0 := 0) rfl rfl rfl) rfl rfl hl.1 rfl (lv_room (Nat.le_of_ble_eq_true rfl)) dX4_sweeps_69 ⟨Nat.zero_le _, Nat.zero_le _⟩) hS (fun _ h => h) (fun H locs hP hS _ _ => ?_)
          refine lv_aload_n hx hb dX4_sweeps_72 rfl (lv_at hl 5 rfl) ?_
          refine lv_iload hx hb dX4_sweeps_73 (lv_at hl 0 rfl) ?_
          refine lv_iload_n hx hb dX4_sweeps_75 rfl (lv_at hl 3 rfl) ?_
          refine z_iconst hx hb dX4_sweeps_76 ?_
          refine z_iconst hx hb dX4_sweeps_77 ?_
          refine z_callv (va_runV (As := [.int (zI 0), .int (zI b), .int (zI 2), .int (zI 0)]) (rest := []) ⟨hx, hb, hml, hown, hts⟩ (k_X4_put l dC dI cI cQ A ad (putM (putM (upR S 0 X) 0 b 0 0) 0 b 1 0) hD 0 b 2 0 (by omega)) (cwV 4 hts gX4_sweeps_X4_put rfl rfl rfl (by decide +kernel) ⟨Nat.le_of_ble_eq_true rfl, Nat.le_of_ble_eq_true rfl⟩) (z_preV hK hP (ci := 4) (q0 := 0) rfl rfl rfl) rfl rfl hl.1 rfl (lv_room (Nat.le_of_ble_eq_true rfl)) dX4_sweeps_78 ⟨Nat.zero_le _, Nat.zero_le _⟩) hS (fun _ h => h) (fun H locs hP hS _ _ => ?_)
          refine z_iinc (lv' := [(5, .int (zI 1)), (4, .int (zI (-9))), (3, .int (zI 1)), (2, .int (zI b)), (1, .int (zI n0)), (0, .ref (ad 0))]) hx hb dX4_sweeps_81 hl (k := 0) rfl (by decide) (by rw [show (0 : Int) + (1) = 1 from by omega]; rfl) (fun ls hl => ?_)
          refine lv_goto (tgt := 44) hx hb dX4_sweeps_84 (by decide) ?_
          refine lv_iload hx hb dX4_sweeps_44 (lv_at hl 0 rfl) ?_
          refine z_iconst hx hb dX4_sweeps_46 ?_
          refine z_icmp_ge (tgt := 87) hx hb dX4_sweeps_47 (by decide) (by omega) (by omega) (fun q => absurd q (by omega)) (fun _ => ?_)
          refine lv_iload_n hx hb dX4_sweeps_50 rfl (lv_at hl 2 rfl) ?_
          refine z_if_eq (tgt := 87) hx hb dX4_sweeps_51 (by decide) (by omega) (fun q => absurd q (by omega)) (fun _ => ?_)
          refine lv_aload_n hx hb dX4_sweeps_54 rfl (lv_at hl 5 rfl) ?_
          refine lv_iload hx hb dX4_sweeps_55 (lv_at hl 0 rfl) ?_
          refine lv_iload_n hx hb dX4_sweeps_57 rfl (lv_at hl 3 rfl) ?_
          refine z_iconst hx hb dX4_sweeps_58 ?_
          refine z_iconst hx hb dX4_sweeps_59 ?_
          refine z_callv (va_runV (As := [.int (zI 1), .int (zI b), .int (zI 0), .int (zI 0)]) (rest := []) ⟨hx, hb, hml, hown, hts⟩ (k_X4_put l dC dI cI cQ A ad (putM (putM (putM (upR S 0 X) 0 b 0 0) 0 b 1 0) 0 b 2 0) hD 1 b 0 0 (by omega)) (cwV 4 hts gX4_sweeps_X4_put rfl rfl rfl (by decide +kernel) ⟨Nat.le_of_ble_eq_true rfl, Nat.le_of_ble_eq_true rfl⟩) (z_preV hK hP (ci := 4) (q0 := 0) rfl rfl rfl) rfl rfl hl.1 rfl (lv_room (Nat.le_of_ble_eq_true rfl)) dX4_sweeps_60 ⟨Nat.zero_le _, Nat.zero_le _⟩) hS (fun _ h => h) (fun H locs hP hS _ _ => ?_)
          refine lv_aload_n hx hb dX4_sweeps_63 rfl (lv_at hl 5 rfl) ?_
          refine lv_iload hx hb dX4_sweeps_64 (lv_at hl 0 rfl) ?_
          refine lv_iload_n hx hb dX4_sweeps_66 rfl (lv_at hl 3 rfl) ?_
          refine z_iconst hx hb dX4_sweeps_67 ?_
          refine z_iconst hx hb dX4_sweeps_68 ?_
          refine z_callv (va_runV (As := [.int (zI 1), .int (zI b), .int (zI 1), .int (zI 0)]) (rest := []) ⟨hx, hb, hml, hown, hts⟩ (k_X4_put l dC dI cI cQ A ad (putM (putM (putM (putM (upR S 0 X) 0 b 0 0) 0 b 1 0) 0 b 2 0) 1 b 0 0) hD 1 b 1 0 (by omega)) (cwV 4 hts gX4_sweeps_X4_put rfl rfl rfl (by decide +kernel) ⟨Nat.le_of_ble_eq_true rfl, Nat.le_of_ble_eq_true rfl⟩) (z_preV hK hP (ci := 4) (q0 := 0) rfl rfl rfl) rfl rfl hl.1 rfl (lv_room (Nat.le_of_ble_eq_true rfl)) dX4_sweeps_69 ⟨Nat.zero_le _, Nat.zero_le _⟩) hS (fun _ h => h) (fun H locs hP hS _ _ => ?_)
          refine lv_aload_n hx hb dX4_sweeps_72 rfl (lv_at hl 5 rfl) ?_
          refine lv_iload hx hb dX4_sweeps_73 (lv_at hl 0 rfl) ?_
          refine lv_iload_n hx hb dX4_sweeps_75 rfl (lv_at hl 3 rfl) ?_
          refine z_iconst hx hb dX4_sweeps_76 ?_
          refine z_iconst hx hb dX4_sweeps_77 ?_
          refine z_callv (va_runV (As := [.int (zI 1), .int (zI b), .int (zI 2), .int (zI 0)]) (rest := []) ⟨hx, hb, hml, hown, hts⟩ (k_X4_put l dC dI cI cQ A ad (putM (putM (putM (putM (putM (upR S 0 X) 0 b 0 0) 0 b 1 0) 0 b 2 0) 1 b 0 0) 1 b 1 0) hD 1 b 2 0 (by omega)) (cwV 4 hts gX4_sweeps_X4_put rfl rfl rfl (by decide +kernel) ⟨Nat.le_of_ble_eq_true rfl, Nat.le_of_ble_eq_true rfl⟩) (z_preV hK hP (ci := 4) (q0 := 0) rfl rfl rfl) rfl rfl hl.1 rfl (lv_room (Nat.le_of_ble_eq_true rfl)) dX4_sweeps_78 ⟨Nat.zero_le _, Nat.zero_le _⟩) hS (fun _ h => h) (fun H locs hP hS _ _ => ?_)
          refine z_iinc (lv' := [(5, .int (zI 2)), (4, .int (zI (-9))), (3, .int (zI 1)), (2, .int (zI b)), (1, .int (zI n0)), (0, .ref (ad 0))]) hx hb dX4_sweeps_81 hl (k := 0) rfl (by decide) (by rw [show (1 : Int) + (1) = 2 from by omega]; rfl) (fun ls hl => ?_)
          refine lv_goto (tgt := 44) hx hb dX4_sweeps_84 (by decide) ?_
          refine lv_iload hx hb dX4_sweeps_44 (lv_at hl 0 rfl) ?_
          refine z_iconst hx hb dX4_sweeps_46 ?_
          refine z_icmp_ge (tgt := 87) hx hb dX4_sweeps_47 (by decide) (by omega) (by omega) (fun _ => ?_) (fun q => absurd (by omega) q)
          refine lv_aload_n hx hb dX4_sweeps_87 rfl (lv_at hl 5 rfl) ?_
          refine gx_X4_0 hx hb hts hin hown hK hP (hts _ (List.mem_of_getElem? (i := 1) rfl)) dX4_sweeps_88 ?_
          refine z_iconst hx hb dX4_sweeps_91 ?_
          refine lv_dup2_11 hx hb dX4_sweeps_92 rfl rfl ?_
          refine ld_X4_0 (v := X 3) hx hb hK hP (by omega) (((up2_ne (by omega)).trans (((up2_ne (by omega)).trans (((up2_ne (by omega)).trans (((up2_ne (by omega)).trans (((up2_ne (by omega)).trans (((up2_ne (by omega)).trans (rfl))))))))))))) dX4_sweeps_93 ?_
          refine lv_iload_n hx hb dX4_sweeps_94 rfl (lv_at hl 2 rfl) ?_
          refine z_if_eq (tgt := 102) hx hb dX4_sweeps_95 (by decide) (by omega) (fun q => absurd q (by omega)) (fun _ => ?_)
          refine z_iconst hx hb dX4_sweeps_98 ?_
          refine lv_goto (tgt := 103) hx hb dX4_sweeps_99 (by decide) ?_
          refine z_iadd hx hb dX4_sweeps_103 ?_
          refine z_top (y := X 3 + 1) (by omega) ?_
          refine st_X4_0 hx hb hK hP hD hS (by omega) dX4_sweeps_104 (fun H locs hP hS => ?_)
          refine lv_iload hx hb dX4_sweeps_105 (lv_at hl 1 rfl) ?_
          refine z_bipush (z := (-9)) hx hb dX4_sweeps_107 (by decide +kernel) ?_
          refine z_icmp_eq (tgt := 160) hx hb dX4_sweeps_109 (by decide) (by omega) (by omega) (fun _ => ?_) (fun q => absurd (by omega) q)
          refine z_iinc (lv' := [(2, .int (zI (b + 1))), (5, .int (zI 2)), (4, .int (zI (-9))), (3, .int (zI 1)), (1, .int (zI n0)), (0, .ref (ad 0))]) hx hb dX4_sweeps_160 hl (k := 3) rfl (by decide) (by rw [show (b : Int) + (1) = (b + 1) from by omega]; rfl) (fun ls hl => ?_)
          refine lv_goto (tgt := 4) hx hb dX4_sweeps_163 (by decide) ?_
          exact ih4 n0 (b + 1) (up2 (putM (putM (putM (putM (putM (putM (upR S 0 X) 0 b 0 0) 0 b 1 0) 0 b 2 0) 1 b 0 0) 1 b 1 0) 1 b 2 0) 0 3 (X 3 + 1)) (by omega) (by rw [ixZ_succ _ _ i0.1, ← hX]; refine sw_step S X b _ ?_; first | (exfalso; omega) | (left; refine ⟨by unfold tornF; omega, ?_⟩; unfold wipF; simp only [putM_eq, upR_eq, upR_upR, up2_def, up1_self]; simp only [show 240 * (0 : Int) + 5 * b + 0 + 5 = 5 * b + 5 from by omega, show 240 * (0 : Int) + 5 * b + 1 + 5 = 5 * b + 6 from by omega, show 240 * (0 : Int) + 5 * b + 2 + 5 = 5 * b + 7 from by omega, show 240 * (1 : Int) + 5 * b + 0 + 5 = 5 * b + 245 from by omega, show 240 * (1 : Int) + 5 * b + 1 + 5 = 5 * b + 246 from by omega, show 240 * (1 : Int) + 5 * b + 2 + 5 = 5 * b + 247 from by omega]) | (right; left; refine ⟨by unfold tornF; omega, by omega, ?_⟩; simp only [putM_eq, upR_eq, upR_upR, up2_def, up1_self]) | (right; right; refine ⟨by unfold tornF; omega, by omega, ?_⟩; rw [← e_bs]; unfold takF; simp only [putM_eq, upR_eq, upR_upR, up2_def, up1_self]; simp only [show 240 * bs + 5 * b + 0 + 5 = 240 * bs + 5 * b + 5 from by omega, show 240 * bs + 5 * b + 1 + 5 = 240 * bs + 5 * b + 6 from by omega, show 240 * bs + 5 * b + 2 + 5 = 240 * bs + 5 * b + 7 from by omega])) (by rw [sumZ_succ _ i0.1, ← i2]; unfold swR; rw [← hX]; unfold tornF; split <;> omega) (by omega) _ _ hP hS ls (lv_sub hl [0, 4, 5] rfl)
  exact hloop4 ((48 - 0 : Int) + 1).toNat 0 0 S (by omega) (by exact (upR_self S 0).symm) (by rfl) (by omega) _ _ hP hS ls (lv_sub hl [0, 1, 2] rfl)
theorem in_X4_sweep : ∀ w ∈ wsX40, w ∈ wsX4_sweep := fun w h => List.mem_cons_of_mem _ (List.mem_append_right _ h)
set_option maxHeartbeats 4000000 in
set_option maxRecDepth 100000 in
theorem k_X4_sweep (l : Launch) (dC : Nat → ClassId) (dI : Nat → Nat → Nat) (cI cQ : ClassId) (A : Nat → Prop) (ad : Nat → Nat) (S : Nat → Int → Int) (hD : ∀ S, va_D A (tW_X4 ad cI S)) (hA : WFA (S 0)) (h : 0 ≤ S 2 0 ∧ S 2 0 ≤ 5) (h7 : S 7 0 = 0 ∨ S 7 0 = 1) (hall : ∀ b : Int, 0 ≤ b → b ≤ 48 → WFA (ixZ swF b (S 0))) (hcp : 0 ≤ copF (S 0) 3 ∧ copF (S 0) 3 ≤ 1000) : Met l yX4_sweep wsX4_sweep ({ frames := 4, cells := 0, slots := 0, locals := 91 }) (zPc (dC, dI) vwCl (zT cI cQ) (tW_X4 ad cI S) [.ref (ad 0)]) (zQi (dC, dI) vwCl (tW_X4 ad cI (sweepM S)) (sweepR S) A) 0 0 A := by
  refine Met.ofW (cc := cX4_sweep) (maxL := 1) (ret := (some .int)) (by decide) rfl ?_
  intro p e s m args below meth c s₁ B hml hv
  obtain ⟨rfl, hP, hK⟩ := hv
  have hx := B.exec
  have hb := B.bytes
  have hr := B.returns
  have hts := atoms_spec (ws := wsX4_sweep) B.pre
  have hown : s.vm.findClass RX4 = some m.cls := findClass_of_methodNamed B.named
  have hlk := B.notSynchronized
  have hS : va_S A s.heap s.heap [] := va_S.rf
  have hl := lv_entry ([.ref (ad 0)]) (n := 1) (Nat.le_of_ble_eq_true rfl)
  rw [lg_entry_eq]
  generalize (lg_sl ([.ref (ad 0)]) ++ List.replicate (1 - (lg_sl ([.ref (ad 0)])).length) Slot.unset).toArray = ls at hl ⊢
  have hl : lv_has ls 1 [(0, .ref (ad 0))] := hl
  have hin : ∀ w ∈ wsX40, w ∈ wsX4_sweep := in_X4_sweep
  obtain ⟨hB0, hA0, hA1, hA2⟩ := id hA
  have hB : ∀ (k : Nat) (j : Int), 0 ≤ j → j < 965 → j ≠ 3 → j ≠ 4 → -1000000 ≤ S 0 j ∧ S 0 j ≤ 1000000 := fun _ j => hB0 j
  refine lv_aload_n hx hb dX4_sweep_0 rfl (lv_at hl 0 rfl) ?_
  refine z_iconst hx hb dX4_sweep_1 ?_
  refine z_calli (va_runV (As := [.int (zI 0)]) (rest := []) ⟨hx, hb, hml, hown, hts⟩ (k_X4_inState l dC dI cI cQ A ad S hD 0 (by exact hA) (by omega)) (cwV 1 hts gX4_sweep_X4_inState rfl rfl rfl (by decide +kernel) ⟨Nat.le_of_ble_eq_true rfl, Nat.le_of_ble_eq_true rfl⟩) (z_preV hK hP (ci := 4) (q0 := 0) rfl rfl rfl) rfl rfl hl.1 rfl (lv_room (Nat.le_of_ble_eq_true rfl)) dX4_sweep_2 ⟨Nat.zero_le _, Nat.zero_le _⟩) hS (fun _ h => h) (fun H locs hP hS _ _ => ?_)
  refine z_top (y := (inStF (S 0) 0)) (by exact congrArg (fun q : Int → Int => (inStF q 0)) (rfl)) ?_
  have ib := inSt_rng (A := S 0) hA2.1 0
  refine z_if_gt (tgt := 31) hx hb dX4_sweep_5 (by decide) (by omega) (fun c1 => ?_) (fun c1 => ?_)
  · refine z_bipush (z := (-2)) hx hb dX4_sweep_31 (by decide +kernel) ?_
    exact z_iret hx hb hr hlk hP hS dX4_sweep_33 (by unfold sweepR; first | rw [if_pos (by omega)] | rw [if_neg (by omega)]) (congrArg (tW_X4 ad cI) (by unfold sweepM; first | rw [if_pos (by omega)] | (rw [if_neg (by omega)]; unfold sweepsM; rw [savesM_0])))
  · refine lv_aload_n hx hb dX4_sweep_8 rfl (lv_at hl 0 rfl) ?_
    refine z_iconst hx hb dX4_sweep_9 ?_
    refine z_calli (va_runV (As := [.int (zI 3)]) (rest := []) ⟨hx, hb, hml, hown, hts⟩ (k_X4_copiesThat l dC dI cI cQ A ad S hD 3 (by omega)) (cwV 1 hts gX4_sweep_X4_copiesThat rfl rfl rfl (by decide +kernel) ⟨Nat.le_of_ble_eq_true rfl, Nat.le_of_ble_eq_true rfl⟩) (z_preV hK hP (ci := 4) (q0 := 0) rfl rfl rfl) rfl rfl hl.1 rfl (lv_room (Nat.le_of_ble_eq_true rfl)) dX4_sweep_10 ⟨Nat.zero_le _, Nat.zero_le _⟩) hS (fun _ h => h) (fun H locs hP hS _ _ => ?_)
    refine z_top (y := (copF (S 0) 3)) (by exact congrArg (fun q : Int → Int => (copF q 3)) (rfl)) ?_
    refine z_if_gt (tgt := 31) hx hb dX4_sweep_13 (by decide) (by omega) (fun c2 => ?_) (fun c2 => ?_)
    · refine z_bipush (z := (-2)) hx hb dX4_sweep_31 (by decide +kernel) ?_
      exact z_iret hx hb hr hlk hP hS dX4_sweep_33 (by unfold sweepR; first | rw [if_pos (by omega)] | rw [if_neg (by omega)]) (congrArg (tW_X4 ad cI) (by unfold sweepM; first | rw [if_pos (by omega)] | (rw [if_neg (by omega)]; unfold sweepsM; rw [savesM_0])))
    · refine lv_aload_n hx hb dX4_sweep_16 rfl (lv_at hl 0 rfl) ?_
      refine gx_X4_0 hx hb hts hin hown hK hP (hts _ (List.mem_of_getElem? (i := 1) rfl)) dX4_sweep_17 ?_
      refine z_iconst hx hb dX4_sweep_20 ?_
      refine ld_X4_0 (v := S 0 0) hx hb hK hP (by omega) rfl dX4_sweep_21 ?_
      have b1 := hB 0 0 (by omega) (by omega) (by omega) (by omega)
      refine z_bipush (z := 48) hx hb dX4_sweep_22 (by decide +kernel) ?_
      refine z_iadd hx hb dX4_sweep_24 ?_
      refine z_top (y := S 0 0 + 48) (by omega) ?_
      refine z_sipush (z := 20000) hx hb dX4_sweep_25 (by decide +kernel) ?_
      refine z_icmp_le (tgt := 34) hx hb dX4_sweep_28 (by decide) (by omega) (by omega) (fun c3 => ?_) (fun c3 => ?_)
      · refine lv_aload_n hx hb dX4_sweep_34 rfl (lv_at hl 0 rfl) ?_
        refine z_callv (va_runV (As := []) (rest := []) ⟨hx, hb, hml, hown, hts⟩ (k_X4_saves l dC dI cI cQ A ad S hD (by exact h) (by exact h7)) (cwV 0 hts gX4_sweep_X4_saves rfl rfl rfl (by decide +kernel) ⟨Nat.le_of_ble_eq_true rfl, Nat.le_of_ble_eq_true rfl⟩) (z_preV hK hP (ci := 4) (q0 := 0) rfl rfl rfl) rfl rfl hl.1 rfl (lv_room (Nat.le_of_ble_eq_true rfl)) dX4_sweep_35 ⟨Nat.zero_le _, Nat.zero_le _⟩) hS (fun _ h => h) (fun H locs hP hS _ _ => ?_)
        refine lv_aload_n hx hb dX4_sweep_38 rfl (lv_at hl 0 rfl) ?_
        refine z_calli (va_runV (As := []) (rest := []) ⟨hx, hb, hml, hown, hts⟩ (k_X4_sweeps l dC dI cI cQ A ad (savesM S) hD (by rw [savesM_0]; exact hA) (by rw [savesM_0]; exact hall)) (cwV 0 hts gX4_sweep_X4_sweeps rfl rfl rfl (by decide +kernel) ⟨Nat.le_of_ble_eq_true rfl, Nat.le_of_ble_eq_true rfl⟩) (z_preV hK hP (ci := 4) (q0 := 0) rfl rfl rfl) rfl rfl hl.1 rfl (lv_room (Nat.le_of_ble_eq_true rfl)) dX4_sweep_39 ⟨Nat.zero_le _, Nat.zero_le _⟩) hS (fun _ h => h) (fun H locs hP hS _ _ => ?_)
        refine z_top (y := (sweepsR (S 0))) (by exact congrArg (fun q : Int → Int => sweepsR q) (savesM_0 S)) ?_
        exact z_iret hx hb hr hlk hP hS dX4_sweep_42 (by unfold sweepR; first | rw [if_pos (by omega)] | rw [if_neg (by omega)]) (congrArg (tW_X4 ad cI) (by unfold sweepM; first | rw [if_pos (by omega)] | (rw [if_neg (by omega)]; unfold sweepsM; rw [savesM_0])))
      · refine z_bipush (z := (-2)) hx hb dX4_sweep_31 (by decide +kernel) ?_
        exact z_iret hx hb hr hlk hP hS dX4_sweep_33 (by unfold sweepR; first | rw [if_pos (by omega)] | rw [if_neg (by omega)]) (congrArg (tW_X4 ad cI) (by unfold sweepM; first | rw [if_pos (by omega)] | (rw [if_neg (by omega)]; unfold sweepsM; rw [savesM_0])))
theorem in_X4_isOrder : ∀ w ∈ wsX40, w ∈ wsX4_isOrder := fun w h => List.mem_cons_of_mem _ (List.mem_append_right _ h)
set_option maxHeartbeats 4000000 in
set_option maxRecDepth 100000 in
theorem k_X4_isOrder (l : Launch) (dC : Nat → ClassId) (dI : Nat → Nat → Nat) (cI cQ : ClassId) (A : Nat → Prop) (ad : Nat → Nat) (S : Nat → Int → Int) (hD : ∀ S, va_D A (tW_X4 ad cI S)) (o : Int) (hA : WFA (S 0)) (q0 : -2147483648 ≤ o ∧ o < 2147483648) : Met l yX4_isOrder wsX4_isOrder ({ frames := 1, cells := 0, slots := 0, locals := 22 }) (zPc (dC, dI) vwCl (zT cI cQ) (tW_X4 ad cI S) [.ref (ad 0), .int (zI o)]) (zQi (dC, dI) vwCl (tW_X4 ad cI S) (if 0 ≤ o ∧ o ≤ S 0 2 - 1 then 1 else 0) A) 0 0 A := by
  refine Met.ofW (cc := cX4_isOrder) (maxL := 2) (ret := (some .boolean)) (by decide) rfl ?_
  intro p e s m args below meth c s₁ B hml hv
  obtain ⟨rfl, hP, hK⟩ := hv
  have hx := B.exec
  have hb := B.bytes
  have hr := B.returns
  have hts := atoms_spec (ws := wsX4_isOrder) B.pre
  have hown : s.vm.findClass RX4 = some m.cls := findClass_of_methodNamed B.named
  have hlk := B.notSynchronized
  have hS : va_S A s.heap s.heap [] := va_S.rf
  have hl := lv_entry ([.ref (ad 0), .int (zI o)]) (n := 2) (Nat.le_of_ble_eq_true rfl)
  rw [lg_entry_eq]
  generalize (lg_sl ([.ref (ad 0), .int (zI o)]) ++ List.replicate (2 - (lg_sl ([.ref (ad 0), .int (zI o)])).length) Slot.unset).toArray = ls at hl ⊢
  have hl : lv_has ls 2 [(0, .ref (ad 0)), (1, .int (zI o))] := hl
  have hin : ∀ w ∈ wsX40, w ∈ wsX4_isOrder := in_X4_isOrder
  obtain ⟨hB0, hA0, hA1, hA2⟩ := id hA
  have hB : ∀ (k : Nat) (j : Int), 0 ≤ j → j < 965 → j ≠ 3 → j ≠ 4 → -1000000 ≤ S 0 j ∧ S 0 j ≤ 1000000 := fun _ j => hB0 j
  refine lv_iload_n hx hb dX4_isOrder_0 rfl (lv_at hl 1 rfl) ?_
  refine z_iconst hx hb dX4_isOrder_1 ?_
  refine lv_aload_n hx hb dX4_isOrder_2 rfl (lv_at hl 0 rfl) ?_
  refine gx_X4_0 hx hb hts hin hown hK hP (hts _ (List.mem_of_getElem? (i := 1) rfl)) dX4_isOrder_3 ?_
  refine z_iconst hx hb dX4_isOrder_6 ?_
  refine ld_X4_0 (v := S 0 2) hx hb hK hP (by omega) rfl dX4_isOrder_7 ?_
  have b1 := hB 0 2 (by omega) (by omega) (by omega) (by omega)
  refine z_iconst hx hb dX4_isOrder_8 ?_
  refine z_isub hx hb dX4_isOrder_9 ?_
  refine z_top (y := S 0 2 - 1) (by omega) ?_
  refine z_calli (va_runS (As := [.int (zI o), .int (zI 0), .int (zI (S 0 2 - 1))]) (rest := []) ⟨hx, hb, hml, hown, hts⟩ (k_X4_within l dC dI cI cQ A (tW_X4 ad cI S) o 0 (S 0 2 - 1) (by omega) (by omega) (by omega)) (va_cwS 3 hts gX4_isOrder_X4_within rfl rfl rfl (by decide +kernel) ⟨Nat.le_of_ble_eq_true rfl, Nat.le_of_ble_eq_true rfl⟩) (z_preS hK hP) rfl rfl hl.1 rfl (lv_room (Nat.le_of_ble_eq_true rfl)) dX4_isOrder_10 ⟨Nat.zero_le _, Nat.zero_le _⟩) hS (fun _ h => h) (fun H locs hP hS _ _ => ?_)
  exact z_zret hx hb hr hlk hP hS dX4_isOrder_13 (by split <;> simp) (by (repeat' split) <;> omega) rfl
theorem in_X4_waitOf : ∀ w ∈ wsX40, w ∈ wsX4_waitOf := fun w h => List.mem_cons_of_mem _ (List.mem_append_right _ h)
set_option maxHeartbeats 4000000 in
set_option maxRecDepth 100000 in
theorem k_X4_waitOf (l : Launch) (dC : Nat → ClassId) (dI : Nat → Nat → Nat) (cI cQ : ClassId) (A : Nat → Prop) (ad : Nat → Nat) (S : Nat → Int → Int) (hD : ∀ S, va_D A (tW_X4 ad cI S)) (o : Int) (h : 0 ≤ o ∧ o < 60) : Met l yX4_waitOf wsX4_waitOf ({ frames := 1, cells := 0, slots := 0, locals := 22 }) (zPc (dC, dI) vwCl (zT cI cQ) (tW_X4 ad cI S) [.ref (ad 0), .int (zI o)]) (zQi (dC, dI) vwCl (tW_X4 ad cI S) (S 0 (8 * o + 490) - S 0 (8 * o + 489)) A) 0 0 A := by
  refine Met.ofW (cc := cX4_waitOf) (maxL := 2) (ret := (some .int)) (by decide) rfl ?_
  intro p e s m args below meth c s₁ B hml hv
  obtain ⟨rfl, hP, hK⟩ := hv
  have hx := B.exec
  have hb := B.bytes
  have hr := B.returns
  have hts := atoms_spec (ws := wsX4_waitOf) B.pre
  have hown : s.vm.findClass RX4 = some m.cls := findClass_of_methodNamed B.named
  have hlk := B.notSynchronized
  have hS : va_S A s.heap s.heap [] := va_S.rf
  have hl := lv_entry ([.ref (ad 0), .int (zI o)]) (n := 2) (Nat.le_of_ble_eq_true rfl)
  rw [lg_entry_eq]
  generalize (lg_sl ([.ref (ad 0), .int (zI o)]) ++ List.replicate (2 - (lg_sl ([.ref (ad 0), .int (zI o)])).length) Slot.unset).toArray = ls at hl ⊢
  have hl : lv_has ls 2 [(0, .ref (ad 0)), (1, .int (zI o))] := hl
  have hin : ∀ w ∈ wsX40, w ∈ wsX4_waitOf := in_X4_waitOf
  refine lv_aload_n hx hb dX4_waitOf_0 rfl (lv_at hl 0 rfl) ?_
  refine lv_iload_n hx hb dX4_waitOf_1 rfl (lv_at hl 1 rfl) ?_
  refine z_iconst hx hb dX4_waitOf_2 ?_
  refine z_calli (va_runV (As := [.int (zI o), .int (zI 5)]) (rest := []) ⟨hx, hb, hml, hown, hts⟩ (k_X4_told l dC dI cI cQ A ad S hD o 5 (by omega)) (cwV 2 hts gX4_waitOf_X4_told rfl rfl rfl (by decide +kernel) ⟨Nat.le_of_ble_eq_true rfl, Nat.le_of_ble_eq_true rfl⟩) (z_preV hK hP (ci := 4) (q0 := 0) rfl rfl rfl) rfl rfl hl.1 rfl (lv_room (Nat.le_of_ble_eq_true rfl)) dX4_waitOf_3 ⟨Nat.zero_le _, Nat.zero_le _⟩) hS (fun _ h => h) (fun H locs hP hS _ _ => ?_)
  refine z_top (y := S 0 (8 * o + 490)) (by rw [show (8 * o + 5 + 485) = (8 * o + 490 : Int) from by omega]; first | done | exact rfl) ?_
  refine lv_aload_n hx hb dX4_waitOf_6 rfl (lv_at hl 0 rfl) ?_
  refine lv_iload_n hx hb dX4_waitOf_7 rfl (lv_at hl 1 rfl) ?_
  refine z_iconst hx hb dX4_waitOf_8 ?_
  refine z_calli (va_runV (As := [.int (zI o), .int (zI 4)]) (rest := [.int (zI (S 0 (8 * o + 490)))]) ⟨hx, hb, hml, hown, hts⟩ (k_X4_told l dC dI cI cQ A ad S hD o 4 (by omega)) (cwV 2 hts gX4_waitOf_X4_told rfl rfl rfl (by decide +kernel) ⟨Nat.le_of_ble_eq_true rfl, Nat.le_of_ble_eq_true rfl⟩) (z_preV hK hP (ci := 4) (q0 := 0) rfl rfl rfl) rfl rfl hl.1 rfl (lv_room (Nat.le_of_ble_eq_true rfl)) dX4_waitOf_9 ⟨Nat.zero_le _, Nat.zero_le _⟩) hS (fun _ h => h) (fun H locs hP hS _ _ => ?_)
  refine z_top (y := S 0 (8 * o + 489)) (by rw [show (8 * o + 4 + 485) = (8 * o + 489 : Int) from by omega]; first | done | exact rfl) ?_
  refine z_isub hx hb dX4_waitOf_12 ?_
  refine z_top (y := S 0 (8 * o + 490) - S 0 (8 * o + 489)) (by omega) ?_
  exact z_iret hx hb hr hlk hP hS dX4_waitOf_13 rfl rfl
theorem in_X4_ticksTo : ∀ w ∈ wsX40, w ∈ wsX4_ticksTo := fun w h => List.mem_cons_of_mem _ (List.mem_append_right _ h)
set_option maxHeartbeats 4000000 in
set_option maxRecDepth 100000 in
theorem k_X4_ticksTo (l : Launch) (dC : Nat → ClassId) (dI : Nat → Nat → Nat) (cI cQ : ClassId) (A : Nat → Prop) (ad : Nat → Nat) (S : Nat → Int → Int) (hD : ∀ S, va_D A (tW_X4 ad cI S)) (side se : Int) (hA : WFA (S 0)) (hs : 0 ≤ side ∧ side ≤ 1) (h2 : 0 ≤ se ∧ se < 12) : Met l yX4_ticksTo wsX4_ticksTo ({ frames := 1, cells := 0, slots := 0, locals := 21 }) (zPc (dC, dI) vwCl (zT cI cQ) (tW_X4 ad cI S) [.ref (ad 0), .int (zI side), .int (zI se)]) (zQi (dC, dI) vwCl (tW_X4 ad cI S) ((se - (S 0 0 + 6 * side) % 12 + 12) % 12) A) 0 0 A := by
  refine Met.ofW (cc := cX4_ticksTo) (maxL := 3) (ret := (some .int)) (by decide) rfl ?_
  intro p e s m args below meth c s₁ B hml hv
  obtain ⟨rfl, hP, hK⟩ := hv
  have hx := B.exec
  have hb := B.bytes
  have hr := B.returns
  have hts := atoms_spec (ws := wsX4_ticksTo) B.pre
  have hown : s.vm.findClass RX4 = some m.cls := findClass_of_methodNamed B.named
  have hlk := B.notSynchronized
  have hS : va_S A s.heap s.heap [] := va_S.rf
  have hl := lv_entry ([.ref (ad 0), .int (zI side), .int (zI se)]) (n := 3) (Nat.le_of_ble_eq_true rfl)
  rw [lg_entry_eq]
  generalize (lg_sl ([.ref (ad 0), .int (zI side), .int (zI se)]) ++ List.replicate (3 - (lg_sl ([.ref (ad 0), .int (zI side), .int (zI se)])).length) Slot.unset).toArray = ls at hl ⊢
  have hl : lv_has ls 3 [(0, .ref (ad 0)), (1, .int (zI side)), (2, .int (zI se))] := hl
  have hin : ∀ w ∈ wsX40, w ∈ wsX4_ticksTo := in_X4_ticksTo
  refine lv_iload_n hx hb dX4_ticksTo_0 rfl (lv_at hl 2 rfl) ?_
  refine lv_aload_n hx hb dX4_ticksTo_1 rfl (lv_at hl 0 rfl) ?_
  refine lv_iload_n hx hb dX4_ticksTo_2 rfl (lv_at hl 1 rfl) ?_
  refine z_calli (va_runV (As := [.int (zI side)]) (rest := [.int (zI se)]) ⟨hx, hb, hml, hown, hts⟩ (k_X4_sectorUnder l dC dI cI cQ A ad S hD side (by exact hA) (by omega)) (cwV 1 hts gX4_ticksTo_X4_sectorUnder rfl rfl rfl (by decide +kernel) ⟨Nat.le_of_ble_eq_true rfl, Nat.le_of_ble_eq_true rfl⟩) (z_preV hK hP (ci := 4) (q0 := 0) rfl rfl rfl) rfl rfl hl.1 rfl (lv_room (Nat.le_of_ble_eq_true rfl)) dX4_ticksTo_3 ⟨Nat.zero_le _, Nat.zero_le _⟩) hS (fun _ h => h) (fun H locs hP hS _ _ => ?_)
  refine z_top (y := ((S 0 0 + 6 * side) % 12)) (rfl) ?_
  refine z_isub hx hb dX4_ticksTo_6 ?_
  refine z_bipush (z := 12) hx hb dX4_ticksTo_7 (by decide +kernel) ?_
  refine z_iadd hx hb dX4_ticksTo_9 ?_
  refine z_top (y := se - ((S 0 0 + 6 * side) % 12) + 12) (by omega) ?_
  refine z_bipush (z := 12) hx hb dX4_ticksTo_10 (by decide +kernel) ?_
  refine z_irem hx hb dX4_ticksTo_12 (by omega) (by omega) ?_
  exact z_iret hx hb hr hlk hP hS dX4_ticksTo_13 (by omega) rfl
theorem in_X4_order : ∀ w ∈ wsX40, w ∈ wsX4_order := fun w h => List.mem_cons_of_mem _ (List.mem_append_right _ h)
set_option maxHeartbeats 4000000 in
set_option maxRecDepth 100000 in
theorem k_X4_order (l : Launch) (dC : Nat → ClassId) (dI : Nat → Nat → Nat) (cI cQ : ClassId) (A : Nat → Prop) (ad : Nat → Nat) (S : Nat → Int → Int) (hD : ∀ S, va_D A (tW_X4 ad cI S)) (o wh : Int) (hA : WFA (S 0)) (q0 : -2147483648 ≤ o ∧ o < 2147483648) (q1 : -2147483648 ≤ wh ∧ wh < 2147483648) : Met l yX4_order wsX4_order ({ frames := 2, cells := 0, slots := 0, locals := 43 }) (zPc (dC, dI) vwCl (zT cI cQ) (tW_X4 ad cI S) [.ref (ad 0), .int (zI o), .int (zI wh)]) (zQi (dC, dI) vwCl (tW_X4 ad cI S) (if (0 ≤ o ∧ o ≤ S 0 2 - 1) ∧ 0 ≤ wh ∧ wh ≤ 7 then S 0 (8 * o + wh + 485) else -1) A) 0 0 A := by
  refine Met.ofW (cc := cX4_order) (maxL := 3) (ret := (some .int)) (by decide) rfl ?_
  intro p e s m args below meth c s₁ B hml hv
  obtain ⟨rfl, hP, hK⟩ := hv
  have hx := B.exec
  have hb := B.bytes
  have hr := B.returns
  have hts := atoms_spec (ws := wsX4_order) B.pre
  have hown : s.vm.findClass RX4 = some m.cls := findClass_of_methodNamed B.named
  have hlk := B.notSynchronized
  have hS : va_S A s.heap s.heap [] := va_S.rf
  have hl := lv_entry ([.ref (ad 0), .int (zI o), .int (zI wh)]) (n := 3) (Nat.le_of_ble_eq_true rfl)
  rw [lg_entry_eq]
  generalize (lg_sl ([.ref (ad 0), .int (zI o), .int (zI wh)]) ++ List.replicate (3 - (lg_sl ([.ref (ad 0), .int (zI o), .int (zI wh)])).length) Slot.unset).toArray = ls at hl ⊢
  have hl : lv_has ls 3 [(0, .ref (ad 0)), (1, .int (zI o)), (2, .int (zI wh))] := hl
  have hin : ∀ w ∈ wsX40, w ∈ wsX4_order := in_X4_order
  obtain ⟨hB0, hA0, hA1, hA2⟩ := id hA
  have hB : ∀ (k : Nat) (j : Int), 0 ≤ j → j < 965 → j ≠ 3 → j ≠ 4 → -1000000 ≤ S 0 j ∧ S 0 j ≤ 1000000 := fun _ j => hB0 j
  refine lv_aload_n hx hb dX4_order_0 rfl (lv_at hl 0 rfl) ?_
  refine lv_iload_n hx hb dX4_order_1 rfl (lv_at hl 1 rfl) ?_
  refine z_calli (va_runV (As := [.int (zI o)]) (rest := []) ⟨hx, hb, hml, hown, hts⟩ (k_X4_isOrder l dC dI cI cQ A ad S hD o (by exact hA) (by omega)) (cwV 1 hts gX4_order_X4_isOrder rfl rfl rfl (by decide +kernel) ⟨Nat.le_of_ble_eq_true rfl, Nat.le_of_ble_eq_true rfl⟩) (z_preV hK hP (ci := 4) (q0 := 0) rfl rfl rfl) rfl rfl hl.1 rfl (lv_room (Nat.le_of_ble_eq_true rfl)) dX4_order_2 ⟨Nat.zero_le _, Nat.zero_le _⟩) hS (fun _ h => h) (fun H locs hP hS _ _ => ?_)
  refine z_ifb_eq (tgt := 27) hx hb dX4_order_5 (by decide) (fun c1 => ?_) (fun c1 => ?_)
  · refine z_iconst hx hb dX4_order_27 ?_
    exact z_iret hx hb hr hlk hP hS dX4_order_28 (by first | rw [if_pos (by omega)] | rw [if_neg (by omega)]) rfl
  · refine lv_iload_n hx hb dX4_order_8 rfl (lv_at hl 2 rfl) ?_
    refine z_iconst hx hb dX4_order_9 ?_
    refine z_bipush (z := 7) hx hb dX4_order_10 (by decide +kernel) ?_
    refine z_calli (va_runS (As := [.int (zI wh), .int (zI 0), .int (zI 7)]) (rest := []) ⟨hx, hb, hml, hown, hts⟩ (k_X4_within l dC dI cI cQ A (tW_X4 ad cI S) wh 0 7 (by omega) (by omega) (by omega)) (va_cwS 3 hts gX4_order_X4_within rfl rfl rfl (by decide +kernel) ⟨Nat.le_of_ble_eq_true rfl, Nat.le_of_ble_eq_true rfl⟩) (z_preS hK hP) rfl rfl hl.1 rfl (lv_room (Nat.le_of_ble_eq_true rfl)) dX4_order_12 ⟨Nat.zero_le _, Nat.zero_le _⟩) hS (fun _ h => h) (fun H locs hP hS _ _ => ?_)
    refine z_ifb_eq (tgt := 27) hx hb dX4_order_15 (by decide) (fun c2 => ?_) (fun c2 => ?_)
    · refine z_iconst hx hb dX4_order_27 ?_
      exact z_iret hx hb hr hlk hP hS dX4_order_28 (by first | rw [if_pos (by omega)] | rw [if_neg (by omega)]) rfl
    · refine lv_aload_n hx hb dX4_order_18 rfl (lv_at hl 0 rfl) ?_
      refine lv_iload_n hx hb dX4_order_19 rfl (lv_at hl 1 rfl) ?_
      refine lv_iload_n hx hb dX4_order_20 rfl (lv_at hl 2 rfl) ?_
      refine z_calli (va_runV (As := [.int (zI o), .int (zI wh)]) (rest := []) ⟨hx, hb, hml, hown, hts⟩ (k_X4_told l dC dI cI cQ A ad S hD o wh (by omega)) (cwV 2 hts gX4_order_X4_told rfl rfl rfl (by decide +kernel) ⟨Nat.le_of_ble_eq_true rfl, Nat.le_of_ble_eq_true rfl⟩) (z_preV hK hP (ci := 4) (q0 := 0) rfl rfl rfl) rfl rfl hl.1 rfl (lv_room (Nat.le_of_ble_eq_true rfl)) dX4_order_21 ⟨Nat.zero_le _, Nat.zero_le _⟩) hS (fun _ h => h) (fun H locs hP hS _ _ => ?_)
      have b1 := hB 0 (8 * o + wh + 485) (by omega) (by omega) (by omega) (by omega)
      refine lv_goto (tgt := 28) hx hb dX4_order_24 (by decide) ?_
      exact z_iret hx hb hr hlk hP hS dX4_order_28 (by first | rw [if_pos (by omega)] | rw [if_neg (by omega)]) rfl
theorem in_X4_copy : ∀ w ∈ wsX40, w ∈ wsX4_copy := fun w h => List.mem_cons_of_mem _ (List.mem_append_right _ h)
set_option maxHeartbeats 4000000 in
set_option maxRecDepth 100000 in
theorem k_X4_copy (l : Launch) (dC : Nat → ClassId) (dI : Nat → Nat → Nat) (cI cQ : ClassId) (A : Nat → Prop) (ad : Nat → Nat) (S : Nat → Int → Int) (hD : ∀ S, va_D A (tW_X4 ad cI S)) (side tr se wh : Int) (hA : WFA (S 0)) (q0 : -2147483648 ≤ side ∧ side < 2147483648) (q1 : -2147483648 ≤ tr ∧ tr < 2147483648) (q2 : -2147483648 ≤ se ∧ se < 2147483648) (q3 : -2147483648 ≤ wh ∧ wh < 2147483648) : Met l yX4_copy wsX4_copy ({ frames := 2, cells := 0, slots := 0, locals := 43 }) (zPc (dC, dI) vwCl (zT cI cQ) (tW_X4 ad cI S) [.ref (ad 0), .int (zI side), .int (zI tr), .int (zI se), .int (zI wh)]) (zQi (dC, dI) vwCl (tW_X4 ad cI S) (if (0 ≤ side ∧ side ≤ 1) ∧ ((0 ≤ tr ∧ tr ≤ 3) ∧ 0 ≤ se ∧ se ≤ 11) ∧ 0 ≤ wh ∧ wh ≤ 3 then S 0 (240 * side + 60 * tr + 5 * se + wh + 5) else -1) A) 0 0 A := by
  refine Met.ofW (cc := cX4_copy) (maxL := 5) (ret := (some .int)) (by decide) rfl ?_
  intro p e s m args below meth c s₁ B hml hv
  obtain ⟨rfl, hP, hK⟩ := hv
  have hx := B.exec
  have hb := B.bytes
  have hr := B.returns
  have hts := atoms_spec (ws := wsX4_copy) B.pre
  have hown : s.vm.findClass RX4 = some m.cls := findClass_of_methodNamed B.named
  have hlk := B.notSynchronized
  have hS : va_S A s.heap s.heap [] := va_S.rf
  have hl := lv_entry ([.ref (ad 0), .int (zI side), .int (zI tr), .int (zI se), .int (zI wh)]) (n := 5) (Nat.le_of_ble_eq_true rfl)
  rw [lg_entry_eq]
  generalize (lg_sl ([.ref (ad 0), .int (zI side), .int (zI tr), .int (zI se), .int (zI wh)]) ++ List.replicate (5 - (lg_sl ([.ref (ad 0), .int (zI side), .int (zI tr), .int (zI se), .int (zI wh)])).length) Slot.unset).toArray = ls at hl ⊢
  have hl : lv_has ls 5 [(0, .ref (ad 0)), (1, .int (zI side)), (2, .int (zI tr)), (3, .int (zI se)), (4, .int (zI wh))] := hl
  have hin : ∀ w ∈ wsX40, w ∈ wsX4_copy := in_X4_copy
  obtain ⟨hB0, hA0, hA1, hA2⟩ := id hA
  have hB : ∀ (k : Nat) (j : Int), 0 ≤ j → j < 965 → j ≠ 3 → j ≠ 4 → -1000000 ≤ S 0 j ∧ S 0 j ≤ 1000000 := fun _ j => hB0 j
  refine lv_iload_n hx hb dX4_copy_0 rfl (lv_at hl 1 rfl) ?_
  refine z_iconst hx hb dX4_copy_1 ?_
  refine z_iconst hx hb dX4_copy_2 ?_
  refine z_calli (va_runS (As := [.int (zI side), .int (zI 0), .int (zI 1)]) (rest := []) ⟨hx, hb, hml, hown, hts⟩ (k_X4_within l dC dI cI cQ A (tW_X4 ad cI S) side 0 1 (by omega) (by omega) (by omega)) (va_cwS 3 hts gX4_copy_X4_within rfl rfl rfl (by decide +kernel) ⟨Nat.le_of_ble_eq_true rfl, Nat.le_of_ble_eq_true rfl⟩) (z_preS hK hP) rfl rfl hl.1 rfl (lv_room (Nat.le_of_ble_eq_true rfl)) dX4_copy_3 ⟨Nat.zero_le _, Nat.zero_le _⟩) hS (fun _ h => h) (fun H locs hP hS _ _ => ?_)
  refine z_ifb_eq (tgt := 27) hx hb dX4_copy_6 (by decide) (fun c1 => ?_) (fun c1 => ?_)
  · refine z_iconst hx hb dX4_copy_27 ?_
    exact z_iret hx hb hr hlk hP hS dX4_copy_28 (by first | rw [if_pos (by omega)] | rw [if_neg (by omega)]) rfl
  · refine lv_iload_n hx hb dX4_copy_9 rfl (lv_at hl 2 rfl) ?_
    refine lv_iload_n hx hb dX4_copy_10 rfl (lv_at hl 3 rfl) ?_
    refine z_calli (va_runS (As := [.int (zI tr), .int (zI se)]) (rest := []) ⟨hx, hb, hml, hown, hts⟩ (k_X4_isBlock l dC dI cI cQ A (tW_X4 ad cI S) tr se (by omega) (by omega)) (va_cwS 2 hts gX4_copy_X4_isBlock rfl rfl rfl (by decide +kernel) ⟨Nat.le_of_ble_eq_true rfl, Nat.le_of_ble_eq_true rfl⟩) (z_preS hK hP) rfl rfl hl.1 rfl (lv_room (Nat.le_of_ble_eq_true rfl)) dX4_copy_11 ⟨Nat.zero_le _, Nat.zero_le _⟩) hS (fun _ h => h) (fun H locs hP hS _ _ => ?_)
    refine z_ifb_eq (tgt := 27) hx hb dX4_copy_14 (by decide) (fun c2 => ?_) (fun c2 => ?_)
    · refine z_iconst hx hb dX4_copy_27 ?_
      exact z_iret hx hb hr hlk hP hS dX4_copy_28 (by first | rw [if_pos (by omega)] | rw [if_neg (by omega)]) rfl
    · refine lv_iload hx hb dX4_copy_17 (lv_at hl 4 rfl) ?_
      refine z_iconst hx hb dX4_copy_19 ?_
      refine z_iconst hx hb dX4_copy_20 ?_
      refine z_calli (va_runS (As := [.int (zI wh), .int (zI 0), .int (zI 3)]) (rest := []) ⟨hx, hb, hml, hown, hts⟩ (k_X4_within l dC dI cI cQ A (tW_X4 ad cI S) wh 0 3 (by omega) (by omega) (by omega)) (va_cwS 3 hts gX4_copy_X4_within rfl rfl rfl (by decide +kernel) ⟨Nat.le_of_ble_eq_true rfl, Nat.le_of_ble_eq_true rfl⟩) (z_preS hK hP) rfl rfl hl.1 rfl (lv_room (Nat.le_of_ble_eq_true rfl)) dX4_copy_21 ⟨Nat.zero_le _, Nat.zero_le _⟩) hS (fun _ h => h) (fun H locs hP hS _ _ => ?_)
      refine z_ifb_ne (tgt := 29) hx hb dX4_copy_24 (by decide) (fun c3 => ?_) (fun c3 => ?_)
      · refine lv_aload_n hx hb dX4_copy_29 rfl (lv_at hl 0 rfl) ?_
        refine lv_iload_n hx hb dX4_copy_30 rfl (lv_at hl 1 rfl) ?_
        refine z_bipush (z := 12) hx hb dX4_copy_31 (by decide +kernel) ?_
        refine lv_iload_n hx hb dX4_copy_33 rfl (lv_at hl 2 rfl) ?_
        refine z_imul hx hb dX4_copy_34 ?_
        refine lv_iload_n hx hb dX4_copy_35 rfl (lv_at hl 3 rfl) ?_
        refine z_iadd hx hb dX4_copy_36 ?_
        refine z_top (y := 12 * tr + se) (by omega) ?_
        refine lv_iload hx hb dX4_copy_37 (lv_at hl 4 rfl) ?_
        refine z_calli (va_runV (As := [.int (zI side), .int (zI (12 * tr + se)), .int (zI wh)]) (rest := []) ⟨hx, hb, hml, hown, hts⟩ (k_X4_of l dC dI cI cQ A ad S hD side (12 * tr + se) wh (by omega)) (cwV 3 hts gX4_copy_X4_of rfl rfl rfl (by decide +kernel) ⟨Nat.le_of_ble_eq_true rfl, Nat.le_of_ble_eq_true rfl⟩) (z_preV hK hP (ci := 4) (q0 := 0) rfl rfl rfl) rfl rfl hl.1 rfl (lv_room (Nat.le_of_ble_eq_true rfl)) dX4_copy_39 ⟨Nat.zero_le _, Nat.zero_le _⟩) hS (fun _ h => h) (fun H locs hP hS _ _ => ?_)
        refine z_top (y := S 0 (240 * side + 60 * tr + 5 * se + wh + 5)) (by rw [show (240 * side + 5 * (12 * tr + se) + wh + 5) = (240 * side + 60 * tr + 5 * se + wh + 5 : Int) from by omega]; first | done | exact rfl) ?_
        have b1 := hB 0 (240 * side + 60 * tr + 5 * se + wh + 5) (by omega) (by omega) (by omega) (by omega)
        exact z_iret hx hb hr hlk hP hS dX4_copy_42 (by first | rw [if_pos (by omega)] | rw [if_neg (by omega)]) rfl
      · refine z_iconst hx hb dX4_copy_27 ?_
        exact z_iret hx hb hr hlk hP hS dX4_copy_28 (by first | rw [if_pos (by omega)] | rw [if_neg (by omega)]) rfl
theorem in_X4_nearer : ∀ w ∈ wsX40, w ∈ wsX4_nearer := fun w h => List.mem_cons_of_mem _ (List.mem_append_right _ h)
set_option maxHeartbeats 4000000 in
set_option maxRecDepth 100000 in
theorem k_X4_nearer (l : Launch) (dC : Nat → ClassId) (dI : Nat → Nat → Nat) (cI cQ : ClassId) (A : Nat → Prop) (ad : Nat → Nat) (S : Nat → Int → Int) (hD : ∀ S, va_D A (tW_X4 ad cI S)) (se wh : Int) (hA : WFA (S 0)) (q0 : -2147483648 ≤ se ∧ se < 2147483648) (q1 : -2147483648 ≤ wh ∧ wh < 2147483648) : Met l yX4_nearer wsX4_nearer ({ frames := 2, cells := 0, slots := 0, locals := 43 }) (zPc (dC, dI) vwCl (zT cI cQ) (tW_X4 ad cI S) [.ref (ad 0), .int (zI se), .int (zI wh)]) (zQi (dC, dI) vwCl (tW_X4 ad cI S) (nrrF ((se - (S 0 0 + 6 * 0) % 12 + 12) % 12) ((se - (S 0 0 + 6 * 1) % 12 + 12) % 12) se wh) A) 0 0 A := by
  refine Met.ofW (cc := cX4_nearer) (maxL := 5) (ret := (some .int)) (by decide) rfl ?_
  intro p e s m args below meth c s₁ B hml hv
  obtain ⟨rfl, hP, hK⟩ := hv
  have hx := B.exec
  have hb := B.bytes
  have hr := B.returns
  have hts := atoms_spec (ws := wsX4_nearer) B.pre
  have hown : s.vm.findClass RX4 = some m.cls := findClass_of_methodNamed B.named
  have hlk := B.notSynchronized
  have hS : va_S A s.heap s.heap [] := va_S.rf
  have hl := lv_entry ([.ref (ad 0), .int (zI se), .int (zI wh)]) (n := 5) (Nat.le_of_ble_eq_true rfl)
  rw [lg_entry_eq]
  generalize (lg_sl ([.ref (ad 0), .int (zI se), .int (zI wh)]) ++ List.replicate (5 - (lg_sl ([.ref (ad 0), .int (zI se), .int (zI wh)])).length) Slot.unset).toArray = ls at hl ⊢
  have hl : lv_has ls 5 [(0, .ref (ad 0)), (1, .int (zI se)), (2, .int (zI wh))] := hl
  have hin : ∀ w ∈ wsX40, w ∈ wsX4_nearer := in_X4_nearer
  obtain ⟨hB0, hA0, hA1, hA2⟩ := id hA
  have hB : ∀ (k : Nat) (j : Int), 0 ≤ j → j < 965 → j ≠ 3 → j ≠ 4 → -1000000 ≤ S 0 j ∧ S 0 j ≤ 1000000 := fun _ j => hB0 j
  refine lv_iload_n hx hb dX4_nearer_0 rfl (lv_at hl 1 rfl) ?_
  refine z_iconst hx hb dX4_nearer_1 ?_
  refine z_bipush (z := 11) hx hb dX4_nearer_2 (by decide +kernel) ?_
  refine z_calli (va_runS (As := [.int (zI se), .int (zI 0), .int (zI 11)]) (rest := []) ⟨hx, hb, hml, hown, hts⟩ (k_X4_within l dC dI cI cQ A (tW_X4 ad cI S) se 0 11 (by omega) (by omega) (by omega)) (va_cwS 3 hts gX4_nearer_X4_within rfl rfl rfl (by decide +kernel) ⟨Nat.le_of_ble_eq_true rfl, Nat.le_of_ble_eq_true rfl⟩) (z_preS hK hP) rfl rfl hl.1 rfl (lv_room (Nat.le_of_ble_eq_true rfl)) dX4_nearer_4 ⟨Nat.zero_le _, Nat.zero_le _⟩) hS (fun _ h => h) (fun H locs hP hS _ _ => ?_)
  refine z_ifb_eq (tgt := 19) hx hb dX4_nearer_7 (by decide) (fun c1 => ?_) (fun c1 => ?_)
  · refine z_iconst hx hb dX4_nearer_19 ?_
    exact z_iret hx hb hr hlk hP hS dX4_nearer_20 (by unfold nrrF; first | (rw [if_neg (by omega)]; done) | (rw [← e_ta, ← e_tb, if_pos (by omega)]; (repeat' split) <;> omega)) rfl
  · refine lv_iload_n hx hb dX4_nearer_10 rfl (lv_at hl 2 rfl) ?_
    refine z_iconst hx hb dX4_nearer_11 ?_
    refine z_iconst hx hb dX4_nearer_12 ?_
    refine z_calli (va_runS (As := [.int (zI wh), .int (zI 0), .int (zI 1)]) (rest := []) ⟨hx, hb, hml, hown, hts⟩ (k_X4_within l dC dI cI cQ A (tW_X4 ad cI S) wh 0 1 (by omega) (by omega) (by omega)) (va_cwS 3 hts gX4_nearer_X4_within rfl rfl rfl (by decide +kernel) ⟨Nat.le_of_ble_eq_true rfl, Nat.le_of_ble_eq_true rfl⟩) (z_preS hK hP) rfl rfl hl.1 rfl (lv_room (Nat.le_of_ble_eq_true rfl)) dX4_nearer_13 ⟨Nat.zero_le _, Nat.zero_le _⟩) hS (fun _ h => h) (fun H locs hP hS _ _ => ?_)
    refine z_ifb_ne (tgt := 21) hx hb dX4_nearer_16 (by decide) (fun c2 => ?_) (fun c2 => ?_)
    · refine lv_aload_n hx hb dX4_nearer_21 rfl (lv_at hl 0 rfl) ?_
      refine z_iconst hx hb dX4_nearer_22 ?_
      refine lv_iload_n hx hb dX4_nearer_23 rfl (lv_at hl 1 rfl) ?_
      refine z_calli (va_runV (As := [.int (zI 0), .int (zI se)]) (rest := []) ⟨hx, hb, hml, hown, hts⟩ (k_X4_ticksTo l dC dI cI cQ A ad S hD 0 se (by exact hA) (by omega) (by omega)) (cwV 2 hts gX4_nearer_X4_ticksTo rfl rfl rfl (by decide +kernel) ⟨Nat.le_of_ble_eq_true rfl, Nat.le_of_ble_eq_true rfl⟩) (z_preV hK hP (ci := 4) (q0 := 0) rfl rfl rfl) rfl rfl hl.1 rfl (lv_room (Nat.le_of_ble_eq_true rfl)) dX4_nearer_24 ⟨Nat.zero_le _, Nat.zero_le _⟩) hS (fun _ h => h) (fun H locs hP hS _ _ => ?_)
      refine z_name (fun ta e_ta => ?_)
      refine lv_istore_n (lv' := [(3, .int (zI ta)), (0, .ref (ad 0)), (1, .int (zI se)), (2, .int (zI wh))]) hx hb dX4_nearer_27 rfl hl (by decide) rfl (fun ls hl => ?_)
      refine lv_aload_n hx hb dX4_nearer_28 rfl (lv_at hl 1 rfl) ?_
      refine z_iconst hx hb dX4_nearer_29 ?_
      refine lv_iload_n hx hb dX4_nearer_30 rfl (lv_at hl 2 rfl) ?_
      refine z_calli (va_runV (As := [.int (zI 1), .int (zI se)]) (rest := []) ⟨hx, hb, hml, hown, hts⟩ (k_X4_ticksTo l dC dI cI cQ A ad S hD 1 se (by exact hA) (by omega) (by omega)) (cwV 2 hts gX4_nearer_X4_ticksTo rfl rfl rfl (by decide +kernel) ⟨Nat.le_of_ble_eq_true rfl, Nat.le_of_ble_eq_true rfl⟩) (z_preV hK hP (ci := 4) (q0 := 0) rfl rfl rfl) rfl rfl hl.1 rfl (lv_room (Nat.le_of_ble_eq_true rfl)) dX4_nearer_31 ⟨Nat.zero_le _, Nat.zero_le _⟩) hS (fun _ h => h) (fun H locs hP hS _ _ => ?_)
      refine z_name (fun tb e_tb => ?_)
      refine lv_istore (lv' := [(4, .int (zI tb)), (3, .int (zI ta)), (0, .ref (ad 0)), (1, .int (zI se)), (2, .int (zI wh))]) hx hb dX4_nearer_34 hl (by decide) rfl (fun ls hl => ?_)
      refine lv_iload_n hx hb dX4_nearer_36 rfl (lv_at hl 4 rfl) ?_
      refine z_if_ne (tgt := 54) hx hb dX4_nearer_37 (by decide) (by omega) (fun c3 => ?_) (fun c3 => ?_)
      · refine lv_iload_n hx hb dX4_nearer_54 rfl (lv_at hl 1 rfl) ?_
        refine lv_iload hx hb dX4_nearer_55 (lv_at hl 0 rfl) ?_
        refine z_icmp_ge (tgt := 64) hx hb dX4_nearer_57 (by decide) (by omega) (by omega) (fun c4 => ?_) (fun c4 => ?_)
        · refine lv_iload hx hb dX4_nearer_64 (lv_at hl 0 rfl) ?_
          exact z_iret hx hb hr hlk hP hS dX4_nearer_66 (by unfold nrrF; first | (rw [if_neg (by omega)]; done) | (rw [← e_ta, ← e_tb, if_pos (by omega)]; (repeat' split) <;> omega)) rfl
        · refine lv_iload_n hx hb dX4_nearer_60 rfl (lv_at hl 1 rfl) ?_
          refine lv_goto (tgt := 66) hx hb dX4_nearer_61 (by decide) ?_
          exact z_iret hx hb hr hlk hP hS dX4_nearer_66 (by unfold nrrF; first | (rw [if_neg (by omega)]; done) | (rw [← e_ta, ← e_tb, if_pos (by omega)]; (repeat' split) <;> omega)) rfl
      · refine lv_iload_n hx hb dX4_nearer_40 rfl (lv_at hl 1 rfl) ?_
        refine lv_iload hx hb dX4_nearer_41 (lv_at hl 0 rfl) ?_
        refine z_icmp_ge (tgt := 50) hx hb dX4_nearer_43 (by decide) (by omega) (by omega) (fun c5 => ?_) (fun c5 => ?_)
        · refine z_iconst hx hb dX4_nearer_50 ?_
          refine lv_goto (tgt := 66) hx hb dX4_nearer_51 (by decide) ?_
          exact z_iret hx hb hr hlk hP hS dX4_nearer_66 (by unfold nrrF; first | (rw [if_neg (by omega)]; done) | (rw [← e_ta, ← e_tb, if_pos (by omega)]; (repeat' split) <;> omega)) rfl
        · refine z_iconst hx hb dX4_nearer_46 ?_
          refine lv_goto (tgt := 66) hx hb dX4_nearer_47 (by decide) ?_
          exact z_iret hx hb hr hlk hP hS dX4_nearer_66 (by unfold nrrF; first | (rw [if_neg (by omega)]; done) | (rw [← e_ta, ← e_tb, if_pos (by omega)]; (repeat' split) <;> omega)) rfl
    · refine z_iconst hx hb dX4_nearer_19 ?_
      exact z_iret hx hb hr hlk hP hS dX4_nearer_20 (by unfold nrrF; first | (rw [if_neg (by omega)]; done) | (rw [← e_ta, ← e_tb, if_pos (by omega)]; (repeat' split) <;> omega)) rfl
theorem in_X4_count : ∀ w ∈ wsX40, w ∈ wsX4_count := fun w h => List.mem_cons_of_mem _ (List.mem_append_right _ h)
set_option maxHeartbeats 4000000 in
set_option maxRecDepth 100000 in
theorem k_X4_count (l : Launch) (dC : Nat → ClassId) (dI : Nat → Nat → Nat) (cI cQ : ClassId) (A : Nat → Prop) (ad : Nat → Nat) (S : Nat → Int → Int) (hD : ∀ S, va_D A (tW_X4 ad cI S)) (wh : Int) (hA : WFA (S 0)) (q0 : -2147483648 ≤ wh ∧ wh < 2147483648) (h : 0 ≤ S 2 0 ∧ S 2 0 ≤ 5) (h7 : S 7 0 = 0 ∨ S 7 0 = 1) : Met l yX4_count wsX4_count ({ frames := 2, cells := 0, slots := 0, locals := 46 }) (zPc (dC, dI) vwCl (zT cI cQ) (tW_X4 ad cI S) [.ref (ad 0), .int (zI wh)]) (zQi (dC, dI) vwCl (tW_X4 ad cI S) (countF S wh) A) 0 0 A := by
  refine Met.ofW (cc := cX4_count) (maxL := 2) (ret := (some .int)) (by decide) rfl ?_
  intro p e s m args below meth c s₁ B hml hv
  obtain ⟨rfl, hP, hK⟩ := hv
  have hx := B.exec
  have hb := B.bytes
  have hr := B.returns
  have hts := atoms_spec (ws := wsX4_count) B.pre
  have hown : s.vm.findClass RX4 = some m.cls := findClass_of_methodNamed B.named
  have hlk := B.notSynchronized
  have hS : va_S A s.heap s.heap [] := va_S.rf
  have hl := lv_entry ([.ref (ad 0), .int (zI wh)]) (n := 2) (Nat.le_of_ble_eq_true rfl)
  rw [lg_entry_eq]
  generalize (lg_sl ([.ref (ad 0), .int (zI wh)]) ++ List.replicate (2 - (lg_sl ([.ref (ad 0), .int (zI wh)])).length) Slot.unset).toArray = ls at hl ⊢
  have hl : lv_has ls 2 [(0, .ref (ad 0)), (1, .int (zI wh))] := hl
  have hin : ∀ w ∈ wsX40, w ∈ wsX4_count := in_X4_count
  obtain ⟨hB0, hA0, hA1, hA2⟩ := id hA
  have hB : ∀ (k : Nat) (j : Int), 0 ≤ j → j < 965 → j ≠ 3 → j ≠ 4 → -1000000 ≤ S 0 j ∧ S 0 j ≤ 1000000 := fun _ j => hB0 j
  refine lv_iload_n hx hb dX4_count_0 rfl (lv_at hl 1 rfl) ?_
  rcases (show (wh < 0 ∨ 14 < wh) ∨ wh = 0 ∨ wh = 1 ∨ wh = 2 ∨ wh = 3 ∨ wh = 4 ∨ wh = 5 ∨ wh = 6 ∨ wh = 7 ∨ wh = 8 ∨ wh = 9 ∨ wh = 10 ∨ wh = 11 ∨ wh = 12 ∨ wh = 13 ∨ wh = 14 from by omega) with c1 | c1 | c1 | c1 | c1 | c1 | c1 | c1 | c1 | c1 | c1 | c1 | c1 | c1 | c1 | c1
  · refine z_tabOut (tgt := 154) hx hb dX4_count_1 (by omega) c1 (by decide) ?_
    refine z_iconst hx hb dX4_count_154 ?_
    exact z_iret hx hb hr hlk hP hS dX4_count_155 (by unfold countF; repeat (first | rw [if_pos (by omega)] | rw [if_neg (by omega)])) rfl
  · refine z_tabIn (tgt := 76) hx hb 0 dX4_count_1 (by omega) (by omega) (by omega) (by omega) rfl (by decide) ?_
    refine lv_aload_n hx hb dX4_count_76 rfl (lv_at hl 0 rfl) ?_
    refine gx_X4_0 hx hb hts hin hown hK hP (hts _ (List.mem_of_getElem? (i := 1) rfl)) dX4_count_77 ?_
    refine z_iconst hx hb dX4_count_80 ?_
    refine ld_X4_0 (v := S 0 0) hx hb hK hP (by omega) rfl dX4_count_81 ?_
    have b1 := hB 0 0 (by omega) (by omega) (by omega) (by omega)
    exact z_iret hx hb hr hlk hP hS dX4_count_82 (by unfold countF; repeat (first | rw [if_pos (by omega)] | rw [if_neg (by omega)])) rfl
  · refine z_tabIn (tgt := 83) hx hb 1 dX4_count_1 (by omega) (by omega) (by omega) (by omega) rfl (by decide) ?_
    refine lv_aload_n hx hb dX4_count_83 rfl (lv_at hl 0 rfl) ?_
    refine gx_X4_0 hx hb hts hin hown hK hP (hts _ (List.mem_of_getElem? (i := 1) rfl)) dX4_count_84 ?_
    refine z_iconst hx hb dX4_count_87 ?_
    refine ld_X4_0 (v := S 0 1) hx hb hK hP (by omega) rfl dX4_count_88 ?_
    have b2 := hB 0 1 (by omega) (by omega) (by omega) (by omega)
    exact z_iret hx hb hr hlk hP hS dX4_count_89 (by unfold countF; repeat (first | rw [if_pos (by omega)] | rw [if_neg (by omega)])) rfl
  · refine z_tabIn (tgt := 90) hx hb 2 dX4_count_1 (by omega) (by omega) (by omega) (by omega) rfl (by decide) ?_
    refine lv_aload_n hx hb dX4_count_90 rfl (lv_at hl 0 rfl) ?_
    refine lv_iload_n hx hb dX4_count_91 rfl (lv_at hl 1 rfl) ?_
    refine z_iconst hx hb dX4_count_92 ?_
    refine z_isub hx hb dX4_count_93 ?_
    refine z_calli (va_runV (As := [.int (zI (wh - 2))]) (rest := []) ⟨hx, hb, hml, hown, hts⟩ (k_X4_sectorUnder l dC dI cI cQ A ad S hD (wh - 2) (by exact hA) (by omega)) (cwV 1 hts gX4_count_X4_sectorUnder rfl rfl rfl (by decide +kernel) ⟨Nat.le_of_ble_eq_true rfl, Nat.le_of_ble_eq_true rfl⟩) (z_preV hK hP (ci := 4) (q0 := 0) rfl rfl rfl) rfl rfl hl.1 rfl (lv_room (Nat.le_of_ble_eq_true rfl)) dX4_count_94 ⟨Nat.zero_le _, Nat.zero_le _⟩) hS (fun _ h => h) (fun H locs hP hS _ _ => ?_)
    refine z_top (y := ((S 0 0 + 6 * (wh - 2)) % 12)) (rfl) ?_
    exact z_iret hx hb hr hlk hP hS dX4_count_97 (by unfold countF; repeat (first | rw [if_pos (by omega)] | rw [if_neg (by omega)])) rfl
  · refine z_tabIn (tgt := 90) hx hb 3 dX4_count_1 (by omega) (by omega) (by omega) (by omega) rfl (by decide) ?_
    refine lv_aload_n hx hb dX4_count_90 rfl (lv_at hl 0 rfl) ?_
    refine lv_iload_n hx hb dX4_count_91 rfl (lv_at hl 1 rfl) ?_
    refine z_iconst hx hb dX4_count_92 ?_
    refine z_isub hx hb dX4_count_93 ?_
    refine z_calli (va_runV (As := [.int (zI (wh - 2))]) (rest := []) ⟨hx, hb, hml, hown, hts⟩ (k_X4_sectorUnder l dC dI cI cQ A ad S hD (wh - 2) (by exact hA) (by omega)) (cwV 1 hts gX4_count_X4_sectorUnder rfl rfl rfl (by decide +kernel) ⟨Nat.le_of_ble_eq_true rfl, Nat.le_of_ble_eq_true rfl⟩) (z_preV hK hP (ci := 4) (q0 := 0) rfl rfl rfl) rfl rfl hl.1 rfl (lv_room (Nat.le_of_ble_eq_true rfl)) dX4_count_94 ⟨Nat.zero_le _, Nat.zero_le _⟩) hS (fun _ h => h) (fun H locs hP hS _ _ => ?_)
    refine z_top (y := ((S 0 0 + 6 * (wh - 2)) % 12)) (rfl) ?_
    exact z_iret hx hb hr hlk hP hS dX4_count_97 (by unfold countF; repeat (first | rw [if_pos (by omega)] | rw [if_neg (by omega)])) rfl
  · refine z_tabIn (tgt := 98) hx hb 4 dX4_count_1 (by omega) (by omega) (by omega) (by omega) rfl (by decide) ?_
    refine lv_aload_n hx hb dX4_count_98 rfl (lv_at hl 0 rfl) ?_
    refine gx_X4_0 hx hb hts hin hown hK hP (hts _ (List.mem_of_getElem? (i := 1) rfl)) dX4_count_99 ?_
    refine z_iconst hx hb dX4_count_102 ?_
    refine ld_X4_0 (v := S 0 2) hx hb hK hP (by omega) rfl dX4_count_103 ?_
    have b3 := hB 0 2 (by omega) (by omega) (by omega) (by omega)
    exact z_iret hx hb hr hlk hP hS dX4_count_104 (by unfold countF; repeat (first | rw [if_pos (by omega)] | rw [if_neg (by omega)])) rfl
  · refine z_tabIn (tgt := 105) hx hb 5 dX4_count_1 (by omega) (by omega) (by omega) (by omega) rfl (by decide) ?_
    refine lv_aload_n hx hb dX4_count_105 rfl (lv_at hl 0 rfl) ?_
    refine lv_iload_n hx hb dX4_count_106 rfl (lv_at hl 1 rfl) ?_
    refine z_iconst hx hb dX4_count_107 ?_
    refine z_isub hx hb dX4_count_108 ?_
    refine z_calli (va_runV (As := [.int (zI (wh - 5))]) (rest := []) ⟨hx, hb, hml, hown, hts⟩ (k_X4_inState l dC dI cI cQ A ad S hD (wh - 5) (by exact hA) (by omega)) (cwV 1 hts gX4_count_X4_inState rfl rfl rfl (by decide +kernel) ⟨Nat.le_of_ble_eq_true rfl, Nat.le_of_ble_eq_true rfl⟩) (z_preV hK hP (ci := 4) (q0 := 0) rfl rfl rfl) rfl rfl hl.1 rfl (lv_room (Nat.le_of_ble_eq_true rfl)) dX4_count_109 ⟨Nat.zero_le _, Nat.zero_le _⟩) hS (fun _ h => h) (fun H locs hP hS _ _ => ?_)
    refine z_top (y := (inStF (S 0) (wh - 5))) (by exact congrArg (fun q : Int → Int => (inStF q (wh - 5))) (rfl)) ?_
    exact z_iret hx hb hr hlk hP hS dX4_count_112 (by unfold countF; repeat (first | rw [if_pos (by omega)] | rw [if_neg (by omega)])) rfl
  · refine z_tabIn (tgt := 105) hx hb 6 dX4_count_1 (by omega) (by omega) (by omega) (by omega) rfl (by decide) ?_
    refine lv_aload_n hx hb dX4_count_105 rfl (lv_at hl 0 rfl) ?_
    refine lv_iload_n hx hb dX4_count_106 rfl (lv_at hl 1 rfl) ?_
    refine z_iconst hx hb dX4_count_107 ?_
    refine z_isub hx hb dX4_count_108 ?_
    refine z_calli (va_runV (As := [.int (zI (wh - 5))]) (rest := []) ⟨hx, hb, hml, hown, hts⟩ (k_X4_inState l dC dI cI cQ A ad S hD (wh - 5) (by exact hA) (by omega)) (cwV 1 hts gX4_count_X4_inState rfl rfl rfl (by decide +kernel) ⟨Nat.le_of_ble_eq_true rfl, Nat.le_of_ble_eq_true rfl⟩) (z_preV hK hP (ci := 4) (q0 := 0) rfl rfl rfl) rfl rfl hl.1 rfl (lv_room (Nat.le_of_ble_eq_true rfl)) dX4_count_109 ⟨Nat.zero_le _, Nat.zero_le _⟩) hS (fun _ h => h) (fun H locs hP hS _ _ => ?_)
    refine z_top (y := (inStF (S 0) (wh - 5))) (by exact congrArg (fun q : Int → Int => (inStF q (wh - 5))) (rfl)) ?_
    exact z_iret hx hb hr hlk hP hS dX4_count_112 (by unfold countF; repeat (first | rw [if_pos (by omega)] | rw [if_neg (by omega)])) rfl
  · refine z_tabIn (tgt := 105) hx hb 7 dX4_count_1 (by omega) (by omega) (by omega) (by omega) rfl (by decide) ?_
    refine lv_aload_n hx hb dX4_count_105 rfl (lv_at hl 0 rfl) ?_
    refine lv_iload_n hx hb dX4_count_106 rfl (lv_at hl 1 rfl) ?_
    refine z_iconst hx hb dX4_count_107 ?_
    refine z_isub hx hb dX4_count_108 ?_
    refine z_calli (va_runV (As := [.int (zI (wh - 5))]) (rest := []) ⟨hx, hb, hml, hown, hts⟩ (k_X4_inState l dC dI cI cQ A ad S hD (wh - 5) (by exact hA) (by omega)) (cwV 1 hts gX4_count_X4_inState rfl rfl rfl (by decide +kernel) ⟨Nat.le_of_ble_eq_true rfl, Nat.le_of_ble_eq_true rfl⟩) (z_preV hK hP (ci := 4) (q0 := 0) rfl rfl rfl) rfl rfl hl.1 rfl (lv_room (Nat.le_of_ble_eq_true rfl)) dX4_count_109 ⟨Nat.zero_le _, Nat.zero_le _⟩) hS (fun _ h => h) (fun H locs hP hS _ _ => ?_)
    refine z_top (y := (inStF (S 0) (wh - 5))) (by exact congrArg (fun q : Int → Int => (inStF q (wh - 5))) (rfl)) ?_
    exact z_iret hx hb hr hlk hP hS dX4_count_112 (by unfold countF; repeat (first | rw [if_pos (by omega)] | rw [if_neg (by omega)])) rfl
  · refine z_tabIn (tgt := 113) hx hb 8 dX4_count_1 (by omega) (by omega) (by omega) (by omega) rfl (by decide) ?_
    refine lv_aload_n hx hb dX4_count_113 rfl (lv_at hl 0 rfl) ?_
    refine z_iconst hx hb dX4_count_114 ?_
    refine z_calli (va_runV (As := [.int (zI 3)]) (rest := []) ⟨hx, hb, hml, hown, hts⟩ (k_X4_copiesThat l dC dI cI cQ A ad S hD 3 (by omega)) (cwV 1 hts gX4_count_X4_copiesThat rfl rfl rfl (by decide +kernel) ⟨Nat.le_of_ble_eq_true rfl, Nat.le_of_ble_eq_true rfl⟩) (z_preV hK hP (ci := 4) (q0 := 0) rfl rfl rfl) rfl rfl hl.1 rfl (lv_room (Nat.le_of_ble_eq_true rfl)) dX4_count_115 ⟨Nat.zero_le _, Nat.zero_le _⟩) hS (fun _ h => h) (fun H locs hP hS _ _ => ?_)
    refine z_top (y := (copF (S 0) 3)) (by exact congrArg (fun q : Int → Int => (copF q 3)) (rfl)) ?_
    exact z_iret hx hb hr hlk hP hS dX4_count_118 (by unfold countF; repeat (first | rw [if_pos (by omega)] | rw [if_neg (by omega)])) rfl
  · refine z_tabIn (tgt := 119) hx hb 9 dX4_count_1 (by omega) (by omega) (by omega) (by omega) rfl (by decide) ?_
    refine lv_aload_n hx hb dX4_count_119 rfl (lv_at hl 0 rfl) ?_
    refine z_iconst hx hb dX4_count_120 ?_
    refine z_calli (va_runV (As := [.int (zI 2)]) (rest := []) ⟨hx, hb, hml, hown, hts⟩ (k_X4_copiesThat l dC dI cI cQ A ad S hD 2 (by omega)) (cwV 1 hts gX4_count_X4_copiesThat rfl rfl rfl (by decide +kernel) ⟨Nat.le_of_ble_eq_true rfl, Nat.le_of_ble_eq_true rfl⟩) (z_preV hK hP (ci := 4) (q0 := 0) rfl rfl rfl) rfl rfl hl.1 rfl (lv_room (Nat.le_of_ble_eq_true rfl)) dX4_count_121 ⟨Nat.zero_le _, Nat.zero_le _⟩) hS (fun _ h => h) (fun H locs hP hS _ _ => ?_)
    refine z_top (y := (copF (S 0) 2)) (by exact congrArg (fun q : Int → Int => (copF q 2)) (rfl)) ?_
    exact z_iret hx hb hr hlk hP hS dX4_count_124 (by unfold countF; repeat (first | rw [if_pos (by omega)] | rw [if_neg (by omega)])) rfl
  · refine z_tabIn (tgt := 125) hx hb 10 dX4_count_1 (by omega) (by omega) (by omega) (by omega) rfl (by decide) ?_
    refine lv_aload_n hx hb dX4_count_125 rfl (lv_at hl 0 rfl) ?_
    refine z_calli (va_runV (As := []) (rest := []) ⟨hx, hb, hml, hown, hts⟩ (k_X4_unlike l dC dI cI cQ A ad S hD (by exact hA)) (cwV 0 hts gX4_count_X4_unlike rfl rfl rfl (by decide +kernel) ⟨Nat.le_of_ble_eq_true rfl, Nat.le_of_ble_eq_true rfl⟩) (z_preV hK hP (ci := 4) (q0 := 0) rfl rfl rfl) rfl rfl hl.1 rfl (lv_room (Nat.le_of_ble_eq_true rfl)) dX4_count_126 ⟨Nat.zero_le _, Nat.zero_le _⟩) hS (fun _ h => h) (fun H locs hP hS _ _ => ?_)
    exact z_iret hx hb hr hlk hP hS dX4_count_129 (by unfold countF; repeat (first | rw [if_pos (by omega)] | rw [if_neg (by omega)])) rfl
  · refine z_tabIn (tgt := 130) hx hb 11 dX4_count_1 (by omega) (by omega) (by omega) (by omega) rfl (by decide) ?_
    refine lv_aload_n hx hb dX4_count_130 rfl (lv_at hl 0 rfl) ?_
    refine gx_X4_0 hx hb hts hin hown hK hP (hts _ (List.mem_of_getElem? (i := 1) rfl)) dX4_count_131 ?_
    refine z_iconst hx hb dX4_count_134 ?_
    refine ld_X4_0 (v := S 0 3) hx hb hK hP (by omega) rfl dX4_count_135 ?_
    exact z_iret hx hb hr hlk hP hS dX4_count_136 (by unfold countF; repeat (first | rw [if_pos (by omega)] | rw [if_neg (by omega)])) rfl
  · refine z_tabIn (tgt := 137) hx hb 12 dX4_count_1 (by omega) (by omega) (by omega) (by omega) rfl (by decide) ?_
    refine lv_aload_n hx hb dX4_count_137 rfl (lv_at hl 0 rfl) ?_
    refine gx_X4_0 hx hb hts hin hown hK hP (hts _ (List.mem_of_getElem? (i := 1) rfl)) dX4_count_138 ?_
    refine z_iconst hx hb dX4_count_141 ?_
    refine ld_X4_0 (v := S 0 4) hx hb hK hP (by omega) rfl dX4_count_142 ?_
    exact z_iret hx hb hr hlk hP hS dX4_count_143 (by unfold countF; repeat (first | rw [if_pos (by omega)] | rw [if_neg (by omega)])) rfl
  · refine z_tabIn (tgt := 144) hx hb 13 dX4_count_1 (by omega) (by omega) (by omega) (by omega) rfl (by decide) ?_
    refine lv_aload_n hx hb dX4_count_144 rfl (lv_at hl 0 rfl) ?_
    refine gx_X4_2 hx hb hts hin hown hK hP (hts _ (List.mem_of_getElem? (i := 2) rfl)) dX4_count_145 ?_
    exact z_iret hx hb hr hlk hP hS dX4_count_148 (by unfold countF; repeat (first | rw [if_pos (by omega)] | rw [if_neg (by omega)])) rfl
  · refine z_tabIn (tgt := 149) hx hb 14 dX4_count_1 (by omega) (by omega) (by omega) (by omega) rfl (by decide) ?_
    refine lv_aload_n hx hb dX4_count_149 rfl (lv_at hl 0 rfl) ?_
    refine gx_X4_5 hx hb hts hin hown hK hP (hts _ (List.mem_of_getElem? (i := 3) rfl)) dX4_count_150 ?_
    exact z_iret hx hb hr hlk hP hS dX4_count_153 (by unfold countF; repeat (first | rw [if_pos (by omega)] | rw [if_neg (by omega)])) rfl
theorem in_X4_append : ∀ w ∈ wsX40, w ∈ wsX4_append := fun w h => List.mem_cons_of_mem _ (List.mem_append_right _ h)
set_option maxHeartbeats 4000000 in
set_option maxRecDepth 100000 in
theorem k_X4_append (l : Launch) (dC : Nat → ClassId) (dI : Nat → Nat → Nat) (cI cQ : ClassId) (A : Nat → Prop) (ad : Nat → Nat) (S : Nat → Int → Int) (hD : ∀ S, va_D A (tW_X4 ad cI S)) (ch : Int) (q0 : -2147483648 ≤ ch ∧ ch < 2147483648) (h5 : 0 ≤ S 5 0 ∧ S 5 0 ≤ 80) : Met l yX4_append wsX4_append ({ frames := 1, cells := 0, slots := 0, locals := 22 }) (zPc (dC, dI) vwCl (zT cI cQ) (tW_X4 ad cI S) [.ref (ad 0), .int (zI ch)]) (zQi (dC, dI) vwCl (tW_X4 ad cI (apnM S ch)) (if 1 ≤ ch ∧ ch ≤ 255 then (if S 5 0 = 80 then -3 else S 5 0 + 1) else -1) A) 0 0 A := by
  refine Met.ofW (cc := cX4_append) (maxL := 2) (ret := (some .int)) (by decide) rfl ?_
  intro p e s m args below meth c s₁ B hml hv
  obtain ⟨rfl, hP, hK⟩ := hv
  have hx := B.exec
  have hb := B.bytes
  have hr := B.returns
  have hts := atoms_spec (ws := wsX4_append) B.pre
  have hown : s.vm.findClass RX4 = some m.cls := findClass_of_methodNamed B.named
  have hlk := B.notSynchronized
  have hS : va_S A s.heap s.heap [] := va_S.rf
  have hl := lv_entry ([.ref (ad 0), .int (zI ch)]) (n := 2) (Nat.le_of_ble_eq_true rfl)
  rw [lg_entry_eq]
  generalize (lg_sl ([.ref (ad 0), .int (zI ch)]) ++ List.replicate (2 - (lg_sl ([.ref (ad 0), .int (zI ch)])).length) Slot.unset).toArray = ls at hl ⊢
  have hl : lv_has ls 2 [(0, .ref (ad 0)), (1, .int (zI ch))] := hl
  have hin : ∀ w ∈ wsX40, w ∈ wsX4_append := in_X4_append
  refine lv_iload_n hx hb dX4_append_0 rfl (lv_at hl 1 rfl) ?_
  refine z_iconst hx hb dX4_append_1 ?_
  refine z_sipush (z := 255) hx hb dX4_append_2 (by decide +kernel) ?_
  refine z_calli (va_runS (As := [.int (zI ch), .int (zI 1), .int (zI 255)]) (rest := []) ⟨hx, hb, hml, hown, hts⟩ (k_X4_within l dC dI cI cQ A (tW_X4 ad cI S) ch 1 255 (by omega) (by omega) (by omega)) (va_cwS 3 hts gX4_append_X4_within rfl rfl rfl (by decide +kernel) ⟨Nat.le_of_ble_eq_true rfl, Nat.le_of_ble_eq_true rfl⟩) (z_preS hK hP) rfl rfl hl.1 rfl (lv_room (Nat.le_of_ble_eq_true rfl)) dX4_append_5 ⟨Nat.zero_le _, Nat.zero_le _⟩) hS (fun _ h => h) (fun H locs hP hS _ _ => ?_)
  refine z_ifb_ne (tgt := 13) hx hb dX4_append_8 (by decide) (fun c1 => ?_) (fun c1 => ?_)
  · refine lv_aload_n hx hb dX4_append_13 rfl (lv_at hl 0 rfl) ?_
    refine gx_X4_5 hx hb hts hin hown hK hP (hts _ (List.mem_of_getElem? (i := 1) rfl)) dX4_append_14 ?_
    refine z_bipush (z := 80) hx hb dX4_append_17 (by decide +kernel) ?_
    refine z_icmp_ne (tgt := 25) hx hb dX4_append_19 (by decide) (by omega) (by omega) (fun c2 => ?_) (fun c2 => ?_)
    · refine lv_aload_n hx hb dX4_append_25 rfl (lv_at hl 0 rfl) ?_
      refine gx_X4_4 hx hb hts hin hown hK hP (hts _ (List.mem_of_getElem? (i := 2) rfl)) dX4_append_26 ?_
      refine lv_aload_n hx hb dX4_append_29 rfl (lv_at hl 0 rfl) ?_
      refine gx_X4_5 hx hb hts hin hown hK hP (hts _ (List.mem_of_getElem? (i := 1) rfl)) dX4_append_30 ?_
      refine lv_iload_n hx hb dX4_append_33 rfl (lv_at hl 1 rfl) ?_
      refine st_X4_4 hx hb hK hP hD hS (by omega) dX4_append_34 (fun H locs hP hS => ?_)
      refine lv_aload_n hx hb dX4_append_35 rfl (lv_at hl 0 rfl) ?_
      refine lv_dup hx hb dX4_append_36 rfl ?_
      refine gx_X4_5 hx hb hts hin hown hK hP (hts _ (List.mem_of_getElem? (i := 1) rfl)) dX4_append_37 ?_
      refine z_top (y := S 5 0) (rfl) ?_
      refine z_iconst hx hb dX4_append_40 ?_
      refine z_iadd hx hb dX4_append_41 ?_
      refine z_top (y := S 5 0 + 1) (by omega) ?_
      refine px_X4_5 hx hb hts hin hown hK hP hD hS (hts _ (List.mem_of_getElem? (i := 1) rfl)) dX4_append_42 (fun H locs hP hS => ?_)
      refine lv_aload_n hx hb dX4_append_45 rfl (lv_at hl 0 rfl) ?_
      refine gx_X4_5 hx hb hts hin hown hK hP (hts _ (List.mem_of_getElem? (i := 1) rfl)) dX4_append_46 ?_
      refine z_top (y := S 5 0 + 1) (up2_eq _ _ _ _) ?_
      exact z_iret hx hb hr hlk hP hS dX4_append_49 (by first | (rw [if_pos (by omega)]; first | rw [if_pos (by omega)] | rw [if_neg (by omega)]) | rw [if_neg (by omega)]) (congrArg (tW_X4 ad cI) (by unfold apnM; first | (rw [if_pos (by omega)]; first | done | rfl) | rw [if_neg (by omega)]))
    · refine z_bipush (z := (-3)) hx hb dX4_append_22 (by decide +kernel) ?_
      exact z_iret hx hb hr hlk hP hS dX4_append_24 (by first | (rw [if_pos (by omega)]; first | rw [if_pos (by omega)] | rw [if_neg (by omega)]) | rw [if_neg (by omega)]) (congrArg (tW_X4 ad cI) (by unfold apnM; first | (rw [if_pos (by omega)]; first | done | rfl) | rw [if_neg (by omega)]))
  · refine z_iconst hx hb dX4_append_11 ?_
    exact z_iret hx hb hr hlk hP hS dX4_append_12 (by first | (rw [if_pos (by omega)]; first | rw [if_pos (by omega)] | rw [if_neg (by omega)]) | rw [if_neg (by omega)]) (congrArg (tW_X4 ad cI) (by unfold apnM; first | (rw [if_pos (by omega)]; first | done | rfl) | rw [if_neg (by omega)]))
theorem in_X4_clearText : ∀ w ∈ wsX40, w ∈ wsX4_clearText := fun w h => List.mem_cons_of_mem _ (List.mem_append_right _ h)
set_option maxHeartbeats 4000000 in
set_option maxRecDepth 100000 in
theorem k_X4_clearText (l : Launch) (dC : Nat → ClassId) (dI : Nat → Nat → Nat) (cI cQ : ClassId) (A : Nat → Prop) (ad : Nat → Nat) (S : Nat → Int → Int) (hD : ∀ S, va_D A (tW_X4 ad cI S)) (h5 : 0 ≤ S 5 0 ∧ S 5 0 ≤ 80) : Met l yX4_clearText wsX4_clearText ({ frames := 0, cells := 0, slots := 0, locals := 0 }) (zPc (dC, dI) vwCl (zT cI cQ) (tW_X4 ad cI S) [.ref (ad 0)]) (zQi (dC, dI) vwCl (tW_X4 ad cI (clrM S)) (S 5 0) A) 0 0 A := by
  refine Met.ofW (cc := cX4_clearText) (maxL := 2) (ret := (some .int)) (by decide) rfl ?_
  intro p e s m args below meth c s₁ B hml hv
  obtain ⟨rfl, hP, hK⟩ := hv
  have hx := B.exec
  have hb := B.bytes
  have hr := B.returns
  have hts := atoms_spec (ws := wsX4_clearText) B.pre
  have hown : s.vm.findClass RX4 = some m.cls := findClass_of_methodNamed B.named
  have hlk := B.notSynchronized
  have hS : va_S A s.heap s.heap [] := va_S.rf
  have hl := lv_entry ([.ref (ad 0)]) (n := 2) (Nat.le_of_ble_eq_true rfl)
  rw [lg_entry_eq]
  generalize (lg_sl ([.ref (ad 0)]) ++ List.replicate (2 - (lg_sl ([.ref (ad 0)])).length) Slot.unset).toArray = ls at hl ⊢
  have hl : lv_has ls 2 [(0, .ref (ad 0))] := hl
  have hin : ∀ w ∈ wsX40, w ∈ wsX4_clearText := in_X4_clearText
  refine lv_aload_n hx hb dX4_clearText_0 rfl (lv_at hl 0 rfl) ?_
  refine gx_X4_5 hx hb hts hin hown hK hP (hts _ (List.mem_of_getElem? (i := 1) rfl)) dX4_clearText_1 ?_
  refine lv_istore_n (lv' := [(1, .int (zI (S 5 0))), (0, .ref (ad 0))]) hx hb dX4_clearText_4 rfl hl (by decide) rfl (fun ls hl => ?_)
  refine lv_aload_n hx hb dX4_clearText_5 rfl (lv_at hl 1 rfl) ?_
  refine z_iconst hx hb dX4_clearText_6 ?_
  refine px_X4_5 hx hb hts hin hown hK hP hD hS (hts _ (List.mem_of_getElem? (i := 1) rfl)) dX4_clearText_7 (fun H locs hP hS => ?_)
  refine lv_iload_n hx hb dX4_clearText_10 rfl (lv_at hl 0 rfl) ?_
  exact z_iret hx hb hr hlk hP hS dX4_clearText_11 rfl (congrArg (tW_X4 ad cI) (by rfl))
