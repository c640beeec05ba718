/-! the forecasts -/
theorem stN_rng (P : Int → Prop) [DecidablePred P] : ∀ (n : Nat) (k : Int), (k ≤ stN P n k ∧ stN P n k ≤ k + (n : Int)) ∧ (stN P n k < k + (n : Int) → P (stN P n k)) ∧ (∀ q : Int, k ≤ q → q < stN P n k → ¬ P q)
  | 0, k => by
    have e : stN P 0 k = k := rfl
    rw [e]
    exact ⟨by omega, fun z => by omega, fun q q0 q1 => by omega⟩
  | n + 1, k => by
    rw [stN]
    by_cases h : P k
    · rw [if_pos h]
      exact ⟨by omega, fun _ => h, fun q q0 q1 => by omega⟩
    · rw [if_neg h]
      obtain ⟨i1, i2, i3⟩ := stN_rng P n (k + 1)
      refine ⟨by omega, fun z => i2 (by omega), fun q q0 q1 => ?_⟩
      by_cases e : q = k
      · rw [e]; exact h
      · exact i3 q (by omega) q1
theorem stN_congr (P Q : Int → Prop) [DecidablePred P] [DecidablePred Q] : ∀ (n : Nat) (k : Int), (∀ q : Int, k ≤ q → q < k + (n : Int) → (P q ↔ Q q)) → stN P n k = stN Q n k
  | 0, _, _ => rfl
  | n + 1, k, h => by
    rw [stN, stN, stN_congr P Q n (k + 1) (fun q q0 q1 => h q (by omega) (by omega))]
    have t := h k (by omega) (by omega)
    by_cases q : P k
    · rw [if_pos q, if_pos (t.mp q)]
    · rw [if_neg q, if_neg (fun z => q (t.mpr z))]
theorem stN_snoc (P : Int → Prop) [DecidablePred P] : ∀ (n : Nat) (k : Int), stN P (n + 1) k = if stN P n k < k + (n : Int) then stN P n k else if P (k + (n : Int)) then k + (n : Int) else k + (n : Int) + 1
  | 0, k => by
    have e : stN P 0 k = k := rfl
    have e2 : stN P (0 + 1) k = if P k then k else k + 1 := rfl
    rw [e, e2, show k + ((0 : Nat) : Int) = k from by omega, if_neg (show ¬ k < k by omega)]
  | n + 1, k => by
    have i := stN_snoc P n (k + 1)
    have r := (stN_rng P n (k + 1)).1
    have u : ∀ (m : Nat) (c : Int), stN P (m + 1) c = if P c then c else stN P m (c + 1) := fun _ _ => rfl
    rw [u (n + 1) k, u n k, i, show k + 1 + (n : Int) = k + ((n + 1 : Nat) : Int) from by omega]
    by_cases q : P k
    · rw [if_pos q, if_pos q, if_pos (by omega)]
    · rw [if_neg q, if_neg q]
theorem fin_st (S : Nat → Int → Int) (o' side wo o : Int) : finS S o' side wo 1 (8 * o + 3) = S 1 (8 * o + 3) ∨ finS S o' side wo 1 (8 * o + 3) = 1 := by
  have e1 : finS S o' side wo 1 = up1 (up1 (up1 (up1 (S 1) (8 * o' + 3) 1) (8 * o' + 5) (S 5 0)) (8 * o' + 6) side) (8 * o' + 7) wo := rfl
  rw [e1, up1_ne (by omega), up1_ne (by omega), up1_ne (by omega)]
  by_cases q : o = o'
  · rw [q, up1_eq]; exact Or.inr rfl
  · rw [up1_ne (by omega)]; exact Or.inl rfl
theorem hd_st (S : Nat → Int → Int) (side o : Int) : useHdS S side 1 (8 * o + 3) = S 1 (8 * o + 3) ∨ useHdS S side 1 (8 * o + 3) = 1 := by
  unfold useHdS useHdB
  split
  · exact Or.inl rfl
  · split
    · exact Or.inl rfl
    · split
      · unfold doWrS
        exact fin_st _ _ _ _ o
      · split
        · exact fin_st _ _ _ _ o
        · exact Or.inl rfl
theorem tick_st (S : Nat → Int → Int) (o : Int) : doTickS S 1 (8 * o + 3) = S 1 (8 * o + 3) ∨ doTickS S 1 (8 * o + 3) = 1 := by
  have e1 : doTickS S 1 (8 * o + 3) = doTickH S 1 (8 * o + 3) := rfl
  rw [e1]
  unfold doTickH
  split
  · rcases hd_st (useHdS (forgS S) 0) 1 o with q | q
    · rw [q]
      exact hd_st (forgS S) 0 o
    · exact Or.inr q
  · unfold mvArmS
    split <;> exact Or.inl rfl
theorem ticks_st (S : Nat → Int → Int) (o : Int) (h0 : S 1 (8 * o + 3) = 0) : ∀ n : Nat, itN doTickS n S 1 (8 * o + 3) = 0 ∨ itN doTickS n S 1 (8 * o + 3) = 1
  | 0 => Or.inl h0
  | n + 1 => by
    rw [itN]
    rcases tick_st (itN doTickS n S) o with q | q
    · rw [q]
      exact ticks_st S o h0 n
    · exact Or.inr q
theorem LG_done {A : Int → Int} {S : Nat → Int → Int} (h : LG A S) (o : Int) : dnR A o = doR S o := by
  have a := h.2.1
  have e2 := h.1.1.2.2.1
  unfold dnR doR
  rw [e2]
  by_cases q : 0 ≤ o ∧ o < S 7 0
  · rw [if_pos q, if_pos (show 0 ≤ o ∧ o ≤ S 7 0 - 1 by omega)]
    have st : ∀ k : Int, 0 ≤ k → itZ passesF k A (8 * o + 488) = itZ doTickS k S 1 (8 * o + 3) := fun k k0 => by
      have t := (LG_ticks h k0).1.1.2.2.1 (8 * o + 3) (by omega) (by omega)
      rw [show 8 * o + 3 + 485 = 8 * o + 488 from by omega] at t
      exact t
    have s0 := st 0 (by omega)
    rw [itZ_0, itZ_0] at s0
    have r := (h.2.2.2.1 o).2.2.2.1
    have D : dnS A o = if A (8 * o + 488) ≠ 0 then 0 else stN (fun q => itZ passesF q A (8 * o + 488) ≠ 0) 299 1 := rfl
    by_cases z0 : S 1 (8 * o + 3) = 0
    · rw [if_neg (show ¬ S 1 (8 * o + 3) = 1 by omega), if_neg (show ¬ S 1 (8 * o + 3) = 2 by omega)]
      rw [if_neg (show ¬ A (8 * o + 488) ≠ 0 by omega)] at D
      have c : stN (fun q => itZ passesF q A (8 * o + 488) ≠ 0) 299 1 = stN (fun q => itZ doTickS q S 1 (8 * o + 3) = 1) 299 1 := stN_congr _ _ 299 1 (fun k k0 k1 => by
        have t := st k (by omega)
        have u := ticks_st S o z0 k.toNat
        have E : itN doTickS k.toNat S = itZ doTickS k S := rfl
        rw [E] at u
        rw [t]
        omega)
      rw [c] at D
      have n := stN_snoc (fun q => itZ doTickS q S 1 (8 * o + 3) = 1) 299 1
      have e : dtS S o = stN (fun q => itZ doTickS q S 1 (8 * o + 3) = 1) (299 + 1) 1 := rfl
      rw [← e] at n
      obtain ⟨r1, r2, r3⟩ := stN_rng (fun q => itZ doTickS q S 1 (8 * o + 3) = 1) 299 1
      rw [← D] at n r1 r2
      rw [st (dnS A o) (by omega)]
      by_cases y : dnS A o < 1 + ((299 : Nat) : Int)
      · have y2 := r2 y
        rw [if_pos y] at n
        rw [if_pos y2, n, if_pos (by omega)]
      · rw [if_neg y] at n
        have y3 : dnS A o = 1 + ((299 : Nat) : Int) := by omega
        by_cases y4 : itZ doTickS (1 + ((299 : Nat) : Int)) S 1 (8 * o + 3) = 1
        · rw [if_pos y4] at n
          rw [y3, if_pos y4, n, if_pos (by decide)]
        · rw [if_neg y4] at n
          rw [y3, if_neg y4, n, if_neg (by decide)]
    · rw [if_pos (show A (8 * o + 488) ≠ 0 by omega)] at D
      rw [D, itZ_0, s0]
      by_cases z1 : S 1 (8 * o + 3) = 1
      · rw [if_pos z1, if_pos z1]
      · rw [if_neg z1, if_neg z1, if_pos (show S 1 (8 * o + 3) = 2 by omega)]
  · rw [if_neg q, if_neg (show ¬ (0 ≤ o ∧ o ≤ S 7 0 - 1) by omega)]
theorem near_none {τ V : Int} {A : Int → Int} {S : Nat → Int → Int} (h : Lk τ A S) (g : Good V S) : nearZ A 4 = -9 ↔ ¬ (0 < S 4 0 ∨ 0 < S 4 1 ∨ 0 < S 4 2 ∨ 0 < S 4 3) := by
  have w0 := Lk_wk h g (t := 0) (by omega)
  have w1 := Lk_wk h g (t := 1) (by omega)
  have w2 := Lk_wk h g (t := 2) (by omega)
  have w3 := Lk_wk h g (t := 3) (by omega)
  have n1 := nearZ_succ A (k := 0) (by omega)
  have n2 := nearZ_succ A (k := 1) (by omega)
  have n3 := nearZ_succ A (k := 2) (by omega)
  have n4 := nearZ_succ A (k := 3) (by omega)
  rw [nearZ_0] at n1
  rw [show (0 : Int) + 1 = 1 from rfl] at n1
  rw [show (1 : Int) + 1 = 2 from rfl] at n2
  rw [show (2 : Int) + 1 = 3 from rfl] at n3
  rw [show (3 : Int) + 1 = 4 from rfl] at n4
  simp only [w0] at n1
  simp only [w1] at n2
  simp only [w2] at n3
  simp only [w3] at n4
  by_cases p0 : 0 < S 4 0
  · have m1 : nearZ A 1 = 0 := by rw [n1, if_pos ⟨p0, Or.inl (by first | exact trivial | rfl)⟩]
    have m2 : nearZ A 2 ≠ -9 := by rw [n2, m1]; split <;> decide
    have m3 : nearZ A 3 ≠ -9 := by rw [n3]; split; decide; exact m2
    have m4 : nearZ A 4 ≠ -9 := by rw [n4]; split; decide; exact m3
    exact ⟨fun z => absurd z m4, fun z => absurd (Or.inl p0) z⟩
  · rw [if_neg (fun z => p0 z.1)] at n1
    by_cases p1 : 0 < S 4 1
    · have m2 : nearZ A 2 = 1 := by rw [n2, n1, if_pos ⟨p1, Or.inl rfl⟩]
      have m3 : nearZ A 3 ≠ -9 := by rw [n3, m2]; split <;> decide
      have m4 : nearZ A 4 ≠ -9 := by rw [n4]; split; decide; exact m3
      exact ⟨fun z => absurd z m4, fun z => absurd (Or.inr (Or.inl p1)) z⟩
    · rw [if_neg (fun z => p1 z.1)] at n2
      by_cases p2 : 0 < S 4 2
      · have m3 : nearZ A 3 = 2 := by rw [n3, n2, n1, if_pos ⟨p2, Or.inl rfl⟩]
        have m4 : nearZ A 4 ≠ -9 := by rw [n4, m3]; split <;> decide
        exact ⟨fun z => absurd z m4, fun z => absurd (Or.inr (Or.inr (Or.inl p2))) z⟩
      · rw [if_neg (fun z => p2 z.1)] at n3
        by_cases p3 : 0 < S 4 3
        · have m4 : nearZ A 4 ≠ -9 := by rw [n4, n3, n2, n1, if_pos ⟨p3, Or.inl rfl⟩]; decide
          exact ⟨fun z => absurd z m4, fun z => absurd (Or.inr (Or.inr (Or.inr p3))) z⟩
        · rw [if_neg (fun z => p3 z.1)] at n4
          exact ⟨fun _ => by omega, fun _ => by rw [n4, n3, n2, n1]⟩
theorem LG_idle {A : Int → Int} {S : Nat → Int → Int} (h : LG A S) : idR A = idC S := by
  have P : ∀ q : Int, 0 ≤ q → (nearZ (itZ passesF q A) 4 = -9 ↔ ¬ (0 < itZ doTickS q S 4 0 ∨ 0 < itZ doTickS q S 4 1 ∨ 0 < itZ doTickS q S 4 2 ∨ 0 < itZ doTickS q S 4 3)) := fun q q0 => by
    have t := (LG_ticks h q0).1
    exact near_none t.1 t.2
  have D : idS A = if nearZ A 4 = -9 then 0 else stN (fun q => nearZ (itZ passesF q A) 4 = -9) 300 1 := rfl
  have c : stN (fun q => nearZ (itZ passesF q A) 4 = -9) 300 1 = itS S := stN_congr _ _ 300 1 (fun k k0 k1 => P k (by omega))
  have p0 := P 0 (by omega)
  rw [itZ_0, itZ_0] at p0
  have r : 1 ≤ itS S ∧ itS S ≤ 1 + ((300 : Nat) : Int) := (stN_rng _ 300 1).1
  unfold idR idC
  by_cases q : 0 < S 4 0 ∨ 0 < S 4 1 ∨ 0 < S 4 2 ∨ 0 < S 4 3
  · rw [if_neg (fun z => (p0.mp z) q), c] at D
    rw [D, if_pos q]
    (repeat' split) <;> omega
  · rw [if_pos (p0.mpr q)] at D
    rw [D, if_neg q]
    rfl
/-! what is put back -/
theorem T_back {R X Sh Sn Sp : Nat → Int → Int} {U : Nat → Nat → Int → Int} (T : Top R U Sh Sn Sp) (h3 : ∀ j : Int, 0 ≤ j → j < 965 → X 3 j = R 0 j) (h1 : X 1 = R 1) (h2 : X 2 = R 2) (h4 : X 4 = R 4) (h5 : X 5 = R 5) (h7 : X 7 0 = 0) (h9 : ∀ j : Int, -1000 ≤ X 9 j ∧ X 9 j ≤ 1000) (h10 : ∀ j : Int, 0 ≤ X 10 j ∧ X 10 j ≤ 999) : Top (backM X) U Sh Sn Sp := by
  obtain ⟨t1, t2, t3, t4, x1, x2, x3, x4, x5, x6, x7, x8, x9⟩ := T
  have e0 : ∀ j : Int, backM X 0 j = if 0 ≤ j ∧ j < 965 then X 3 j else X 0 j := fun j => rfl
  have eo : ∀ i : Nat, i ≠ 0 → backM X i = X i := fun i i0 => upR_ne i0
  refine ⟨LG_congr t1 (fun j j0 j1 => ?_), t2, ?_, Hs_R t4 (by rw [eo 1 (by decide), h1]) (by rw [eo 2 (by decide), h2]), by rw [eo 4 (by decide), h4]; exact x1, by rw [eo 5 (by decide), h5]; exact x2, x3, x4, x5, x6, x7, by rw [eo 9 (by decide)]; exact h9, by rw [eo 10 (by decide)]; exact h10⟩
  · rw [e0, if_pos ⟨j0, j1⟩, h3 j j0 j1]
  · rw [eo 7 (by decide)]
    exact h7
theorem puts_3 (R : Nat → Int → Int) {j : Int} (j0 : 0 ≤ j) (j1 : j < 965) : putsM R 3 j = R 0 j := if_pos ⟨j0, j1⟩
theorem puts_o (R : Nat → Int → Int) {i : Nat} (h : i ≠ 3) : putsM R i = R i := upR_ne h
theorem T_back0 {R X Sh Sn Sp : Nat → Int → Int} {U : Nat → Nat → Int → Int} (T : Top R U Sh Sn Sp) (h3 : ∀ j : Int, 0 ≤ j → j < 965 → X 3 j = R 0 j) (ho : ∀ i : Nat, i ≠ 0 → i ≠ 3 → X i = R i) : Top (backM X) U Sh Sn Sp :=
  T_back T h3 (ho 1 (by decide) (by decide)) (ho 2 (by decide) (by decide)) (ho 4 (by decide) (by decide)) (ho 5 (by decide) (by decide)) (by rw [ho 7 (by decide) (by decide)]; exact T.2.2.1) (by rw [ho 9 (by decide) (by decide)]; exact T.2.2.2.2.2.2.2.2.2.2.2.1) (by rw [ho 10 (by decide) (by decide)]; exact T.2.2.2.2.2.2.2.2.2.2.2.2)
theorem T_done {R Sh Sn Sp : Nat → Int → Int} {U : Nat → Nat → Int → Int} (T : Top R U Sh Sn Sp) (o : Int) : dnR (R 0) o = doR Sn o ∧ Top (dnM R o) U Sh Sn Sp := by
  refine ⟨LG_done T.1 o, ?_⟩
  unfold dnM
  split
  · exact T_back0 T (fun j j0 j1 => puts_3 R j0 j1) (fun i i0 i3 => by rw [upR_ne i0, puts_o R i3])
  · exact T
theorem T_idle {R Sh Sn Sp : Nat → Int → Int} {U : Nat → Nat → Int → Int} (T : Top R U Sh Sn Sp) : idR (R 0) = idC Sn ∧ Top (idM R) U Sh Sn Sp :=
  ⟨LG_idle T.1, T_back0 T (fun j j0 j1 => puts_3 R j0 j1) (fun i i0 i3 => by rw [upR_ne i0, puts_o R i3])⟩
theorem T_wipe {R Sh Sn Sp : Nat → Int → Int} {U : Nat → Nat → Int → Int} (T : Top R U Sh Sn Sp) : wwR (R 0) = repairS (cutS Sn) 9 0 - Sn 9 0 ∧ Top (wwM R) U Sh Sn Sp := by
  refine ⟨(LG_wipe T.1).symm, T_back0 T (fun j j0 j1 => ?_) (fun i i0 i3 => ?_)⟩
  · exact puts_3 R j0 j1
  · unfold cutsM
    rw [upR_ne i0, puts_o R i3]
/-! what the contracts ask of a state -/
theorem LG_tearW {A : Int → Int} {S : Nat → Int → Int} (h : LG A S) (ht : S 5 0 ≤ 20000) : ∀ k : Int, 0 ≤ k → k ≤ 2 → WF (ixZ tearS k S) := fun k k0 k1 => by
  have a := h.2.1
  have w0 : WF S := h.2.WF (by omega) (by omega)
  have w1 : WF (tearS 0 S) := (G_tear h.2 0).WF (by omega) (by rw [tear_o _ _ (by decide)]; omega)
  have w2 : WF (tearS 1 (tearS 0 S)) := (G_tear (G_tear h.2 0) 1).WF (by omega) (by rw [tear_o _ _ (by decide), tear_o _ _ (by decide)]; omega)
  rcases (show k = 0 ∨ k = 1 ∨ k = 2 by omega) with rfl | rfl | rfl
  · exact w0
  · exact w1
  · rw [tears2]; exact w2
