/-! the link within a tick -/
theorem L_forg {A : Int → Int} {S : Nat → Int → Int} (h : Lk (S 5 0 - 1) A S) : Lk (S 5 0) A (forgS S) := by
  obtain ⟨h1, h2, h3, h4, h5⟩ := h
  have f2 : ∀ j : Int, 0 ≤ j → j < 2 → forgS S 2 j = -1 := by
    intro j a b
    unfold forgS
    rcases (show j = 0 ∨ j = 1 by omega) with rfl | rfl
    · rw [up2_ne (by decide), up2_eq]
    · rw [up2_eq]
  refine ⟨h1, h2, h3, fun k a b => ?_, fun side a b => Or.inl (f2 side a b)⟩
  have q := h4 k a b
  have f := f2 (k / 48) (by omega) (by omega)
  rw [f]
  omega
theorem L_dir {τ V : Int} {A : Int → Int} {S : Nat → Int → Int} (h : Lk τ A S) (g : Good V S) (hn : ¬ 0 < S 4 (S 6 0)) : (nearZ A 4 = -9 ∧ mvDir S = 0) ∨ (nearZ A 4 ≠ -9 ∧ mvDir S = if A 1 < nearZ A 4 then 1 else -1) := by
  have w0 := Lk_wk h g (t := 0) (by omega)
  have w1 := Lk_wk h g (t := 1) (by omega)
  have w2 := Lk_wk h g (t := 2) (by omega)
  have w3 := Lk_wk h g (t := 3) (by omega)
  have a := g.1
  have e1 := h.1.2.1
  have n1 := nearZ_succ A (k := 0) (by omega)
  have n2 := nearZ_succ A (k := 1) (by omega)
  have n3 := nearZ_succ A (k := 2) (by omega)
  have n4 := nearZ_succ A (k := 3) (by omega)
  rw [nearZ_0] at n1
  rw [show (0 : Int) + 1 = 1 from rfl] at n1
  rw [show (1 : Int) + 1 = 2 from rfl] at n2
  rw [show (2 : Int) + 1 = 3 from rfl] at n3
  rw [show (3 : Int) + 1 = 4 from rfl] at n4
  simp only [w0] at n1
  simp only [w1] at n2
  simp only [w2] at n3
  simp only [w3] at n4
  unfold szF at n1 n2 n3 n4
  unfold mvDir
  rcases (show S 6 0 = 0 ∨ S 6 0 = 1 ∨ S 6 0 = 2 ∨ S 6 0 = 3 by omega) with q | q | q | q <;> rw [q] at hn e1 ⊢ <;> rw [e1] at n1 n2 n3 n4 ⊢ <;> simp at n1 n2 n3 n4 hn ⊢ <;> by_cases p0 : 0 < S 4 0 <;> by_cases p1 : 0 < S 4 1 <;> by_cases p2 : 0 < S 4 2 <;> by_cases p3 : 0 < S 4 3 <;> simp_all <;> omega
theorem L_mv {τ V : Int} {A : Int → Int} {S : Nat → Int → Int} (h : Lk τ A S) (g : Good V S) (hn : ¬ 0 < S 4 (S 6 0)) : Lk τ (mvF A) (mvArmS S) := by
  unfold mvF mvArmS
  rcases L_dir h g hn with ⟨d1, d2⟩ | ⟨d1, d2⟩
  · rw [if_pos d1, if_pos d2]
    exact h
  · have d3 : mvDir S ≠ 0 := by rw [d2]; split <;> decide
    rw [if_neg d1, if_neg d3, ← d2]
    obtain ⟨⟨a0, a1, a2, a3, a4⟩, h2, h3, h4, h5⟩ := h
    have v : ∀ j : Int, 5 ≤ j → up1 (up1 A 1 (A 1 + mvDir S)) 4 (A 4 + 1) j = A j := fun j hj => by rw [up1_ne (by omega), up1_ne (by omega)]
    refine ⟨⟨?_, ?_, ?_, ?_, ?_⟩, fun k w p1 p2 p3 p4 => ?_, fun j p1 p2 => ?_, fun k p1 p2 => ?_, h5⟩
    · rw [up1_ne (by decide), up1_ne (by decide)]; exact a0
    · rw [up1_ne (by decide), up1_eq, a1]; rfl
    · rw [up1_ne (by decide), up1_ne (by decide)]; exact a2
    · rw [up1_ne (by decide), up1_ne (by decide)]; exact a3
    · rw [up1_eq, a4]; rfl
    · rw [v _ (by omega)]; exact h2 k w p1 p2 p3 p4
    · rw [v _ (by omega)]; exact h3 j p1 p2
    · rw [v _ (by omega)]; exact h4 k p1 p2
theorem L_c {τ k w v : Int} {A : Int → Int} {S : Nat → Int → Int} (h : Lk τ A S) (hk : 0 ≤ k ∧ k < 96) (hw : 0 ≤ w ∧ w < 4) : Lk τ (up1 A (5 * k + w + 5) v) (up2 S 0 (4 * k + w) v) := by
  obtain ⟨⟨a0, a1, a2, a3, a4⟩, h2, h3, h4, h5⟩ := h
  refine ⟨⟨?_, ?_, ?_, ?_, ?_⟩, fun k' w' p1 p2 p3 p4 => ?_, fun j p1 p2 => ?_, fun k' p1 p2 => ?_, h5⟩
  · rw [up1_ne (by omega)]; exact a0
  · rw [up1_ne (by omega)]; exact a1
  · rw [up1_ne (by omega)]; exact a2
  · rw [up1_ne (by omega)]; exact a3
  · rw [up1_ne (by omega)]; exact a4
  · by_cases e : 4 * k' + w' = 4 * k + w
    · rw [show 5 * k' + w' + 5 = 5 * k + w + 5 from by omega, e, up1_eq, up2_eq]
    · rw [up1_ne (by omega), up2_ne e]; exact h2 k' w' p1 p2 p3 p4
  · rw [up1_ne (by omega)]; exact h3 j p1 p2
  · rw [up1_ne (by omega)]; exact h4 k' p1 p2
theorem L_o {τ j v : Int} {A : Int → Int} {S : Nat → Int → Int} (h : Lk τ A S) (hj : 0 ≤ j ∧ j < 480) : Lk τ (up1 A (j + 485) v) (up2 S 1 j v) := by
  obtain ⟨⟨a0, a1, a2, a3, a4⟩, h2, h3, h4, h5⟩ := h
  refine ⟨⟨?_, ?_, ?_, ?_, ?_⟩, fun k' w' p1 p2 p3 p4 => ?_, fun j' p1 p2 => ?_, fun k' p1 p2 => ?_, h5⟩
  · rw [up1_ne (by omega)]; exact a0
  · rw [up1_ne (by omega)]; exact a1
  · rw [up1_ne (by omega)]; exact a2
  · rw [up1_ne (by omega)]; exact a3
  · rw [up1_ne (by omega)]; exact a4
  · rw [up1_ne (by omega)]; exact h2 k' w' p1 p2 p3 p4
  · by_cases e : j' = j
    · rw [e, up1_eq, up2_eq]
    · rw [up1_ne (by omega), up2_ne e]; exact h3 j' p1 p2
  · rw [up1_ne (by omega)]; exact h4 k' p1 p2
