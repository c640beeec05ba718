/-! the link within a tick -/
theorem L_forg {A : Int → Int} {S : Nat → Int → Int} (h : Lk (S 5 0 - 1) A S) : Lk (S 5 0) A (forgS S) := by
  obtain ⟨h1, h2, h3, h4, h5⟩ := h
  have f2 : ∀ j : Int, 0 ≤ j → j < 2 → forgS S 2 j = -1 := by
    intro j a b
    unfold forgS
    rcases (show j = 0 ∨ j = 1 by omega) with rfl | rfl
    · rw [up2_ne (by decide), up2_eq]
    · rw [up2_eq]
  refine ⟨h1, h2, h3, fun k a b => ?_, fun side a b => Or.inl (f2 side a b)⟩
  have q := h4 k a b
  have f := f2 (k / 48) (by omega) (by omega)
  rw [f]
  omega
