/-! an act of the text: where its reading stops, its numbers -/
def aB0 (T : Int → Int) (n p : Int) : Int := p + 1 + nmLen T n (p + 1)
def aB1 (T : Int → Int) (n p : Int) : Int := aB0 T n p + 1 + nmLen T n (aB0 T n p + 1)
def aB2 (T : Int → Int) (n p : Int) : Int := aB1 T n p + 1 + nmLen T n (aB1 T n p + 1)
def aPl (T : Int → Int) (n p : Int) : Int :=
  if sgF T n p = 120 then (if sgF T n (p + 1) = 59 then p + 1 + 1 else p + 1)
  else if ¬ isDg (sgF T n (p + 1)) then p + 1
  else if sgF T n p = 116 then (if sgF T n (aB0 T n p) = 59 then aB0 T n p + 1 else aB0 T n p)
  else if sgF T n (aB0 T n p) ≠ 44 then aB0 T n p
  else if ¬ isDg (sgF T n (aB0 T n p + 1)) then aB0 T n p + 1
  else if sgF T n p = 114 then (if sgF T n (aB1 T n p) = 59 then aB1 T n p + 1 else aB1 T n p)
  else if sgF T n (aB1 T n p) ≠ 61 then aB1 T n p
  else if ¬ isDg (sgF T n (aB1 T n p + 1)) then aB1 T n p + 1
  else (if sgF T n (aB2 T n p) = 59 then aB2 T n p + 1 else aB2 T n p)
def aOK (T : Int → Int) (n p : Int) : Prop :=
  if sgF T n p = 120 then sgF T n (p + 1) = 59
  else if ¬ isDg (sgF T n (p + 1)) then False
  else if sgF T n p = 116 then sgF T n (aB0 T n p) = 59
  else if sgF T n (aB0 T n p) ≠ 44 then False
  else if ¬ isDg (sgF T n (aB0 T n p + 1)) then False
  else if sgF T n p = 114 then sgF T n (aB1 T n p) = 59
  else if sgF T n (aB1 T n p) ≠ 61 then False
  else if ¬ isDg (sgF T n (aB1 T n p + 1)) then False
  else sgF T n (aB2 T n p) = 59
def aNum (T : Int → Int) (n p : Int) (v0 v1 v2 : Int) : Prop := (sgF T n p ≠ 120 → v0 = nmVal T n (p + 1)) ∧ (sgF T n p = 114 ∨ sgF T n p = 119 → v1 = nmVal T n (aB0 T n p + 1)) ∧ (sgF T n p = 119 → v2 = nmVal T n (aB1 T n p + 1))
theorem nm_10 (S : Nat → Int → Int) (k : Int) (h : isDg (sgM S)) : nmM S k 10 k = nmVal (S 4) (S 5 0) (S 6 0) := by
  unfold nmM
  rw [if_pos h, up2_nr (by decide), up2_eq]
theorem nm_10n (S : Nat → Int → Int) {k j : Int} (h : j ≠ k) : nmM S k 10 j = S 10 j := by
  unfold nmM
  split
  · rw [up2_nr (by decide), up2_ne h]
  · rfl
theorem ps_10 (S : Nat → Int → Int) (c : Int) : psM S c 10 = S 10 := psM_o S c (by decide)
theorem ra_all {S : Nat → Int → Int} (hl : isLt (sgM S)) : raM (up2 S 6 0 (S 6 0 + 1)) (sgM S) 6 0 = aPl (S 4) (S 5 0) (S 6 0) ∧ (raP (up2 S 6 0 (S 6 0 + 1)) (sgM S) ↔ aOK (S 4) (S 5 0) (S 6 0)) ∧ (aOK (S 4) (S 5 0) (S 6 0) → aNum (S 4) (S 5 0) (S 6 0) (raM (up2 S 6 0 (S 6 0 + 1)) (sgM S) 10 0) (raM (up2 S 6 0 (S 6 0 + 1)) (sgM S) 10 1) (raM (up2 S 6 0 (S 6 0 + 1)) (sgM S) 10 2)) := by
  generalize hS1 : up2 S 6 0 (S 6 0 + 1) = S1
  have t4 : S1 4 = S 4 := by rw [← hS1]; rfl
  have t5 : S1 5 = S 5 := by rw [← hS1]; rfl
  have t6 : S1 6 0 = S 6 0 + 1 := by rw [← hS1, up2_eq]
  have s0 : sgM S1 = sgF (S 4) (S 5 0) (S 6 0 + 1) := by unfold sgM; rw [t4, t5, t6]
  have l0 : sgF (S 4) (S 5 0) (S 6 0) = sgM S := rfl
  have e04 : nmM S1 0 4 = S 4 := by rw [nmM_o S1 0 (by decide) (by decide), t4]
  have e05 : nmM S1 0 5 = S 5 := by rw [nmM_o S1 0 (by decide) (by decide), t5]
  have e06 : nmM S1 0 6 0 = aB0 (S 4) (S 5 0) (S 6 0) := by rw [nmM_at, t4, t5, t6]; rfl
  have s1 : sgM (nmM S1 0) = sgF (S 4) (S 5 0) (aB0 (S 4) (S 5 0) (S 6 0)) := by unfold sgM; rw [e04, e05, e06]
  unfold raM raP aPl aOK aNum
  rw [l0, s0, s1]
  generalize sgM S = l at hl ⊢
  by_cases c1 : l = 120
  · simp only [if_pos c1]
    exact ⟨by rw [psM_at, s0, t6], (by first | exact trivial | exact Iff.rfl), fun _ => ⟨fun z => absurd c1 z, fun z => by omega, fun z => by omega⟩⟩
  · simp only [if_neg c1]
    by_cases c2 : isDg (sgF (S 4) (S 5 0) (S 6 0 + 1))
    · have d2 : ¬ ¬ isDg (sgF (S 4) (S 5 0) (S 6 0 + 1)) := fun z => z c2
      have n0 : nmM S1 0 10 0 = nmVal (S 4) (S 5 0) (S 6 0 + 1) := by rw [nm_10 S1 0 (by rw [s0]; exact c2), t4, t5, t6]
      simp only [if_neg d2]
      by_cases c3 : l = 116
      · simp only [if_pos c3]
        exact ⟨by rw [psM_at, s1, e06], (by first | exact trivial | exact Iff.rfl), fun _ => ⟨fun _ => by rw [ps_10]; exact n0, fun z => by omega, fun z => by omega⟩⟩
      · simp only [if_neg c3]
        by_cases c4 : sgF (S 4) (S 5 0) (aB0 (S 4) (S 5 0) (S 6 0)) = 44
        · have d4 : ¬ sgF (S 4) (S 5 0) (aB0 (S 4) (S 5 0) (S 6 0)) ≠ 44 := fun z => z c4
          simp only [if_neg d4]
          have f14 : psM (nmM S1 0) 44 4 = S 4 := by rw [psM_o _ _ (by decide), e04]
          have f15 : psM (nmM S1 0) 44 5 = S 5 := by rw [psM_o _ _ (by decide), e05]
          have f16 : psM (nmM S1 0) 44 6 0 = aB0 (S 4) (S 5 0) (S 6 0) + 1 := by rw [psM_at, if_pos (by rw [s1]; exact c4), e06]
          have s2 : sgM (psM (nmM S1 0) 44) = sgF (S 4) (S 5 0) (aB0 (S 4) (S 5 0) (S 6 0) + 1) := by unfold sgM; rw [f14, f15, f16]
          have e24 : nmM (psM (nmM S1 0) 44) 1 4 = S 4 := by rw [nmM_o _ _ (by decide) (by decide), f14]
          have e25 : nmM (psM (nmM S1 0) 44) 1 5 = S 5 := by rw [nmM_o _ _ (by decide) (by decide), f15]
          have e26 : nmM (psM (nmM S1 0) 44) 1 6 0 = aB1 (S 4) (S 5 0) (S 6 0) := by rw [nmM_at, f14, f15, f16]; rfl
          have s3 : sgM (nmM (psM (nmM S1 0) 44) 1) = sgF (S 4) (S 5 0) (aB1 (S 4) (S 5 0) (S 6 0)) := by unfold sgM; rw [e24, e25, e26]
          rw [s2, s3]
          by_cases c5 : isDg (sgF (S 4) (S 5 0) (aB0 (S 4) (S 5 0) (S 6 0) + 1))
          · have d5 : ¬ ¬ isDg (sgF (S 4) (S 5 0) (aB0 (S 4) (S 5 0) (S 6 0) + 1)) := fun z => z c5
            simp only [if_neg d5]
            have n1 : nmM (psM (nmM S1 0) 44) 1 10 1 = nmVal (S 4) (S 5 0) (aB0 (S 4) (S 5 0) (S 6 0) + 1) := by rw [nm_10 _ 1 (by rw [s2]; exact c5), f14, f15, f16]
            have n0' : nmM (psM (nmM S1 0) 44) 1 10 0 = nmVal (S 4) (S 5 0) (S 6 0 + 1) := by rw [nm_10n _ (by decide), ps_10, n0]
            by_cases c6 : l = 114
            · simp only [if_pos c6]
              exact ⟨by rw [psM_at, s3, e26], (by first | exact trivial | exact Iff.rfl), fun _ => ⟨fun _ => by rw [ps_10]; exact n0', fun _ => by rw [ps_10]; exact n1, fun z => by omega⟩⟩
            · simp only [if_neg c6]
              by_cases c7 : sgF (S 4) (S 5 0) (aB1 (S 4) (S 5 0) (S 6 0)) = 61
              · have d7 : ¬ sgF (S 4) (S 5 0) (aB1 (S 4) (S 5 0) (S 6 0)) ≠ 61 := fun z => z c7
                simp only [if_neg d7]
                have f34 : psM (nmM (psM (nmM S1 0) 44) 1) 61 4 = S 4 := by rw [psM_o _ _ (by decide), e24]
                have f35 : psM (nmM (psM (nmM S1 0) 44) 1) 61 5 = S 5 := by rw [psM_o _ _ (by decide), e25]
                have f36 : psM (nmM (psM (nmM S1 0) 44) 1) 61 6 0 = aB1 (S 4) (S 5 0) (S 6 0) + 1 := by rw [psM_at, if_pos (by rw [s3]; exact c7), e26]
                have s4 : sgM (psM (nmM (psM (nmM S1 0) 44) 1) 61) = sgF (S 4) (S 5 0) (aB1 (S 4) (S 5 0) (S 6 0) + 1) := by unfold sgM; rw [f34, f35, f36]
                have e44 : nmM (psM (nmM (psM (nmM S1 0) 44) 1) 61) 2 4 = S 4 := by rw [nmM_o _ _ (by decide) (by decide), f34]
                have e45 : nmM (psM (nmM (psM (nmM S1 0) 44) 1) 61) 2 5 = S 5 := by rw [nmM_o _ _ (by decide) (by decide), f35]
                have e46 : nmM (psM (nmM (psM (nmM S1 0) 44) 1) 61) 2 6 0 = aB2 (S 4) (S 5 0) (S 6 0) := by rw [nmM_at, f34, f35, f36]; rfl
                have s5 : sgM (nmM (psM (nmM (psM (nmM S1 0) 44) 1) 61) 2) = sgF (S 4) (S 5 0) (aB2 (S 4) (S 5 0) (S 6 0)) := by unfold sgM; rw [e44, e45, e46]
                rw [s4, s5]
                by_cases c8 : isDg (sgF (S 4) (S 5 0) (aB1 (S 4) (S 5 0) (S 6 0) + 1))
                · have d8 : ¬ ¬ isDg (sgF (S 4) (S 5 0) (aB1 (S 4) (S 5 0) (S 6 0) + 1)) := fun z => z c8
                  simp only [if_neg d8]
                  have n2 : nmM (psM (nmM (psM (nmM S1 0) 44) 1) 61) 2 10 2 = nmVal (S 4) (S 5 0) (aB1 (S 4) (S 5 0) (S 6 0) + 1) := by rw [nm_10 _ 2 (by rw [s4]; exact c8), f34, f35, f36]
                  have n1' : nmM (psM (nmM (psM (nmM S1 0) 44) 1) 61) 2 10 1 = nmVal (S 4) (S 5 0) (aB0 (S 4) (S 5 0) (S 6 0) + 1) := by rw [nm_10n _ (by decide), ps_10, n1]
                  have n0'' : nmM (psM (nmM (psM (nmM S1 0) 44) 1) 61) 2 10 0 = nmVal (S 4) (S 5 0) (S 6 0 + 1) := by rw [nm_10n _ (by decide), ps_10, n0']
                  exact ⟨by rw [psM_at, s5, e46], (by first | exact trivial | exact Iff.rfl), fun _ => ⟨fun _ => by rw [ps_10]; exact n0'', fun _ => by rw [ps_10]; exact n1', fun _ => by rw [ps_10]; exact n2⟩⟩
                · simp only [if_pos c8]
                  refine ⟨?_, (by first | exact trivial | exact Iff.rfl), fun z => z.elim⟩
                  rw [nmM_at, f34, f35, f36, show nmLen (S 4) (S 5 0) (aB1 (S 4) (S 5 0) (S 6 0) + 1) = 0 from if_pos c8]
                  omega
              · simp only [if_pos (show sgF (S 4) (S 5 0) (aB1 (S 4) (S 5 0) (S 6 0)) ≠ 61 from c7)]
                refine ⟨?_, (by first | exact trivial | exact Iff.rfl), fun z => z.elim⟩
                rw [psM_at, if_neg (by rw [s3]; exact c7), e26]
          · simp only [if_pos c5]
            refine ⟨?_, (by first | exact trivial | exact Iff.rfl), fun z => z.elim⟩
            rw [nmM_at, f14, f15, f16, show nmLen (S 4) (S 5 0) (aB0 (S 4) (S 5 0) (S 6 0) + 1) = 0 from if_pos c5]
            omega
        · simp only [if_pos (show sgF (S 4) (S 5 0) (aB0 (S 4) (S 5 0) (S 6 0)) ≠ 44 from c4)]
          refine ⟨?_, (by first | exact trivial | exact Iff.rfl), fun z => z.elim⟩
          rw [psM_at, if_neg (by rw [s1]; exact c4), e06]
    · simp only [if_pos c2]
      refine ⟨?_, (by first | exact trivial | exact Iff.rfl), fun z => z.elim⟩
      rw [nmM_at, t4, t5, t6, show nmLen (S 4) (S 5 0) (S 6 0 + 1) = 0 from if_pos c2]
      omega
