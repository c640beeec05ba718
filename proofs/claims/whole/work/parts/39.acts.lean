/-! the class reads the same act -/
theorem nmVal_all (T : Int → Int) (n p : Int) : 0 ≤ nmVal T n p ∧ nmVal T n p ≤ 999 := by
  by_cases h : isDg (sgF T n p)
  · exact nmVal_rng n p h
  · have e : nmLen T n p = 0 := if_pos h
    unfold nmVal
    rw [if_pos e]
    omega
theorem rn_at {Q : Nat → Int → Int} {T : Int → Int} {n q : Int} (h0 : Q 0 = T) (h1 : Q 1 0 = n) (h8 : Q 8 0 = q) (le ix ch : Int) : rnC Q le ix ch 8 0 = if isDg (sgF T n q) then (if sgF T n (q + nmLen T n q) = ch then q + nmLen T n q + 1 else q + nmLen T n q) else q := by
  have s : sgP Q = sgF T n q := by unfold sgP; rw [h0, h1, h8]
  have r8 : rn1 Q le ix 8 0 = q + nmLen T n q := by
    show Q 8 0 + nmLen (Q 0) (Q 1 0) (Q 8 0) = _
    rw [h0, h1, h8]
  have sr : sgP (rn1 Q le ix) = sgF T n (q + nmLen T n q) := by
    have e : sgP (rn1 Q le ix) = sgF (Q 0) (Q 1 0) (rn1 Q le ix 8 0) := rfl
    rw [e, r8, h0, h1]
  unfold rnC
  rw [s]
  by_cases c : isDg (sgF T n q)
  · rw [if_pos c, if_pos c]
    unfold rsC
    rw [sr]
    by_cases z : sgF T n (q + nmLen T n q) = ch
    · rw [if_pos z, if_pos z, up2_eq, r8]
    · rw [if_neg z, if_neg z, r8]
  · rw [if_neg c, if_neg c, r8, show nmLen T n q = 0 from if_pos c]
    omega
theorem rn_P {Q : Nat → Int → Int} {T : Int → Int} {n q : Int} (h0 : Q 0 = T) (h1 : Q 1 0 = n) (h8 : Q 8 0 = q) (le ix ch : Int) : rnP Q le ix ch ↔ isDg (sgF T n q) ∧ sgF T n (q + nmLen T n q) = ch := by
  have s : sgP Q = sgF T n q := by unfold sgP; rw [h0, h1, h8]
  have r8 : rn1 Q le ix 8 0 = q + nmLen T n q := by
    show Q 8 0 + nmLen (Q 0) (Q 1 0) (Q 8 0) = _
    rw [h0, h1, h8]
  have sr : sgP (rn1 Q le ix) = sgF T n (q + nmLen T n q) := by
    have e : sgP (rn1 Q le ix) = sgF (Q 0) (Q 1 0) (rn1 Q le ix 8 0) := rfl
    rw [e, r8, h0, h1]
  unfold rnP
  rw [s, sr]
theorem rn_o (Q : Nat → Int → Int) (le ix ch : Int) {i : Nat} (h2 : i ≠ 2) (h8 : i ≠ 8) : rnC Q le ix ch i = Q i := by
  have e : rn1 Q le ix i = Q i := by
    unfold rn1
    rw [up2_nr h2, up2_nr h8]
  unfold rnC rsC
  (repeat' split)
  · rw [up2_nr h8, e]
  · exact e
  · exact e
theorem rn_2 {Q : Nat → Int → Int} {T : Int → Int} {n q : Int} (h0 : Q 0 = T) (h1 : Q 1 0 = n) (h8 : Q 8 0 = q) (le ix ch j : Int) : rnC Q le ix ch 2 j = if j = 3 * le + ix then nmVal T n q else Q 2 j := by
  have e : rn1 Q le ix 2 j = if j = 3 * le + ix then nmVal T n q else Q 2 j := by
    have e2 : rn1 Q le ix 2 j = if j = 3 * le + ix then nmVal (Q 0) (Q 1 0) (Q 8 0) else Q 2 j := rfl
    rw [e2, h0, h1, h8]
  rw [← e]
  unfold rnC rsC
  (repeat' split) <;> rfl
theorem ac0_o (P : Nat → Int → Int) {i : Nat} (h3 : i ≠ 3) (h4 : i ≠ 4) (h8 : i ≠ 8) : ac0 P i = P i := by
  unfold ac0
  rw [asC_o _ _ h3 h4, up2_nr h8]
theorem ac0_8 (P : Nat → Int → Int) : ac0 P 8 0 = P 8 0 + 1 := by
  unfold ac0
  rw [asC_o _ _ (by decide) (by decide), up2_eq]
theorem ac_all {P : Nat → Int → Int} (hl : isLt (sgP P)) : acC P 8 0 = aPl (P 0) (P 1 0) (P 8 0) ∧ (acP P ↔ aOK (P 0) (P 1 0) (P 8 0)) ∧ (aOK (P 0) (P 1 0) (P 8 0) → aNum (P 0) (P 1 0) (P 8 0) (acC P 2 (3 * P 8 0)) (acC P 2 (3 * P 8 0 + 1)) (acC P 2 (3 * P 8 0 + 2))) := by
  generalize hp : P 8 0 = p
  have l0 : sgF (P 0) (P 1 0) p = sgP P := by rw [← hp]; rfl
  have q0 : ac0 P 0 = P 0 := ac0_o P (by decide) (by decide) (by decide)
  have q1 : ac0 P 1 0 = P 1 0 := by rw [ac0_o P (by decide) (by decide) (by decide)]
  have q8 : ac0 P 8 0 = p + 1 := by rw [ac0_8, hp]
  generalize hT : P 0 = T at l0 q0 ⊢
  generalize hn : P 1 0 = n at l0 q1 ⊢
  unfold acC acP aPl aOK aNum
  rw [hp, l0]
  generalize sgP P = l at hl l0 ⊢
  generalize ac0 P = Q at q0 q1 q8 ⊢
  have sq : sgP Q = sgF T n (p + 1) := by unfold sgP; rw [q0, q1, q8]
  -- the first number, with any sign behind it
  have A0 : ∀ ch : Int, rnC Q p 0 ch 8 0 = if isDg (sgF T n (p + 1)) then (if sgF T n (aB0 T n p) = ch then aB0 T n p + 1 else aB0 T n p) else p + 1 := fun ch => rn_at q0 q1 q8 p 0 ch
  have P0 : ∀ ch : Int, rnP Q p 0 ch ↔ isDg (sgF T n (p + 1)) ∧ sgF T n (aB0 T n p) = ch := fun ch => rn_P q0 q1 q8 p 0 ch
  have N0 : ∀ ch j : Int, rnC Q p 0 ch 2 j = if j = 3 * p + 0 then nmVal T n (p + 1) else Q 2 j := fun ch j => rn_2 q0 q1 q8 p 0 ch j
  have Z0 : ∀ ch : Int, rnC Q p 0 ch 0 = T := fun ch => by rw [rn_o _ _ _ _ (by decide) (by decide)]; exact q0
  have Z1 : ∀ ch : Int, rnC Q p 0 ch 1 0 = n := fun ch => by rw [rn_o _ _ _ _ (by decide) (by decide)]; exact q1
  rcases hl with c | c | c | c
  · -- r
    simp only [if_pos c, if_neg (show ¬ l = 120 by omega), if_neg (show ¬ l = 116 by omega)]
    by_cases y : rnP Q p 0 44
    · obtain ⟨y1, y2⟩ := (P0 44).mp y
      have a8 : rnC Q p 0 44 8 0 = aB0 T n p + 1 := by rw [A0, if_pos y1, if_pos y2]
      have B1 := rn_at (Z0 44) (Z1 44) a8 p 1 59
      have R1 := rn_P (Z0 44) (Z1 44) a8 p 1 59
      have M1 := fun j => rn_2 (Z0 44) (Z1 44) a8 p 1 59 j
      simp only [if_pos y, if_neg (fun z : ¬ isDg (sgF T n (p + 1)) => z y1), if_neg (fun z : sgF T n (aB0 T n p) ≠ 44 => z y2)]
      by_cases y3 : isDg (sgF T n (aB0 T n p + 1))
      · rw [if_pos y3] at B1
        simp only [if_neg (fun z : ¬ isDg (sgF T n (aB0 T n p + 1)) => z y3)]
        refine ⟨B1, ⟨fun z => (R1.mp z.2).2, fun z => ⟨y, R1.mpr ⟨y3, z⟩⟩⟩, fun _ => ⟨fun _ => ?_, fun _ => ?_, fun z => by omega⟩⟩
        · rw [M1, if_neg (by omega), N0, if_pos (by omega)]
        · rw [M1, if_pos (by omega)]
      · rw [if_neg y3] at B1
        simp only [if_pos y3]
        exact ⟨B1, ⟨fun z => y3 (R1.mp z.2).1, fun z => z.elim⟩, fun z => z.elim⟩
    · simp only [if_neg y]
      by_cases y1 : isDg (sgF T n (p + 1))
      · have y2 : sgF T n (aB0 T n p) ≠ 44 := fun z => y ((P0 44).mpr ⟨y1, z⟩)
        simp only [if_neg (fun z : ¬ isDg (sgF T n (p + 1)) => z y1), if_pos y2]
        exact ⟨by rw [A0, if_pos y1, if_neg y2], ⟨fun z => y z.1, fun z => z.elim⟩, fun z => z.elim⟩
      · simp only [if_pos y1]
        exact ⟨by rw [A0, if_neg y1], ⟨fun z => y z.1, fun z => z.elim⟩, fun z => z.elim⟩
  · -- w
    simp only [if_pos c, if_neg (show ¬ l = 120 by omega), if_neg (show ¬ l = 116 by omega), if_neg (show ¬ l = 114 by omega)]
    by_cases y : rnP Q p 0 44
    · obtain ⟨y1, y2⟩ := (P0 44).mp y
      have a8 : rnC Q p 0 44 8 0 = aB0 T n p + 1 := by rw [A0, if_pos y1, if_pos y2]
      have B1 := rn_at (Z0 44) (Z1 44) a8 p 1 61
      have R1 := rn_P (Z0 44) (Z1 44) a8 p 1 61
      have M1 := fun j => rn_2 (Z0 44) (Z1 44) a8 p 1 61 j
      simp only [if_pos y, if_neg (fun z : ¬ isDg (sgF T n (p + 1)) => z y1), if_neg (fun z : sgF T n (aB0 T n p) ≠ 44 => z y2)]
      by_cases x : rnP (rnC Q p 0 44) p 1 61
      · obtain ⟨y3, y4⟩ := R1.mp x
        have y4' : sgF T n (aB1 T n p) = 61 := y4
        have b8 : rnC (rnC Q p 0 44) p 1 61 8 0 = aB1 T n p + 1 := by rw [B1, if_pos y3, if_pos y4]; rfl
        have W0 : rnC (rnC Q p 0 44) p 1 61 0 = T := by rw [rn_o _ _ _ _ (by decide) (by decide)]; exact Z0 44
        have W1 : rnC (rnC Q p 0 44) p 1 61 1 0 = n := by rw [rn_o _ _ _ _ (by decide) (by decide)]; exact Z1 44
        have B2 := rn_at W0 W1 b8 p 2 59
        have R2 := rn_P W0 W1 b8 p 2 59
        have M2 := fun j => rn_2 W0 W1 b8 p 2 59 j
        simp only [if_pos x, if_neg (fun z : ¬ isDg (sgF T n (aB0 T n p + 1)) => z y3), if_neg (fun z : sgF T n (aB1 T n p) ≠ 61 => z y4')]
        by_cases y5 : isDg (sgF T n (aB1 T n p + 1))
        · rw [if_pos y5] at B2
          simp only [if_neg (fun z : ¬ isDg (sgF T n (aB1 T n p + 1)) => z y5)]
          refine ⟨B2, ⟨fun z => (R2.mp z.2.2).2, fun z => ⟨y, x, R2.mpr ⟨y5, z⟩⟩⟩, fun _ => ⟨fun _ => ?_, fun _ => ?_, fun _ => ?_⟩⟩
          · rw [M2, if_neg (by omega), M1, if_neg (by omega), N0, if_pos (by omega)]
          · rw [M2, if_neg (by omega), M1, if_pos (by omega)]
          · rw [M2, if_pos (by omega)]
        · rw [if_neg y5] at B2
          simp only [if_pos y5]
          exact ⟨B2, ⟨fun z => y5 (R2.mp z.2.2).1, fun z => z.elim⟩, fun z => z.elim⟩
      · simp only [if_neg x]
        by_cases y3 : isDg (sgF T n (aB0 T n p + 1))
        · have y4 : sgF T n (aB1 T n p) ≠ 61 := fun z => x (R1.mpr ⟨y3, z⟩)
          rw [if_pos y3] at B1
          simp only [if_neg (fun z : ¬ isDg (sgF T n (aB0 T n p + 1)) => z y3), if_pos y4]
          refine ⟨?_, ⟨fun z => x z.2.1, fun z => z.elim⟩, fun z => z.elim⟩
          rw [B1]
          exact if_neg y4
        · rw [if_neg y3] at B1
          simp only [if_pos y3]
          exact ⟨B1, ⟨fun z => x z.2.1, fun z => z.elim⟩, fun z => z.elim⟩
    · simp only [if_neg y]
      by_cases y1 : isDg (sgF T n (p + 1))
      · have y2 : sgF T n (aB0 T n p) ≠ 44 := fun z => y ((P0 44).mpr ⟨y1, z⟩)
        simp only [if_neg (fun z : ¬ isDg (sgF T n (p + 1)) => z y1), if_pos y2]
        exact ⟨by rw [A0, if_pos y1, if_neg y2], ⟨fun z => y z.1, fun z => z.elim⟩, fun z => z.elim⟩
      · simp only [if_pos y1]
        exact ⟨by rw [A0, if_neg y1], ⟨fun z => y z.1, fun z => z.elim⟩, fun z => z.elim⟩
  · -- t
    simp only [if_pos c, if_neg (show ¬ l = 120 by omega), if_neg (show ¬ l = 119 by omega), if_neg (show ¬ l = 114 by omega)]
    by_cases y1 : isDg (sgF T n (p + 1))
    · simp only [if_neg (fun z : ¬ isDg (sgF T n (p + 1)) => z y1)]
      refine ⟨by rw [A0, if_pos y1], ⟨fun z => ((P0 59).mp z).2, fun z => (P0 59).mpr ⟨y1, z⟩⟩, fun _ => ⟨fun _ => ?_, fun z => by omega, fun z => by omega⟩⟩
      rw [N0, if_pos (by omega)]
    · simp only [if_pos y1]
      exact ⟨by rw [A0, if_neg y1], ⟨fun z => y1 ((P0 59).mp z).1, fun z => z.elim⟩, fun z => z.elim⟩
  · -- x
    simp only [if_pos c, if_neg (show ¬ l = 116 by omega), if_neg (show ¬ l = 119 by omega), if_neg (show ¬ l = 114 by omega)]
    refine ⟨?_, by rw [sq], fun _ => ⟨fun z => absurd c z, fun z => by omega, fun z => by omega⟩⟩
    unfold rsC
    rw [sq]
    by_cases z : sgF T n (p + 1) = 59
    · rw [if_pos z, if_pos z, up2_eq, q8]
    · rw [if_neg z, if_neg z, q8]
/-- what an act changes -/
theorem ac_o (P : Nat → Int → Int) (hl : isLt (sgP P)) {i : Nat} (h2 : i ≠ 2) (h8 : i ≠ 8) : acC P i = ac0 P i := by
  unfold acC
  rcases hl with c | c | c | c
  · simp only [if_pos c]
    (repeat' split) <;> (repeat rw [rn_o _ _ _ _ h2 h8])
  · simp only [if_pos c, if_neg (show ¬ sgP P = 114 by omega)]
    (repeat' split) <;> (repeat rw [rn_o _ _ _ _ h2 h8])
  · simp only [if_pos c, if_neg (show ¬ sgP P = 114 by omega), if_neg (show ¬ sgP P = 119 by omega)]
    rw [rn_o _ _ _ _ h2 h8]
  · simp only [if_pos c, if_neg (show ¬ sgP P = 114 by omega), if_neg (show ¬ sgP P = 119 by omega), if_neg (show ¬ sgP P = 116 by omega)]
    unfold rsC
    split
    · rw [up2_nr h8]
    · rfl
theorem rn_2n (Q : Nat → Int → Int) (le ix ch j : Int) (h : j ≠ 3 * le + ix) : rnC Q le ix ch 2 j = Q 2 j := by
  rw [rn_2 (T := Q 0) (n := Q 1 0) (q := Q 8 0) rfl rfl rfl, if_neg h]
theorem ac_2n (P : Nat → Int → Int) (j : Int) (h : ¬ (3 * P 8 0 ≤ j ∧ j < 3 * P 8 0 + 3)) : acC P 2 j = P 2 j := by
  have e : ac0 P 2 j = P 2 j := by rw [ac0_o P (by decide) (by decide) (by decide)]
  unfold acC
  (repeat' split) <;> first | rfl | skip
  all_goals first
    | (rw [rn_2n _ _ _ _ _ (by omega), rn_2n _ _ _ _ _ (by omega), rn_2n _ _ _ _ _ (by omega)]; exact e)
    | (rw [rn_2n _ _ _ _ _ (by omega), rn_2n _ _ _ _ _ (by omega)]; exact e)
    | (rw [rn_2n _ _ _ _ _ (by omega)]; exact e)
    | (unfold rsC; split <;> exact e)
theorem rn_2r {Q : Nat → Int → Int} (h : ∀ j : Int, 0 ≤ Q 2 j ∧ Q 2 j ≤ 999) (le ix ch : Int) : ∀ j : Int, 0 ≤ rnC Q le ix ch 2 j ∧ rnC Q le ix ch 2 j ≤ 999 := fun j => by
  rw [rn_2 (T := Q 0) (n := Q 1 0) (q := Q 8 0) rfl rfl rfl]
  split
  · exact nmVal_all _ _ _
  · exact h j
theorem ac_2r {P : Nat → Int → Int} (h : ∀ j : Int, 0 ≤ P 2 j ∧ P 2 j ≤ 999) : ∀ j : Int, 0 ≤ acC P 2 j ∧ acC P 2 j ≤ 999 := by
  have e : ∀ j : Int, 0 ≤ ac0 P 2 j ∧ ac0 P 2 j ≤ 999 := fun j => by rw [ac0_o P (by decide) (by decide) (by decide)]; exact h j
  have r : ∀ c : Int, ∀ j : Int, 0 ≤ rsC (ac0 P) c 2 j ∧ rsC (ac0 P) c 2 j ≤ 999 := fun c j => by
    have e2 : rsC (ac0 P) c 2 j = ac0 P 2 j := by
      unfold rsC
      split <;> rfl
    rw [e2]
    exact e j
  unfold acC
  generalize ac0 P = Q at e r ⊢
  by_cases c1 : sgP P = 114
  · rw [if_pos c1]
    split
    · exact rn_2r (rn_2r e _ _ _) _ _ _
    · exact rn_2r e _ _ _
  · rw [if_neg c1]
    by_cases c2 : sgP P = 119
    · rw [if_pos c2]
      split
      · split
        · exact rn_2r (rn_2r (rn_2r e _ _ _) _ _ _) _ _ _
        · exact rn_2r (rn_2r e _ _ _) _ _ _
      · exact rn_2r e _ _ _
    · rw [if_neg c2]
      by_cases c3 : sgP P = 116
      · rw [if_pos c3]
        exact rn_2r e _ _ _
      · rw [if_neg c3]
        split
        · exact r 59
        · exact h
