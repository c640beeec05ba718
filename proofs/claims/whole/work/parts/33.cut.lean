/-! orders taken, the power cut, the sweep -/
theorem Lk_congr {τ : Int} {A A' : Int → Int} {S : Nat → Int → Int} (h : Lk τ A S) (e : ∀ j : Int, 0 ≤ j → j < 965 → A' j = A j) : Lk τ A' S := by
  obtain ⟨⟨a0, a1, a2, a3, a4⟩, h2, h3, h4, h5⟩ := h
  refine ⟨⟨?_, ?_, ?_, ?_, ?_⟩, fun k w p1 p2 p3 p4 => ?_, fun j p1 p2 => ?_, fun k p1 p2 => ?_, h5⟩
  · rw [e _ (by omega) (by omega)]; exact a0
  · rw [e _ (by omega) (by omega)]; exact a1
  · rw [e _ (by omega) (by omega)]; exact a2
  · rw [e _ (by omega) (by omega)]; exact a3
  · rw [e _ (by omega) (by omega)]; exact a4
  · rw [e _ (by omega) (by omega)]; exact h2 k w p1 p2 p3 p4
  · rw [e _ (by omega) (by omega)]; exact h3 j p1 p2
  · rw [e _ (by omega) (by omega)]; exact h4 k p1 p2
theorem LG_congr {A A' : Int → Int} {S : Nat → Int → Int} (h : LG A S) (e : ∀ j : Int, 0 ≤ j → j < 965 → A' j = A j) : LG A' S := ⟨Lk_congr h.1 e, h.2⟩
theorem L_wait {τ V : Int} {A : Int → Int} {S : Nat → Int → Int} (h : Lk τ A S) (g : Good V S) : S 8 0 = inStF A 0 := by
  rw [g.2.2.2.2.1, ← L_inSt h g 0]
  rfl
theorem L_tkS {τ : Int} {A : Int → Int} {S : Nat → Int → Int} (h : Lk τ A S) (hn : 0 ≤ S 7 0 ∧ S 7 0 < 60) (kind tr se wo : Int) : Lk τ (tkAF A kind tr se wo) (tkOrdS S kind tr se wo) := by
  have e2 := h.1.2.2.1
  have e0 := h.1.1
  have h0 := L_s2 (v := A 2 + 1) (v' := S 7 0 + 1) h (by omega)
  have h1 := L_o' (j' := 8 * A 2 + 485) (j := 8 * S 7 0) (v := kind) (v' := kind) h0 (by omega) (by omega) rfl
  have h2 := L_o' (j' := 8 * A 2 + 486) (j := 8 * S 7 0 + 1) (v := tr) (v' := tr) h1 (by omega) (by omega) rfl
  have h3 := L_o' (j' := 8 * A 2 + 487) (j := 8 * S 7 0 + 2) (v := se) (v' := se) h2 (by omega) (by omega) rfl
  have h4 := L_o' (j' := 8 * A 2 + 488) (j := 8 * S 7 0 + 3) (v := 0) (v' := 0) h3 (by omega) (by omega) rfl
  have h5 := L_o' (j' := 8 * A 2 + 489) (j := 8 * S 7 0 + 4) (v := A 0) (v' := S 5 0) h4 (by omega) (by omega) e0
  have h6 := L_o' (j' := 8 * A 2 + 490) (j := 8 * S 7 0 + 5) (v := -9) (v' := -9) h5 (by omega) (by omega) rfl
  have h7 := L_o' (j' := 8 * A 2 + 491) (j := 8 * S 7 0 + 6) (v := -9) (v' := -9) h6 (by omega) (by omega) rfl
  have h8 := L_o' (j' := 8 * A 2 + 492) (j := 8 * S 7 0 + 7) (v := wo) (v' := wo) h7 (by omega) (by omega) rfl
  exact L_ext h8 rfl rfl rfl rfl rfl rfl rfl rfl
def tkA (A : Int → Int) (kind tr se wo : Int) : Int → Int := if A 2 = 60 ∨ 20 ≤ inStF A 0 then A else tkAF A kind tr se wo
theorem LG_tk {A : Int → Int} {S : Nat → Int → Int} (h : LG A S) {kind tr se wo : Int} (h1 : 0 ≤ tr ∧ tr < 4) (h2 : 0 ≤ se ∧ se < 12) (hkd : 0 ≤ kind ∧ kind ≤ 1) (hw : -9 ≤ wo ∧ wo ≤ 999) (hk : kind = 1 → 0 ≤ wo) : takesR A = tkOrdR S ∧ LG (tkA A kind tr se wo) (tkOrd S kind tr se wo) := by
  have a := h.2.1
  have e2 := h.1.1.2.2.1
  have e8 := L_wait h.1 h.2
  unfold takesR tkOrdR tkA tkOrd
  rw [← e8, e2]
  by_cases q : 60 ≤ S 7 0 ∨ 20 ≤ S 8 0
  · rw [if_pos (show S 7 0 = 60 ∨ 20 ≤ S 8 0 by omega), if_pos q, if_pos (show S 7 0 = 60 ∨ 20 ≤ S 8 0 by omega), if_pos q]
    exact ⟨rfl, h⟩
  · rw [if_neg (show ¬ (S 7 0 = 60 ∨ 20 ≤ S 8 0) by omega), if_neg q, if_neg (show ¬ (S 7 0 = 60 ∨ 20 ≤ S 8 0) by omega), if_neg q]
    exact ⟨rfl, L_tkS (τ := S 5 0 - 1) h.1 (by omega) kind tr se wo, G_tkS (V := 2 * S 5 0) h.2 (by omega) h1 h2 hkd hw hk⟩
theorem tear_at (S : Nat → Int → Int) (side j : Int) : tearS side S 0 j = if S 2 side ≠ -1 ∧ j = S 2 side + 2 ∧ S 0 j = 0 then 1 else S 0 j := by
  unfold tearS
  by_cases q : S 2 side ≠ -1 ∧ S 0 (S 2 side + 2) = 0
  · rw [if_pos q]
    by_cases e : j = S 2 side + 2
    · rw [e, up2_eq, if_pos ⟨q.1, rfl, q.2⟩]
    · rw [up2_ne e, if_neg (fun z => e z.2.1)]
  · rw [if_neg q, if_neg]
    rintro ⟨z1, z2, z3⟩
    rw [z2] at z3
    exact q ⟨z1, z3⟩
theorem tear_o (S : Nat → Int → Int) (side : Int) {i : Nat} (h : i ≠ 0) : tearS side S i = S i := by
  unfold tearS
  split
  · rw [up2_nr h]
  · rfl
theorem tears2 (S : Nat → Int → Int) : ixZ tearS 2 S = tearS 1 (tearS 0 S) := by
  rw [show (2 : Int) = 1 + 1 by rfl, ixZ_succ _ _ (by omega), show (1 : Int) = 0 + 1 by rfl, ixZ_succ _ _ (by omega)]
  rfl
theorem tears_o (S : Nat → Int → Int) {i : Nat} (h : i ≠ 0) : ixZ tearS 2 S i = S i := by rw [tears2, tear_o _ _ h, tear_o _ _ h]
theorem cut_0 (S : Nat → Int → Int) (j : Int) : cutS S 0 j = if j % 4 = 3 ∧ ((0 ≤ j ∧ j < 4 * 48) ∨ (192 ≤ j ∧ j < 192 + 4 * 48)) then 0 else ixZ tearS 2 S 0 j := rfl
theorem cut_1 (S : Nat → Int → Int) (j : Int) : cutS S 1 j = if j % 8 = 3 ∧ 0 ≤ j ∧ j < 8 * S 7 0 ∧ S 1 j = 0 then 2 else S 1 j := by
  have e : cutS S 1 j = if j % 8 = 3 ∧ 0 ≤ j ∧ j < 8 * ixZ tearS 2 S 7 0 ∧ ixZ tearS 2 S 1 j = 0 then 2 else ixZ tearS 2 S 1 j := rfl
  rw [e, tears_o S (i := 7) (by decide), tears_o S (i := 1) (by decide)]
theorem cut_o (S : Nat → Int → Int) {i : Nat} (h : i = 2 ∨ i = 5 ∨ i = 6 ∨ i = 7 ∨ i = 9 ∨ i = 10) : cutS S i = S i := by
  have e : cutS S i = ixZ tearS 2 S i := by rcases h with rfl | rfl | rfl | rfl | rfl | rfl <;> rfl
  rw [e, tears_o S (by omega)]
theorem cutA_lo (A : Int → Int) {j : Int} (h : j < 5) : cutsF A j = A j := by
  unfold cutsF cutOF cutKF
  rw [if_neg (by omega), if_neg (by omega), if_neg (by omega)]
theorem L_cut {V : Int} {A : Int → Int} {S : Nat → Int → Int} (h : Lk (S 5 0 - 1) A S) (g : Good V S) : Lk (S 5 0 - 1) (cutsF A) (cutS S) := by
  obtain ⟨⟨a0, a1, a2, a3, a4⟩, h2, h3, h4, h5⟩ := h
  have hc := g.2.1
  refine ⟨⟨?_, ?_, ?_, ?_, ?_⟩, fun k w p1 p2 p3 p4 => ?_, fun j p1 p2 => ?_, fun k p1 p2 => ?_, fun sd p1 p2 => ?_⟩
  · rw [cutA_lo A (by decide), cut_o S (by decide)]; exact a0
  · rw [cutA_lo A (by decide), cut_o S (by decide)]; exact a1
  · rw [cutA_lo A (by decide), cut_o S (by decide)]; exact a2
  · rw [cutA_lo A (by decide), cut_o S (by decide)]; exact a3
  · rw [cutA_lo A (by decide), cut_o S (by decide)]; exact a4
  · have c := h2 k w p1 p2 p3 p4
    have s := h4 k p1 p2
    have s0 := h5 0 (by omega) (by omega)
    have s1 := h5 1 (by omega) (by omega)
    rw [cut_0, tears2, tear_at, tear_at, tear_o _ _ (by decide)]
    unfold cutsF cutOF cutKF
    rw [if_neg (show ¬ (485 ≤ 5 * k + w + 5 ∧ _) by omega)]
    rcases (show w = 0 ∨ w = 1 ∨ w = 2 ∨ w = 3 by omega) with rfl | rfl | rfl | rfl
    · rw [if_neg (by omega), if_neg (by omega), if_neg (by omega), if_neg (by omega), if_neg (by omega)]; exact c
    · rw [if_neg (by omega), if_neg (by omega), if_neg (by omega), if_neg (by omega), if_neg (by omega)]; exact c
    · rw [if_neg (show ¬ ((4 * k + 2) % 4 = 3 ∧ _) by omega), a0, show 5 * k + 2 + 5 + 2 = 5 * k + 9 from by omega]
      have b2 := (hc k).2.2.1
      rcases (show k / 48 = 0 ∨ k / 48 = 1 by omega) with q | q
      · rw [q] at s
        rw [if_neg (show ¬ (S 2 1 ≠ -1 ∧ 4 * k + 2 = S 2 1 + 2 ∧ _) by omega)]
        by_cases z : S 2 0 = 4 * k
        · rw [if_pos (show (5 ≤ 5 * k + 2 + 5 ∧ 5 * k + 2 + 5 < 5 * 96 + 5 ∧ (5 * k + 2 + 5) % 5 = 2 ∧ A (5 * k + 9) = S 5 0 - 1) by omega)]
          split <;> omega
        · rw [if_neg (show ¬ (5 ≤ 5 * k + 2 + 5 ∧ 5 * k + 2 + 5 < 5 * 96 + 5 ∧ (5 * k + 2 + 5) % 5 = 2 ∧ A (5 * k + 9) = S 5 0 - 1) by omega), if_neg (show ¬ (5 ≤ 5 * k + 2 + 5 ∧ 5 * k + 2 + 5 < 5 * 96 + 5 ∧ (5 * k + 2 + 5) % 5 = 3) by omega), if_neg (by omega)]
          exact c
      · rw [q] at s
        rw [if_neg (show ¬ (S 2 0 ≠ -1 ∧ 4 * k + 2 = S 2 0 + 2 ∧ _) by omega)]
        by_cases z : S 2 1 = 4 * k
        · rw [if_pos (show (5 ≤ 5 * k + 2 + 5 ∧ 5 * k + 2 + 5 < 5 * 96 + 5 ∧ (5 * k + 2 + 5) % 5 = 2 ∧ A (5 * k + 9) = S 5 0 - 1) by omega)]
          split <;> omega
        · rw [if_neg (show ¬ (5 ≤ 5 * k + 2 + 5 ∧ 5 * k + 2 + 5 < 5 * 96 + 5 ∧ (5 * k + 2 + 5) % 5 = 2 ∧ A (5 * k + 9) = S 5 0 - 1) by omega), if_neg (show ¬ (5 ≤ 5 * k + 2 + 5 ∧ 5 * k + 2 + 5 < 5 * 96 + 5 ∧ (5 * k + 2 + 5) % 5 = 3) by omega), if_neg (by omega)]
          exact c
    · rw [if_neg (by omega), if_pos (by omega), if_pos (by omega)]
  · have c := h3 j p1 p2
    rw [cut_1]
    unfold cutsF cutOF cutKF
    rw [if_neg (show ¬ (5 ≤ j + 485 ∧ j + 485 < 5 * 96 + 5 ∧ (j + 485) % 5 = 2 ∧ A (j + 485 + 2) = A 0 - 1) by omega), if_neg (show ¬ (5 ≤ j + 485 ∧ j + 485 < 5 * 96 + 5 ∧ (j + 485) % 5 = 3) by omega), c, a2]
    by_cases z : j % 8 = 3 ∧ 0 ≤ j ∧ j < 8 * S 7 0 ∧ S 1 j = 0
    · rw [if_pos z, if_pos (by omega)]
    · rw [if_neg z, if_neg (by omega)]
  · have s := h4 k p1 p2
    rw [cut_o S (i := 2) (by decide)]
    unfold cutsF cutOF cutKF
    rw [if_neg (show ¬ (485 ≤ 5 * k + 9 ∧ _) by omega), if_neg (by omega), if_neg (by omega)]
    exact s
  · rw [cut_o S (i := 2) (by decide)]
    exact h5 sd p1 p2
theorem LG_cut {A : Int → Int} {S : Nat → Int → Int} (h : LG A S) : LG (cutsF A) (cutS S) := by
  have e : cutS S 5 0 = S 5 0 := by rw [cut_o S (i := 5) (by decide)]
  unfold LG
  rw [e]
  exact ⟨L_cut h.1 h.2, G_cut h.2⟩
theorem sumN_split (f : Int → Int) (m : Int) (hm : 0 ≤ m) : ∀ n : Nat, sumZ f (m + (n : Int)) = sumZ f m + sumN (fun k => f (k + m)) n
  | 0 => by
    rw [show m + ((0 : Nat) : Int) = m from by omega]
    show sumZ f m = sumZ f m + 0
    omega
  | n + 1 => by
    rw [show m + ((n + 1 : Nat) : Int) = (m + (n : Int)) + 1 from by omega, sumZ_succ f (by omega), sumN_split f m hm n, sumN]
    rw [show (n : Int) + m = m + (n : Int) from by omega]
    omega
theorem sumZ_split (f : Int → Int) {m n : Int} (hm : 0 ≤ m) (hn : 0 ≤ n) : sumZ f (m + n) = sumZ f m + sumZ (fun k => f (k + m)) n := by
  have t := sumN_split f m hm n.toNat
  rw [show ((n.toNat : Nat) : Int) = n from by omega] at t
  exact t
theorem sum_spot {f : Int → Int} {n p : Int} (hn : 0 ≤ n) (h : ∀ k : Int, 0 ≤ k → k < n → k ≠ p → f k = 0) : sumZ f n = if 0 ≤ p ∧ p < n then f p else 0 := by
  by_cases q : 0 ≤ p ∧ p < n
  · rw [if_pos q]
    have t := sumZ_upd (f := f) (g := fun _ => 0) (k := n) (j0 := p) q.1 q.2 (fun j j0 j1 j2 => h j j0 j1 j2)
    have z := sumZ_zero (f := fun _ => (0 : Int)) hn (fun _ _ _ => rfl)
    rw [z] at t
    omega
  · rw [if_neg q]
    exact sumZ_zero hn (fun j j0 j1 => h j j0 j1 (fun e => q (by omega)))
theorem cut_R {A : Int → Int} {S : Nat → Int → Int} (h : LG A S) : cutR S = cutsR A := by
  obtain ⟨⟨a0, a1, a2, a3, a4⟩, h2, h3, h4, h5⟩ := h.1
  have hc := h.2.2.1
  have s0 := h5 0 (by omega) (by omega)
  have s1 := h5 1 (by omega) (by omega)
  have e1 : cutsR A = sumZ (fun k => if S 2 (k / 48) = 4 * k ∧ S 0 (4 * k + 2) = 0 then 1 else 0) 96 := by
    unfold cutsR
    refine sumZ_congr (fun k k0 k1 => b01 ?_)
    have c := h2 k 2 (by omega) (by omega) (by omega) (by omega)
    have s := h4 k k0 k1
    rw [show 5 * k + 2 + 5 = 5 * k + 7 from by omega] at c
    rw [a0, c]
    exact ⟨fun z => ⟨s.2.mp z.1, z.2⟩, fun z => ⟨s.2.mpr z.1, z.2⟩⟩
  have e2 := sumZ_split (fun k => if S 2 (k / 48) = 4 * k ∧ S 0 (4 * k + 2) = 0 then (1 : Int) else 0) (m := 48) (n := 48) (by omega) (by omega)
  rw [show (48 : Int) + 48 = 96 from rfl] at e2
  have f1 := sum_spot (f := fun k => if S 2 (k / 48) = 4 * k ∧ S 0 (4 * k + 2) = 0 then (1 : Int) else 0) (n := 48) (p := S 2 0 / 4) (by omega) (fun k k0 k1 kn => if_neg (by
    rw [show k / 48 = 0 from by omega]
    omega))
  have f2 := sum_spot (f := fun k => if S 2 ((k + 48) / 48) = 4 * (k + 48) ∧ S 0 (4 * (k + 48) + 2) = 0 then (1 : Int) else 0) (n := 48) (p := S 2 1 / 4 - 48) (by omega) (fun k k0 k1 kn => if_neg (by
    rw [show (k + 48) / 48 = 1 from by omega]
    omega))
  have e3 : cutR S = (if S 2 0 ≠ -1 ∧ S 0 (S 2 0 + 2) = 0 then 1 else 0) + (if S 2 1 ≠ -1 ∧ S 0 (S 2 1 + 2) = 0 then 1 else 0) := by
    have u1 := sumZ_succ (tearR S) (k := 0) (by omega)
    have u2 := sumZ_succ (tearR S) (k := 1) (by omega)
    rw [show (0 : Int) + 1 = 1 from rfl, sumZ_0] at u1
    rw [show (1 : Int) + 1 = 2 from rfl, u1] at u2
    unfold cutR
    rw [u2]
    have t0 : tearR S 0 = if S 2 0 ≠ -1 ∧ S 0 (S 2 0 + 2) = 0 then 1 else 0 := rfl
    have t1 : tearR S 1 = if S 2 1 ≠ -1 ∧ S 0 (S 2 1 + 2) = 0 then 1 else 0 := by
      have u : tearR S 1 = if S 2 1 ≠ -1 ∧ tearS 0 S 0 (S 2 1 + 2) = 0 then 1 else 0 := rfl
      rw [u, tear_at]
      refine b01 ?_
      by_cases z : S 2 1 = -1
      · exact ⟨fun y => absurd z y.1, fun y => absurd z y.1⟩
      · rw [if_neg (by omega)]
    rw [t0, t1]
    omega
  have e4 : (fun k => (fun k => if S 2 (k / 48) = 4 * k ∧ S 0 (4 * k + 2) = 0 then (1 : Int) else 0) (k + 48)) = (fun k => if S 2 ((k + 48) / 48) = 4 * (k + 48) ∧ S 0 (4 * (k + 48) + 2) = 0 then (1 : Int) else 0) := rfl
  rw [e4, f1, f2] at e2
  rw [e1, e2, e3]
  have g1 : (if S 2 0 ≠ -1 ∧ S 0 (S 2 0 + 2) = 0 then (1 : Int) else 0) = if 0 ≤ S 2 0 / 4 ∧ S 2 0 / 4 < 48 then (if S 2 (S 2 0 / 4 / 48) = 4 * (S 2 0 / 4) ∧ S 0 (4 * (S 2 0 / 4) + 2) = 0 then (1 : Int) else 0) else 0 := by
    rcases s0 with z | z
    · rw [if_neg (fun y => y.1 z), if_neg (by omega)]
    · rw [if_pos (show 0 ≤ S 2 0 / 4 ∧ S 2 0 / 4 < 48 by omega), show S 2 0 / 4 / 48 = 0 from by omega, show 4 * (S 2 0 / 4) = S 2 0 from by omega]
      exact b01 ⟨fun y => ⟨rfl, y.2⟩, fun y => ⟨by omega, y.2⟩⟩
  have g2 : (if S 2 1 ≠ -1 ∧ S 0 (S 2 1 + 2) = 0 then (1 : Int) else 0) = if 0 ≤ S 2 1 / 4 - 48 ∧ S 2 1 / 4 - 48 < 48 then (if S 2 ((S 2 1 / 4 - 48 + 48) / 48) = 4 * (S 2 1 / 4 - 48 + 48) ∧ S 0 (4 * (S 2 1 / 4 - 48 + 48) + 2) = 0 then (1 : Int) else 0) else 0 := by
    rcases s1 with z | z
    · rw [if_neg (fun y => y.1 z), if_neg (by omega)]
    · rw [if_pos (show 0 ≤ S 2 1 / 4 - 48 ∧ S 2 1 / 4 - 48 < 48 by omega), show (S 2 1 / 4 - 48 + 48) / 48 = 1 from by omega, show 4 * (S 2 1 / 4 - 48 + 48) = S 2 1 from by omega]
      exact b01 ⟨fun y => ⟨rfl, y.2⟩, fun y => ⟨by omega, y.2⟩⟩
  rw [g1, g2]
