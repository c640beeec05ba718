/-! the sweep -/
theorem L_rest {τ τ' : Int} {A : Int → Int} {S : Nat → Int → Int} (h : Lk τ A S) (hτ : τ < τ') : Lk τ' A (forgS S) := by
  obtain ⟨h1, h2, h3, h4, h5⟩ := h
  have f2 : ∀ j : Int, 0 ≤ j → j < 2 → forgS S 2 j = -1 := by
    intro j a b
    unfold forgS
    rcases (show j = 0 ∨ j = 1 by omega) with rfl | rfl
    · rw [up2_ne (by decide), up2_eq]
    · rw [up2_eq]
  refine ⟨h1, h2, h3, fun k a b => ?_, fun side a b => Or.inl (f2 side a b)⟩
  have q := h4 k a b
  have f := f2 (k / 48) (by omega) (by omega)
  rw [f]
  omega
theorem L_cells {τ : Int} {A : Int → Int} {S : Nat → Int → Int} (h : Lk τ A S) {b : Int} (hb : 0 ≤ b ∧ b < 48) : (A (5 * b + 5) = S 0 (4 * b) ∧ A (5 * b + 6) = S 0 (4 * b + 1) ∧ A (5 * b + 7) = S 0 (4 * b + 2)) ∧ A (5 * b + 245) = S 0 (4 * b + 192) ∧ A (5 * b + 246) = S 0 (4 * b + 192 + 1) ∧ A (5 * b + 247) = S 0 (4 * b + 192 + 2) := by
  have c0 := h.2.1 b 0 (by omega) (by omega) (by omega) (by omega)
  have c1 := h.2.1 b 1 (by omega) (by omega) (by omega) (by omega)
  have c2 := h.2.1 b 2 (by omega) (by omega) (by omega) (by omega)
  have d0 := h.2.1 (48 + b) 0 (by omega) (by omega) (by omega) (by omega)
  have d1 := h.2.1 (48 + b) 1 (by omega) (by omega) (by omega) (by omega)
  have d2 := h.2.1 (48 + b) 2 (by omega) (by omega) (by omega) (by omega)
  rw [show 5 * b + 0 + 5 = 5 * b + 5 from by omega, show 4 * b + 0 = 4 * b from by omega] at c0
  rw [show 5 * b + 1 + 5 = 5 * b + 6 from by omega] at c1
  rw [show 5 * b + 2 + 5 = 5 * b + 7 from by omega] at c2
  rw [show 5 * (48 + b) + 0 + 5 = 5 * b + 245 from by omega, show 4 * (48 + b) + 0 = 4 * b + 192 from by omega] at d0
  rw [show 5 * (48 + b) + 1 + 5 = 5 * b + 246 from by omega, show 4 * (48 + b) + 1 = 4 * b + 192 + 1 from by omega] at d1
  rw [show 5 * (48 + b) + 2 + 5 = 5 * b + 247 from by omega, show 4 * (48 + b) + 2 = 4 * b + 192 + 2 from by omega] at d2
  exact ⟨⟨c0, c1, c2⟩, d0, d1, d2⟩
theorem L_set3 {τ side b v w : Int} {A : Int → Int} {S : Nat → Int → Int} (h : Lk τ A S) (hb : 0 ≤ b ∧ b < 48) (hs : 0 ≤ side ∧ side ≤ 1) : Lk τ (up1 (up1 (up1 A (240 * side + 5 * b + 5) v) (240 * side + 5 * b + 6) w) (240 * side + 5 * b + 7) 0) (setWS S (192 * side + 4 * b) v w) := by
  have h1 := L_c' (e := 240 * side + 5 * b + 5) (e' := 192 * side + 4 * b) (k := 48 * side + b) (w := 0) (v := v) (v' := v) h (by omega) (by omega) (by omega) (by omega) rfl
  have h2 := L_c' (e := 240 * side + 5 * b + 6) (e' := 192 * side + 4 * b + 1) (k := 48 * side + b) (w := 1) (v := w) (v' := w) h1 (by omega) (by omega) (by omega) (by omega) rfl
  exact L_c' (e := 240 * side + 5 * b + 7) (e' := 192 * side + 4 * b + 2) (k := 48 * side + b) (w := 2) (v := 0) (v' := 0) h2 (by omega) (by omega) (by omega) (by omega) rfl
theorem beh_eq {V : Int} {τ : Int} {A : Int → Int} {S : Nat → Int → Int} (h : Lk τ A S) (g : Good V S) {b : Int} (hb : 0 ≤ b ∧ b < 48) : (tornF A b = 2 ↔ (S 0 (4 * b + 2) ≠ 0 ∧ S 0 (4 * b + 192 + 2) ≠ 0)) ∧ (¬ tornF A b = 2 → behF A b = if S 0 (4 * b + 2) ≠ 0 ∨ (S 0 (4 * b + 192 + 2) = 0 ∧ S 0 (4 * b + 1) - S 0 (4 * b + 192 + 1) < 0) then 0 else if S 0 (4 * b + 192 + 2) ≠ 0 ∨ 0 < S 0 (4 * b + 1) - S 0 (4 * b + 192 + 1) then 1 else -9) := by
  obtain ⟨⟨c0, c1, c2⟩, d0, d1, d2⟩ := L_cells h hb
  have q1 := (g.2.1 b).2.2.1
  have q2 := (g.2.1 (48 + b)).2.2.1
  rw [show 4 * (48 + b) + 2 = 4 * b + 192 + 2 from by omega] at q2
  unfold behF tornF
  rw [c1, c2, d1, d2]
  refine ⟨by omega, fun hn => ?_⟩
  (repeat' split) <;> omega
theorem L_sw {V τ b : Int} {A : Int → Int} {S : Nat → Int → Int} (h : Lk τ A S) (g : Good V S) (hb : 0 ≤ b ∧ b < 48) : Lk τ (swF b A) (repS S (4 * b) (4 * b + 192)) ∧ (if tornF A b = 2 ∨ behF A b = -9 then (0 : Int) else 1) = repR S (4 * b) (4 * b + 192) := by
  obtain ⟨e1, e2⟩ := beh_eq h g hb
  obtain ⟨⟨c0, c1, c2⟩, d0, d1, d2⟩ := L_cells h hb
  unfold swF repS repR
  by_cases q1 : tornF A b = 2
  · have z := e1.mp q1
    rw [if_pos q1, if_pos z, if_pos (Or.inl q1), if_pos z]
    refine ⟨?_, rfl⟩
    have h1 := L_set3 (side := 0) (v := 0) (w := 0) h hb (by omega)
    have h2 := L_set3 (side := 1) (v := 0) (w := 0) h1 hb (by omega)
    rw [show 240 * 0 + 5 * b + 5 = 5 * b + 5 from by omega, show 240 * 0 + 5 * b + 6 = 5 * b + 6 from by omega, show 240 * 0 + 5 * b + 7 = 5 * b + 7 from by omega, show 240 * 1 + 5 * b + 5 = 5 * b + 245 from by omega, show 240 * 1 + 5 * b + 6 = 5 * b + 246 from by omega, show 240 * 1 + 5 * b + 7 = 5 * b + 247 from by omega, show 192 * 0 + 4 * b = 4 * b from by omega, show 192 * 1 + 4 * b = 4 * b + 192 from by omega] at h2
    exact L_s3 (v := A 3 + 1) (v' := S 9 0 + 1) h2 (by rw [h.1.2.2.2.1])
  · have e2 := e2 q1
    have z : ¬ (S 0 (4 * b + 2) ≠ 0 ∧ S 0 (4 * b + 192 + 2) ≠ 0) := fun y => q1 (e1.mpr y)
    rw [if_neg q1, if_neg z, if_neg z]
    by_cases y1 : S 0 (4 * b + 2) ≠ 0 ∨ (S 0 (4 * b + 192 + 2) = 0 ∧ S 0 (4 * b + 1) - S 0 (4 * b + 192 + 1) < 0)
    · rw [if_pos y1] at e2
      rw [e2, if_neg (by decide), if_pos y1, if_pos y1, if_neg (by omega)]
      refine ⟨?_, rfl⟩
      have t := L_set3 (side := 0) (v := A (5 * b - 240 * 0 + 245)) (w := A (5 * b - 240 * 0 + 246)) h hb (by omega)
      have k1 : A (5 * b - 240 * 0 + 245) = S 0 (4 * b + 192) := by rw [show 5 * b - 240 * 0 + 245 = 5 * b + 245 from by omega]; exact d0
      have k2 : A (5 * b - 240 * 0 + 246) = S 0 (4 * b + 192 + 1) := by rw [show 5 * b - 240 * 0 + 246 = 5 * b + 246 from by omega]; exact d1
      unfold takF takeOS
      rw [k1, k2] at t ⊢
      rw [show 192 * 0 + 4 * b = 4 * b from by omega] at t
      exact t
    · rw [if_neg y1] at e2
      rw [if_neg y1, if_neg y1]
      by_cases y2 : S 0 (4 * b + 192 + 2) ≠ 0 ∨ 0 < S 0 (4 * b + 1) - S 0 (4 * b + 192 + 1)
      · rw [if_pos y2] at e2
        rw [e2, if_neg (by decide), if_pos y2, if_pos y2, if_neg (by omega)]
        refine ⟨?_, rfl⟩
        have t := L_set3 (side := 1) (v := A (5 * b - 240 * 1 + 245)) (w := A (5 * b - 240 * 1 + 246)) h hb (by omega)
        have k1 : A (5 * b - 240 * 1 + 245) = S 0 (4 * b) := by rw [show 5 * b - 240 * 1 + 245 = 5 * b + 5 from by omega]; exact c0
        have k2 : A (5 * b - 240 * 1 + 246) = S 0 (4 * b + 1) := by rw [show 5 * b - 240 * 1 + 246 = 5 * b + 6 from by omega]; exact c1
        unfold takF takeOS
        rw [k1, k2] at t ⊢
        rw [show 192 * 1 + 4 * b = 4 * b + 192 from by omega] at t
        exact t
      · rw [if_neg y2] at e2
        rw [e2, if_pos rfl, if_neg y2, if_neg y2, if_pos (Or.inr rfl)]
        exact ⟨h, rfl⟩
theorem G_rep {V b : Int} {S : Nat → Int → Int} (g : Good V S) : Good V (repS S (4 * b) (4 * b + 192)) := by
  have c := g.2.1 b
  have d := g.2.1 (48 + b)
  rw [show 4 * (48 + b) + 1 = 4 * b + 192 + 1 from by omega, show 4 * (48 + b) = 4 * b + 192 from by omega] at d
  unfold repS
  split
  · refine G_wiped ?_ _
    rw [show 4 * b + 192 = 4 * (48 + b) from by omega]
    exact G_setW (G_setW g (by omega) (by omega)) (by omega) (by omega)
  · split
    · unfold takeOS
      exact G_setW g (by omega) (by omega)
    · split
      · unfold takeOS
        rw [show setWS S (4 * b + 192) (S 0 (4 * b)) (S 0 (4 * b + 1)) = setWS S (4 * (48 + b)) (S 0 (4 * b)) (S 0 (4 * b + 1)) from by rw [show 4 * b + 192 = 4 * (48 + b) from by omega]]
        exact G_setW g (by omega) (by omega)
      · exact g
theorem rep_o (S : Nat → Int → Int) (a b : Int) {i : Nat} (h0 : i ≠ 0) (h9 : i ≠ 9) : repS S a b i = S i := by
  unfold repS takeOS setWS
  (repeat' split) <;> (repeat (first | rfl | rw [up2_nr h9] | rw [up2_nr h0]))
theorem L_reps {V τ : Int} {A : Int → Int} {S : Nat → Int → Int} (h : Lk τ A S) (g : Good V S) : ∀ n : Nat, (n : Int) ≤ 48 → Lk τ (ixZ swF (n : Int) A) (ixZ (fun b U => repS U (4 * b) (4 * b + 192)) (n : Int) S) ∧ Good V (ixZ (fun b U => repS U (4 * b) (4 * b + 192)) (n : Int) S) ∧ (∀ i : Nat, i ≠ 0 → i ≠ 9 → ixZ (fun b U => repS U (4 * b) (4 * b + 192)) (n : Int) S i = S i)
  | 0, _ => ⟨h, g, fun _ _ _ => rfl⟩
  | n + 1, hn => by
    obtain ⟨i1, i2, i3⟩ := L_reps h g n (by omega)
    rw [show ((n + 1 : Nat) : Int) = (n : Int) + 1 from by omega, ixZ_succ _ _ (by omega), ixZ_succ _ _ (by omega)]
    exact ⟨(L_sw i1 i2 (by omega)).1, G_rep i2, fun i h0 h9 => by rw [rep_o _ _ _ h0 h9, i3 i h0 h9]⟩
theorem L_repZ {V τ : Int} {A : Int → Int} {S : Nat → Int → Int} (h : Lk τ A S) (g : Good V S) {b : Int} (hb : 0 ≤ b ∧ b ≤ 48) : Lk τ (ixZ swF b A) (ixZ (fun b U => repS U (4 * b) (4 * b + 192)) b S) ∧ Good V (ixZ (fun b U => repS U (4 * b) (4 * b + 192)) b S) ∧ (∀ i : Nat, i ≠ 0 → i ≠ 9 → ixZ (fun b U => repS U (4 * b) (4 * b + 192)) b S i = S i) := by
  have t := L_reps h g b.toNat (by omega)
  rw [show ((b.toNat : Nat) : Int) = b from by omega] at t
  exact t
theorem rp_G {V : Int} {B : Nat → Int → Int} (g : Good V (forgS B)) : Good V (up2 (up2 (forgS B) 5 0 (B 5 0 + 48)) 6 0 3) := G_arm (G_tick (d := 48) g (by omega)) (by omega)
theorem rp_9 (B : Nat → Int → Int) : up2 (up2 (forgS B) 5 0 (B 5 0 + 48)) 6 0 3 9 0 = B 9 0 := rfl
theorem LG_repair {A : Int → Int} {S : Nat → Int → Int} (h : LG A S) : LG (sweepsF A) (repairS S) ∧ repairS S 5 0 = S 5 0 + 48 ∧ sweepsR A = repBR S := by
  obtain ⟨k1, k2, k3⟩ := L_repZ h.1 h.2 (b := 48) (by omega)
  have e5 : repBS S 5 0 = S 5 0 := by
    unfold repBS
    rw [k3 5 (by decide) (by decide)]
  have E : repairS S 5 0 = S 5 0 + 48 := by
    show repBS S 5 0 + 48 = S 5 0 + 48
    rw [e5]
  refine ⟨⟨?_, ?_⟩, E, ?_⟩
  · rw [E]
    have r := L_rest k1 (τ' := S 5 0 + 48 - 1) (by omega)
    unfold sweepsF
    have r2 := L_s0 (v := ixZ swF 48 A 0 + 48) (v' := repBS S 5 0 + 48) r (by rw [k1.1.1]; rfl)
    exact L_s1 (v := 3) (v' := 3) r2 rfl
  · rw [E]
    have g1 : Good (2 * (S 5 0 + 48)) (forgS (repBS S)) := (G_forg k2).mono (by omega)
    unfold repairS
    exact rp_G g1
  · unfold sweepsR repBR
    refine sumZ_congr (fun b b0 b1 => ?_)
    obtain ⟨j1, j2, j3⟩ := L_repZ h.1 h.2 (b := b) (by omega)
    exact (L_sw j1 j2 ⟨b0, b1⟩).2
theorem LG_swW {A : Int → Int} {S : Nat → Int → Int} (h : LG A S) (ht : S 5 0 ≤ 100000) {b : Int} (hb : 0 ≤ b ∧ b ≤ 48) : zB (ixZ (fun b U => repS U (4 * b) (4 * b + 192)) b S) ∧ WFA (ixZ swF b A) := by
  have a := h.2.1
  obtain ⟨k1, k2, k3⟩ := L_repZ h.1 h.2 hb
  have e5 : ixZ (fun b U => repS U (4 * b) (4 * b + 192)) b S 5 0 = S 5 0 := by rw [k3 5 (by decide) (by decide)]
  exact ⟨k2.zB (by omega) (by omega), k1.WFA k2 (by omega) (by omega) (by omega)⟩
/-! when a sweep is possible -/
theorem sumN_add (f g : Int → Int) : ∀ n : Nat, sumN (fun k => f k + g k) n = sumN f n + sumN g n
  | 0 => rfl
  | n + 1 => by
    rw [sumN, sumN, sumN, sumN_add f g n]
    omega
theorem sumZ_add (f g : Int → Int) (n : Int) : sumZ (fun k => f k + g k) n = sumZ f n + sumZ g n := sumN_add f g n.toNat
theorem G_sum4 {V : Int} {S : Nat → Int → Int} (g : Good V S) : S 4 0 + S 4 1 + S 4 2 + S 4 3 = S 8 0 + sumZ (fun b => S 0 (4 * b + 3) + S 0 (4 * b + 3 + 192)) 48 := by
  have a := g.1
  have h4 := g.2.2.2.2.2.2.1
  rw [h4 0 (by omega) (by omega), h4 1 (by omega) (by omega), h4 2 (by omega) (by omega), h4 3 (by omega) (by omega), g.2.2.2.2.1]
  have e1 : cnW (S 1) (S 7 0) = cnT (S 1) (S 7 0) 0 + cnT (S 1) (S 7 0) 1 + cnT (S 1) (S 7 0) 2 + cnT (S 1) (S 7 0) 3 := by
    unfold cnW cnT
    rw [← sumZ_add, ← sumZ_add, ← sumZ_add]
    refine sumZ_congr (fun k k0 k1 => ?_)
    have o := (g.2.2.1 k).2.1
    show (if _ then (1 : Int) else 0) = (if _ then (1 : Int) else 0) + (if _ then (1 : Int) else 0) + (if _ then (1 : Int) else 0) + (if _ then (1 : Int) else 0)
    by_cases q : S 1 (8 * k + 3) = 0
    · rcases (show S 1 (8 * k + 1) = 0 ∨ S 1 (8 * k + 1) = 1 ∨ S 1 (8 * k + 1) = 2 ∨ S 1 (8 * k + 1) = 3 by omega) with z | z | z | z <;> rw [q, z] <;> rfl
    · rw [if_neg q, if_neg (fun z => q z.1), if_neg (fun z => q z.1), if_neg (fun z => q z.1), if_neg (fun z => q z.1)]
      rfl
  have s1 := sumZ_split (fun b => S 0 (4 * b + 3) + S 0 (4 * b + 3 + 192)) (m := 12) (n := 36) (by omega) (by omega)
  have s2 := sumZ_split (fun b => S 0 (4 * b + 3) + S 0 (4 * b + 3 + 192)) (m := 24) (n := 24) (by omega) (by omega)
  have s3 := sumZ_split (fun b => S 0 (4 * b + 3) + S 0 (4 * b + 3 + 192)) (m := 36) (n := 12) (by omega) (by omega)
  have s4 := sumZ_split (fun b => S 0 (4 * b + 3) + S 0 (4 * b + 3 + 192)) (m := 12) (n := 12) (by omega) (by omega)
  have s5 := sumZ_split (fun b => S 0 (4 * b + 3) + S 0 (4 * b + 3 + 192)) (m := 24) (n := 12) (by omega) (by omega)
  rw [show (12 : Int) + 36 = 48 from rfl] at s1
  rw [show (24 : Int) + 24 = 48 from rfl] at s2
  rw [show (36 : Int) + 12 = 48 from rfl] at s3
  rw [show (12 : Int) + 12 = 24 from rfl] at s4
  rw [show (24 : Int) + 12 = 36 from rfl] at s5
  have l0 : ltT (S 0) 0 = sumZ (fun b => S 0 (4 * b + 3) + S 0 (4 * b + 3 + 192)) 12 := by
    unfold ltT
    refine sumZ_congr (fun k _ _ => ?_)
    show S 0 _ + S 0 _ = S 0 _ + S 0 _
    rw [show 48 * 0 + 4 * k + 3 = 4 * k + 3 from by omega, show 192 + 48 * 0 + 4 * k + 3 = 4 * k + 3 + 192 from by omega]
  have l1 : ltT (S 0) 1 = sumZ (fun k => S 0 (4 * (k + 12) + 3) + S 0 (4 * (k + 12) + 3 + 192)) 12 := by
    unfold ltT
    refine sumZ_congr (fun k _ _ => ?_)
    show S 0 _ + S 0 _ = S 0 _ + S 0 _
    rw [show 48 * 1 + 4 * k + 3 = 4 * (k + 12) + 3 from by omega, show 192 + 48 * 1 + 4 * k + 3 = 4 * (k + 12) + 3 + 192 from by omega]
  have l2 : ltT (S 0) 2 = sumZ (fun k => S 0 (4 * (k + 24) + 3) + S 0 (4 * (k + 24) + 3 + 192)) 12 := by
    unfold ltT
    refine sumZ_congr (fun k _ _ => ?_)
    show S 0 _ + S 0 _ = S 0 _ + S 0 _
    rw [show 48 * 2 + 4 * k + 3 = 4 * (k + 24) + 3 from by omega, show 192 + 48 * 2 + 4 * k + 3 = 4 * (k + 24) + 3 + 192 from by omega]
  have l3 : ltT (S 0) 3 = sumZ (fun k => S 0 (4 * (k + 36) + 3) + S 0 (4 * (k + 36) + 3 + 192)) 12 := by
    unfold ltT
    refine sumZ_congr (fun k _ _ => ?_)
    show S 0 _ + S 0 _ = S 0 _ + S 0 _
    rw [show 48 * 3 + 4 * k + 3 = 4 * (k + 36) + 3 from by omega, show 192 + 48 * 3 + 4 * k + 3 = 4 * (k + 36) + 3 + 192 from by omega]
  rw [e1, l0, l1, l2, l3, s3, s5, s4]
  omega
theorem G_work {V τ : Int} {A : Int → Int} {S : Nat → Int → Int} (h : Lk τ A S) (g : Good V S) : (0 < S 4 0 ∨ 0 < S 4 1 ∨ 0 < S 4 2 ∨ 0 < S 4 3) ↔ (0 < inStF A 0 ∨ 0 < copF A 3) := by
  have s := G_sum4 g
  have a := g.1
  rw [L_cop h 3 (by omega), L_wait h g] at s
  have p : ∀ t : Int, 0 ≤ t → t < 4 → 0 ≤ S 4 t := fun t t0 t1 => by
    rw [g.2.2.2.2.2.2.1 t t0 t1]
    have n1 := cnT_rng (o := S 1) (n := S 7 0) (t := t) a.2.2.1
    have n2 := ltT_rng g.2.1 t
    omega
  have p0 := p 0 (by omega) (by omega)
  have p1 := p 1 (by omega) (by omega)
  have p2 := p 2 (by omega) (by omega)
  have p3 := p 3 (by omega) (by omega)
  have i0 : 0 ≤ inStF A 0 := by
    rw [← L_wait h g, g.2.2.2.2.1]
    exact (cnW_rng a.2.2.1).1
  have c0 : 0 ≤ copF A 3 := by
    unfold copF
    refine (sumZ_rng (b := 1) (by omega) (fun j j0 j1 => ?_)).1
    rw [show 5 * j + 3 + 5 = 5 * j + 3 + 5 from rfl, h.2.1 j 3 (by omega) (by omega) (by omega) (by omega)]
    exact (g.2.1 j).2.2.2
  omega
theorem copF_rng {V τ : Int} {A : Int → Int} {S : Nat → Int → Int} (h : Lk τ A S) (g : Good V S) : 0 ≤ copF A 3 ∧ copF A 3 ≤ 1000 := by
  have t : 0 ≤ copF A 3 ∧ copF A 3 ≤ 1 * 96 := by
    unfold copF
    refine sumZ_rng (by omega) (fun j j0 j1 => ?_)
    rw [h.2.1 j 3 (by omega) (by omega) (by omega) (by omega)]
    exact (g.2.1 j).2.2.2
  omega
def swpA (A : Int → Int) : Int → Int := if 0 < inStF A 0 ∨ 0 < copF A 3 ∨ 20000 < A 0 + 48 then A else sweepsF A
theorem LG_sweep {A : Int → Int} {S : Nat → Int → Int} (h : LG A S) (ht : S 5 0 ≤ 20000) : LG (swpA A) (sweepS S) ∧ sweepS S 5 0 ≤ 20000 ∧ (if 0 < inStF A 0 ∨ 0 < copF A 3 ∨ 20000 < A 0 + 48 then -2 else sweepsR A) = sweepBR S := by
  have w := G_work h.1 h.2
  have e0 := h.1.1.1
  obtain ⟨r1, r2, r3⟩ := LG_repair h
  unfold swpA sweepS sweepBR hasWk
  by_cases q : (0 < S 4 0 ∨ 0 < S 4 1 ∨ 0 < S 4 2 ∨ 0 < S 4 3) ∨ 20000 < S 5 0 + 48
  · rw [if_pos (show 0 < inStF A 0 ∨ 0 < copF A 3 ∨ 20000 < A 0 + 48 by omega), if_pos q, if_pos (show 0 < inStF A 0 ∨ 0 < copF A 3 ∨ 20000 < A 0 + 48 by omega), if_pos q]
    exact ⟨h, ht, rfl⟩
  · rw [if_neg (show ¬ (0 < inStF A 0 ∨ 0 < copF A 3 ∨ 20000 < A 0 + 48) by omega), if_neg q, if_neg (show ¬ (0 < inStF A 0 ∨ 0 < copF A 3 ∨ 20000 < A 0 + 48) by omega), if_neg q]
    exact ⟨r1, by omega, r3⟩
/-! how many blocks a sweep behind a cut would wipe -/
theorem wipe_N (S : Nat → Int → Int) : ∀ n : Nat, (n : Int) ≤ 48 → ixZ (fun b U => repS U (4 * b) (4 * b + 192)) (n : Int) S 9 0 = S 9 0 + sumZ (fun b => if S 0 (4 * b + 2) ≠ 0 ∧ S 0 (4 * b + 192 + 2) ≠ 0 then 1 else 0) (n : Int) ∧ ∀ b : Int, (n : Int) ≤ b → b < 48 → ixZ (fun b U => repS U (4 * b) (4 * b + 192)) (n : Int) S 0 (4 * b + 2) = S 0 (4 * b + 2) ∧ ixZ (fun b U => repS U (4 * b) (4 * b + 192)) (n : Int) S 0 (4 * b + 192 + 2) = S 0 (4 * b + 192 + 2)
  | 0, _ => ⟨by show S 9 0 = S 9 0 + 0; omega, fun _ _ _ => ⟨rfl, rfl⟩⟩
  | n + 1, hn => by
    obtain ⟨i1, i2⟩ := wipe_N S n (by omega)
    rw [show ((n + 1 : Nat) : Int) = (n : Int) + 1 from by omega, ixZ_succ _ _ (by omega), sumZ_succ _ (by omega)]
    generalize ixZ (fun b U => repS U (4 * b) (4 * b + 192)) (n : Int) S = T at i1 i2 ⊢
    obtain ⟨j1, j2⟩ := i2 (n : Int) (Int.le_refl _) (by omega)
    refine ⟨?_, fun b b0 b1 => ?_⟩
    · show repS T (4 * (n : Int)) (4 * (n : Int) + 192) 9 0 = _
      unfold repS
      rw [j1, j2]
      by_cases q : S 0 (4 * (n : Int) + 2) ≠ 0 ∧ S 0 (4 * (n : Int) + 192 + 2) ≠ 0
      · rw [if_pos q, if_pos q, up2_eq, i1]
        omega
      · rw [if_neg q, if_neg q]
        have e : ∀ c d : Int, takeOS T c d 9 0 = T 9 0 := fun c d => rfl
        (repeat' split) <;> (try rw [e]) <;> omega
    · obtain ⟨k1, k2⟩ := i2 b (by omega) b1
      rw [← k1, ← k2]
      have e : ∀ c v w j : Int, j ≠ c → j ≠ c + 1 → j ≠ c + 2 → ∀ T : Nat → Int → Int, setWS T c v w 0 j = T 0 j := fun c v w j h1 h2 h3 T => by
        unfold setWS
        rw [up2_ne h3, up2_ne h2, up2_ne h1]
      show repS T (4 * (n : Int)) (4 * (n : Int) + 192) 0 (4 * b + 2) = _ ∧ repS T (4 * (n : Int)) (4 * (n : Int) + 192) 0 (4 * b + 192 + 2) = _
      unfold repS takeOS
      (repeat' split)
      · rw [up2_nr (by decide), e _ _ _ _ (by omega) (by omega) (by omega), e _ _ _ _ (by omega) (by omega) (by omega), e _ _ _ _ (by omega) (by omega) (by omega), e _ _ _ _ (by omega) (by omega) (by omega)]
        exact ⟨rfl, rfl⟩
      · rw [e _ _ _ _ (by omega) (by omega) (by omega), e _ _ _ _ (by omega) (by omega) (by omega)]
        exact ⟨rfl, rfl⟩
      · rw [e _ _ _ _ (by omega) (by omega) (by omega), e _ _ _ _ (by omega) (by omega) (by omega)]
        exact ⟨rfl, rfl⟩
      · exact ⟨rfl, rfl⟩
theorem LG_wipe {A : Int → Int} {S : Nat → Int → Int} (h : LG A S) : repairS (cutS S) 9 0 - S 9 0 = wwR A := by
  have c := LG_cut h
  have w := (wipe_N (cutS S) 48 (by decide)).1
  rw [show ((48 : Nat) : Int) = 48 from rfl] at w
  have e : repairS (cutS S) 9 0 = ixZ (fun b U => repS U (4 * b) (4 * b + 192)) 48 (cutS S) 9 0 := by
    unfold repairS
    rw [rp_9]
    rfl
  have e9 : cutS S 9 0 = S 9 0 := by rw [cut_o S (by decide)]
  rw [e, w, e9]
  have t : sumZ (fun b => if cutS S 0 (4 * b + 2) ≠ 0 ∧ cutS S 0 (4 * b + 192 + 2) ≠ 0 then (1 : Int) else 0) 48 = wwR A := by
    unfold wwR
    exact sumZ_congr (fun b b0 b1 => b01 (beh_eq c.1 c.2 ⟨b0, b1⟩).1.symm)
  omega
