/-! the two states answer alike -/
theorem L_copy {τ : Int} {A : Int → Int} {S : Nat → Int → Int} (h : Lk τ A S) (sd tr se wh : Int) : cpR S sd tr se wh = if (0 ≤ sd ∧ sd ≤ 1) ∧ ((0 ≤ tr ∧ tr ≤ 3) ∧ 0 ≤ se ∧ se ≤ 11) ∧ 0 ≤ wh ∧ wh ≤ 3 then A (240 * sd + 60 * tr + 5 * se + wh + 5) else -1 := by
  unfold cpR
  by_cases q : (0 ≤ sd ∧ sd ≤ 1) ∧ ((0 ≤ tr ∧ tr ≤ 3) ∧ 0 ≤ se ∧ se ≤ 11) ∧ 0 ≤ wh ∧ wh ≤ 3
  · rw [if_pos q, if_pos (by omega)]
    have e := h.2.1 (48 * sd + 12 * tr + se) wh (by omega) (by omega) (by omega) (by omega)
    rw [show 240 * sd + 60 * tr + 5 * se + wh + 5 = 5 * (48 * sd + 12 * tr + se) + wh + 5 from by omega, e]
    congr 1
    omega
  · rw [if_neg q, if_neg (by omega)]
theorem L_order {τ V : Int} {A : Int → Int} {S : Nat → Int → Int} (h : Lk τ A S) (g : Good V S) (o wh : Int) : odR S o wh = if (0 ≤ o ∧ o ≤ A 2 - 1) ∧ 0 ≤ wh ∧ wh ≤ 7 then A (8 * o + wh + 485) else -1 := by
  unfold odR
  have e2 := h.1.2.2.1
  have a := g.1
  by_cases q : (0 ≤ o ∧ o ≤ A 2 - 1) ∧ 0 ≤ wh ∧ wh ≤ 7
  · rw [if_pos q, if_pos (by omega)]
    exact (h.2.2.1 (8 * o + wh) (by omega) (by omega)).symm
  · rw [if_neg q, if_neg (by omega)]
theorem L_unl {τ : Int} {A : Int → Int} {S : Nat → Int → Int} (h : Lk τ A S) : sumZ (fun b => if S 0 (4 * b) ≠ S 0 (4 * b + 192) ∨ S 0 (4 * b + 1) ≠ S 0 (4 * b + 193) then 1 else 0) 48 = unlF A := by
  unfold unlF
  refine sumZ_congr (fun b h0 h1 => ?_)
  have e1 := h.2.1 b 0 (by omega) (by omega) (by omega) (by omega)
  have e2 := h.2.1 b 1 (by omega) (by omega) (by omega) (by omega)
  have e3 := h.2.1 (b + 48) 0 (by omega) (by omega) (by omega) (by omega)
  have e4 := h.2.1 (b + 48) 1 (by omega) (by omega) (by omega) (by omega)
  rw [show 5 * b + 0 + 5 = 5 * b + 5 from by omega, show 4 * b + 0 = 4 * b from by omega] at e1
  rw [show 5 * b + 1 + 5 = 5 * b + 6 from by omega] at e2
  rw [show 5 * (b + 48) + 0 + 5 = 5 * b + 245 from by omega, show 4 * (b + 48) + 0 = 4 * b + 192 from by omega] at e3
  rw [show 5 * (b + 48) + 1 + 5 = 5 * b + 246 from by omega, show 4 * (b + 48) + 1 = 4 * b + 193 from by omega] at e4
  show (if _ then (1 : Int) else 0) = if _ then 1 else 0
  rw [e1, e2, e3, e4]
theorem L_inSt {τ V : Int} {A : Int → Int} {S : Nat → Int → Int} (h : Lk τ A S) (g : Good V S) (st : Int) : sumZ (fun o => if S 1 (8 * o + 3) = st then 1 else 0) (S 7 0) = inStF A st := by
  unfold inStF
  have a := g.1
  rw [h.1.2.2.1]
  refine sumZ_congr (fun o h0 h1 => ?_)
  have e := h.2.2.1 (8 * o + 3) (by omega) (by omega)
  rw [show 8 * o + 3 + 485 = 8 * o + 488 from by omega] at e
  show (if _ then (1 : Int) else 0) = if _ then 1 else 0
  rw [e]
theorem L_nearer {τ V : Int} {A : Int → Int} {S : Nat → Int → Int} (h : Lk τ A S) (g : Good V S) (se wh : Int) : neR S se wh = nrrF ((se - (A 0 + 6 * 0) % 12 + 12) % 12) ((se - (A 0 + 6 * 1) % 12 + 12) % 12) se wh := by
  unfold neR nrrF
  rw [h.1.1]
  (repeat' split) <;> omega
theorem L_long {τ V : Int} {A : Int → Int} {S : Nat → Int → Int} (h : Lk τ A S) (g : Good V S) : ∀ n : Nat, (n : Int) ≤ S 7 0 → longZ S (n : Int) = lngZ A (n : Int) ∧ (lngZ A (n : Int) = -9 ∨ (0 ≤ lngZ A (n : Int) ∧ lngZ A (n : Int) < (n : Int)))
  | 0, _ => ⟨rfl, Or.inl rfl⟩
  | n + 1, hn => by
    have a := g.1
    obtain ⟨i1, i2⟩ := L_long h g n (by omega)
    rw [show ((n + 1 : Nat) : Int) = (n : Int) + 1 from by omega, longZ_succ _ (by omega), lngZ_succ _ (by omega), i1]
    have e3 := h.2.2.1 (8 * (n : Int) + 3) (by omega) (by omega)
    have e4 := h.2.2.1 (8 * (n : Int) + 4) (by omega) (by omega)
    have e5 := h.2.2.1 (8 * (n : Int) + 5) (by omega) (by omega)
    rw [show 8 * (n : Int) + 3 + 485 = 8 * (n : Int) + 488 from by omega] at e3
    rw [show 8 * (n : Int) + 4 + 485 = 8 * (n : Int) + 489 from by omega] at e4
    rw [show 8 * (n : Int) + 5 + 485 = 8 * (n : Int) + 490 from by omega] at e5
    unfold waitM waitF
    rcases i2 with q | q
    · rw [e3, e4, e5, q]
      (repeat' split) <;> omega
    · have f4 := h.2.2.1 (8 * lngZ A (n : Int) + 4) (by omega) (by omega)
      have f5 := h.2.2.1 (8 * lngZ A (n : Int) + 5) (by omega) (by omega)
      rw [show 8 * lngZ A (n : Int) + 4 + 485 = 8 * lngZ A (n : Int) + 489 from by omega] at f4
      rw [show 8 * lngZ A (n : Int) + 5 + 485 = 8 * lngZ A (n : Int) + 490 from by omega] at f5
      rw [e3, e4, e5, f4, f5]
      (repeat' split) <;> omega
theorem L_waits {τ V : Int} {A : Int → Int} {S : Nat → Int → Int} (h : Lk τ A S) (g : Good V S) (wh : Int) : waR S wh = waitsF A wh := by
  unfold waR waitsF
  have a := g.1
  obtain ⟨i1, i2⟩ := L_long h g (S 7 0).toNat (by omega)
  rw [show ((S 7 0).toNat : Int) = S 7 0 from by omega] at i1 i2
  have hs : sumZ (fun o => if S 1 (8 * o + 3) = 1 then S 1 (8 * o + 5) - S 1 (8 * o + 4) else 0) (S 7 0) = sumZ (fun o => if A (8 * o + 488) = 1 then A (8 * o + 490) - A (8 * o + 489) else 0) (S 7 0) := by
    refine sumZ_congr (fun o h0 h1 => ?_)
    have e3 := h.2.2.1 (8 * o + 3) (by omega) (by omega)
    have e4 := h.2.2.1 (8 * o + 4) (by omega) (by omega)
    have e5 := h.2.2.1 (8 * o + 5) (by omega) (by omega)
    rw [show 8 * o + 3 + 485 = 8 * o + 488 from by omega] at e3
    rw [show 8 * o + 4 + 485 = 8 * o + 489 from by omega] at e4
    rw [show 8 * o + 5 + 485 = 8 * o + 490 from by omega] at e5
    show (if _ then _ else _) = if _ then _ else _
    rw [e3, e4, e5]
  rw [h.1.2.2.1, hs, i1]
  unfold waitM
  rcases i2 with q | q
  · rw [q]
    (repeat' split) <;> omega
  · have f4 := h.2.2.1 (8 * lngZ A (S 7 0) + 4) (by omega) (by omega)
    have f5 := h.2.2.1 (8 * lngZ A (S 7 0) + 5) (by omega) (by omega)
    rw [show 8 * lngZ A (S 7 0) + 4 + 485 = 8 * lngZ A (S 7 0) + 489 from by omega] at f4
    rw [show 8 * lngZ A (S 7 0) + 5 + 485 = 8 * lngZ A (S 7 0) + 490 from by omega] at f5
    rw [f4, f5]
    (repeat' split) <;> omega
theorem L_cop {τ : Int} {A : Int → Int} {S : Nat → Int → Int} (h : Lk τ A S) (pr : Int) (hp : 0 ≤ pr ∧ pr < 4) : sumZ (fun b => S 0 (4 * b + pr) + S 0 (4 * b + pr + 192)) 48 = copF A pr := by
  have key : ∀ n : Nat, (n : Int) ≤ 48 → sumZ (fun b => S 0 (4 * b + pr) + S 0 (4 * b + pr + 192)) (n : Int) = sumZ (fun k => A (5 * k + pr + 5)) (n : Int) + (sumZ (fun k => A (5 * k + pr + 5)) (48 + (n : Int)) - sumZ (fun k => A (5 * k + pr + 5)) 48) := by
    intro n
    induction n with
    | zero =>
      intro _
      show (0 : Int) = 0 + (sumZ (fun k => A (5 * k + pr + 5)) (48 + 0) - sumZ (fun k => A (5 * k + pr + 5)) 48)
      rw [show (48 : Int) + 0 = 48 from rfl]
      omega
    | succ n ih =>
      intro hn
      have i := ih (by omega)
      rw [show ((n + 1 : Nat) : Int) = (n : Int) + 1 from by omega, show (48 : Int) + ((n : Int) + 1) = (48 + (n : Int)) + 1 from by omega, sumZ_succ (fun b => S 0 (4 * b + pr) + S 0 (4 * b + pr + 192)) (by omega), sumZ_succ (fun k => A (5 * k + pr + 5)) (k := (n : Int)) (by omega), sumZ_succ (fun k => A (5 * k + pr + 5)) (k := 48 + (n : Int)) (by omega), i]
      have e1 := h.2.1 (n : Int) pr (by omega) (by omega) hp.1 hp.2
      have e2 := h.2.1 (48 + (n : Int)) pr (by omega) (by omega) hp.1 hp.2
      rw [show 4 * (48 + (n : Int)) + pr = 4 * (n : Int) + pr + 192 from by omega] at e2
      rw [e1, e2]
      omega
  have t := key 48 (by decide)
  unfold copF
  rw [show ((48 : Nat) : Int) = 48 from rfl, show (48 : Int) + 48 = 96 from rfl] at t
  omega
theorem L_count {τ V : Int} {R Sn Sh Sp : Nat → Int → Int} (h : Lk τ (R 0) Sn) (g : Good V Sn) (h2 : R 2 0 = Sh 2 0) (h5 : R 5 0 = Sp 1 0) (wh : Int) : cnR Sn Sh Sp wh = countF R wh := by
  unfold cnR countF
  rw [L_inSt h g 0, L_inSt h g 1, L_inSt h g 2, L_cop h 3 (by omega), L_cop h 2 (by omega), L_unl h, h2, h5, h.1.1, h.1.2.1, h.1.2.2.1, h.1.2.2.2.1, h.1.2.2.2.2]
  by_cases q : 0 ≤ wh ∧ wh ≤ 14
  · rcases (show wh = 0 ∨ wh = 1 ∨ wh = 2 ∨ wh = 3 ∨ wh = 4 ∨ wh = 5 ∨ wh = 6 ∨ wh = 7 ∨ wh = 8 ∨ wh = 9 ∨ wh = 10 ∨ wh = 11 ∨ wh = 12 ∨ wh = 13 ∨ wh = 14 by omega) with rfl | rfl | rfl | rfl | rfl | rfl | rfl | rfl | rfl | rfl | rfl | rfl | rfl | rfl | rfl <;> simp
  · rw [if_neg (by omega), if_neg (by omega), if_neg (by omega), if_neg (by omega), if_neg (by omega), if_neg (by omega), if_neg (by omega), if_neg (by omega), if_neg (by omega), if_neg (by omega), if_neg (by omega), if_neg (by omega), if_neg (by omega), if_neg (by omega), if_neg (by omega), if_neg (by omega), if_neg (by omega), if_neg (by omega), if_neg (by omega), if_neg (by omega)]
