/-! what the reference's methods do to its row (A) and to its whole state (M) -/
def zBA (A : Int → Int) : Prop := ∀ j : Int, 0 ≤ j → j < 965 → j ≠ 3 → j ≠ 4 → -1000000 ≤ A j ∧ A j ≤ 1000000
def WFA (A : Int → Int) : Prop := zBA A ∧ (0 ≤ A 0 ∧ A 0 ≤ 900000) ∧ (0 ≤ A 1 ∧ A 1 < 4) ∧ (0 ≤ A 2 ∧ A 2 ≤ 60)
def inStF (A : Int → Int) (st : Int) : Int := sumZ (fun o => if A (8 * o + 488) = st then 1 else 0) (A 2)
def wkO (A : Int → Int) (tr n : Int) : Int := sumZ (fun o => if A (8 * o + 488) = 0 ∧ A (8 * o + 486) = tr then 1 else 0) n
def wkL (A : Int → Int) (tr n : Int) : Int := sumZ (fun k => if A (60 * tr + 5 * k + 8) = 1 ∨ A (60 * tr + 5 * k + 248) = 1 then 1 else 0) n
def wkF (A : Int → Int) (tr : Int) : Int := wkO A tr (A 2) + wkL A tr 12
def szF (v : Int) : Int := if v < 0 then -v else v
def nearN (A : Int → Int) : Nat → Int
  | 0 => -9
  | n + 1 => if 0 < wkF A (n : Int) ∧ (nearN A n = -9 ∨ szF ((n : Int) - A 1) < szF (nearN A n - A 1)) then (n : Int) else nearN A n
def nearZ (A : Int → Int) (k : Int) : Int := nearN A k.toNat
theorem nearZ_0 (A : Int → Int) : nearZ A 0 = -9 := rfl
theorem nearZ_succ (A : Int → Int) {k : Int} (h : 0 ≤ k) : nearZ A (k + 1) = if 0 < wkF A k ∧ (nearZ A k = -9 ∨ szF (k - A 1) < szF (nearZ A k - A 1)) then k else nearZ A k := by
  unfold nearZ
  have e : (k + 1).toNat = k.toNat + 1 := by omega
  rw [e, nearN]
  have e2 : ((k.toNat : Nat) : Int) = k := by omega
  rw [e2]
def firstFF (A : Int → Int) (kind blk : Int) : Int := fstZ (fun o => A (8 * o + 488) = 0 ∧ A (8 * o + 485) = kind ∧ 12 * A (8 * o + 486) + A (8 * o + 487) = blk) (A 2)
def writesF (A : Int → Int) (side b v w : Int) : Int → Int := up1 (up1 (up1 (up1 (up1 A (240 * side + 5 * b + 5) v) (240 * side + 5 * b + 6) w) (240 * side + 5 * b + 7) 0) (240 * side + 5 * b + 8) 0) (240 * side + 5 * b + 9) (A 0)
def endsF (A : Int → Int) (o side : Int) : Int → Int := up1 (up1 (up1 A (8 * o + 488) 1) (8 * o + 490) (A 0)) (8 * o + 491) side
def headsB (A : Int → Int) (side b w r : Int) : Int → Int :=
  if A (240 * side + 5 * b + 8) = 1 ∧ A (5 * b - 240 * side + 247) = 0 then writesF A side b (A (5 * b - 240 * side + 245)) (A (5 * b - 240 * side + 246))
  else if w ≠ -9 then endsF (up1 (writesF A side b (A (8 * w + 492)) (max (A (5 * b + 6)) (A (5 * b + 246)) + 1)) (5 * b - 240 * side + 248) 1) w side
  else if r ≠ -9 ∧ A (240 * side + 5 * b + 8) = 0 ∧ A (240 * side + 5 * b + 7) = 0 then endsF (up1 A (8 * r + 492) (A (240 * side + 5 * b + 5))) r side
  else A
def blkF (A : Int → Int) (side : Int) : Int := 12 * A 1 + (A 0 + 6 * side) % 12
def headsF (A : Int → Int) (side : Int) : Int → Int := headsB A side (blkF A side) (firstFF A 1 (blkF A side)) (firstFF A 0 (blkF A side))
def mvF (A : Int → Int) : Int → Int := if nearZ A 4 = -9 then A else up1 (up1 A 1 (A 1 + (if A 1 < nearZ A 4 then 1 else -1))) 4 (A 4 + 1)
def passesH (A : Int → Int) : Int → Int := if 0 < wkF A (A 1) then headsF (headsF A 0) 1 else mvF A
def passesF (A : Int → Int) : Int → Int := up1 (passesH A) 0 (passesH A 0 + 1)
def cutKF (A : Int → Int) (n : Int) : Int → Int := fun j => if 5 ≤ j ∧ j < 5 * n + 5 ∧ j % 5 = 2 ∧ A (j + 2) = A 0 - 1 then 1 else if 5 ≤ j ∧ j < 5 * n + 5 ∧ j % 5 = 3 then 0 else A j
def cutOF (A : Int → Int) (n : Int) : Int → Int := fun j => if 485 ≤ j ∧ j < 8 * n + 485 ∧ j % 8 = 0 ∧ A j = 0 then 2 else A j
def cutsF (A : Int → Int) : Int → Int := cutOF (cutKF A 96) (A 2)
def cutsR (A : Int → Int) : Int := sumZ (fun k => if A (5 * k + 9) = A 0 - 1 ∧ A (5 * k + 7) = 0 then 1 else 0) 96
def tornF (A : Int → Int) (b : Int) : Int := A (5 * b + 7) + A (5 * b + 247)
def behF (A : Int → Int) (b : Int) : Int := if tornF A b = 1 then (if A (5 * b + 7) = 1 then 0 else 1) else if A (5 * b + 6) - A (5 * b + 246) = 0 then -9 else if 0 < A (5 * b + 6) - A (5 * b + 246) then 1 else 0
def takF (A : Int → Int) (side b : Int) : Int → Int := up1 (up1 (up1 A (240 * side + 5 * b + 5) (A (5 * b - 240 * side + 245))) (240 * side + 5 * b + 6) (A (5 * b - 240 * side + 246))) (240 * side + 5 * b + 7) 0
def wipF (A : Int → Int) (b : Int) : Int → Int := up1 (up1 (up1 (up1 (up1 (up1 A (5 * b + 5) 0) (5 * b + 6) 0) (5 * b + 7) 0) (5 * b + 245) 0) (5 * b + 246) 0) (5 * b + 247) 0
def swF (b : Int) (A : Int → Int) : Int → Int := if tornF A b = 2 then up1 (wipF A b) 3 (A 3 + 1) else if behF A b = -9 then A else takF A (behF A b) b
def swR (A : Int → Int) (b : Int) : Int := if tornF (ixZ swF b A) b = 2 ∨ behF (ixZ swF b A) b = -9 then 0 else 1
def sweepsF (A : Int → Int) : Int → Int := up1 (up1 (ixZ swF 48 A) 0 (ixZ swF 48 A 0 + 48)) 1 3
def sweepsR (A : Int → Int) : Int := sumZ (swR A) 48
def copF (A : Int → Int) (wh : Int) : Int := sumZ (fun k => A (5 * k + wh + 5)) 96
def unlF (A : Int → Int) : Int := sumZ (fun b => if A (5 * b + 5) ≠ A (5 * b + 245) ∨ A (5 * b + 6) ≠ A (5 * b + 246) then 1 else 0) 48
def waitM (A : Int → Int) (o : Int) : Int := A (8 * o + 490) - A (8 * o + 489)
def lngN (A : Int → Int) : Nat → Int
  | 0 => -9
  | n + 1 => if A (8 * (n : Int) + 488) = 1 ∧ (lngN A n = -9 ∨ waitM A (lngN A n) < waitM A (n : Int)) then (n : Int) else lngN A n
def lngZ (A : Int → Int) (k : Int) : Int := lngN A k.toNat
theorem lngZ_0 (A : Int → Int) : lngZ A 0 = -9 := rfl
theorem lngZ_succ (A : Int → Int) {k : Int} (h : 0 ≤ k) : lngZ A (k + 1) = if A (8 * k + 488) = 1 ∧ (lngZ A k = -9 ∨ waitM A (lngZ A k) < waitM A k) then k else lngZ A k := by
  unfold lngZ
  have e : (k + 1).toNat = k.toNat + 1 := by omega
  rw [e, lngN]
  have e2 : ((k.toNat : Nat) : Int) = k := by omega
  rw [e2]
def tkAF (A : Int → Int) (kind tr se wo : Int) : Int → Int := up1 (up1 (up1 (up1 (up1 (up1 (up1 (up1 (up1 A 2 (A 2 + 1)) (8 * A 2 + 485) kind) (8 * A 2 + 486) tr) (8 * A 2 + 487) se) (8 * A 2 + 488) 0) (8 * A 2 + 489) (A 0)) (8 * A 2 + 490) (-9)) (8 * A 2 + 491) (-9)) (8 * A 2 + 492) wo
/-! the link between the reference's row and a state of Plates -/
def Lk (τ : Int) (A : Int → Int) (S : Nat → Int → Int) : Prop :=
  (A 0 = S 5 0 ∧ A 1 = S 6 0 ∧ A 2 = S 7 0 ∧ A 3 = S 9 0 ∧ A 4 = S 10 0) ∧ (∀ k w : Int, 0 ≤ k → k < 96 → 0 ≤ w → w < 4 → A (5 * k + w + 5) = S 0 (4 * k + w)) ∧ (∀ j : Int, 0 ≤ j → j < 480 → A (j + 485) = S 1 j) ∧ (∀ k : Int, 0 ≤ k → k < 96 → (-2 ≤ A (5 * k + 9) ∧ A (5 * k + 9) ≤ τ) ∧ (A (5 * k + 9) = τ ↔ S 2 (k / 48) = 4 * k)) ∧ (∀ side : Int, 0 ≤ side → side < 2 → S 2 side = -1 ∨ (192 * side ≤ S 2 side ∧ S 2 side < 192 * side + 192 ∧ S 2 side % 4 = 0))
theorem Lk.WFA {τ V : Int} {A : Int → Int} {S : Nat → Int → Int} (h : Lk τ A S) (g : Good V S) (hV : V ≤ 900000) (ht : S 5 0 ≤ 900000) (hτ : τ ≤ 900000) : WFA A := by
  obtain ⟨⟨l0, l1, l2, l3, l4⟩, hc, ho, hs, hw⟩ := h
  have a := g.1
  have zb := g.zB hV ht
  refine ⟨fun j j0 j1 n3 n4 => ?_, by omega, by omega, by omega⟩
  rcases (show j = 0 ∨ j = 1 ∨ j = 2 ∨ (5 ≤ j ∧ j < 485) ∨ 485 ≤ j by omega) with rfl | rfl | rfl | q | q
  · omega
  · omega
  · omega
  · have e : j = 5 * ((j - 5) / 5) + (j - 5) % 5 + 5 := by omega
    by_cases q4 : (j - 5) % 5 = 4
    · have := hs ((j - 5) / 5) (by omega) (by omega)
      have e2 : j = 5 * ((j - 5) / 5) + 9 := by omega
      rw [e2]; omega
    · rw [e, hc ((j - 5) / 5) ((j - 5) % 5) (by omega) (by omega) (by omega) (by omega)]
      exact zb 0 _ (Or.inl (by decide))
  · have e : j = (j - 485) + 485 := by omega
    rw [e, ho (j - 485) (by omega) (by omega)]
    exact zb 1 _ (Or.inl (by decide))
theorem fstN_congr (P Q : Int → Prop) [DecidablePred P] [DecidablePred Q] : ∀ (n : Nat) (k : Int), (∀ o : Int, k ≤ o → o < k + (n : Int) → (P o ↔ Q o)) → fstN P n k = fstN Q n k
  | 0, _, _ => rfl
  | n + 1, k, h => by
    rw [fstN, fstN, fstN_congr P Q n (k + 1) (fun o a b => h o (by omega) (by omega))]
    have := h k (by omega) (by omega)
    by_cases q : P k
    · rw [if_pos q, if_pos (this.mp q)]
    · rw [if_neg q, if_neg (fun z => q (this.mpr z))]
theorem fstZ_congr (P Q : Int → Prop) [DecidablePred P] [DecidablePred Q] {k : Int} (h : ∀ o : Int, 0 ≤ o → o < k → (P o ↔ Q o)) : fstZ P k = fstZ Q k :=
  fstN_congr P Q k.toNat 0 (fun o a b => h o a (by omega))
theorem fstN_none (P : Int → Prop) [DecidablePred P] : ∀ (n : Nat) (k : Int), (∀ o : Int, k ≤ o → o < k + (n : Int) → ¬ P o) → fstN P n k = -9
  | 0, _, _ => rfl
  | n + 1, k, h => by
    rw [fstN, if_neg (h k (by omega) (by omega)), fstN_none P n (k + 1) (fun o a b => h o (by omega) (by omega))]
theorem fstZ_none (P : Int → Prop) [DecidablePred P] {k : Int} (h : ∀ o : Int, 0 ≤ o → o < k → ¬ P o) : fstZ P k = -9 :=
  fstN_none P k.toNat 0 (fun o a b => h o a (by omega))
theorem Lk_first {τ V : Int} {A : Int → Int} {S : Nat → Int → Int} (h : Lk τ A S) (g : Good V S) {kind tr se : Int} (h2 : 0 ≤ se ∧ se < 12) : firstFF A kind (12 * tr + se) = firstWF S kind tr se := by
  unfold firstFF firstWF
  rw [h.1.2.2.1]
  refine fstZ_congr _ _ (fun o o0 o1 => ?_)
  have a := g.1.2.2
  have w := g.2.2.1 o
  have e0 := h.2.2.1 (8 * o) (by omega) (by omega)
  have e1 := h.2.2.1 (8 * o + 1) (by omega) (by omega)
  have e2 := h.2.2.1 (8 * o + 2) (by omega) (by omega)
  have e3 := h.2.2.1 (8 * o + 3) (by omega) (by omega)
  rw [show (8 * o + 488 : Int) = 8 * o + 3 + 485 by omega, show (8 * o + 486 : Int) = 8 * o + 1 + 485 by omega, show (8 * o + 487 : Int) = 8 * o + 2 + 485 by omega, e0, e1, e2, e3]
  omega
theorem G_none {V : Int} {S : Nat → Int → Int} (g : Good V S) {tr se : Int} (h1 : 0 ≤ tr ∧ tr < 4) (h2 : 0 ≤ se ∧ se < 12) (h : S 3 (12 * tr + se) = 0) (kind : Int) : firstWF S kind tr se = -9 := by
  refine fstZ_none _ (fun o o0 o1 => ?_)
  rintro ⟨q1, q2, q3, q4⟩
  have e := g.2.2.2.2.2.1 (12 * tr + se) (by omega) (by omega)
  have t := sumZ_term (f := fun k => if S 1 (8 * k + 3) = 0 ∧ 12 * S 1 (8 * k + 1) + S 1 (8 * k + 2) = 12 * tr + se then (1 : Int) else 0) o0 o1 (fun j _ _ => by (try dsimp only); split <;> omega)
  try dsimp only at t
  rw [if_pos ⟨q1, by rw [q3, q4]⟩] at t
  unfold cnB at e
  omega
theorem Lk_wk {τ V : Int} {A : Int → Int} {S : Nat → Int → Int} (h : Lk τ A S) (g : Good V S) {t : Int} (h1 : 0 ≤ t ∧ t < 4) : 0 < wkF A t ↔ 0 < S 4 t := by
  have a := g.1.2.2
  rw [g.2.2.2.2.2.2.1 t h1.1 h1.2]
  unfold wkF
  have e1 : wkO A t (A 2) = cnT (S 1) (S 7 0) t := by
    unfold wkO cnT
    rw [h.1.2.2.1]
    refine sumZ_congr (fun o o0 o1 => ?_)
    have e1 := h.2.2.1 (8 * o + 1) (by omega) (by omega)
    have e3 := h.2.2.1 (8 * o + 3) (by omega) (by omega)
    try dsimp only
    rw [show (8 * o + 488 : Int) = 8 * o + 3 + 485 by omega, show (8 * o + 486 : Int) = 8 * o + 1 + 485 by omega, e1, e3]
  have hA : ∀ k : Int, 0 ≤ k → k < 12 → A (60 * t + 5 * k + 8) = S 0 (48 * t + 4 * k + 3) ∧ A (60 * t + 5 * k + 248) = S 0 (192 + 48 * t + 4 * k + 3) := fun k k0 k1 => by
    have c1 := h.2.1 (12 * t + k) 3 (by omega) (by omega) (by omega) (by omega)
    have c2 := h.2.1 (48 + 12 * t + k) 3 (by omega) (by omega) (by omega) (by omega)
    rw [show (5 * (12 * t + k) + 3 + 5 : Int) = 60 * t + 5 * k + 8 by omega, show (4 * (12 * t + k) + 3 : Int) = 48 * t + 4 * k + 3 by omega] at c1
    rw [show (5 * (48 + 12 * t + k) + 3 + 5 : Int) = 60 * t + 5 * k + 248 by omega, show (4 * (48 + 12 * t + k) + 3 : Int) = 192 + 48 * t + 4 * k + 3 by omega] at c2
    exact ⟨c1, c2⟩
  have b3 : ∀ j : Int, j % 4 = 3 → 0 ≤ S 0 j ∧ S 0 j ≤ 1 := fun j hj => g.2.1.at3 hj
  have n1 := cnT_rng (o := S 1) (n := S 7 0) (t := t) a.1
  have n2 := ltT_rng g.2.1 t
  have n3 : 0 ≤ wkL A t 12 := (sumZ_rng (b := 1) (by omega) (fun j _ _ => by (try dsimp only); split <;> omega)).1
  have e2 : 0 < wkL A t 12 ↔ 0 < ltT (S 0) t := by
    constructor
    · intro q
      obtain ⟨k, k0, k1, k2⟩ := sumZ_pos (fun j _ _ => by (try dsimp only); split <;> omega) q
      have tt := sumZ_term (f := fun k => S 0 (48 * t + 4 * k + 3) + S 0 (192 + 48 * t + 4 * k + 3)) k0 k1 (fun j _ _ => by
        have a := b3 (48 * t + 4 * j + 3) (by omega)
        have b := b3 (192 + 48 * t + 4 * j + 3) (by omega)
        (try dsimp only); omega)
      try dsimp only at tt k2
      obtain ⟨z1, z2⟩ := hA k k0 k1
      rw [z1, z2] at k2
      have a := b3 (48 * t + 4 * k + 3) (by omega)
      have b := b3 (192 + 48 * t + 4 * k + 3) (by omega)
      unfold ltT
      by_cases z : S 0 (48 * t + 4 * k + 3) = 1 ∨ S 0 (192 + 48 * t + 4 * k + 3) = 1
      · omega
      · rw [if_neg z] at k2; omega
    · intro q
      obtain ⟨k, k0, k1, k2⟩ := sumZ_pos (fun j _ _ => by
        have a := b3 (48 * t + 4 * j + 3) (by omega)
        have b := b3 (192 + 48 * t + 4 * j + 3) (by omega)
        (try dsimp only); omega) q
      have tt := sumZ_term (f := fun k => if A (60 * t + 5 * k + 8) = 1 ∨ A (60 * t + 5 * k + 248) = 1 then (1 : Int) else 0) k0 k1 (fun j _ _ => by (try dsimp only); split <;> omega)
      try dsimp only at tt k2
      obtain ⟨z1, z2⟩ := hA k k0 k1
      rw [z1, z2] at tt
      have a := b3 (48 * t + 4 * k + 3) (by omega)
      have b := b3 (192 + 48 * t + 4 * k + 3) (by omega)
      rw [if_pos (by omega)] at tt
      unfold wkL
      omega
  rw [e1]
  omega
