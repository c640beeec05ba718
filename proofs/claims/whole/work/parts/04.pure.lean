/-! sums, firsts, iterations over whole numbers -/
def sumN (f : Int → Int) : Nat → Int
  | 0 => 0
  | n + 1 => sumN f n + f (n : Int)
def sumZ (f : Int → Int) (k : Int) : Int := sumN f k.toNat
theorem sumZ_0 (f : Int → Int) : sumZ f 0 = 0 := rfl
theorem sumZ_succ (f : Int → Int) {k : Int} (h : 0 ≤ k) : sumZ f (k + 1) = sumZ f k + f k := by
  unfold sumZ
  have e : (k + 1).toNat = k.toNat + 1 := by omega
  rw [e, sumN]
  have e2 : ((k.toNat : Nat) : Int) = k := by omega
  rw [e2]
theorem sumN_congr {f g : Int → Int} : ∀ (n : Nat), (∀ j : Int, 0 ≤ j → j < (n : Int) → f j = g j) → sumN f n = sumN g n
  | 0, _ => rfl
  | n + 1, h => by
    rw [sumN, sumN, sumN_congr n (fun j h1 h2 => h j h1 (by omega)), h (n : Int) (by omega) (by omega)]
theorem sumZ_congr {f g : Int → Int} {k : Int} (h : ∀ j : Int, 0 ≤ j → j < k → f j = g j) : sumZ f k = sumZ g k := by
  unfold sumZ
  exact sumN_congr _ (fun j h1 h2 => h j h1 (by omega))
def fstN (P : Int → Prop) [DecidablePred P] : Nat → Int → Int
  | 0, _ => -9
  | n + 1, k => if P k then k else fstN P n (k + 1)
def fstZ (P : Int → Prop) [DecidablePred P] (k : Int) : Int := fstN P k.toNat 0
theorem fstN_pos (P : Int → Prop) [DecidablePred P] {n : Int} (k : Int) (h : 0 < n) : fstN P n.toNat k = if P k then k else fstN P (n - 1).toNat (k + 1) := by
  have e : n.toNat = (n - 1).toNat + 1 := by omega
  rw [e, fstN]
theorem fstN_0 (P : Int → Prop) [DecidablePred P] {n : Int} (k : Int) (h : n ≤ 0) : fstN P n.toNat k = -9 := by
  have e : n.toNat = 0 := by omega
  rw [e, fstN]
theorem fstN_rng (P : Int → Prop) [DecidablePred P] : ∀ (n : Nat) (k : Int), fstN P n k = -9 ∨ (k ≤ fstN P n k ∧ fstN P n k < k + n ∧ P (fstN P n k))
  | 0, _ => Or.inl rfl
  | n + 1, k => by
    rw [fstN]
    by_cases h : P k
    · rw [if_pos h]; exact Or.inr ⟨by omega, by omega, h⟩
    · rw [if_neg h]
      rcases fstN_rng P n (k + 1) with q | ⟨q1, q2, q3⟩
      · exact Or.inl q
      · exact Or.inr ⟨by omega, by omega, q3⟩
theorem fstZ_rng (P : Int → Prop) [DecidablePred P] {k : Int} (hk : 0 ≤ k) : fstZ P k = -9 ∨ (0 ≤ fstZ P k ∧ fstZ P k < k ∧ P (fstZ P k)) := by
  unfold fstZ
  rcases fstN_rng P k.toNat 0 with q | ⟨q1, q2, q3⟩
  · exact Or.inl q
  · exact Or.inr ⟨q1, by omega, q3⟩
def itN {α : Type} (f : α → α) : Nat → α → α
  | 0, x => x
  | n + 1, x => f (itN f n x)
def itZ {α : Type} (f : α → α) (k : Int) (x : α) : α := itN f k.toNat x
theorem itZ_0 {α : Type} (f : α → α) (x : α) : itZ f 0 x = x := rfl
theorem itZ_succ {α : Type} (f : α → α) {k : Int} (x : α) (h : 0 ≤ k) : itZ f (k + 1) x = f (itZ f k x) := by
  unfold itZ
  have e : (k + 1).toNat = k.toNat + 1 := by omega
  rw [e, itN]
def ixN {α : Type} (f : Int → α → α) : Nat → α → α
  | 0, x => x
  | n + 1, x => f (n : Int) (ixN f n x)
def ixZ {α : Type} (f : Int → α → α) (k : Int) (x : α) : α := ixN f k.toNat x
theorem ixZ_0 {α : Type} (f : Int → α → α) (x : α) : ixZ f 0 x = x := rfl
theorem ixZ_succ {α : Type} (f : Int → α → α) {k : Int} (x : α) (h : 0 ≤ k) : ixZ f (k + 1) x = f k (ixZ f k x) := by
  unfold ixZ
  have e : (k + 1).toNat = k.toNat + 1 := by omega
  rw [e, ixN]
  have e2 : ((k.toNat : Nat) : Int) = k := by omega
  rw [e2]
/-! what the methods of Plates do to a state -/
def zB (S : Nat → Int → Int) : Prop := ∀ (k : Nat) (j : Int), (k < 5 ∨ (k < 9 ∧ j = 0)) → -1000000 ≤ S k j ∧ S k j ≤ 1000000
def WF (S : Nat → Int → Int) : Prop := zB S ∧ 0 ≤ S 5 0 ∧ (0 ≤ S 6 0 ∧ S 6 0 < 4) ∧ (0 ≤ S 7 0 ∧ S 7 0 ≤ 60) ∧ (∀ o : Int, (0 ≤ S 1 (8 * o + 1) ∧ S 1 (8 * o + 1) < 4) ∧ (0 ≤ S 1 (8 * o + 2) ∧ S 1 (8 * o + 2) < 12)) ∧ ∀ j : Int, S 2 j = -1 ∨ (0 ≤ S 2 j ∧ S 2 j < 384 ∧ S 2 j % 4 = 0)
def tkOrdS (S : Nat → Int → Int) (kind tr se wo : Int) : Nat → Int → Int :=
  up2 (up2 (up2 (up2 (up2 (up2 (up2 (up2 (up2 (up2 (up2 (up2 S 1 (8 * S 7 0) kind) 1 (8 * S 7 0 + 1) tr) 1 (8 * S 7 0 + 2) se) 1 (8 * S 7 0 + 3) 0) 1 (8 * S 7 0 + 4) (S 5 0)) 1 (8 * S 7 0 + 5) (-9)) 1 (8 * S 7 0 + 6) (-9)) 1 (8 * S 7 0 + 7) wo) 8 0 (S 8 0 + 1)) 3 (12 * tr + se) (S 3 (12 * tr + se) + 1)) 4 tr (S 4 tr + 1)) 7 0 (S 7 0 + 1)
def tkOrd (S : Nat → Int → Int) (kind tr se wo : Int) : Nat → Int → Int := if 60 ≤ S 7 0 ∨ 20 ≤ S 8 0 then S else tkOrdS S kind tr se wo
def tkOrdR (S : Nat → Int → Int) : Int := if 60 ≤ S 7 0 ∨ 20 ≤ S 8 0 then -3 else S 7 0
def tkReadS (S : Nat → Int → Int) (tr se : Int) : Nat → Int → Int := if 0 ≤ tr ∧ tr < 4 ∧ 0 ≤ se ∧ se < 12 then tkOrd S 0 tr se (-9) else S
def tkReadR (S : Nat → Int → Int) (tr se : Int) : Int := if 0 ≤ tr ∧ tr < 4 ∧ 0 ≤ se ∧ se < 12 then tkOrdR S else -1
def tkWriteS (S : Nat → Int → Int) (tr se v : Int) : Nat → Int → Int := if (0 ≤ tr ∧ tr < 4 ∧ 0 ≤ se ∧ se < 12) ∧ 0 ≤ v ∧ v ≤ 999 then tkOrd S 1 tr se v else S
def tkWriteR (S : Nat → Int → Int) (tr se v : Int) : Int := if (0 ≤ tr ∧ tr < 4 ∧ 0 ≤ se ∧ se < 12) ∧ 0 ≤ v ∧ v ≤ 999 then tkOrdR S else -1
def finS (S : Nat → Int → Int) (o side wo : Int) : Nat → Int → Int :=
  up2 (up2 (up2 (up2 (up2 (up2 (up2 S 1 (8 * o + 3) 1) 1 (8 * o + 5) (S 5 0)) 1 (8 * o + 6) side) 1 (8 * o + 7) wo) 8 0 (S 8 0 - 1)) 3 (12 * S 1 (8 * o + 1) + S 1 (8 * o + 2)) (S 3 (12 * S 1 (8 * o + 1) + S 1 (8 * o + 2)) - 1)) 4 (S 1 (8 * o + 1)) (S 4 (S 1 (8 * o + 1)) - 1)
def setWS (S : Nat → Int → Int) (cell v w : Int) : Nat → Int → Int := up2 (up2 (up2 S 0 cell v) 0 (cell + 1) w) 0 (cell + 2) 0
def takeOS (S : Nat → Int → Int) (cell other : Int) : Nat → Int → Int := setWS S cell (S 0 other) (S 0 (other + 1))
def setLS (S : Nat → Int → Int) (cell late : Int) : Nat → Int → Int := up2 (up2 S 4 (S 6 0) (S 4 (S 6 0) + late - S 0 (cell + 3))) 0 (cell + 3) late
def forgS (S : Nat → Int → Int) : Nat → Int → Int := up2 (up2 S 2 0 (-1)) 2 1 (-1)
def firstWF (S : Nat → Int → Int) (kind tr se : Int) : Int := fstZ (fun o => S 1 (8 * o + 3) = 0 ∧ S 1 (8 * o) = kind ∧ S 1 (8 * o + 1) = tr ∧ S 1 (8 * o + 2) = se) (S 7 0)
def doWrS (S : Nat → Int → Int) (o side here there : Int) : Nat → Int → Int :=
  finS (up2 (setLS (setLS (setWS S here (S 1 (8 * o + 7)) (max (S 0 (here + 1)) (S 0 (there + 1)) + 1)) here 0) there 1) 2 side here) o side (S 1 (8 * o + 7))
def useHdB (S : Nat → Int → Int) (side sec here there : Int) : Nat → Int → Int :=
  if S 0 (here + 3) ≠ 0 ∧ S 0 (there + 2) = 0 then up2 (setLS (takeOS S here there) here 0) 2 side here
  else if S 3 (12 * S 6 0 + sec) = 0 then S
  else if firstWF S 1 (S 6 0) sec ≠ -9 then doWrS S (firstWF S 1 (S 6 0) sec) side here there
  else if firstWF S 0 (S 6 0) sec ≠ -9 ∧ S 0 (here + 3) = 0 ∧ S 0 (here + 2) = 0 then finS S (firstWF S 0 (S 6 0) sec) side (S 0 here)
  else S
def secF (S : Nat → Int → Int) (side : Int) : Int := (S 5 0 + 6 * side) % 12
def useHdS (S : Nat → Int → Int) (side : Int) : Nat → Int → Int := useHdB S side (secF S side) (192 * side + 48 * S 6 0 + 4 * secF S side) (192 - 192 * side + 48 * S 6 0 + 4 * secF S side)
def mvDir (S : Nat → Int → Int) : Int :=
  if 0 ≤ S 6 0 - 1 ∧ 0 < S 4 (S 6 0 - 1) then -1 else if S 6 0 + 1 < 4 ∧ 0 < S 4 (S 6 0 + 1) then 1
  else if 0 ≤ S 6 0 - 2 ∧ 0 < S 4 (S 6 0 - 2) then -1 else if S 6 0 + 2 < 4 ∧ 0 < S 4 (S 6 0 + 2) then 1
  else if 0 ≤ S 6 0 - 3 ∧ 0 < S 4 (S 6 0 - 3) then -1 else if S 6 0 + 3 < 4 ∧ 0 < S 4 (S 6 0 + 3) then 1 else 0
def mvArmS (S : Nat → Int → Int) : Nat → Int → Int := if mvDir S = 0 then S else up2 (up2 S 6 0 (S 6 0 + mvDir S)) 10 0 (S 10 0 + 1)
def doTickH (S : Nat → Int → Int) : Nat → Int → Int := if 0 < S 4 (S 6 0) then useHdS (useHdS (forgS S) 0) 1 else mvArmS (forgS S)
def doTickS (S : Nat → Int → Int) : Nat → Int → Int := up2 (doTickH S) 5 0 (doTickH S 5 0 + 1)
def passOk (S : Nat → Int → Int) (ticks : Int) : Prop := (1 ≤ ticks ∧ ticks ≤ 200) ∧ S 5 0 + ticks ≤ 20000
def letPassS (S : Nat → Int → Int) (ticks : Int) : Nat → Int → Int := if (1 ≤ ticks ∧ ticks ≤ 200) ∧ S 5 0 + ticks ≤ 20000 then itZ doTickS ticks S else S
def letPassR (S : Nat → Int → Int) (ticks : Int) : Int := if 1 ≤ ticks ∧ ticks ≤ 200 then (if S 5 0 + ticks ≤ 20000 then S 8 0 - itZ doTickS ticks S 8 0 else -2) else -1
def tearS (side : Int) (S : Nat → Int → Int) : Nat → Int → Int := if S 2 side ≠ -1 ∧ S 0 (S 2 side + 2) = 0 then up2 S 0 (S 2 side + 2) 1 else S
def tearR (S : Nat → Int → Int) (side : Int) : Int := if S 2 side ≠ -1 ∧ ixZ tearS side S 0 (S 2 side + 2) = 0 then 1 else 0
def dropOS (S : Nat → Int → Int) (k : Int) : Nat → Int → Int := upR S 1 (fun j => if j % 8 = 3 ∧ 0 ≤ j ∧ j < 8 * k ∧ S 1 j = 0 then 2 else S 1 j)
def dropBS (S : Nat → Int → Int) (k : Int) : Nat → Int → Int := upR (upR S 0 (fun j => if j % 4 = 3 ∧ ((0 ≤ j ∧ j < 4 * k) ∨ (192 ≤ j ∧ j < 192 + 4 * k)) then 0 else S 0 j)) 3 (fun j => if 0 ≤ j ∧ j < k then 0 else S 3 j)
def dropTS (S : Nat → Int → Int) (k : Int) : Nat → Int → Int := upR S 4 (fun j => if 0 ≤ j ∧ j < k then 0 else S 4 j)
def dropWS (S : Nat → Int → Int) : Nat → Int → Int := dropTS (dropBS (up2 (dropOS S (S 7 0)) 8 0 0) 48) 4
def cutS (S : Nat → Int → Int) : Nat → Int → Int := dropWS (ixZ tearS 2 S)
def cutR (S : Nat → Int → Int) : Int := sumZ (tearR S) 2
abbrev hasWk (S : Nat → Int → Int) : Prop := 0 < S 4 0 ∨ 0 < S 4 1 ∨ 0 < S 4 2 ∨ 0 < S 4 3
def repS (S : Nat → Int → Int) (a b : Int) : Nat → Int → Int :=
  if S 0 (a + 2) ≠ 0 ∧ S 0 (b + 2) ≠ 0 then up2 (setWS (setWS S a 0 0) b 0 0) 9 0 (S 9 0 + 1)
  else if S 0 (a + 2) ≠ 0 ∨ (S 0 (b + 2) = 0 ∧ S 0 (a + 1) - S 0 (b + 1) < 0) then takeOS S a b
  else if S 0 (b + 2) ≠ 0 ∨ 0 < S 0 (a + 1) - S 0 (b + 1) then takeOS S b a else S
def repR (S : Nat → Int → Int) (a b : Int) : Int :=
  if S 0 (a + 2) ≠ 0 ∧ S 0 (b + 2) ≠ 0 then 0
  else if S 0 (a + 2) ≠ 0 ∨ (S 0 (b + 2) = 0 ∧ S 0 (a + 1) - S 0 (b + 1) < 0) then 1
  else if S 0 (b + 2) ≠ 0 ∨ 0 < S 0 (a + 1) - S 0 (b + 1) then 1 else 0
def repBS (S : Nat → Int → Int) : Nat → Int → Int := ixZ (fun b U => repS U (4 * b) (4 * b + 192)) 48 S
def repBR (S : Nat → Int → Int) : Int := sumZ (fun b => repR (ixZ (fun b U => repS U (4 * b) (4 * b + 192)) b S) (4 * b) (4 * b + 192)) 48
def repairS (S : Nat → Int → Int) : Nat → Int → Int := up2 (up2 (forgS (repBS S)) 5 0 (repBS S 5 0 + 48)) 6 0 3
def sweepS (S : Nat → Int → Int) : Nat → Int → Int := if hasWk S ∨ 20000 < S 5 0 + 48 then S else repairS S
def sweepBR (S : Nat → Int → Int) : Int := if hasWk S ∨ 20000 < S 5 0 + 48 then -2 else repBR S
def TickOK (S : Nat → Int → Int) : Prop := WF S ∧ WF (forgS S) ∧ WF (useHdS (forgS S) 0)
def waitF (S : Nat → Int → Int) (o : Int) : Int := S 1 (8 * o + 5) - S 1 (8 * o + 4)
def longN (S : Nat → Int → Int) : Nat → Int
  | 0 => -9
  | n + 1 => if S 1 (8 * (n : Int) + 3) = 1 ∧ (longN S n = -9 ∨ waitF S (longN S n) < waitF S (n : Int)) then (n : Int) else longN S n
def longZ (S : Nat → Int → Int) (k : Int) : Int := longN S k.toNat
theorem longZ_0 (S : Nat → Int → Int) : longZ S 0 = -9 := rfl
theorem longZ_succ (S : Nat → Int → Int) {k : Int} (h : 0 ≤ k) : longZ S (k + 1) = if S 1 (8 * k + 3) = 1 ∧ (longZ S k = -9 ∨ waitF S (longZ S k) < waitF S k) then k else longZ S k := by
  unfold longZ
  have e : (k + 1).toNat = k.toNat + 1 := by omega
  rw [e, longN]
  have e2 : ((k.toNat : Nat) : Int) = k := by omega
  rw [e2]
