/-! the reference's whole state: 0 now, 1 past, 2 saved, 3 aside, 4 text, 5 length, 6 at, 7 isRun, 8 start, 9 left, 10 numbers -/
theorem up2_def (S : Nat → Int → Int) (k : Nat) (e v : Int) : up2 S k e v = upR S k (up1 (S k) e v) := rfl
theorem up2_upR (S : Nat → Int → Int) (k : Nat) (f : Int → Int) (e v : Int) : up2 (upR S k f) k e v = upR S k (up1 f e v) := by
  unfold up2
  rw [upR_eq, upR_upR]
theorem upR_cg {S : Nat → Int → Int} {k : Nat} {f g : Int → Int} (h : ∀ j : Int, f j = g j) : upR S k f = upR S k g := by
  rw [show f = g from funext h]
theorem upR_id {S : Nat → Int → Int} {k : Nat} {f : Int → Int} (h : ∀ j : Int, f j = S k j) : upR S k f = S := by
  rw [show f = S k from funext h, upR_self]
def putM (S : Nat → Int → Int) (side b wh v : Int) : Nat → Int → Int := up2 S 0 (240 * side + 5 * b + wh + 5) v
def tellM (S : Nat → Int → Int) (o wh v : Int) : Nat → Int → Int := up2 S 0 (8 * o + wh + 485) v
def endsM (S : Nat → Int → Int) (o side : Int) : Nat → Int → Int := up2 (up2 (up2 S 0 (8 * o + 488) 1) 0 (8 * o + 490) (S 0 0)) 0 (8 * o + 491) side
def writesM (S : Nat → Int → Int) (side b v w : Int) : Nat → Int → Int := up2 (up2 (up2 (up2 (up2 S 0 (240 * side + 5 * b + 5) v) 0 (240 * side + 5 * b + 6) w) 0 (240 * side + 5 * b + 7) 0) 0 (240 * side + 5 * b + 8) 0) 0 (240 * side + 5 * b + 9) (S 0 0)
theorem putM_eq (S : Nat → Int → Int) (side b wh v : Int) : putM S side b wh v = upR S 0 (up1 (S 0) (240 * side + 5 * b + wh + 5) v) := rfl
theorem tellM_eq (S : Nat → Int → Int) (o wh v : Int) : tellM S o wh v = upR S 0 (up1 (S 0) (8 * o + wh + 485) v) := rfl
theorem endsM_eq (S : Nat → Int → Int) (o side : Int) : endsM S o side = upR S 0 (endsF (S 0) o side) := by
  unfold endsM endsF
  rw [up2_def S, up2_upR, up2_upR]
theorem writesM_eq (S : Nat → Int → Int) (side b v w : Int) : writesM S side b v w = upR S 0 (writesF (S 0) side b v w) := by
  unfold writesM writesF
  rw [up2_def S, up2_upR, up2_upR, up2_upR, up2_upR]
def shK (S : Nat → Int → Int) (k : Int) : Nat → Int → Int := upR S 1 (fun j => if 0 ≤ j ∧ j < k then S 1 (j + 965) else S 1 j)
theorem shK_0 (S : Nat → Int → Int) : shK S 0 = S := upR_id (fun j => if_neg (by omega))
theorem shK_succ (S : Nat → Int → Int) {k : Int} (h : 0 ≤ k) : up2 (shK S k) 1 k (S 1 (k + 965)) = shK S (k + 1) := by
  unfold shK
  rw [up2_upR]
  refine upR_cg (fun j => ?_)
  unfold up1
  dsimp only
  by_cases q : j = k
  · rw [if_pos q, if_pos (by omega), q]
  · rw [if_neg q]
    by_cases q2 : 0 ≤ j ∧ j < k
    · rw [if_pos q2, if_pos (by omega)]
    · rw [if_neg q2, if_neg (by omega)]
def svK (S : Nat → Int → Int) (n k : Int) : Nat → Int → Int := upR S 1 (fun j => if 965 * n ≤ j ∧ j < 965 * n + k then S 0 (j - 965 * n) else S 1 j)
theorem svK_0 (S : Nat → Int → Int) (n : Int) : svK S n 0 = S := upR_id (fun j => if_neg (by omega))
theorem svK_succ (S : Nat → Int → Int) (n : Int) {k i : Int} (h : 0 ≤ k) (hi : i = 965 * n + k) : up2 (svK S n k) 1 i (S 0 k) = svK S n (k + 1) := by
  subst hi
  unfold svK
  rw [up2_upR]
  refine upR_cg (fun j => ?_)
  unfold up1
  dsimp only
  by_cases q : j = 965 * n + k
  · rw [if_pos q, if_pos (by omega), q, show (965 * n + k - 965 * n : Int) = k by omega]
  · rw [if_neg q]
    by_cases q2 : 965 * n ≤ j ∧ j < 965 * n + k
    · rw [if_pos q2, if_pos (by omega)]
    · rw [if_neg q2, if_neg (by omega)]
def savesM (S : Nat → Int → Int) : Nat → Int → Int :=
  if S 7 0 ≠ 0 then S else if S 2 0 = 5 then up2 (svK (up2 (shK S 3860) 2 0 (S 2 0 - 1)) (S 2 0 - 1) 965) 2 0 (S 2 0) else up2 (svK S (S 2 0) 965) 2 0 (S 2 0 + 1)
theorem savesM_0 (S : Nat → Int → Int) : savesM S 0 = S 0 := by
  unfold savesM
  (repeat' split) <;> rfl
theorem savesM_run (S : Nat → Int → Int) (h : S 7 0 ≠ 0) : savesM S = S := if_pos h
def unK (S : Nat → Int → Int) (n k : Int) : Nat → Int → Int := upR S 0 (fun j => if 0 ≤ j ∧ j < k then S 1 (965 * n + j) else S 0 j)
theorem unK_0 (S : Nat → Int → Int) (n : Int) : unK S n 0 = S := upR_id (fun j => if_neg (by omega))
theorem unK_succ (S : Nat → Int → Int) (n : Int) {k i : Int} (h : 0 ≤ k) (hi : i = 965 * n + k) : up2 (unK S n k) 0 k (S 1 i) = unK S n (k + 1) := by
  subst hi
  unfold unK
  rw [up2_upR]
  refine upR_cg (fun j => ?_)
  unfold up1
  dsimp only
  by_cases q : j = k
  · rw [if_pos q, if_pos (by omega), q]
  · rw [if_neg q]
    by_cases q2 : 0 ≤ j ∧ j < k
    · rw [if_pos q2, if_pos (by omega)]
    · rw [if_neg q2, if_neg (by omega)]
def undoM (S : Nat → Int → Int) : Nat → Int → Int := if S 2 0 = 0 then S else unK (up2 S 2 0 (S 2 0 - 1)) (S 2 0 - 1) 965
def ptK (S : Nat → Int → Int) (k : Int) : Nat → Int → Int := upR S 3 (fun j => if 0 ≤ j ∧ j < k then S 0 j else S 3 j)
theorem ptK_0 (S : Nat → Int → Int) : ptK S 0 = S := upR_id (fun j => if_neg (by omega))
theorem ptK_succ (S : Nat → Int → Int) {k : Int} (h : 0 ≤ k) : up2 (ptK S k) 3 k (S 0 k) = ptK S (k + 1) := by
  unfold ptK
  rw [up2_upR]
  refine upR_cg (fun j => ?_)
  unfold up1
  dsimp only
  by_cases q : j = k
  · rw [if_pos q, if_pos (by omega), q]
  · rw [if_neg q]
    by_cases q2 : 0 ≤ j ∧ j < k
    · rw [if_pos q2, if_pos (by omega)]
    · rw [if_neg q2, if_neg (by omega)]
def bkK (S : Nat → Int → Int) (k : Int) : Nat → Int → Int := upR S 0 (fun j => if 0 ≤ j ∧ j < k then S 3 j else S 0 j)
theorem bkK_0 (S : Nat → Int → Int) : bkK S 0 = S := upR_id (fun j => if_neg (by omega))
theorem bkK_succ (S : Nat → Int → Int) {k : Int} (h : 0 ≤ k) : up2 (bkK S k) 0 k (S 3 k) = bkK S (k + 1) := by
  unfold bkK
  rw [up2_upR]
  refine upR_cg (fun j => ?_)
  unfold up1
  dsimp only
  by_cases q : j = k
  · rw [if_pos q, if_pos (by omega), q]
  · rw [if_neg q]
    by_cases q2 : 0 ≤ j ∧ j < k
    · rw [if_pos q2, if_pos (by omega)]
    · rw [if_neg q2, if_neg (by omega)]
def putsM (S : Nat → Int → Int) : Nat → Int → Int := ptK S 965
def backM (S : Nat → Int → Int) : Nat → Int → Int := bkK S 965
def takesM (S : Nat → Int → Int) (kind tr se v : Int) : Nat → Int → Int := if S 0 2 = 60 ∨ 20 ≤ inStF (S 0) 0 then S else upR (savesM S) 0 (tkAF (S 0) kind tr se (if kind = 1 then v else -9))
def takesR (A : Int → Int) : Int := if A 2 = 60 ∨ 20 ≤ inStF A 0 then -3 else A 2
def readM (S : Nat → Int → Int) (tr se : Int) : Nat → Int → Int := if (0 ≤ tr ∧ tr ≤ 3) ∧ 0 ≤ se ∧ se ≤ 11 then takesM S 0 tr se 0 else S
def readR (A : Int → Int) (tr se : Int) : Int := if (0 ≤ tr ∧ tr ≤ 3) ∧ 0 ≤ se ∧ se ≤ 11 then takesR A else -1
def writeM (S : Nat → Int → Int) (tr se v : Int) : Nat → Int → Int := if ((0 ≤ tr ∧ tr ≤ 3) ∧ 0 ≤ se ∧ se ≤ 11) ∧ 0 ≤ v ∧ v ≤ 999 then takesM S 1 tr se v else S
def writeR (A : Int → Int) (tr se v : Int) : Int := if ((0 ≤ tr ∧ tr ≤ 3) ∧ 0 ≤ se ∧ se ≤ 11) ∧ 0 ≤ v ∧ v ≤ 999 then takesR A else -1
def headsM (S : Nat → Int → Int) (side : Int) : Nat → Int → Int := upR S 0 (headsF (S 0) side)
def passesM (S : Nat → Int → Int) : Nat → Int → Int := upR S 0 (passesF (S 0))
def passM (S : Nat → Int → Int) (ticks : Int) : Nat → Int → Int := if (1 ≤ ticks ∧ ticks ≤ 200) ∧ S 0 0 + ticks ≤ 20000 then upR (savesM S) 0 (itZ passesF ticks (S 0)) else S
def passR (A : Int → Int) (ticks : Int) : Int := if 1 ≤ ticks ∧ ticks ≤ 200 then (if A 0 + ticks ≤ 20000 then inStF (itZ passesF ticks A) 1 - inStF A 1 else -2) else -1
def cutM (S : Nat → Int → Int) : Nat → Int → Int := upR (savesM S) 0 (cutsF (S 0))
def sweepM (S : Nat → Int → Int) : Nat → Int → Int := if 0 < inStF (S 0) 0 ∨ 0 < copF (S 0) 3 ∨ 20000 < S 0 0 + 48 then S else upR (savesM S) 0 (sweepsF (S 0))
def sweepR (S : Nat → Int → Int) : Int := if 0 < inStF (S 0) 0 ∨ 0 < copF (S 0) 3 ∨ 20000 < S 0 0 + 48 then -2 else sweepsR (S 0)
