/-! the reference reads its whole text, and goes through it -/
theorem up2_id (S : Nat → Int → Int) (k : Nat) (e : Int) : up2 S k e (S k e) = S := by
  unfold up2
  rw [up1_self, upR_self]
theorem rd_end {S : Nat → Int → Int} (f : Nat) (d : Int) (h : ¬ S 6 0 < S 5 0) : rdF f S d = (S, decide (d = 0)) := by
  cases f with
  | zero => rfl
  | succ f => rw [rdF, if_neg h]
theorem rd_let {S : Nat → Int → Int} (f : Nat) (d : Int) (h : S 6 0 < S 5 0) (hl : isLt (sgM S)) (hr : raP (up2 S 6 0 (S 6 0 + 1)) (sgM S)) : rdF (f + 1) S d = rdF f (raM (up2 S 6 0 (S 6 0 + 1)) (sgM S)) d := by
  rw [rdF, if_pos h, if_pos (show pcP S d by unfold pcP; rw [if_pos hl]; exact hr)]
  unfold pcM pcD
  rw [if_pos hl, if_pos hl]
theorem rd_letF {S : Nat → Int → Int} (f : Nat) (d : Int) (h : S 6 0 < S 5 0) (hl : isLt (sgM S)) (hr : ¬ raP (up2 S 6 0 (S 6 0 + 1)) (sgM S)) : rdF (f + 1) S d = (raM (up2 S 6 0 (S 6 0 + 1)) (sgM S), false) := by
  rw [rdF, if_pos h, if_neg (show ¬ pcP S d by unfold pcP; rw [if_pos hl]; exact hr)]
  unfold pcM
  rw [if_pos hl]
theorem rd_cl {S : Nat → Int → Int} (f : Nat) (d : Int) (h : S 6 0 < S 5 0) (hl : ¬ isLt (sgM S)) (hr : sgM S = 41 ∧ 0 < d) : rdF (f + 1) S d = rdF f (up2 S 6 0 (S 6 0 + 1)) (d - 1) := by
  rw [rdF, if_pos h, if_pos (show pcP S d by unfold pcP; rw [if_neg hl, if_pos hr]; trivial)]
  unfold pcM pcD
  rw [if_neg hl, if_neg hl, if_pos hr, if_pos hr]
theorem rd_op {S : Nat → Int → Int} (f : Nat) (d : Int) (h : S 6 0 < S 5 0) (hl : ¬ isLt (sgM S)) (hr : ¬ (sgM S = 41 ∧ 0 < d)) (ho : sgM (pcQ S) = 40 ∧ d ≠ 3) : rdF (f + 1) S d = rdF f (up2 (pcQ S) 6 0 (pcQ S 6 0 + 1)) (d + 1) := by
  rw [rdF, if_pos h, if_pos (show pcP S d by unfold pcP; rw [if_neg hl, if_neg hr]; exact ho)]
  unfold pcM pcD
  rw [if_neg hl, if_neg hl, if_neg hr, if_neg hr, if_pos ho]
theorem rd_opF {S : Nat → Int → Int} (f : Nat) (d : Int) (h : S 6 0 < S 5 0) (hl : ¬ isLt (sgM S)) (hr : ¬ (sgM S = 41 ∧ 0 < d)) (ho : ¬ (sgM (pcQ S) = 40 ∧ d ≠ 3)) : rdF (f + 1) S d = (pcQ S, false) := by
  rw [rdF, if_pos h, if_neg (show ¬ pcP S d by unfold pcP; rw [if_neg hl, if_neg hr]; exact ho)]
  unfold pcM
  rw [if_neg hl, if_neg hr, if_neg ho]
theorem pcQ_1 {S : Nat → Int → Int} (h : 50 ≤ sgM S ∧ sgM S ≤ 57) : pcQ S = up2 S 6 0 (S 6 0 + 1) := if_pos h
theorem pcQ_0 {S : Nat → Int → Int} (h : ¬ (50 ≤ sgM S ∧ sgM S ≤ 57)) : pcQ S = S := if_neg h
theorem sgM_up (S : Nat → Int → Int) (p : Int) : sgM (up2 S 6 0 p) = sgF (S 4) (S 5 0) p := by
  unfold sgM
  rw [up2_eq]
  rfl
def doesM (S : Nat → Int → Int) (l : Int) : Nat → Int → Int := if l = 114 then readM S (S 10 0) (S 10 1) else if l = 116 then passM S (S 10 0) else if l = 119 then writeM S (S 10 0) (S 10 1) (S 10 2) else cutM S
def doesR (S : Nat → Int → Int) (l : Int) : Int := if l = 114 then readR (S 0) (S 10 0) (S 10 1) else if l = 116 then passR (S 0) (S 10 0) else if l = 119 then writeR (S 0) (S 10 0) (S 10 1) (S 10 2) else cutsR (S 0)
def passH (A : Int → Int) (ticks : Int) : Prop := (1 ≤ ticks ∧ ticks ≤ 200) ∧ A 0 + ticks ≤ 20000 → ∀ k : Int, 0 ≤ k → k ≤ ticks → WFA (itZ passesF k A) ∧ (0 < wkF (itZ passesF k A) (itZ passesF k A 1) → WFA (headsF (itZ passesF k A) 0))
def doOK (S : Nat → Int → Int) (l : Int) : Prop := WFA (S 0) ∧ (0 ≤ S 2 0 ∧ S 2 0 ≤ 5) ∧ (S 7 0 = 0 ∨ S 7 0 = 1) ∧ (∀ j : Int, -1000000 ≤ S 10 j ∧ S 10 j ≤ 1000000) ∧ (l = 116 → passH (S 0) (S 10 0)) ∧ (-1000000 ≤ doesR S l ∧ doesR S l ≤ 1000000)
def opnM (S : Nat → Int → Int) (d : Int) : Nat → Int → Int := up2 (up2 (up2 S 9 d (if sgM S = 40 then 0 else sgM S - 49)) 6 0 (S 6 0 + (if sgM S = 40 then 1 else 2))) 8 d (S 6 0 + (if sgM S = 40 then 1 else 2))
def GS (dn : Int) : Nat → (Nat → Int → Int) → Int → Int → (Nat → Int → Int) → Int → Prop
  | 0, _, _, _, _, _ => False
  | f + 1, S, n, d, S', r => TxOK S ∧ (0 ≤ n ∧ n ≤ 100) ∧ (0 ≤ d ∧ d ≤ 4) ∧ (∀ j : Int, -1000 ≤ S 9 j ∧ S 9 j ≤ 1000) ∧
    (if S 6 0 < S 5 0 then
      (if isLt (sgM S) then
        (if n = 100 then S' = raM (up2 S 6 0 (S 6 0 + 1)) (sgM S) ∧ r = -1000 - S 6 0
         else if dn ≠ 0 then doOK (raM (up2 S 6 0 (S 6 0 + 1)) (sgM S)) (sgM S) ∧ (if doesR (raM (up2 S 6 0 (S 6 0 + 1)) (sgM S)) (sgM S) < 0 then S' = doesM (raM (up2 S 6 0 (S 6 0 + 1)) (sgM S)) (sgM S) ∧ r = -1000 - S 6 0 else GS dn f (doesM (raM (up2 S 6 0 (S 6 0 + 1)) (sgM S)) (sgM S)) (n + 1) d S' r)
         else GS dn f (raM (up2 S 6 0 (S 6 0 + 1)) (sgM S)) (n + 1) d S' r)
       else if sgM S = 41 then 1 ≤ d ∧ (if 0 < S 9 (d - 1) then GS dn f (up2 (up2 S 9 (d - 1) (S 9 (d - 1) - 1)) 6 0 (S 8 (d - 1))) n d S' r else GS dn f (up2 S 6 0 (S 6 0 + 1)) n (d - 1) S' r)
       else d ≤ 3 ∧ GS dn f (opnM S d) n (d + 1) S' r)
     else S' = S ∧ r = n)
