/-! the class's program: 0 text, 1 length, 2 numbers, 3 letters, 4 steps, 5 groupTimes, 6 groupStart, 7 depth, 8 place -/
def sgP (S : Nat → Int → Int) : Int := sgF (S 0) (S 1 0) (S 8 0)
def CX (S : Nat → Int → Int) : Prop := (∀ j : Int, 0 ≤ S 0 j ∧ S 0 j ≤ 255) ∧ (0 ≤ S 1 0 ∧ S 1 0 ≤ 80) ∧ (0 ≤ S 8 0 ∧ S 8 0 ≤ S 1 0) ∧ (0 ≤ S 4 0 ∧ S 4 0 ≤ 101) ∧ (0 ≤ S 7 0 ∧ S 7 0 ≤ 3) ∧ (∀ j : Int, 0 ≤ S 6 j ∧ S 6 j ≤ 101) ∧ (∀ j : Int, -1000 ≤ S 5 j ∧ S 5 j ≤ 1000)
theorem sgP_rng {S : Nat → Int → Int} (h : CX S) : 0 ≤ sgP S ∧ sgP S ≤ 255 := sgF_rng h.1 _ _
theorem sgP_in {S : Nat → Int → Int} (h : sgP S ≠ 0) : S 8 0 < S 1 0 := sgF_in h
def rsC (S : Nat → Int → Int) (ch : Int) : Nat → Int → Int := if sgP S = ch then up2 S 8 0 (S 8 0 + 1) else S
def rn1 (S : Nat → Int → Int) (le ix : Int) : Nat → Int → Int := up2 (up2 S 8 0 (S 8 0 + nmLen (S 0) (S 1 0) (S 8 0))) 2 (3 * le + ix) (nmVal (S 0) (S 1 0) (S 8 0))
def rnC (S : Nat → Int → Int) (le ix ch : Int) : Nat → Int → Int := if isDg (sgP S) then rsC (rn1 S le ix) ch else rn1 S le ix
abbrev rnP (S : Nat → Int → Int) (le ix ch : Int) : Prop := isDg (sgP S) ∧ sgP (rn1 S le ix) = ch
def asC (S : Nat → Int → Int) (le : Int) : Nat → Int → Int := if S 4 0 < 101 then up2 (up2 S 3 (S 4 0) le) 4 0 (S 4 0 + 1) else S
def ac0 (S : Nat → Int → Int) : Nat → Int → Int := asC (up2 S 8 0 (S 8 0 + 1)) (S 8 0)
abbrev acP (S : Nat → Int → Int) : Prop :=
  if sgP S = 114 then rnP (ac0 S) (S 8 0) 0 44 ∧ rnP (rnC (ac0 S) (S 8 0) 0 44) (S 8 0) 1 59
  else if sgP S = 119 then rnP (ac0 S) (S 8 0) 0 44 ∧ rnP (rnC (ac0 S) (S 8 0) 0 44) (S 8 0) 1 61 ∧ rnP (rnC (rnC (ac0 S) (S 8 0) 0 44) (S 8 0) 1 61) (S 8 0) 2 59
  else if sgP S = 116 then rnP (ac0 S) (S 8 0) 0 59 else if sgP S = 120 then sgP (ac0 S) = 59 else False
def acC (S : Nat → Int → Int) : Nat → Int → Int :=
  if sgP S = 114 then (if rnP (ac0 S) (S 8 0) 0 44 then rnC (rnC (ac0 S) (S 8 0) 0 44) (S 8 0) 1 59 else rnC (ac0 S) (S 8 0) 0 44)
  else if sgP S = 119 then (if rnP (ac0 S) (S 8 0) 0 44 then (if rnP (rnC (ac0 S) (S 8 0) 0 44) (S 8 0) 1 61 then rnC (rnC (rnC (ac0 S) (S 8 0) 0 44) (S 8 0) 1 61) (S 8 0) 2 59 else rnC (rnC (ac0 S) (S 8 0) 0 44) (S 8 0) 1 61) else rnC (ac0 S) (S 8 0) 0 44)
  else if sgP S = 116 then rnC (ac0 S) (S 8 0) 0 59 else if sgP S = 120 then rsC (ac0 S) 59 else S
def op1 (S : Nat → Int → Int) : Nat → Int → Int := if sgP S = 40 then S else up2 S 8 0 (S 8 0 + 1)
abbrev opP (S : Nat → Int → Int) : Prop := sgP (op1 S) = 40 ∧ S 7 0 < 3
def opC (S : Nat → Int → Int) : Nat → Int → Int :=
  if sgP (op1 S) = 40 ∧ S 7 0 < 3 then up2 (up2 (up2 (up2 (op1 S) 5 (S 7 0) (if sgP S = 40 then 1 else sgP S - 48)) 6 (S 7 0) (S 4 0)) 7 0 (S 7 0 + 1)) 8 0 (op1 S 8 0 + 1) else op1 S
def inF : Nat → (Nat → Int → Int) → Int → (Nat → Int → Int)
  | 0, S, _ => S
  | n + 1, S, st => inF n (asC S (S 3 st)) (st + 1)
def rpC (n : Int) (start : Int) (U : Nat → Int → Int) : Nat → Int → Int := inF (n - start).toNat U start
def clC (S : Nat → Int → Int) : Nat → Int → Int :=
  if S 7 0 = 0 then S else up2 (itZ (rpC (S 4 0) (S 6 (S 7 0 - 1))) (S 5 (S 7 0 - 1) - 1) (up2 S 7 0 (S 7 0 - 1))) 8 0 (S 8 0 + 1)
abbrev pieP (S : Nat → Int → Int) : Prop := if sgP S = 40 ∨ (50 ≤ sgP S ∧ sgP S ≤ 57) then opP S else if sgP S = 41 then S 7 0 ≠ 0 else acP S
def pieC (S : Nat → Int → Int) : Nat → Int → Int := if sgP S = 40 ∨ (50 ≤ sgP S ∧ sgP S ≤ 57) then opC S else if sgP S = 41 then clC S else acC S
def unF : Nat → (Nat → Int → Int) → (Nat → Int → Int) × Bool
  | 0, S => (S, decide (S 7 0 = 0))
  | n + 1, S => if S 8 0 < S 1 0 then (if pieP S then unF n (pieC S) else (pieC S, false)) else (S, decide (S 7 0 = 0))
def un0 (S : Nat → Int → Int) : Nat → Int → Int := up2 (up2 (up2 S 8 0 0) 4 0 0) 7 0 0
/-! what stays -/
theorem asC_o (S : Nat → Int → Int) (le : Int) {i : Nat} (h3 : i ≠ 3) (h4 : i ≠ 4) : asC S le i = S i := by
  unfold asC
  split
  · rw [up2_nr h4, up2_nr h3]
  · rfl
theorem asC_4 (S : Nat → Int → Int) (le : Int) (h : 0 ≤ S 4 0 ∧ S 4 0 ≤ 101) : 0 ≤ asC S le 4 0 ∧ asC S le 4 0 ≤ 101 := by
  unfold asC
  split
  · rw [up2_eq]; omega
  · exact h
theorem CX_as {S : Nat → Int → Int} (h : CX S) (le : Int) : CX (asC S le) := by
  unfold CX
  rw [asC_o S le (i := 0) (by decide) (by decide), asC_o S le (i := 1) (by decide) (by decide), asC_o S le (i := 8) (by decide) (by decide), asC_o S le (i := 7) (by decide) (by decide), asC_o S le (i := 6) (by decide) (by decide), asC_o S le (i := 5) (by decide) (by decide)]
  exact ⟨h.1, h.2.1, h.2.2.1, asC_4 S le h.2.2.2.1, h.2.2.2.2⟩
theorem CX_adv {S : Nat → Int → Int} (h : CX S) (h2 : S 8 0 < S 1 0) : CX (up2 S 8 0 (S 8 0 + 1)) := by
  refine ⟨h.1, h.2.1, ?_, h.2.2.2⟩
  rw [up2_eq]
  have := h.2.2.1
  show 0 ≤ S 8 0 + 1 ∧ S 8 0 + 1 ≤ S 1 0
  omega
theorem CX_rs {S : Nat → Int → Int} (h : CX S) {ch : Int} (hc : ch ≠ 0) : CX (rsC S ch) := by
  unfold rsC
  split
  · exact CX_adv h (sgP_in (by omega))
  · exact h
theorem CX_rn1 {S : Nat → Int → Int} (h : CX S) (le ix : Int) : CX (rn1 S le ix) := by
  refine ⟨h.1, h.2.1, ?_, h.2.2.2⟩
  show 0 ≤ S 8 0 + nmLen (S 0) (S 1 0) (S 8 0) ∧ S 8 0 + nmLen (S 0) (S 1 0) (S 8 0) ≤ S 1 0
  have a := nmLen_rng (S 0) (S 1 0) (S 8 0)
  have b := h.2.2.1
  refine ⟨by omega, ?_⟩
  by_cases q : isDg (sgF (S 0) (S 1 0) (S 8 0))
  · exact (a.2 q).2
  · have : nmLen (S 0) (S 1 0) (S 8 0) = 0 := if_pos q
    omega
theorem CX_rn {S : Nat → Int → Int} (h : CX S) (le ix : Int) {ch : Int} (hc : ch ≠ 0) : CX (rnC S le ix ch) := by
  unfold rnC
  split
  · exact CX_rs (CX_rn1 h le ix) hc
  · exact CX_rn1 h le ix
theorem CX_ac0 {S : Nat → Int → Int} (h : CX S) (h2 : S 8 0 < S 1 0) : CX (ac0 S) := CX_as (CX_adv h h2) _
theorem CX_ac {S : Nat → Int → Int} (h : CX S) : CX (acC S) := by
  unfold acC
  have := @sgP_in S
  (repeat' split) <;> first | exact h | (repeat (first | exact CX_ac0 h (sgP_in (by omega)) | (refine CX_rn ?_ _ _ (by decide)) | (refine CX_rs ?_ (by decide))))
theorem CX_in : ∀ (n : Nat) {S : Nat → Int → Int} (st : Int), CX S → CX (inF n S st)
  | 0, _, _, h => h
  | n + 1, _, _, h => CX_in n _ (CX_as h _)
theorem in_o : ∀ (n : Nat) (S : Nat → Int → Int) (st : Int) {i : Nat}, i ≠ 3 → i ≠ 4 → inF n S st i = S i
  | 0, _, _, _, _, _ => rfl
  | n + 1, S, st, i, h3, h4 => by rw [inF, in_o n _ _ h3 h4, asC_o S _ h3 h4]
theorem CX_itN (n start : Int) {S : Nat → Int → Int} (h : CX S) : ∀ k : Nat, CX (itN (rpC n start) k S)
  | 0 => h
  | k + 1 => CX_in _ _ (CX_itN n start h k)
theorem it_oN (n start : Int) (S : Nat → Int → Int) {i : Nat} (h3 : i ≠ 3) (h4 : i ≠ 4) : ∀ k : Nat, itN (rpC n start) k S i = S i
  | 0 => rfl
  | k + 1 => by
    show inF _ (itN (rpC n start) k S) _ i = S i
    rw [in_o _ _ _ h3 h4, it_oN n start S h3 h4 k]
theorem it_o (n start : Int) (S : Nat → Int → Int) {i : Nat} (h3 : i ≠ 3) (h4 : i ≠ 4) (k : Int) : itZ (rpC n start) k S i = S i := it_oN n start S h3 h4 k.toNat
theorem CX_it (n start : Int) {S : Nat → Int → Int} (h : CX S) (k : Int) : CX (itZ (rpC n start) k S) := CX_itN n start h k.toNat
theorem CX_op1 {S : Nat → Int → Int} (h : CX S) (h2 : S 8 0 < S 1 0) : CX (op1 S) := by
  unfold op1
  split
  · exact h
  · exact CX_adv h h2
theorem op1_o (S : Nat → Int → Int) {i : Nat} (h : i ≠ 8) : op1 S i = S i := by
  unfold op1
  split
  · rfl
  · rw [up2_nr h]
theorem CX_op {S : Nat → Int → Int} (h : CX S) (h2 : S 8 0 < S 1 0) : CX (opC S) := by
  unfold opC
  split
  · rename_i q
    have g := CX_op1 h h2
    have p := sgP_in (S := op1 S) (by omega)
    have r := sgP_rng h
    rw [op1_o S (i := 1) (by decide)] at p
    refine ⟨?_, ?_, ?_, ?_, ?_, fun j => ?_, fun j => ?_⟩
    · show ∀ j : Int, 0 ≤ op1 S 0 j ∧ op1 S 0 j ≤ 255
      exact g.1
    · show 0 ≤ op1 S 1 0 ∧ op1 S 1 0 ≤ 80
      exact g.2.1
    · rw [up2_eq]
      show 0 ≤ op1 S 8 0 + 1 ∧ op1 S 8 0 + 1 ≤ op1 S 1 0
      have := g.2.2.1
      rw [op1_o S (i := 1) (by decide)]
      omega
    · show 0 ≤ op1 S 4 0 ∧ op1 S 4 0 ≤ 101
      exact g.2.2.2.1
    · show 0 ≤ S 7 0 + 1 ∧ S 7 0 + 1 ≤ 3
      have := h.2.2.2.2.1
      omega
    · show 0 ≤ (if j = S 7 0 then S 4 0 else op1 S 6 j) ∧ (if j = S 7 0 then S 4 0 else op1 S 6 j) ≤ 101
      split
      · exact h.2.2.2.1
      · exact g.2.2.2.2.2.1 j
    · show -1000 ≤ (if j = S 7 0 then (if sgP S = 40 then 1 else sgP S - 48) else op1 S 5 j) ∧ (if j = S 7 0 then (if sgP S = 40 then 1 else sgP S - 48) else op1 S 5 j) ≤ 1000
      split
      · split <;> omega
      · exact g.2.2.2.2.2.2 j
  · exact CX_op1 h h2
theorem CX_cl {S : Nat → Int → Int} (h : CX S) (h2 : S 8 0 < S 1 0) : CX (clC S) := by
  unfold clC
  split
  · exact h
  · rename_i q
    have g : CX (up2 S 7 0 (S 7 0 - 1)) := by
      refine ⟨h.1, h.2.1, h.2.2.1, h.2.2.2.1, ?_, h.2.2.2.2.2⟩
      rw [up2_eq]
      have := h.2.2.2.2.1
      omega
    have k := CX_it (S 4 0) (S 6 (S 7 0 - 1)) g (S 5 (S 7 0 - 1) - 1)
    have e8 := it_o (S 4 0) (S 6 (S 7 0 - 1)) (up2 S 7 0 (S 7 0 - 1)) (i := 8) (by decide) (by decide) (S 5 (S 7 0 - 1) - 1)
    have e1 := it_o (S 4 0) (S 6 (S 7 0 - 1)) (up2 S 7 0 (S 7 0 - 1)) (i := 1) (by decide) (by decide) (S 5 (S 7 0 - 1) - 1)
    refine ⟨k.1, k.2.1, ?_, k.2.2.2⟩
    rw [up2_eq, up2_nr (by decide), e1]
    show 0 ≤ S 8 0 + 1 ∧ S 8 0 + 1 ≤ S 1 0
    have := h.2.2.1
    omega
theorem CX_pie {S : Nat → Int → Int} (h : CX S) (h2 : S 8 0 < S 1 0) : CX (pieC S) := by
  unfold pieC
  (repeat' split)
  · exact CX_op h h2
  · exact CX_cl h h2
  · exact CX_ac h
