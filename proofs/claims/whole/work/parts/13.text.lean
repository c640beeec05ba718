/-! the text and its numbers -/
def sgF (T : Int → Int) (n p : Int) : Int := if p < n then T p else 0
abbrev isDg (c : Int) : Prop := 48 ≤ c ∧ c ≤ 57
abbrev isLt (c : Int) : Prop := c = 114 ∨ c = 119 ∨ c = 116 ∨ c = 120
def nmLen (T : Int → Int) (n p : Int) : Int := if ¬ isDg (sgF T n p) then 0 else if sgF T n p = 48 then 1 else if ¬ isDg (sgF T n (p + 1)) then 1 else if ¬ isDg (sgF T n (p + 2)) then 2 else 3
def nmVal (T : Int → Int) (n p : Int) : Int := if nmLen T n p = 0 then 0 else if nmLen T n p = 1 then sgF T n p - 48 else if nmLen T n p = 2 then 10 * sgF T n p + sgF T n (p + 1) - 528 else 100 * sgF T n p + 10 * sgF T n (p + 1) + sgF T n (p + 2) - 5328
theorem sgF_rng {T : Int → Int} (h : ∀ j : Int, 0 ≤ T j ∧ T j ≤ 255) (n p : Int) : 0 ≤ sgF T n p ∧ sgF T n p ≤ 255 := by
  unfold sgF
  have := h p
  split <;> omega
theorem sgF_in {T : Int → Int} {n p : Int} (h : sgF T n p ≠ 0) : p < n := by
  unfold sgF at h
  by_cases q : p < n
  · exact q
  · rw [if_neg q] at h; exact absurd rfl h
theorem nmLen_rng (T : Int → Int) (n p : Int) : (0 ≤ nmLen T n p ∧ nmLen T n p ≤ 3) ∧ (isDg (sgF T n p) → 1 ≤ nmLen T n p ∧ p + nmLen T n p ≤ n) := by
  have a := @sgF_in T n p
  have b := @sgF_in T n (p + 1)
  have c := @sgF_in T n (p + 2)
  unfold nmLen
  (repeat' split) <;> refine ⟨by omega, fun q => ?_⟩ <;> first | omega | (have := a (by omega); first | omega | (have := b (by omega); first | omega | (have := c (by omega); omega)))
theorem nmVal_rng {T : Int → Int} (n p : Int) (h : isDg (sgF T n p)) : 0 ≤ nmVal T n p ∧ nmVal T n p ≤ 999 := by
  unfold nmVal nmLen
  (repeat' split) <;> omega
/-! the reference reads its text -/
def sgM (S : Nat → Int → Int) : Int := sgF (S 4) (S 5 0) (S 6 0)
def TxOK (S : Nat → Int → Int) : Prop := (∀ j : Int, 0 ≤ S 4 j ∧ S 4 j ≤ 255) ∧ (0 ≤ S 5 0 ∧ S 5 0 ≤ 80) ∧ 0 ≤ S 6 0 ∧ S 6 0 ≤ S 5 0
theorem sgM_rng {S : Nat → Int → Int} (h : TxOK S) : 0 ≤ sgM S ∧ sgM S ≤ 255 := sgF_rng h.1 _ _
theorem sgM_in {S : Nat → Int → Int} (h : sgM S ≠ 0) : S 6 0 < S 5 0 := sgF_in h
def nmM (S : Nat → Int → Int) (k : Int) : Nat → Int → Int := if isDg (sgM S) then up2 (up2 S 10 k (nmVal (S 4) (S 5 0) (S 6 0))) 6 0 (S 6 0 + nmLen (S 4) (S 5 0) (S 6 0)) else S
def psM (S : Nat → Int → Int) (c : Int) : Nat → Int → Int := if sgM S = c then up2 S 6 0 (S 6 0 + 1) else S
theorem nmM_at (S : Nat → Int → Int) (k : Int) : nmM S k 6 0 = S 6 0 + nmLen (S 4) (S 5 0) (S 6 0) := by
  unfold nmM
  split
  · exact up2_eq _ _ _ _
  · rename_i h
    have : nmLen (S 4) (S 5 0) (S 6 0) = 0 := if_pos h
    omega
theorem nmM_o (S : Nat → Int → Int) (k : Int) {i : Nat} (h6 : i ≠ 6) (h10 : i ≠ 10) : nmM S k i = S i := by
  unfold nmM
  split
  · rw [up2_nr h6, up2_nr h10]
  · rfl
theorem psM_o (S : Nat → Int → Int) (k : Int) {i : Nat} (h6 : i ≠ 6) : psM S k i = S i := by
  unfold psM
  split
  · rw [up2_nr h6]
  · rfl
theorem psM_at (S : Nat → Int → Int) (c : Int) : psM S c 6 0 = if sgM S = c then S 6 0 + 1 else S 6 0 := by
  unfold psM
  split
  · exact up2_eq _ _ _ _
  · rfl
theorem Tx_nm {S : Nat → Int → Int} (h : TxOK S) (k : Int) : TxOK (nmM S k) := by
  unfold TxOK
  rw [nmM_o S k (i := 4) (by decide) (by decide), nmM_o S k (i := 5) (by decide) (by decide), nmM_at]
  have a := nmLen_rng (S 4) (S 5 0) (S 6 0)
  refine ⟨h.1, h.2.1, by have := h.2.2; omega, ?_⟩
  by_cases q : isDg (sgF (S 4) (S 5 0) (S 6 0))
  · exact (a.2 q).2
  · have : nmLen (S 4) (S 5 0) (S 6 0) = 0 := if_pos q
    have := h.2.2; omega
theorem Tx_ps {S : Nat → Int → Int} (h : TxOK S) {c : Int} (hc : c ≠ 0) : TxOK (psM S c) := by
  unfold TxOK
  rw [psM_o S c (i := 4) (by decide), psM_o S c (i := 5) (by decide), psM_at]
  refine ⟨h.1, h.2.1, ?_⟩
  have := h.2.2
  split
  · have := sgM_in (S := S) (by omega); omega
  · exact this
theorem Tx_adv {S : Nat → Int → Int} (h : TxOK S) (h2 : S 6 0 < S 5 0) : TxOK (up2 S 6 0 (S 6 0 + 1)) := by
  refine ⟨h.1, h.2.1, ?_⟩
  rw [up2_eq]
  have := h.2.2
  show 0 ≤ S 6 0 + 1 ∧ S 6 0 + 1 ≤ S 5 0
  omega
abbrev raP (S : Nat → Int → Int) (l : Int) : Prop :=
  if l = 120 then sgM S = 59 else if ¬ isDg (sgM S) then False else if l = 116 then sgM (nmM S 0) = 59 else if sgM (nmM S 0) ≠ 44 then False else if ¬ isDg (sgM (psM (nmM S 0) 44)) then False
  else if l = 114 then sgM (nmM (psM (nmM S 0) 44) 1) = 59 else if sgM (nmM (psM (nmM S 0) 44) 1) ≠ 61 then False else if ¬ isDg (sgM (psM (nmM (psM (nmM S 0) 44) 1) 61)) then False else sgM (nmM (psM (nmM (psM (nmM S 0) 44) 1) 61) 2) = 59
theorem raP_n1 {S : Nat → Int → Int} {l : Int} (h1 : ¬ l = 120) (h2 : ¬ isDg (sgM S)) : ¬ raP S l := by
  unfold raP; rw [if_neg h1, if_pos h2]; exact fun q => q
theorem raP_n2 {S : Nat → Int → Int} {l : Int} (h1 : ¬ l = 120) (h2 : isDg (sgM S)) (h3 : ¬ l = 116) (h4 : ¬ sgM (nmM S 0) = 44) : ¬ raP S l := by
  unfold raP; rw [if_neg h1, if_neg (fun q => q h2), if_neg h3, if_pos h4]; exact fun q => q
theorem raP_n3 {S : Nat → Int → Int} {l : Int} (h1 : ¬ l = 120) (h2 : isDg (sgM S)) (h3 : ¬ l = 116) (h4 : sgM (nmM S 0) = 44) (h5 : ¬ isDg (sgM (psM (nmM S 0) 44))) : ¬ raP S l := by
  unfold raP; rw [if_neg h1, if_neg (fun q => q h2), if_neg h3, if_neg (fun q => q h4), if_pos h5]; exact fun q => q
theorem raP_n4 {S : Nat → Int → Int} {l : Int} (h1 : ¬ l = 120) (h2 : isDg (sgM S)) (h3 : ¬ l = 116) (h4 : sgM (nmM S 0) = 44) (h5 : isDg (sgM (psM (nmM S 0) 44))) (h6 : ¬ l = 114) (h7 : ¬ sgM (nmM (psM (nmM S 0) 44) 1) = 61) : ¬ raP S l := by
  unfold raP; rw [if_neg h1, if_neg (fun q => q h2), if_neg h3, if_neg (fun q => q h4), if_neg (fun q => q h5), if_neg h6, if_pos h7]; exact fun q => q
theorem raP_n5 {S : Nat → Int → Int} {l : Int} (h1 : ¬ l = 120) (h2 : isDg (sgM S)) (h3 : ¬ l = 116) (h4 : sgM (nmM S 0) = 44) (h5 : isDg (sgM (psM (nmM S 0) 44))) (h6 : ¬ l = 114) (h7 : sgM (nmM (psM (nmM S 0) 44) 1) = 61) (h8 : ¬ isDg (sgM (psM (nmM (psM (nmM S 0) 44) 1) 61))) : ¬ raP S l := by
  unfold raP; rw [if_neg h1, if_neg (fun q => q h2), if_neg h3, if_neg (fun q => q h4), if_neg (fun q => q h5), if_neg h6, if_neg (fun q => q h7), if_pos h8]; exact fun q => q
theorem raP_e {S : Nat → Int → Int} {l : Int} (h1 : ¬ l = 120) (h2 : isDg (sgM S)) (h3 : ¬ l = 116) (h4 : sgM (nmM S 0) = 44) (h5 : isDg (sgM (psM (nmM S 0) 44))) (h6 : ¬ l = 114) (h7 : sgM (nmM (psM (nmM S 0) 44) 1) = 61) (h8 : isDg (sgM (psM (nmM (psM (nmM S 0) 44) 1) 61))) : raP S l ↔ sgM (nmM (psM (nmM (psM (nmM S 0) 44) 1) 61) 2) = 59 := by
  unfold raP; rw [if_neg h1, if_neg (fun q => q h2), if_neg h3, if_neg (fun q => q h4), if_neg (fun q => q h5), if_neg h6, if_neg (fun q => q h7), if_neg (fun q => q h8)]
def raM (S : Nat → Int → Int) (l : Int) : Nat → Int → Int :=
  if l = 120 then psM S 59 else if ¬ isDg (sgM S) then nmM S 0 else if l = 116 then psM (nmM S 0) 59 else if sgM (nmM S 0) ≠ 44 then psM (nmM S 0) 44 else if ¬ isDg (sgM (psM (nmM S 0) 44)) then nmM (psM (nmM S 0) 44) 1
  else if l = 114 then psM (nmM (psM (nmM S 0) 44) 1) 59 else if sgM (nmM (psM (nmM S 0) 44) 1) ≠ 61 then psM (nmM (psM (nmM S 0) 44) 1) 61 else if ¬ isDg (sgM (psM (nmM (psM (nmM S 0) 44) 1) 61)) then nmM (psM (nmM (psM (nmM S 0) 44) 1) 61) 2 else psM (nmM (psM (nmM (psM (nmM S 0) 44) 1) 61) 2) 59
theorem Tx_ra {S : Nat → Int → Int} (h : TxOK S) (l : Int) : TxOK (raM S l) := by
  unfold raM
  (repeat' split) <;> (repeat (first | exact h | apply Tx_nm | (refine Tx_ps ?_ (by decide))))
theorem raM_o (S : Nat → Int → Int) (l : Int) {i : Nat} (h6 : i ≠ 6) (h10 : i ≠ 10) : raM S l i = S i := by
  unfold raM
  (repeat' split) <;> (repeat (first | rfl | rw [psM_o _ _ h6] | rw [nmM_o _ _ h6 h10]))
theorem b01 {P Q : Prop} [Decidable P] [Decidable Q] (h : P ↔ Q) : (if P then (1 : Int) else 0) = if Q then 1 else 0 := by
  by_cases p : P
  · rw [if_pos p, if_pos (h.mp p)]
  · rw [if_neg p, if_neg (fun q => p (h.mpr q))]
def pcD (S : Nat → Int → Int) (d : Int) : Int := if isLt (sgM S) then d else if sgM S = 41 ∧ 0 < d then d - 1 else d + 1
def pcQ (S : Nat → Int → Int) : Nat → Int → Int := if 50 ≤ sgM S ∧ sgM S ≤ 57 then up2 S 6 0 (S 6 0 + 1) else S
abbrev pcP (S : Nat → Int → Int) (d : Int) : Prop := if isLt (sgM S) then raP (up2 S 6 0 (S 6 0 + 1)) (sgM S) else if sgM S = 41 ∧ 0 < d then True else sgM (pcQ S) = 40 ∧ d ≠ 3
def pcM (S : Nat → Int → Int) (d : Int) : Nat → Int → Int := if isLt (sgM S) then raM (up2 S 6 0 (S 6 0 + 1)) (sgM S) else if sgM S = 41 ∧ 0 < d then up2 S 6 0 (S 6 0 + 1) else if sgM (pcQ S) = 40 ∧ d ≠ 3 then up2 (pcQ S) 6 0 (pcQ S 6 0 + 1) else pcQ S
def rdF : Nat → (Nat → Int → Int) → Int → (Nat → Int → Int) × Bool
  | 0, S, d => (S, decide (d = 0))
  | f + 1, S, d => if S 6 0 < S 5 0 then (if pcP S d then rdF f (pcM S d) (pcD S d) else (pcM S d, false)) else (S, decide (d = 0))
