/-! both read the text alike, and the class's letters are those of the reference's way -/
theorem aB_le (T : Int → Int) (n p : Int) : p + 1 ≤ aB0 T n p ∧ aB0 T n p + 1 ≤ aB1 T n p ∧ aB1 T n p + 1 ≤ aB2 T n p := by
  have a := (nmLen_rng T n (p + 1)).1
  have b := (nmLen_rng T n (aB0 T n p + 1)).1
  have c := (nmLen_rng T n (aB1 T n p + 1)).1
  have e0 : aB0 T n p = p + 1 + nmLen T n (p + 1) := rfl
  have e1 : aB1 T n p = aB0 T n p + 1 + nmLen T n (aB0 T n p + 1) := rfl
  have e2 : aB2 T n p = aB1 T n p + 1 + nmLen T n (aB1 T n p + 1) := rfl
  omega
theorem aPl_gt (T : Int → Int) (n p : Int) : p < aPl T n p := by
  have a := aB_le T n p
  unfold aPl
  (repeat' split) <;> omega
theorem nm_10r {S : Nat → Int → Int} (h : ∀ j : Int, 0 ≤ S 10 j ∧ S 10 j ≤ 999) (k : Int) : ∀ j : Int, 0 ≤ nmM S k 10 j ∧ nmM S k 10 j ≤ 999 := fun j => by
  by_cases q : j = k
  · by_cases c : isDg (sgM S)
    · rw [q, nm_10 S k c]
      exact nmVal_all _ _ _
    · unfold nmM
      rw [if_neg c]
      exact h j
  · rw [nm_10n S q]
    exact h j
theorem ps_10r {S : Nat → Int → Int} (h : ∀ j : Int, 0 ≤ S 10 j ∧ S 10 j ≤ 999) (c : Int) : ∀ j : Int, 0 ≤ psM S c 10 j ∧ psM S c 10 j ≤ 999 := fun j => by
  rw [ps_10]
  exact h j
theorem ra_10r {S : Nat → Int → Int} (h : ∀ j : Int, 0 ≤ S 10 j ∧ S 10 j ≤ 999) (l : Int) : ∀ j : Int, 0 ≤ raM S l 10 j ∧ raM S l 10 j ≤ 999 := by
  unfold raM
  (repeat' split)
  · exact ps_10r h 59
  · exact nm_10r h 0
  · exact ps_10r (nm_10r h 0) 59
  · exact ps_10r (nm_10r h 0) 44
  · exact nm_10r (ps_10r (nm_10r h 0) 44) 1
  · exact ps_10r (nm_10r (ps_10r (nm_10r h 0) 44) 1) 59
  · exact ps_10r (nm_10r (ps_10r (nm_10r h 0) 44) 1) 61
  · exact nm_10r (ps_10r (nm_10r (ps_10r (nm_10r h 0) 44) 1) 61) 2
  · exact ps_10r (nm_10r (ps_10r (nm_10r (ps_10r (nm_10r h 0) 44) 1) 61) 2) 59
def NV (P : Nat → Int → Int) (L : List Int) : Prop := ∀ l : Int, l ∈ L → (0 ≤ l ∧ l < P 8 0) ∧ aNum (P 0) (P 1 0) l (P 2 (3 * l)) (P 2 (3 * l + 1)) (P 2 (3 * l + 2))
def GL (P : Nat → Int → Int) : List (Int × Int × Nat) → Prop
  | [] => True
  | (_, x, len) :: G => P 5 (G.length : Int) = x + 1 ∧ P 6 (G.length : Int) = min (len : Int) 101 ∧ GL P G
theorem GL_congr {P P' : Nat → Int → Int} : ∀ {G : List (Int × Int × Nat)}, (∀ i : Int, 0 ≤ i → i < (G.length : Int) → P' 5 i = P 5 i ∧ P' 6 i = P 6 i) → GL P G → GL P' G
  | [], _, _ => trivial
  | (q, x, len) :: G, h, g => by
    rw [GL] at g ⊢
    rw [List.length_cons] at h
    obtain ⟨t1, t2⟩ := h (G.length : Int) (by omega) (by omega)
    rw [t1, t2]
    exact ⟨g.1, g.2.1, GL_congr (fun i i0 i1 => h i i0 (by omega)) g.2.2⟩
def RI (S P : Nat → Int → Int) (L : List Int) (G : List (Int × Int × Nat)) : Prop := (S 4 = P 0 ∧ S 5 0 = P 1 0 ∧ S 6 0 = P 8 0) ∧ CX P ∧ P 7 0 = (G.length : Int) ∧ LL P L ∧ GL P G ∧ NV P L ∧ InvG (P 0) (P 1 0) (P 8 0) L [] G ∧ (∀ j : Int, 0 ≤ P 2 j ∧ P 2 j ≤ 999) ∧ (∀ j : Int, 0 ≤ S 10 j ∧ S 10 j ≤ 999)
theorem RI_sg {S P : Nat → Int → Int} {L : List Int} {G : List (Int × Int × Nat)} (h : RI S P L G) : sgM S = sgP P := by
  unfold sgM sgP
  rw [h.1.1, h.1.2.1, h.1.2.2]
theorem RI_let {S P : Nat → Int → Int} {L : List Int} {G : List (Int × Int × Nat)} (h : RI S P L G) (hp : P 8 0 < P 1 0) (hl : isLt (sgP P)) (ha : aOK (P 0) (P 1 0) (P 8 0)) : RI (raM (up2 S 6 0 (S 6 0 + 1)) (sgM S)) (acC P) (L ++ [P 8 0]) G := by
  have sg := RI_sg h
  obtain ⟨⟨h4, h5, h6⟩, hX, h7, hL, hG, hN, hI, h2, h10⟩ := h
  have cx := CX_ac hX
  obtain ⟨a1, a2, a3⟩ := ac_all hl
  obtain ⟨r1, r2, r3⟩ := ra_all (S := S) (by rw [sg]; exact hl)
  have o0 : acC P 0 = P 0 := by rw [ac_o P hl (by decide) (by decide), ac0_o P (by decide) (by decide) (by decide)]
  have o1 : acC P 1 = P 1 := by rw [ac_o P hl (by decide) (by decide), ac0_o P (by decide) (by decide) (by decide)]
  have o5 : acC P 5 = P 5 := by rw [ac_o P hl (by decide) (by decide), ac0_o P (by decide) (by decide) (by decide)]
  have o6 : acC P 6 = P 6 := by rw [ac_o P hl (by decide) (by decide), ac0_o P (by decide) (by decide) (by decide)]
  have o7 : acC P 7 = P 7 := by rw [ac_o P hl (by decide) (by decide), ac0_o P (by decide) (by decide) (by decide)]
  have o3 : acC P 3 = ac0 P 3 := ac_o P hl (by decide) (by decide)
  have o4 : acC P 4 = ac0 P 4 := ac_o P hl (by decide) (by decide)
  have gt := aPl_gt (P 0) (P 1 0) (P 8 0)
  have x8 := hX.2.2.1
  have y8 := cx.2.2.1
  rw [a1, o1] at y8
  refine ⟨⟨?_, ?_, ?_⟩, cx, by rw [o7]; exact h7, ?_, ?_, fun l hl2 => ?_, ?_, ac_2r h2, ra_10r (S := up2 S 6 0 (S 6 0 + 1)) h10 _⟩
  · rw [raM_o _ _ (by decide) (by decide), o0]; exact h4
  · rw [raM_o _ _ (by decide) (by decide), o1]; exact h5
  · rw [r1, a1, h4, h5, h6]
  · exact LL_P (LL_as (LL_P (P' := up2 P 8 0 (P 8 0 + 1)) hL rfl rfl) (P 8 0)) o3 o4
  · exact GL_congr (fun i _ _ => ⟨by rw [o5], by rw [o6]⟩) hG
  · rw [o0, o1, a1]
    rcases List.mem_append.mp hl2 with z | z
    · obtain ⟨z1, z2⟩ := hN l z
      refine ⟨by omega, ?_⟩
      rw [ac_2n P _ (by omega), ac_2n P _ (by omega), ac_2n P _ (by omega)]
      exact z2
    · rw [List.mem_singleton] at z
      rw [z]
      exact ⟨by omega, a3 ha⟩
  · rw [o0, o1, a1]
    exact Inv_letter hI ⟨x8.1, hp⟩ hl ha y8
theorem RI_close {S P : Nat → Int → Int} {L : List Int} {q x : Int} {len : Nat} {G : List (Int × Int × Nat)} (h : RI S P L ((q, x, len) :: G)) (hp : P 8 0 < P 1 0) (hc : sgP P = 41) : RI (up2 S 6 0 (S 6 0 + 1)) (clC P) (L ++ rep x.toNat (L.drop len)) G ∧ clC P 7 0 = P 7 0 - 1 ∧ clC P 8 0 = P 8 0 + 1 ∧ clC P 0 = P 0 ∧ clC P 1 = P 1 := by
  obtain ⟨⟨h4, h5, h6⟩, hX, h7, hL, hG, hN, hI, h2, h10⟩ := h
  have cx := CX_cl hX hp
  have x8 := hX.2.2.1
  rw [List.length_cons] at h7
  have h7n : ¬ P 7 0 = 0 := by omega
  rw [GL] at hG
  obtain ⟨g1, g2, g3⟩ := hG
  have hI0 := hI
  rw [InvG] at hI0
  have e7 : P 7 0 - 1 = (G.length : Int) := by omega
  have E : clC P = up2 (itN (rpC (P 4 0) (P 6 (G.length : Int))) x.toNat (up2 P 7 0 (G.length : Int))) 8 0 (P 8 0 + 1) := by
    unfold clC itZ
    rw [if_neg h7n, e7, g1, show x + 1 - 1 = x from by omega]
  have o : ∀ i : Nat, i ≠ 3 → i ≠ 4 → i ≠ 7 → i ≠ 8 → clC P i = P i := fun i i3 i4 i7 i8 => by
    rw [E, up2_nr i8, it_oN _ _ _ i3 i4, up2_nr i7]
  have o7 : clC P 7 0 = (G.length : Int) := by rw [E, up2_nr (by decide), it_oN _ _ _ (by decide) (by decide), up2_eq]
  have o8 : clC P 8 0 = P 8 0 + 1 := by rw [E, up2_eq]
  have o0 := o 0 (by decide) (by decide) (by decide) (by decide)
  have o1 := o 1 (by decide) (by decide) (by decide) (by decide)
  have o2 := o 2 (by decide) (by decide) (by decide) (by decide)
  have o5 := o 5 (by decide) (by decide) (by decide) (by decide)
  have o6 := o 6 (by decide) (by decide) (by decide) (by decide)
  refine ⟨⟨⟨?_, ?_, ?_⟩, cx, o7, ?_, ?_, fun l hl2 => ?_, ?_, by rw [o2]; exact h2, h10⟩, by rw [o7, e7], o8, o0, o1⟩
  · rw [o0]; exact h4
  · rw [o1]; exact h5
  · rw [up2_eq, o8, h6]
  · rw [E]
    exact LL_P (LL_rep (P0 := up2 P 7 0 (G.length : Int)) hL rfl rfl hI0.2.2.1 g2 x.toNat) rfl rfl
  · exact GL_congr (fun i _ _ => ⟨by rw [o5], by rw [o6]⟩) g3
  · rw [o0, o1, o2, o8]
    have hm : l ∈ L := by
      rcases List.mem_append.mp hl2 with z | z
      · exact z
      · exact List.mem_of_mem_drop (rep_mem z)
    obtain ⟨z1, z2⟩ := hN l hm
    exact ⟨by omega, z2⟩
  · rw [o0, o1, o8]
    exact Inv_close hI ⟨x8.1, hp⟩ hc
theorem op1_8 (P : Nat → Int → Int) : op1 P 8 0 = P 8 0 + (if sgP P = 40 then 0 else 1) := by
  unfold op1
  by_cases c : sgP P = 40
  · rw [if_pos c, if_pos c]; omega
  · rw [if_neg c, if_neg c, up2_eq]
theorem RI_open {S P : Nat → Int → Int} {L : List Int} {G : List (Int × Int × Nat)} (h : RI S P L G) (hp : P 8 0 < P 1 0) (hc : sgP P = 40 ∨ (50 ≤ sgP P ∧ sgP P ≤ 57)) (ho : opP P) : RI (up2 (pcQ S) 6 0 (pcQ S 6 0 + 1)) (opC P) L ((opQ (P 0) (P 1 0) (P 8 0), opX (P 0) (P 1 0) (P 8 0), L.length) :: G) ∧ opC P 7 0 = P 7 0 + 1 ∧ P 8 0 < opC P 8 0 ∧ opC P 0 = P 0 ∧ opC P 1 = P 1 := by
  have sg := RI_sg h
  obtain ⟨⟨h4, h5, h6⟩, hX, h7, hL, hG, hN, hI, h2, h10⟩ := h
  have cx := CX_op hX hp
  have x8 := hX.2.2.1
  have l0 : sgF (P 0) (P 1 0) (P 8 0) = sgP P := rfl
  have E : opC P = up2 (up2 (up2 (up2 (op1 P) 5 (P 7 0) (if sgP P = 40 then 1 else sgP P - 48)) 6 (P 7 0) (P 4 0)) 7 0 (P 7 0 + 1)) 8 0 (op1 P 8 0 + 1) := if_pos ho
  have o8 : opC P 8 0 = opQ (P 0) (P 1 0) (P 8 0) := by
    rw [E, up2_eq, op1_8]
    unfold opQ
    rw [l0]
    split <;> omega
  have o7 : opC P 7 0 = P 7 0 + 1 := by rw [E]; rfl
  have o0 : opC P 0 = P 0 := by
    have t : opC P 0 = op1 P 0 := by rw [E]; rfl
    rw [t, op1_o P (by decide)]
  have o1 : opC P 1 = P 1 := by
    have t : opC P 1 = op1 P 1 := by rw [E]; rfl
    rw [t, op1_o P (by decide)]
  have o2 : opC P 2 = P 2 := by
    have t : opC P 2 = op1 P 2 := by rw [E]; rfl
    rw [t, op1_o P (by decide)]
  have o3 : opC P 3 = P 3 := by
    have t : opC P 3 = op1 P 3 := by rw [E]; rfl
    rw [t, op1_o P (by decide)]
  have o4 : opC P 4 = P 4 := by
    have t : opC P 4 = op1 P 4 := by rw [E]; rfl
    rw [t, op1_o P (by decide)]
  have o5 : ∀ j : Int, opC P 5 j = if j = P 7 0 then (if sgP P = 40 then 1 else sgP P - 48) else P 5 j := fun j => by
    have t : opC P 5 j = if j = P 7 0 then (if sgP P = 40 then 1 else sgP P - 48) else op1 P 5 j := by rw [E]; rfl
    rw [t, op1_o P (by decide)]
  have o6 : ∀ j : Int, opC P 6 j = if j = P 7 0 then P 4 0 else P 6 j := fun j => by
    have t : opC P 6 j = if j = P 7 0 then P 4 0 else op1 P 6 j := by rw [E]; rfl
    rw [t, op1_o P (by decide)]
  have qgt : P 8 0 < opQ (P 0) (P 1 0) (P 8 0) := by unfold opQ; split <;> omega
  have y8 := cx.2.2.1
  rw [o8, o1] at y8
  have d7 := ho.2
  have pq : ∀ i : Nat, i ≠ 6 → pcQ S i = S i := fun i hi => by
    unfold pcQ
    split
    · rw [up2_nr hi]
    · rfl
  refine ⟨⟨⟨?_, ?_, ?_⟩, cx, ?_, LL_P hL o3 o4, ?_, fun l hl2 => ?_, ?_, by rw [o2]; exact h2, ?_⟩, o7, by rw [o8]; exact qgt, o0, o1⟩
  · rw [o0, up2_nr (by decide), pq 4 (by decide)]; exact h4
  · rw [o1, up2_nr (by decide), pq 5 (by decide)]; exact h5
  · rw [up2_eq, o8]
    unfold pcQ opQ
    rw [l0, sg]
    by_cases z : 50 ≤ sgP P ∧ sgP P ≤ 57
    · rw [if_pos z, up2_eq, if_neg (by omega)]; omega
    · rw [if_neg z, if_pos (by omega)]; omega
  · rw [o7, h7, List.length_cons]; omega
  · rw [GL, o5, o6, if_pos h7.symm, if_pos h7.symm]
    refine ⟨?_, hL.1, GL_congr (fun i i0 i1 => ?_) hG⟩
    · unfold opX
      rw [l0]
      split <;> omega
    · rw [o5, o6, if_neg (by omega), if_neg (by omega)]
      exact ⟨rfl, rfl⟩
  · rw [o0, o1, o2, o8]
    obtain ⟨z1, z2⟩ := hN l hl2
    exact ⟨by omega, z2⟩
  · rw [o0, o1, o8]
    exact Inv_open hI ⟨x8.1, hp⟩ hc (by omega) y8
  · rw [up2_nr (by decide), pq 10 (by decide)]; exact h10
def RE (S' S : Nat → Int → Int) : Prop := (∀ i : Nat, i ≠ 6 → i ≠ 10 → S' i = S i) ∧ (∀ j : Int, 0 ≤ S' 10 j ∧ S' 10 j ≤ 999)
/-- the letters that are kept are places of the text -/
def LB (P : Nat → Int → Int) : Prop := ∀ k : Int, 0 ≤ k → k < P 4 0 → 0 ≤ P 3 k ∧ P 3 k < 80
theorem LB_P {P P' : Nat → Int → Int} (h : LB P) (h3 : P' 3 = P 3) (h4 : P' 4 = P 4) : LB P' := by
  unfold LB
  rw [h3, h4]
  exact h
theorem LB_LL {P : Nat → Int → Int} {L : List Int} (h : LL P L) (hL : ∀ l : Int, l ∈ L → 0 ≤ l ∧ l < 80) : LB P := fun k k0 k1 => by
  have e := h.2 k.toNat (by omega)
  rw [show ((k.toNat : Nat) : Int) = k from by omega] at e
  have hk : k.toNat < L.length := by have := h.1; omega
  rw [e, List.getD_eq_getElem?_getD, List.getElem?_eq_getElem hk]
  exact hL _ (List.getElem_mem hk)
theorem RI_LB {S P : Nat → Int → Int} {L : List Int} {G : List (Int × Int × Nat)} (h : RI S P L G) : LB P := LB_LL h.2.2.2.1 (fun l hl => by
  have t := (h.2.2.2.2.2.1 l hl).1
  have x8 := h.2.1.2.2.1
  have x1 := h.2.1.2.1
  omega)
def PE (P' P : Nat → Int → Int) : Prop := P' 0 = P 0 ∧ P' 1 = P 1 ∧ (∀ j : Int, 0 ≤ P' 2 j ∧ P' 2 j ≤ 999) ∧ CX P' ∧ LB P'
theorem RE_tr {A B C : Nat → Int → Int} (h : RE A B) (g : RE B C) : RE A C := ⟨fun i i6 i10 => by rw [h.1 i i6 i10, g.1 i i6 i10], h.2⟩
theorem PE_tr {A B C : Nat → Int → Int} (h : PE A B) (h0 : B 0 = C 0) (h1 : B 1 = C 1) : PE A C := ⟨by rw [h.1, h0], by rw [h.2.1, h1], h.2.2⟩
def ReadL (T : Int → Int) (n : Int) (P : Nat → Int → Int) : Prop := ∃ L, LL P L ∧ NV P L ∧ ∃ g, Go T n g 0 [] L n []
theorem pcQ_RE {S : Nat → Int → Int} (h10 : ∀ j : Int, 0 ≤ S 10 j ∧ S 10 j ≤ 999) : RE (pcQ S) S := by
  unfold pcQ
  split
  · exact ⟨fun i i6 _ => up2_nr i6, h10⟩
  · exact ⟨fun _ _ _ => rfl, h10⟩
theorem unf_end {P : Nat → Int → Int} (k : Nat) (h : ¬ P 8 0 < P 1 0) : unF k P = (P, decide (P 7 0 = 0)) := by
  cases k with
  | zero => rfl
  | succ k => rw [unF, if_neg h]
theorem unf_yes {P : Nat → Int → Int} (k : Nat) (h : P 8 0 < P 1 0) (hp : pieP P) : unF (k + 1) P = unF k (pieC P) := by rw [unF, if_pos h, if_pos hp]
theorem unf_no {P : Nat → Int → Int} (k : Nat) (h : P 8 0 < P 1 0) (hp : ¬ pieP P) : unF (k + 1) P = (pieC P, false) := by rw [unF, if_pos h, if_neg hp]
theorem rd_un : ∀ (m : Nat) {S P : Nat → Int → Int} {L : List Int} {G : List (Int × Int × Nat)}, RI S P L G → (P 1 0 - P 8 0).toNat ≤ m → ∀ f k : Nat, m ≤ f → m ≤ k → (rdF f S (P 7 0)).2 = (unF k P).2 ∧ (rdF f S (P 7 0)).1 6 0 = (unF k P).1 8 0 ∧ RE (rdF f S (P 7 0)).1 S ∧ PE (unF k P).1 P ∧ ((unF k P).2 = true → ReadL (P 0) (P 1 0) (unF k P).1) := by
  intro m
  induction m with
  | zero =>
    intro S P L G h hm f k _ _
    have x8 := h.2.1.2.2.1
    rw [rd_end f (P 7 0) (show ¬ S 6 0 < S 5 0 by rw [h.1.2.1, h.1.2.2]; omega), unf_end k (by omega)]
    refine ⟨rfl, h.1.2.2, ⟨fun _ _ _ => rfl, h.2.2.2.2.2.2.2.2⟩, ⟨rfl, rfl, h.2.2.2.2.2.2.2.1, h.2.1, RI_LB h⟩, fun z => ?_⟩
    have z1 : P 7 0 = 0 := of_decide_eq_true z
    have h7 := h.2.2.1
    have hI := h.2.2.2.2.2.2.1
    have eG : G = [] := List.length_eq_zero_iff.mp (by omega)
    rw [eG, InvG] at hI
    obtain ⟨g, hg⟩ := hI [] rfl
    rw [show P 8 0 = P 1 0 from by omega] at hg
    exact ⟨L, h.2.2.2.1, h.2.2.2.2.2.1, g, hg⟩
  | succ m ih =>
    intro S P L G h hm f k hf hk
    have x8 := h.2.1.2.2.1
    by_cases hp : P 8 0 < P 1 0
    · obtain ⟨f, rfl⟩ : ∃ f', f = f' + 1 := ⟨f - 1, by omega⟩
      obtain ⟨k, rfl⟩ : ∃ k', k = k' + 1 := ⟨k - 1, by omega⟩
      have sg := RI_sg h
      have hp' : S 6 0 < S 5 0 := by rw [h.1.2.1, h.1.2.2]; exact hp
      have h10 := h.2.2.2.2.2.2.2.2
      have h2 := h.2.2.2.2.2.2.2.1
      have d3 := h.2.1.2.2.2.2.1
      have lb := RI_LB h
      by_cases hl : isLt (sgP P)
      · have e1 : pieC P = acC P := by unfold pieC; rw [if_neg (by omega), if_neg (by omega)]
        have e2 : pieP P ↔ aOK (P 0) (P 1 0) (P 8 0) := by unfold pieP; rw [if_neg (by omega), if_neg (by omega)]; exact (ac_all hl).2.1
        have hlS : isLt (sgM S) := by rw [sg]; exact hl
        have r := (ra_all hlS).2.1
        rw [h.1.1, h.1.2.1, h.1.2.2] at r
        have rr : ∀ l : Int, RE (raM (up2 S 6 0 (P 8 0 + 1)) l) S := fun l => ⟨fun i i6 i10 => by rw [raM_o _ _ i6 i10, up2_nr i6], ra_10r (S := up2 S 6 0 (P 8 0 + 1)) h10 _⟩
        have o0 : acC P 0 = P 0 := by rw [ac_o P hl (by decide) (by decide), ac0_o P (by decide) (by decide) (by decide)]
        have o1 : acC P 1 = P 1 := by rw [ac_o P hl (by decide) (by decide), ac0_o P (by decide) (by decide) (by decide)]
        have o7 : acC P 7 = P 7 := by rw [ac_o P hl (by decide) (by decide), ac0_o P (by decide) (by decide) (by decide)]
        have a8 := (ac_all hl).1
        have gt := aPl_gt (P 0) (P 1 0) (P 8 0)
        have x1 := h.2.1.2.1
        have lbA : LB (acC P) := LB_LL (L := L ++ [P 8 0]) (LL_P (LL_as (LL_P (P' := up2 P 8 0 (P 8 0 + 1)) h.2.2.2.1 rfl rfl) (P 8 0)) (ac_o P hl (by decide) (by decide)) (ac_o P hl (by decide) (by decide))) (fun l hl2 => by
          rcases List.mem_append.mp hl2 with z | z
          · have t := (h.2.2.2.2.2.1 l z).1
            omega
          · rw [List.mem_singleton] at z
            omega)
        by_cases ha : aOK (P 0) (P 1 0) (P 8 0)
        · have t := ih (RI_let h hp hl ha) (by rw [o1, a8]; omega) f k (by omega) (by omega)
          rw [rd_let f (P 7 0) hp' hlS (by rw [h.1.2.2]; exact r.mpr ha), unf_yes k hp (e2.mpr ha), e1]
          rw [o7, o0, o1] at t
          rw [h.1.2.2] at t ⊢
          exact ⟨t.1, t.2.1, RE_tr t.2.2.1 (rr _), PE_tr t.2.2.2.1 o0 o1, t.2.2.2.2⟩
        · rw [rd_letF f (P 7 0) hp' hlS (by rw [h.1.2.2]; exact fun z => ha (r.mp z)), unf_no k hp (fun z => ha (e2.mp z)), e1]
          refine ⟨rfl, ?_, by rw [h.1.2.2]; exact rr _, ⟨o0, o1, ac_2r h2, CX_ac h.2.1, lbA⟩, fun z => by cases z⟩
          show raM (up2 S 6 0 (S 6 0 + 1)) (sgM S) 6 0 = acC P 8 0
          rw [(ra_all hlS).1, a8, h.1.1, h.1.2.1, h.1.2.2]
      · have hlS : ¬ isLt (sgM S) := by rw [sg]; exact hl
        by_cases hc : sgP P = 41
        · have e1 : pieC P = clC P := by unfold pieC; rw [if_neg (by omega), if_pos hc]
          have e2 : pieP P ↔ P 7 0 ≠ 0 := by unfold pieP; rw [if_neg (by omega), if_pos hc]
          cases G with
          | nil =>
            have h7 : P 7 0 = 0 := h.2.2.1
            have q0 : pcQ S = S := pcQ_0 (by rw [sg]; omega)
            rw [rd_opF f (P 7 0) hp' hlS (by omega) (by rw [q0, sg]; omega), unf_no k hp (fun z => (e2.mp z) h7), e1, q0, show clC P = P from if_pos h7]
            exact ⟨rfl, h.1.2.2, ⟨fun _ _ _ => rfl, h10⟩, ⟨rfl, rfl, h2, h.2.1, lb⟩, fun z => by cases z⟩
          | cons g G =>
            obtain ⟨q, x, len⟩ := g
            have h7 : P 7 0 = ((G.length + 1 : Nat) : Int) := h.2.2.1
            obtain ⟨c1, c2, c3, c4, c5⟩ := RI_close h hp hc
            have t := ih c1 (by rw [c5, c3]; omega) f k (by omega) (by omega)
            rw [rd_cl f (P 7 0) hp' hlS (by rw [sg]; omega), unf_yes k hp (e2.mpr (by omega)), e1]
            rw [c2, c4, c5] at t
            exact ⟨t.1, t.2.1, RE_tr t.2.2.1 ⟨fun i i6 _ => up2_nr i6, h10⟩, PE_tr t.2.2.2.1 c4 c5, t.2.2.2.2⟩
        · have hr : ¬ (sgM S = 41 ∧ 0 < P 7 0) := by rw [sg]; omega
          by_cases ho : sgP P = 40 ∨ (50 ≤ sgP P ∧ sgP P ≤ 57)
          · have e1 : pieC P = opC P := by unfold pieC; rw [if_pos ho]
            have e2 : pieP P ↔ opP P := by unfold pieP; rw [if_pos ho]
            have q8 : pcQ S 6 0 = op1 P 8 0 := by
              rw [op1_8]
              unfold pcQ
              rw [sg]
              by_cases z : 50 ≤ sgP P ∧ sgP P ≤ 57
              · rw [if_pos z, up2_eq, if_neg (by omega), h.1.2.2]
              · rw [if_neg z, if_pos (by omega), h.1.2.2]; omega
            have pq : ∀ i : Nat, i ≠ 6 → pcQ S i = S i := fun i hi => by
              unfold pcQ
              split
              · rw [up2_nr hi]
              · rfl
            have sq : sgM (pcQ S) = sgP (op1 P) := by
              unfold sgM sgP
              rw [q8, pq 4 (by decide), pq 5 (by decide), op1_o P (i := 0) (by decide), op1_o P (i := 1) (by decide), h.1.1, h.1.2.1]
            by_cases hP : opP P
            · obtain ⟨c1, c2, c3, c4, c5⟩ := RI_open h hp ho hP
              have t := ih c1 (by rw [c5]; omega) f k (by omega) (by omega)
              rw [rd_op f (P 7 0) hp' hlS hr ⟨by rw [sq]; exact hP.1, by have := hP.2; omega⟩, unf_yes k hp (e2.mpr hP), e1]
              rw [c2, c4, c5] at t
              exact ⟨t.1, t.2.1, RE_tr t.2.2.1 (RE_tr (B := pcQ S) ⟨fun i i6 _ => up2_nr i6, (pcQ_RE h10).2⟩ (pcQ_RE h10)), PE_tr t.2.2.2.1 c4 c5, t.2.2.2.2⟩
            · have hn : ¬ (sgM (pcQ S) = 40 ∧ P 7 0 ≠ 3) := by
                rw [sq]
                intro z
                exact hP ⟨z.1, by omega⟩
              have eo : opC P = op1 P := if_neg hP
              rw [rd_opF f (P 7 0) hp' hlS hr hn, unf_no k hp (fun z => hP (e2.mp z)), e1, eo]
              refine ⟨rfl, q8, pcQ_RE h10, ⟨op1_o P (by decide), op1_o P (by decide), by show ∀ j : Int, 0 ≤ op1 P 2 j ∧ op1 P 2 j ≤ 999; rw [op1_o P (by decide)]; exact h2, CX_op1 h.2.1 hp, LB_P lb (op1_o P (by decide)) (op1_o P (by decide))⟩, fun z => by cases z⟩
          · have e1 : pieC P = P := by
              unfold pieC
              rw [if_neg ho, if_neg hc]
              unfold acC
              rw [if_neg (by omega), if_neg (by omega), if_neg (by omega), if_neg (by omega)]
            have e2 : ¬ pieP P := by
              unfold pieP
              rw [if_neg ho, if_neg hc]
              unfold acP
              rw [if_neg (by omega), if_neg (by omega), if_neg (by omega), if_neg (by omega)]
              exact fun z => z
            have q0 : pcQ S = S := pcQ_0 (by rw [sg]; omega)
            rw [rd_opF f (P 7 0) hp' hlS hr (by rw [q0, sg]; omega), unf_no k hp e2, e1, q0]
            exact ⟨rfl, h.1.2.2, ⟨fun _ _ _ => rfl, h10⟩, ⟨rfl, rfl, h2, h.2.1, lb⟩, fun z => by cases z⟩
    · have t := ih h (by omega) f k (by omega) (by omega)
      exact t
