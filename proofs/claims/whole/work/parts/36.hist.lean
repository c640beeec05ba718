/-! the history against the rows that are saved -/
def kS (Sh : Nat → Int → Int) : Nat := ((Sh 1 0 + Sh 2 0) % 6).toNat
def Hs (R Sh : Nat → Int → Int) (U : Nat → Nat → Int → Int) : Prop := R 2 0 = Sh 2 0 ∧ (0 ≤ Sh 1 0 ∧ Sh 1 0 < 6) ∧ (0 ≤ Sh 2 0 ∧ Sh 2 0 ≤ 5) ∧ ∀ i : Int, 0 ≤ i → i < Sh 2 0 → LG (fun j => R 1 (965 * i + j)) (U ((Sh 1 0 + i) % 6).toNat) ∧ U ((Sh 1 0 + i) % 6).toNat 5 0 ≤ 20000
theorem uset_ne {U : Nat → Nat → Int → Int} {k i : Nat} {S : Nat → Int → Int} (h : i ≠ k) : uset U k S i = U i := if_neg h
theorem Hs_R {R R' Sh : Nat → Int → Int} {U : Nat → Nat → Int → Int} (h : Hs R Sh U) (h1 : R' 1 = R 1) (h2 : R' 2 = R 2) : Hs R' Sh U := by
  unfold Hs
  rw [h1, h2]
  exact h
theorem Hs_note {R Sh : Nat → Int → Int} {U : Nat → Nat → Int → Int} (h : Hs R Sh U) (S : Nat → Int → Int) : Hs R Sh (uset U (kS Sh) S) := by
  obtain ⟨h1, h2, h3, h4⟩ := h
  refine ⟨h1, h2, h3, fun i i0 i1 => ?_⟩
  rw [uset_ne (show ((Sh 1 0 + i) % 6).toNat ≠ kS Sh by unfold kS; omega)]
  exact h4 i i0 i1
theorem Hs_save {R Sh S : Nat → Int → Int} {U : Nat → Nat → Int → Int} (h : Hs R Sh U) (h7 : R 7 0 = 0) (g : LG (R 0) S) (ht : S 5 0 ≤ 20000) : Hs (savesM R) (keepH Sh) (uset U (kS Sh) S) := by
  obtain ⟨h1, h2, h3, h4⟩ := h
  unfold savesM keepH
  rw [if_neg (fun z => z h7)]
  by_cases q : R 2 0 = 5
  · rw [if_pos q, if_neg (show ¬ Sh 2 0 < 5 by omega)]
    have e1 : up2 Sh 1 0 ((Sh 1 0 + 1) % 6) 1 0 = (Sh 1 0 + 1) % 6 := up2_eq _ _ _ _
    have e2 : up2 Sh 1 0 ((Sh 1 0 + 1) % 6) 2 0 = Sh 2 0 := rfl
    have r2 : up2 (svK (up2 (shK R 3860) 2 0 (R 2 0 - 1)) (R 2 0 - 1) 965) 2 0 (R 2 0) 2 0 = R 2 0 := up2_eq _ _ _ _
    have r1 : ∀ j : Int, up2 (svK (up2 (shK R 3860) 2 0 (R 2 0 - 1)) (R 2 0 - 1) 965) 2 0 (R 2 0) 1 j = if 965 * (R 2 0 - 1) ≤ j ∧ j < 965 * (R 2 0 - 1) + 965 then R 0 (j - 965 * (R 2 0 - 1)) else (if 0 ≤ j ∧ j < 3860 then R 1 (j + 965) else R 1 j) := fun j => rfl
    refine ⟨by rw [r2, e2]; exact h1, by rw [e1]; omega, by rw [e2]; exact h3, fun i i0 i1 => ?_⟩
    rw [e2] at i1
    rw [e1]
    by_cases qi : i = 4
    · rw [show (((Sh 1 0 + 1) % 6 + i) % 6).toNat = kS Sh from by unfold kS; omega, uset_eq]
      refine ⟨LG_congr g (fun j j0 j1 => ?_), ht⟩
      show up2 (svK (up2 (shK R 3860) 2 0 (R 2 0 - 1)) (R 2 0 - 1) 965) 2 0 (R 2 0) 1 (965 * i + j) = R 0 j
      rw [r1, if_pos (by omega), show 965 * i + j - 965 * (R 2 0 - 1) = j from by omega]
    · rw [show (((Sh 1 0 + 1) % 6 + i) % 6).toNat = ((Sh 1 0 + (i + 1)) % 6).toNat from by omega, uset_ne (show ((Sh 1 0 + (i + 1)) % 6).toNat ≠ kS Sh by unfold kS; omega)]
      obtain ⟨g1, g2⟩ := h4 (i + 1) (by omega) (by omega)
      refine ⟨LG_congr g1 (fun j j0 j1 => ?_), g2⟩
      show up2 (svK (up2 (shK R 3860) 2 0 (R 2 0 - 1)) (R 2 0 - 1) 965) 2 0 (R 2 0) 1 (965 * i + j) = R 1 (965 * (i + 1) + j)
      rw [r1, if_neg (by omega), if_pos (by omega), show 965 * i + j + 965 = 965 * (i + 1) + j from by omega]
  · rw [if_neg q, if_pos (show Sh 2 0 < 5 by omega)]
    have e1 : up2 Sh 2 0 (Sh 2 0 + 1) 1 0 = Sh 1 0 := rfl
    have e2 : up2 Sh 2 0 (Sh 2 0 + 1) 2 0 = Sh 2 0 + 1 := up2_eq _ _ _ _
    have r2 : up2 (svK R (R 2 0) 965) 2 0 (R 2 0 + 1) 2 0 = R 2 0 + 1 := up2_eq _ _ _ _
    have r1 : ∀ j : Int, up2 (svK R (R 2 0) 965) 2 0 (R 2 0 + 1) 1 j = if 965 * R 2 0 ≤ j ∧ j < 965 * R 2 0 + 965 then R 0 (j - 965 * R 2 0) else R 1 j := fun j => rfl
    refine ⟨by rw [r2, e2]; omega, by rw [e1]; omega, by rw [e2]; omega, fun i i0 i1 => ?_⟩
    rw [e2] at i1
    rw [e1]
    by_cases qi : i = Sh 2 0
    · rw [show ((Sh 1 0 + i) % 6).toNat = kS Sh from by unfold kS; rw [qi], uset_eq]
      refine ⟨LG_congr g (fun j j0 j1 => ?_), ht⟩
      show up2 (svK R (R 2 0) 965) 2 0 (R 2 0 + 1) 1 (965 * i + j) = R 0 j
      rw [r1, if_pos (by omega), show 965 * i + j - 965 * R 2 0 = j from by omega]
    · rw [uset_ne (show ((Sh 1 0 + i) % 6).toNat ≠ kS Sh by unfold kS; omega)]
      obtain ⟨g1, g2⟩ := h4 i i0 (by omega)
      refine ⟨LG_congr g1 (fun j j0 j1 => ?_), g2⟩
      show up2 (svK R (R 2 0) 965) 2 0 (R 2 0 + 1) 1 (965 * i + j) = R 1 (965 * i + j)
      rw [r1, if_neg (by omega)]
theorem Hs_undo {R Sh Sn : Nat → Int → Int} {U : Nat → Nat → Int → Int} (h : Hs R Sh U) (hr : ¬ R 2 0 = 0) : Hs (undoM R) (dropH Sh) U ∧ LG (undoM R 0) (unN U Sh Sn) ∧ unN U Sh Sn 5 0 ≤ 20000 := by
  obtain ⟨h1, h2, h3, h4⟩ := h
  have e : dropH Sh = up2 Sh 2 0 (Sh 2 0 - 1) := if_pos (by omega)
  have e1 : dropH Sh 1 0 = Sh 1 0 := by rw [e]; rfl
  have e2 : dropH Sh 2 0 = Sh 2 0 - 1 := by rw [e, up2_eq]
  have u : undoM R = unK (up2 R 2 0 (R 2 0 - 1)) (R 2 0 - 1) 965 := if_neg hr
  have u2 : undoM R 2 0 = R 2 0 - 1 := by
    rw [u]
    show up2 R 2 0 (R 2 0 - 1) 2 0 = R 2 0 - 1
    exact up2_eq _ _ _ _
  have u1 : undoM R 1 = R 1 := by rw [u]; rfl
  have u0 : ∀ j : Int, undoM R 0 j = if 0 ≤ j ∧ j < 965 then R 1 (965 * (R 2 0 - 1) + j) else R 0 j := fun j => by rw [u]; rfl
  have un : unN U Sh Sn = U ((Sh 1 0 + (Sh 2 0 - 1)) % 6).toNat := by
    unfold unN
    rw [if_neg (by omega), e1, e2]
  obtain ⟨g1, g2⟩ := h4 (Sh 2 0 - 1) (by omega) (by omega)
  refine ⟨⟨by rw [u2, e2]; omega, by rw [e1]; exact h2, by rw [e2]; omega, fun i i0 i1 => ?_⟩, ?_, ?_⟩
  · rw [e2] at i1
    rw [e1, u1]
    exact h4 i i0 (by omega)
  · rw [un]
    refine LG_congr g1 (fun j j0 j1 => ?_)
    rw [u0, if_pos ⟨j0, j1⟩, h1]
  · rw [un]
    exact g2
/-! what holds between two calls -/
def Txt (R Sp : Nat → Int → Int) : Prop := R 4 = Sp 0 ∧ R 5 0 = Sp 1 0 ∧ (∀ j : Int, 0 ≤ Sp 0 j ∧ Sp 0 j ≤ 255) ∧ (0 ≤ Sp 1 0 ∧ Sp 1 0 ≤ 80) ∧ (∀ j : Int, 0 ≤ Sp 6 j ∧ Sp 6 j ≤ 101) ∧ (∀ j : Int, -1000 ≤ Sp 5 j ∧ Sp 5 j ≤ 1000) ∧ (∀ j : Int, 0 ≤ Sp 2 j ∧ Sp 2 j ≤ 999) ∧ (∀ j : Int, -1000 ≤ R 9 j ∧ R 9 j ≤ 1000) ∧ (∀ j : Int, 0 ≤ R 10 j ∧ R 10 j ≤ 999)
def Top (R : Nat → Int → Int) (U : Nat → Nat → Int → Int) (Sh Sn Sp : Nat → Int → Int) : Prop := LG (R 0) Sn ∧ Sn 5 0 ≤ 20000 ∧ R 7 0 = 0 ∧ Hs R Sh U ∧ Txt R Sp
theorem Txt_R {R R' Sp : Nat → Int → Int} (h : Txt R Sp) (h4 : R' 4 = R 4) (h5 : R' 5 = R 5) (h9 : R' 9 = R 9) (h10 : R' 10 = R 10) : Txt R' Sp := by
  unfold Txt
  rw [h4, h5, h9, h10]
  exact h
theorem saves_o (R : Nat → Int → Int) {i : Nat} (h1 : i ≠ 1) (h2 : i ≠ 2) : savesM R i = R i := by
  unfold savesM svK shK
  (repeat' split) <;> (repeat (first | rfl | rw [up2_nr h2] | rw [upR_ne h1]))
theorem Top_act {R Sh Sn Sp S' : Nat → Int → Int} {U : Nat → Nat → Int → Int} {a : Int} {A' : Int → Int} (T : Top R U Sh Sn Sp) {a' : Int} (g : Act (R 0) Sn a a' A' S') : Top (actM R a A') (uset U (kS Sh) Sn) (setH Sh a') S' Sp := by
  obtain ⟨t1, t2, t3, t4, t5⟩ := T
  obtain ⟨g1, g2, g3, g4, g5⟩ := g
  subst g1
  unfold actM setH
  by_cases q : a < 0
  · rw [if_pos q, if_pos q]
    obtain ⟨z1, z2⟩ := g4 q
    rw [z1]
    exact ⟨t1, t2, t3, Hs_note t4 Sn, t5⟩
  · rw [if_neg q, if_neg q]
    refine ⟨g2, g3, ?_, Hs_R (Hs_save t4 t3 t1 t2) rfl rfl, Txt_R t5 ?_ ?_ ?_ ?_⟩
    · show savesM R 7 0 = 0
      rw [saves_o R (by decide) (by decide)]; exact t3
    · exact saves_o R (by decide) (by decide)
    · exact saves_o R (by decide) (by decide)
    · exact saves_o R (by decide) (by decide)
    · exact saves_o R (by decide) (by decide)
theorem T_read {R Sh Sn Sp : Nat → Int → Int} {U : Nat → Nat → Int → Int} (T : Top R U Sh Sn Sp) (tr se : Int) : readR (R 0) tr se = tkReadR Sn tr se ∧ Top (readM R tr se) (uset U (kS Sh) Sn) (setH Sh (tkReadR Sn tr se)) (tkReadS Sn tr se) Sp ∧ -3 ≤ tkReadR Sn tr se ∧ tkReadR Sn tr se ≤ 1000 := by
  have g := A_read T.1 T.2.1 tr se
  have a := T.1.2.1
  have e2 := T.1.1.1.2.2.1
  rw [E_read R tr se (by omega)]
  exact ⟨g.1, Top_act T g, g.2.2.2.2⟩
theorem T_write {R Sh Sn Sp : Nat → Int → Int} {U : Nat → Nat → Int → Int} (T : Top R U Sh Sn Sp) (tr se v : Int) : writeR (R 0) tr se v = tkWriteR Sn tr se v ∧ Top (writeM R tr se v) (uset U (kS Sh) Sn) (setH Sh (tkWriteR Sn tr se v)) (tkWriteS Sn tr se v) Sp ∧ -3 ≤ tkWriteR Sn tr se v ∧ tkWriteR Sn tr se v ≤ 1000 := by
  have g := A_write T.1 T.2.1 tr se v
  have a := T.1.2.1
  have e2 := T.1.1.1.2.2.1
  rw [E_write R tr se v (by omega)]
  exact ⟨g.1, Top_act T g, g.2.2.2.2⟩
theorem T_pass {R Sh Sn Sp : Nat → Int → Int} {U : Nat → Nat → Int → Int} (T : Top R U Sh Sn Sp) (ticks : Int) : passR (R 0) ticks = letPassR Sn ticks ∧ Top (passM R ticks) (uset U (kS Sh) Sn) (setH Sh (letPassR Sn ticks)) (letPassS Sn ticks) Sp ∧ -3 ≤ letPassR Sn ticks ∧ letPassR Sn ticks ≤ 1000 := by
  have g := A_pass T.1 T.2.1 ticks
  rw [E_passL T.1 T.2.1 ticks]
  exact ⟨g.1, Top_act T g, g.2.2.2.2⟩
theorem T_cut {R Sh Sn Sp : Nat → Int → Int} {U : Nat → Nat → Int → Int} (T : Top R U Sh Sn Sp) : cutsR (R 0) = cutR Sn ∧ Top (cutM R) (uset U (kS Sh) Sn) (setH Sh (cutR Sn)) (cutS Sn) Sp ∧ -3 ≤ cutR Sn ∧ cutR Sn ≤ 1000 := by
  have g := A_cut T.1 T.2.1
  have b : 0 ≤ cutsR (R 0) := (sumZ_rng (b := 1) (by omega) (fun j _ _ => by (try dsimp only); split <;> omega)).1
  rw [E_cut R b]
  exact ⟨g.1, Top_act T g, g.2.2.2.2⟩
theorem T_sweep {R Sh Sn Sp : Nat → Int → Int} {U : Nat → Nat → Int → Int} (T : Top R U Sh Sn Sp) : sweepR R = sweepBR Sn ∧ Top (sweepM R) (uset U (kS Sh) Sn) (setH Sh (sweepBR Sn)) (sweepS Sn) Sp ∧ -3 ≤ sweepBR Sn ∧ sweepBR Sn ≤ 1000 := by
  have g := A_sweep T.1 T.2.1
  rw [E_sweep R]
  exact ⟨g.1, Top_act T g, g.2.2.2.2⟩
theorem T_undo {R Sh Sn Sp : Nat → Int → Int} {U : Nat → Nat → Int → Int} (T : Top R U Sh Sn Sp) : (if R 2 0 = 0 then -2 else R 2 0 - 1) = unR Sh ∧ Top (undoM R) U (dropH Sh) (unN U Sh Sn) Sp := by
  obtain ⟨t1, t2, t3, t4, t5⟩ := T
  have h1 := t4.1
  refine ⟨by unfold unR; rw [h1], ?_⟩
  by_cases q : R 2 0 = 0
  · have e : undoM R = R := if_pos q
    have e2 : dropH Sh = Sh := if_neg (by omega)
    have e3 : unN U Sh Sn = Sn := if_pos (by omega)
    rw [e, e2, e3]
    exact ⟨t1, t2, t3, t4, t5⟩
  · obtain ⟨u1, u2, u3⟩ := Hs_undo (Sn := Sn) t4 q
    have e : undoM R = unK (up2 R 2 0 (R 2 0 - 1)) (R 2 0 - 1) 965 := if_neg q
    refine ⟨u2, u3, ?_, u1, Txt_R t5 ?_ ?_ ?_ ?_⟩
    · rw [e]; exact t3
    · rw [e]; rfl
    · rw [e]; rfl
    · rw [e]; rfl
    · rw [e]; rfl
theorem T_append {R Sh Sn Sp : Nat → Int → Int} {U : Nat → Nat → Int → Int} (T : Top R U Sh Sn Sp) (ch : Int) : (if 1 ≤ ch ∧ ch ≤ 255 then (if R 5 0 = 80 then -3 else R 5 0 + 1) else -1) = apR Sp ch ∧ Top (apnM R ch) U Sh Sn (apP Sp ch) := by
  obtain ⟨t1, t2, t3, t4, t5⟩ := T
  obtain ⟨x1, x2, x3, x4, x5⟩ := id t5
  unfold apR apP apnM adC
  by_cases q : 1 ≤ ch ∧ ch ≤ 255
  · rw [if_pos q, if_pos q, if_pos q]
    by_cases q2 : R 5 0 = 80
    · rw [if_pos q2, if_pos (show 80 ≤ Sp 1 0 by omega), if_neg (fun z => z.2 q2), if_neg (show ¬ Sp 1 0 < 80 by omega)]
      exact ⟨rfl, t1, t2, t3, t4, t5⟩
    · rw [if_neg q2, if_neg (show ¬ 80 ≤ Sp 1 0 by omega), if_pos (show (1 ≤ ch ∧ ch ≤ 255) ∧ R 5 0 ≠ 80 from ⟨q, q2⟩), if_pos (show Sp 1 0 < 80 by omega), up2_eq]
      refine ⟨by omega, t1, t2, t3, Hs_R t4 rfl rfl, ?_, ?_, fun j => ?_, ?_, x5⟩
      · show up1 (R 4) (R 5 0) ch = up1 (Sp 0) (Sp 1 0) ch
        rw [x1, x2]
      · show R 5 0 + 1 = Sp 1 0 + 1
        rw [x2]
      · show 0 ≤ (if j = Sp 1 0 then ch else Sp 0 j) ∧ (if j = Sp 1 0 then ch else Sp 0 j) ≤ 255
        have := x3 j
        split <;> omega
      · show 0 ≤ Sp 1 0 + 1 ∧ Sp 1 0 + 1 ≤ 80
        omega
  · rw [if_neg q, if_neg q, if_neg q, if_neg (fun z => q z.1)]
    exact ⟨rfl, t1, t2, t3, t4, t5⟩
theorem T_clear {R Sh Sn Sp : Nat → Int → Int} {U : Nat → Nat → Int → Int} (T : Top R U Sh Sn Sp) : R 5 0 = Sp 1 0 ∧ Top (clrM R) U Sh Sn (mkC Sp) := by
  obtain ⟨t1, t2, t3, t4, x1, x2, x3, x4, x5⟩ := T
  refine ⟨x2, t1, t2, t3, Hs_R t4 rfl rfl, x1, rfl, x3, ?_, x5⟩
  show 0 ≤ (0 : Int) ∧ (0 : Int) ≤ 80
  omega
