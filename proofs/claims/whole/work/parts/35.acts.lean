/-! orders that wait and orders that are done -/
def dnC (o : Int → Int) (n : Int) : Int := sumZ (fun k => if o (8 * k + 3) = 1 then 1 else 0) n
theorem fin_cnt {S : Nat → Int → Int} {o side wo : Int} (h0 : 0 ≤ o) (h1 : o < S 7 0) (hst : S 1 (8 * o + 3) = 0) : finS S o side wo 8 0 + dnC (finS S o side wo 1) (S 7 0) = S 8 0 + dnC (S 1) (S 7 0) := by
  have e8 : finS S o side wo 8 0 = S 8 0 - 1 := rfl
  have e1 : finS S o side wo 1 = up1 (up1 (up1 (up1 (S 1) (8 * o + 3) 1) (8 * o + 5) (S 5 0)) (8 * o + 6) side) (8 * o + 7) wo := rfl
  have t := sumZ_upd (f := fun k => if finS S o side wo 1 (8 * k + 3) = 1 then (1 : Int) else 0) (g := fun k => if S 1 (8 * k + 3) = 1 then (1 : Int) else 0) (k := S 7 0) (j0 := o) h0 h1 (fun j _ _ hj => by
    show (if _ then (1 : Int) else 0) = if _ then (1 : Int) else 0
    rw [e1, up1_ne (by omega), up1_ne (by omega), up1_ne (by omega), up1_ne (by omega)])
  have z1 : (if S 1 (8 * o + 3) = 1 then (1 : Int) else 0) = 0 := by
    rw [hst]; rfl
  have z2 : (if finS S o side wo 1 (8 * o + 3) = 1 then (1 : Int) else 0) = 1 := by
    rw [e1, up1_ne (by omega), up1_ne (by omega), up1_ne (by omega), up1_eq]; rfl
  rw [z1, z2] at t
  rw [e8]
  unfold dnC
  omega
theorem hd_cnt {V side : Int} {S : Nat → Int → Int} (g : Good V S) : useHdS S side 8 0 ≤ S 8 0 ∧ useHdS S side 7 0 = S 7 0 ∧ useHdS S side 8 0 + dnC (useHdS S side 1) (S 7 0) = S 8 0 + dnC (S 1) (S 7 0) := by
  have a := g.1
  unfold useHdS useHdB
  split
  · exact ⟨Int.le_refl _, rfl, rfl⟩
  · split
    · exact ⟨Int.le_refl _, rfl, rfl⟩
    · split
      · rename_i q
        rcases firstWF_rng a.2.2.1 1 (S 6 0) (secF S side) with z | ⟨f0, f1, f2, f3, f4, f5⟩
        · exact absurd z q
        · unfold doWrS
          refine ⟨?_, rfl, ?_⟩
          · show S 8 0 - 1 ≤ S 8 0
            omega
          · exact fin_cnt (S := up2 (setLS (setLS (setWS S _ _ _) _ 0) _ 1) 2 side _) f0 f1 f2
      · split
        · rename_i q
          rcases firstWF_rng a.2.2.1 0 (S 6 0) (secF S side) with z | ⟨f0, f1, f2, f3, f4, f5⟩
          · exact absurd z q.1
          · refine ⟨?_, rfl, fin_cnt f0 f1 f2⟩
            show S 8 0 - 1 ≤ S 8 0
            omega
        · exact ⟨Int.le_refl _, rfl, rfl⟩
theorem tick_cnt {V : Int} {S : Nat → Int → Int} (g : Good V S) : doTickS S 8 0 ≤ S 8 0 ∧ doTickS S 7 0 = S 7 0 ∧ doTickS S 8 0 + dnC (doTickS S 1) (S 7 0) = S 8 0 + dnC (S 1) (S 7 0) := by
  have e8 : doTickS S 8 0 = doTickH S 8 0 := rfl
  have e7 : doTickS S 7 0 = doTickH S 7 0 := rfl
  have e1 : doTickS S 1 = doTickH S 1 := rfl
  rw [e8, e7, e1]
  unfold doTickH
  split
  · have g0 := G_forg g
    obtain ⟨a1, a2, a3⟩ := hd_cnt (side := 0) g0
    obtain ⟨b1, b2, b3⟩ := hd_cnt (side := 1) (G_head g0 (side := 0) (by omega))
    have f8 : forgS S 8 0 = S 8 0 := rfl
    have f7 : forgS S 7 0 = S 7 0 := rfl
    have f1 : forgS S 1 = S 1 := rfl
    rw [f8] at a1 a3
    rw [f7] at a2 a3
    rw [f1] at a3
    rw [a2] at b2 b3
    exact ⟨by omega, b2, by omega⟩
  · unfold mvArmS
    split <;> exact ⟨Int.le_refl _, rfl, rfl⟩
theorem ticks_cnt {A : Int → Int} {S : Nat → Int → Int} (h : LG A S) : ∀ n : Nat, itN doTickS n S 8 0 ≤ S 8 0 ∧ itN doTickS n S 7 0 = S 7 0 ∧ itN doTickS n S 8 0 + dnC (itN doTickS n S 1) (S 7 0) = S 8 0 + dnC (S 1) (S 7 0)
  | 0 => ⟨Int.le_refl _, rfl, rfl⟩
  | n + 1 => by
    obtain ⟨i1, i2, i3⟩ := ticks_cnt h n
    obtain ⟨t1, t2, t3⟩ := tick_cnt (LG_ticksN h n).1.2
    rw [itN]
    rw [i2] at t2 t3
    exact ⟨by omega, t2, by omega⟩
/-! the acts: rows, answers -/
def actM (R : Nat → Int → Int) (a : Int) (A' : Int → Int) : Nat → Int → Int := if a < 0 then R else upR (savesM R) 0 A'
def rdA (A : Int → Int) (tr se : Int) : Int → Int := if (0 ≤ tr ∧ tr ≤ 3) ∧ 0 ≤ se ∧ se ≤ 11 then tkA A 0 tr se (-9) else A
def wrA (A : Int → Int) (tr se v : Int) : Int → Int := if ((0 ≤ tr ∧ tr ≤ 3) ∧ 0 ≤ se ∧ se ≤ 11) ∧ 0 ≤ v ∧ v ≤ 999 then tkA A 1 tr se v else A
def psA (A : Int → Int) (ticks : Int) : Int → Int := if (1 ≤ ticks ∧ ticks ≤ 200) ∧ A 0 + ticks ≤ 20000 then itZ passesF ticks A else A
theorem E_takes (R : Nat → Int → Int) (kind tr se v : Int) (h2 : 0 ≤ R 0 2) : takesM R kind tr se v = actM R (takesR (R 0)) (tkA (R 0) kind tr se (if kind = 1 then v else -9)) := by
  unfold takesM actM takesR tkA
  by_cases q : R 0 2 = 60 ∨ 20 ≤ inStF (R 0) 0
  · rw [if_pos q, if_pos q, if_pos (by decide)]
  · rw [if_neg q, if_neg q, if_neg q, if_neg (show ¬ R 0 2 < 0 by omega)]
theorem E_read (R : Nat → Int → Int) (tr se : Int) (h2 : 0 ≤ R 0 2) : readM R tr se = actM R (readR (R 0) tr se) (rdA (R 0) tr se) := by
  unfold readM readR rdA
  by_cases q : (0 ≤ tr ∧ tr ≤ 3) ∧ 0 ≤ se ∧ se ≤ 11
  · rw [if_pos q, if_pos q, if_pos q, E_takes R _ _ _ _ h2, if_neg (by decide)]
  · rw [if_neg q, if_neg q]
    unfold actM
    rw [if_pos (by decide)]
theorem E_write (R : Nat → Int → Int) (tr se v : Int) (h2 : 0 ≤ R 0 2) : writeM R tr se v = actM R (writeR (R 0) tr se v) (wrA (R 0) tr se v) := by
  unfold writeM writeR wrA
  by_cases q : ((0 ≤ tr ∧ tr ≤ 3) ∧ 0 ≤ se ∧ se ≤ 11) ∧ 0 ≤ v ∧ v ≤ 999
  · rw [if_pos q, if_pos q, if_pos q, E_takes R _ _ _ _ h2, if_pos rfl]
  · rw [if_neg q, if_neg q]
    unfold actM
    rw [if_pos (by decide)]
/-- what an act does: the answers are alike, the states stay linked -/
def Act (A : Int → Int) (S : Nat → Int → Int) (a a' : Int) (A' : Int → Int) (S' : Nat → Int → Int) : Prop := a = a' ∧ LG A' S' ∧ S' 5 0 ≤ 20000 ∧ (a' < 0 → S' = S ∧ A' = A) ∧ -3 ≤ a' ∧ a' ≤ 1000
theorem A_tk {A : Int → Int} {S : Nat → Int → Int} (h : LG A S) (ht : S 5 0 ≤ 20000) {kind tr se wo : Int} (h1 : 0 ≤ tr ∧ tr < 4) (h2 : 0 ≤ se ∧ se < 12) (hkd : 0 ≤ kind ∧ kind ≤ 1) (hw : -9 ≤ wo ∧ wo ≤ 999) (hk : kind = 1 → 0 ≤ wo) : Act A S (takesR A) (tkOrdR S) (tkA A kind tr se wo) (tkOrd S kind tr se wo) := by
  obtain ⟨t1, t2⟩ := LG_tk h h1 h2 hkd hw hk
  have a := h.2.1
  have e2 := h.1.1.2.2.1
  have e8 := L_wait h.1 h.2
  refine ⟨t1, t2, ?_, fun z => ?_, ?_⟩
  · unfold tkOrd
    split
    · exact ht
    · exact ht
  · unfold tkOrdR at z
    unfold tkA tkOrd
    rw [← e8, e2]
    by_cases q : 60 ≤ S 7 0 ∨ 20 ≤ S 8 0
    · rw [if_pos (show S 7 0 = 60 ∨ 20 ≤ S 8 0 by omega), if_pos q]
      exact ⟨rfl, rfl⟩
    · rw [if_neg q] at z
      omega
  · unfold tkOrdR
    split <;> omega
theorem A_no {A : Int → Int} {S : Nat → Int → Int} (h : LG A S) (ht : S 5 0 ≤ 20000) {a : Int} (ha : -3 ≤ a ∧ a ≤ 1000) : Act A S a a A S := ⟨rfl, h, ht, fun _ => ⟨rfl, rfl⟩, ha⟩
theorem A_read {A : Int → Int} {S : Nat → Int → Int} (h : LG A S) (ht : S 5 0 ≤ 20000) (tr se : Int) : Act A S (readR A tr se) (tkReadR S tr se) (rdA A tr se) (tkReadS S tr se) := by
  unfold readR tkReadR rdA tkReadS
  by_cases q : (0 ≤ tr ∧ tr ≤ 3) ∧ 0 ≤ se ∧ se ≤ 11
  · rw [if_pos q, if_pos q, if_pos (show 0 ≤ tr ∧ tr < 4 ∧ 0 ≤ se ∧ se < 12 by omega), if_pos (show 0 ≤ tr ∧ tr < 4 ∧ 0 ≤ se ∧ se < 12 by omega)]
    exact A_tk h ht (by omega) (by omega) (by omega) (by omega) (by omega)
  · rw [if_neg q, if_neg q, if_neg (show ¬ (0 ≤ tr ∧ tr < 4 ∧ 0 ≤ se ∧ se < 12) by omega), if_neg (show ¬ (0 ≤ tr ∧ tr < 4 ∧ 0 ≤ se ∧ se < 12) by omega)]
    exact A_no h ht (by omega)
theorem A_write {A : Int → Int} {S : Nat → Int → Int} (h : LG A S) (ht : S 5 0 ≤ 20000) (tr se v : Int) : Act A S (writeR A tr se v) (tkWriteR S tr se v) (wrA A tr se v) (tkWriteS S tr se v) := by
  unfold writeR tkWriteR wrA tkWriteS
  by_cases q : ((0 ≤ tr ∧ tr ≤ 3) ∧ 0 ≤ se ∧ se ≤ 11) ∧ 0 ≤ v ∧ v ≤ 999
  · rw [if_pos q, if_pos q, if_pos (show (0 ≤ tr ∧ tr < 4 ∧ 0 ≤ se ∧ se < 12) ∧ 0 ≤ v ∧ v ≤ 999 by omega), if_pos (show (0 ≤ tr ∧ tr < 4 ∧ 0 ≤ se ∧ se < 12) ∧ 0 ≤ v ∧ v ≤ 999 by omega)]
    exact A_tk h ht (by omega) (by omega) (by omega) (by omega) (by omega)
  · rw [if_neg q, if_neg q, if_neg (show ¬ ((0 ≤ tr ∧ tr < 4 ∧ 0 ≤ se ∧ se < 12) ∧ 0 ≤ v ∧ v ≤ 999) by omega), if_neg (show ¬ ((0 ≤ tr ∧ tr < 4 ∧ 0 ≤ se ∧ se < 12) ∧ 0 ≤ v ∧ v ≤ 999) by omega)]
    exact A_no h ht (by omega)
theorem A_pass {A : Int → Int} {S : Nat → Int → Int} (h : LG A S) (ht : S 5 0 ≤ 20000) (ticks : Int) : Act A S (passR A ticks) (letPassR S ticks) (psA A ticks) (letPassS S ticks) := by
  have a := h.2.1
  have e0 := h.1.1.1
  have e2 := h.1.1.2.2.1
  unfold passR letPassR psA letPassS
  rw [e0]
  by_cases q1 : 1 ≤ ticks ∧ ticks ≤ 200
  · rw [if_pos q1, if_pos q1]
    by_cases q2 : S 5 0 + ticks ≤ 20000
    · rw [if_pos q2, if_pos q2, if_pos ⟨q1, q2⟩, if_pos ⟨q1, q2⟩]
      obtain ⟨t1, t2⟩ := LG_ticks h (k := ticks) (by omega)
      obtain ⟨c1, c2, c3⟩ := ticks_cnt h ticks.toNat
      have E : itN doTickS ticks.toNat S = itZ doTickS ticks S := rfl
      rw [E] at c1 c2 c3
      have d0 := L_inSt h.1 h.2 1
      have d1 := L_inSt t1.1 t1.2 1
      rw [c2] at d1
      have d0' : dnC (S 1) (S 7 0) = inStF A 1 := d0
      have d1' : dnC (itZ doTickS ticks S 1) (S 7 0) = inStF (itZ passesF ticks A) 1 := d1
      have w0 := cnW_rng (o := S 1) (n := S 7 0) a.2.2.1
      have w1 := cnW_rng (o := itZ doTickS ticks S 1) (n := S 7 0) a.2.2.1
      have v0 := h.2.2.2.2.2.1
      have v1 := t1.2.2.2.2.2.1
      rw [c2] at v1
      refine ⟨by omega, t1, by omega, fun z => by omega, by omega, by omega⟩
    · rw [if_neg q2, if_neg q2, if_neg (fun z => q2 z.2), if_neg (fun z => q2 z.2)]
      exact A_no h ht (by omega)
  · rw [if_neg q1, if_neg q1, if_neg (fun z => q1 z.1), if_neg (fun z => q1 z.1)]
    exact A_no h ht (by omega)
theorem A_cut {A : Int → Int} {S : Nat → Int → Int} (h : LG A S) (ht : S 5 0 ≤ 20000) : Act A S (cutsR A) (cutR S) (cutsF A) (cutS S) := by
  have r := cut_R h
  have b : 0 ≤ cutsR A ∧ cutsR A ≤ 1 * 96 := sumZ_rng (by omega) (fun j _ _ => by (try dsimp only); split <;> omega)
  refine ⟨r.symm, LG_cut h, ?_, fun z => by omega, by omega, by omega⟩
  rw [cut_o S (i := 5) (by decide)]
  exact ht
theorem A_sweep {A : Int → Int} {S : Nat → Int → Int} (h : LG A S) (ht : S 5 0 ≤ 20000) : Act A S (if 0 < inStF A 0 ∨ 0 < copF A 3 ∨ 20000 < A 0 + 48 then -2 else sweepsR A) (sweepBR S) (swpA A) (sweepS S) := by
  obtain ⟨s1, s2, s3⟩ := LG_sweep h ht
  have b : 0 ≤ sweepsR A ∧ sweepsR A ≤ 1 * 48 := sumZ_rng (by omega) (fun j _ _ => by unfold swR; (try dsimp only); split <;> omega)
  have e0 := h.1.1.1
  have w := G_work h.1 h.2
  refine ⟨s3, s1, s2, fun z => ?_, ?_⟩
  · rw [← s3] at z
    by_cases q : 0 < inStF A 0 ∨ 0 < copF A 3 ∨ 20000 < A 0 + 48
    · unfold swpA sweepS
      rw [if_pos q, if_pos (show hasWk S ∨ 20000 < S 5 0 + 48 by unfold hasWk; omega)]
      exact ⟨rfl, rfl⟩
    · rw [if_neg q] at z
      omega
  · rw [← s3]
    split <;> omega
theorem E_pass (R : Nat → Int → Int) (ticks : Int) (hb : (1 ≤ ticks ∧ ticks ≤ 200) ∧ R 0 0 + ticks ≤ 20000 → 0 ≤ passR (R 0) ticks) : passM R ticks = actM R (passR (R 0) ticks) (psA (R 0) ticks) := by
  unfold passM psA
  by_cases q : (1 ≤ ticks ∧ ticks ≤ 200) ∧ R 0 0 + ticks ≤ 20000
  · have t := hb q
    unfold actM
    rw [if_pos q, if_pos q, if_neg (by omega)]
  · rw [if_neg q, if_neg q]
    unfold passR actM
    by_cases q1 : 1 ≤ ticks ∧ ticks ≤ 200
    · rw [if_pos q1, if_neg (fun z => q ⟨q1, z⟩), if_pos (by decide)]
    · rw [if_neg q1, if_pos (by decide)]
theorem E_passL {R S : Nat → Int → Int} (h : LG (R 0) S) (ht : S 5 0 ≤ 20000) (ticks : Int) : passM R ticks = actM R (passR (R 0) ticks) (psA (R 0) ticks) := by
  refine E_pass R ticks (fun q => ?_)
  obtain ⟨p1, p2, p3, p4, p5⟩ := A_pass h ht ticks
  have e0 := h.1.1.1
  have q2 : (1 ≤ ticks ∧ ticks ≤ 200) ∧ S 5 0 + ticks ≤ 20000 := by omega
  by_cases z : letPassR S ticks < 0
  · obtain ⟨z1, z2⟩ := p4 z
    have e : letPassS S ticks 5 0 = S 5 0 + ticks := by
      unfold letPassS
      rw [if_pos q2]
      exact (LG_ticks h (k := ticks) (by omega)).2
    rw [z1] at e
    omega
  · omega
theorem E_cut (R : Nat → Int → Int) (hb : 0 ≤ cutsR (R 0)) : cutM R = actM R (cutsR (R 0)) (cutsF (R 0)) := by
  unfold cutM actM
  rw [if_neg (by omega)]
theorem E_sweep (R : Nat → Int → Int) : sweepM R = actM R (sweepR R) (swpA (R 0)) := by
  have b : 0 ≤ sweepsR (R 0) := (sumZ_rng (b := 1) (by omega) (fun j _ _ => by unfold swR; (try dsimp only); split <;> omega)).1
  unfold sweepM sweepR swpA actM
  by_cases q : 0 < inStF (R 0) 0 ∨ 0 < copF (R 0) 3 ∨ 20000 < R 0 0 + 48
  · rw [if_pos q, if_pos q, if_pos (by decide)]
  · rw [if_neg q, if_neg q, if_neg q, if_neg (by omega)]
