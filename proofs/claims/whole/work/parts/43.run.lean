/-! running a program -/
theorem kf_fail {S P : Nat → Int → Int} {k : Int} (hk : 0 ≤ k ∧ k < P 4 0) (h1 : ∀ j : Int, 0 ≤ j → j < k → 0 ≤ peR (rnS S P j) P (lsF P j)) (h2 : peR (rnS S P k) P (lsF P k) < 0) : kfZ S P = k := by
  obtain ⟨r1, r2, r3⟩ := stN_rng (fun q => peR (rnS S P q) P (lsF P q) < 0) (P 4 0).toNat 0
  have e : kfZ S P = stN (fun q => peR (rnS S P q) P (lsF P q) < 0) (P 4 0).toNat 0 := rfl
  rw [← e] at r1 r2 r3
  by_cases z : kfZ S P < k
  · have t := h1 (kfZ S P) r1.1 z
    have u := r2 (by omega)
    omega
  · by_cases z2 : k < kfZ S P
    · exact absurd h2 (r3 k hk.1 z2)
    · omega
theorem kf_none {S P : Nat → Int → Int} (h1 : ∀ j : Int, 0 ≤ j → j < P 4 0 → 0 ≤ peR (rnS S P j) P (lsF P j)) : ¬ kfZ S P < P 4 0 := by
  obtain ⟨r1, r2, r3⟩ := stN_rng (fun q => peR (rnS S P q) P (lsF P q) < 0) (P 4 0).toNat 0
  have e : kfZ S P = stN (fun q => peR (rnS S P q) P (lsF P q) < 0) (P 4 0).toNat 0 := rfl
  rw [← e] at r1 r2 r3
  intro z
  have t := h1 (kfZ S P) r1.1 z
  have u := r2 (by omega)
  omega
theorem pe_all {A : Int → Int} {Sn : Nat → Int → Int} (h : LG A Sn) (ht : Sn 5 0 ≤ 20000) (P : Nat → Int → Int) : ∀ k : Nat, ∃ B, LG B (rnS Sn P (k : Int)) ∧ rnS Sn P (k : Int) 5 0 ≤ 20000
  | 0 => ⟨A, h, ht⟩
  | k + 1 => by
    obtain ⟨B, b1, b2⟩ := pe_all h ht P k
    obtain ⟨a, A', c⟩ := pe_act b1 b2 P (lsF P (k : Int))
    have nx : rnS Sn P ((k + 1 : Nat) : Int) = peS (rnS Sn P (k : Int)) P (lsF P (k : Int)) := by
      unfold rnS
      rw [show ((k + 1 : Nat) : Int) = (k : Int) + 1 from by omega, ixZ_succ _ _ (by omega)]
    rw [nx]
    exact ⟨A', c.2.1, c.2.2.1⟩
theorem PH_all {A : Int → Int} {Sn P : Nat → Int → Int} (h : LG A Sn) (ht : Sn 5 0 ≤ 20000) (hb : LB P) (h2 : ∀ j : Int, 0 ≤ P 2 j ∧ P 2 j ≤ 999) : ∀ k : Int, 0 ≤ k → k < P 4 0 → PH (rnS Sn P k) P (lsF P k) := fun k k0 k1 => by
  obtain ⟨B, b1, b2⟩ := pe_all h ht P k.toNat
  rw [show ((k.toNat : Nat) : Int) = k from by omega] at b1 b2
  obtain ⟨a, A', c⟩ := pe_act b1 b2 P (lsF P k)
  have e : lsF P k = P 3 k := by
    unfold lsF
    rw [if_pos ⟨k0, k1⟩]
  have l := hb k k0 k1
  rw [← e] at l
  have n0 := h2 (3 * lsF P k)
  have n1 := h2 (3 * lsF P k + 1)
  have n2 := h2 (3 * lsF P k + 2)
  have r := c.2.2.2.2
  have w := LG_WF b1 (by omega)
  refine ⟨⟨l, w.1, by omega, by omega, by omega, fun q j j0 j1 => LG_allW b1 (n := P 2 (3 * lsF P k)) (by omega) j j0 (by omega), LG_tearW b1 b2⟩, by omega, by omega⟩
theorem Txt_run {R Sp X : Nat → Int → Int} (x : Txt R Sp) (d : PE (unC Sp) (un0 Sp)) (h4 : X 4 = R 4) (h5 : X 5 = R 5) (h9 : ∀ j : Int, -1000 ≤ X 9 j ∧ X 9 j ≤ 1000) (h10 : ∀ j : Int, 0 ≤ X 10 j ∧ X 10 j ≤ 999) : Txt X (unC Sp) := by
  obtain ⟨x1, x2, x3, x4, x5, x6, x7, x8, x9⟩ := x
  obtain ⟨d0, d1, d2, dX, dL⟩ := d
  have e0 : unC Sp 0 = Sp 0 := d0
  have e1 : unC Sp 1 = Sp 1 := d1
  refine ⟨by rw [h4, e0]; exact x1, by rw [h5, e1]; exact x2, dX.1, dX.2.1, dX.2.2.2.2.2.1, dX.2.2.2.2.2.2, d2, h9, h10⟩
theorem T_run {R Sh Sn Sp : Nat → Int → Int} {U : Nat → Nat → Int → Int} (T : Top R U Sh Sn Sp) : ∃ (f1 f2 : Nat) (S2 S3 : Nat → Int → Int) (r1 r2 : Int), ((rdF (R 5 0).toNat (up2 R 6 0 0) 0).2 = true → GS 0 f1 (up2 (readsAllM R) 6 0 0) 0 0 S2 r1) ∧ (-1000000 ≤ r1 ∧ r1 ≤ 1000000) ∧ ((rdF (R 5 0).toNat (up2 R 6 0 0) 0).2 = true → 0 ≤ r1 → GS 1 f2 (up2 (up2 (putsM S2) 7 0 1) 6 0 0) 0 0 S3 r2) ∧ (-1000000 ≤ r2 ∧ r2 ≤ 1000000) ∧ (0 ≤ S3 2 0 ∧ S3 2 0 ≤ 5) ∧ (-1000 ≤ readsAllM R 6 0 ∧ readsAllM R 6 0 ≤ 1000) ∧ runR R S2 S3 r1 r2 = ruR Sn Sp ∧ Top (runM R S2 S3 r1 r2) (ruU U Sh Sn Sp) (ruH Sh Sn Sp) (ruN Sn Sp) (unC Sp) ∧ CX (un0 Sp) ∧ CX (unC Sp) ∧ (∀ k : Int, 0 ≤ k → k < (unC Sp) 4 0 → PH (rnS Sn (unC Sp) k) (unC Sp) (lsF (unC Sp) k)) := by
  obtain ⟨t1, t2, t3, t4, tx⟩ := id T
  obtain ⟨x1, x2, x3, x4, x5, x6, x7, x8, x9⟩ := id tx
  have h22 := t4.1
  have h23 := t4.2.2.1
  have hX : CX (un0 Sp) := by
    refine ⟨x3, x4, ?_, ?_, ?_, x5, x6⟩
    · show 0 ≤ (0 : Int) ∧ (0 : Int) ≤ Sp 1 0
      omega
    · show 0 ≤ (0 : Int) ∧ (0 : Int) ≤ 101
      omega
    · show 0 ≤ (0 : Int) ∧ (0 : Int) ≤ 3
      omega
  have hRI : RI (up2 R 6 0 0) (un0 Sp) [] [] := by
    refine ⟨⟨x1, x2, by rw [up2_eq]; rfl⟩, hX, rfl, ⟨?_, fun k hk => ?_⟩, trivial, fun l hl => (by cases hl), ?_, x7, x9⟩
    · show (0 : Int) = min (((0 : Nat)) : Int) 101
      decide
    · have hk : (k : Int) < 0 := hk
      omega
    · rw [InvG]
      refine fun K hK => ⟨0, ?_⟩
      rw [Go]
      refine ⟨?_, rfl, rfl, rfl⟩
      show (0 : Int) ≤ 0 ∧ (0 : Int) ≤ Sp 1 0
      omega
  have rd := rd_un (Sp 1 0).toNat hRI (by show (Sp 1 0 - 0).toNat ≤ _; omega) (R 5 0).toNat 80 (by omega) (by omega)
  have e7 : un0 Sp 7 0 = 0 := rfl
  rw [e7] at rd
  obtain ⟨d1, d2, d3, d4, d5⟩ := rd
  have d2 : readsAllM R 6 0 = unC Sp 8 0 := d2
  have d3 : RE (readsAllM R) (up2 R 6 0 0) := d3
  have d4 : PE (unC Sp) (un0 Sp) := d4
  have q0 : readsAllM R 0 = R 0 := d3.1 0 (by decide) (by decide)
  have ri : ∀ i : Nat, i ≠ 6 → i ≠ 10 → readsAllM R i = R i := fun i i6 i10 => by rw [d3.1 i i6 i10, up2_nr i6]
  have hXP := d4.2.2.2.1
  have u0 : unC Sp 0 = Sp 0 := d4.1
  have u1 : unC Sp 1 = Sp 1 := d4.2.1
  have per := PH_all (P := unC Sp) t1 t2 d4.2.2.2.2 d4.2.2.1
  have at6 : -1000 ≤ readsAllM R 6 0 ∧ readsAllM R 6 0 ≤ 1000 := by
    have a := hXP.2.2.1
    have b := hXP.2.1
    omega
  by_cases und : (unF 80 (un0 Sp)).2 = true
  · have d5 : ReadL (Sp 0) (Sp 1 0) (unC Sp) := d5 und
    obtain ⟨L, hL, hN, g, hg⟩ := d5
    have n4 := hL.1
    have hg : Go (unC Sp 0) (unC Sp 1 0) g 0 [] L (unC Sp 1 0) [] := by rw [u0, u1]; exact hg
    have gb : GB (unC Sp 0) (unC Sp 1 0) (up2 (readsAllM R) 6 0 0) 0 := by
      refine ⟨⟨?_, ?_, up2_eq _ _ _ _⟩, hXP.1, hXP.2.1, ?_, d3.2⟩
      · show readsAllM R 4 = _
        rw [ri 4 (by decide) (by decide), u0]; exact x1
      · show readsAllM R 5 0 = _
        rw [ri 5 (by decide) (by decide), u1]; exact x2
      · show ∀ j : Int, -1000 ≤ readsAllM R 9 j ∧ readsAllM R 9 j ≤ 1000
        rw [ri 9 (by decide) (by decide)]; exact x8
    obtain ⟨S2, r1, g1, g2, g3, g4⟩ := goes0 (unC Sp 0) (unC Sp 1 0) g (S := up2 (readsAllM R) 6 0 0) (cnt := 0) hg gb trivial (by decide) (by decide)
    have g1 : GS 0 (g + 1) (up2 (readsAllM R) 6 0 0) 0 0 S2 r1 := g1
    have s20 : S2 0 = R 0 := by rw [g4]; exact q0
    have s2i : ∀ i : Nat, i ≠ 0 → i ≠ 6 → i ≠ 8 → i ≠ 9 → i ≠ 10 → S2 i = R i := fun i i0 i6 i8 i9 i10 => by rw [g3.1 i i0 i6 i8 i9 i10, up2_nr i6, ri i i6 i10]
    rw [Nat.zero_add] at g2
    by_cases l100 : L.length ≤ 100
    · rw [if_pos l100] at g2
      have p4 : unC Sp 4 0 = (L.length : Int) := by omega
      have gb2 : GB (unC Sp 0) (unC Sp 1 0) (up2 (up2 (putsM S2) 7 0 1) 6 0 0) 0 := by
        refine ⟨⟨?_, ?_, up2_eq _ _ _ _⟩, hXP.1, hXP.2.1, g3.2.1, g3.2.2⟩
        · show S2 4 = _
          rw [s2i 4 (by decide) (by decide) (by decide) (by decide) (by decide), u0]; exact x1
        · show S2 5 0 = _
          rw [s2i 5 (by decide) (by decide) (by decide) (by decide) (by decide), u1]; exact x2
      obtain ⟨S3, r2, k1, k2, k3⟩ := goes1 (Sn := Sn) (P := unC Sp) hL hN l100 g (S := up2 (up2 (putsM S2) 7 0 1) 6 0 0) (cnt := 0) hg gb2 trivial (by decide) rfl (Nat.zero_le _) (by
        show LG (S2 0) Sn
        rw [s20]; exact t1) t2 rfl (by
        show 0 ≤ S2 2 0 ∧ S2 2 0 ≤ 5
        rw [s2i 2 (by decide) (by decide) (by decide) (by decide) (by decide)]; omega) (fun j j0 j1 => by
        have j1 : j < 0 := j1
        omega)
      have k1 : GS 1 (g + 1) (up2 (up2 (putsM S2) 7 0 1) 6 0 0) 0 0 S3 r2 := k1
      have s3i : ∀ i : Nat, i = 1 ∨ i = 2 ∨ i = 4 ∨ i = 5 → S3 i = R i := fun i hi => by
        have a := k2.1 i (by omega) (by omega) (by omega) (by omega) (by omega)
        rw [a, up2_nr (by omega), up2_nr (by omega), puts_o S2 (by omega), s2i i (by omega) (by omega) (by omega) (by omega) (by omega)]
      have s33 : ∀ j : Int, 0 ≤ j → j < 965 → S3 3 j = R 0 j := fun j j0 j1 => by
        have a := k2.1 3 (by decide) (by decide) (by decide) (by decide) (by decide)
        rw [a]
        show putsM S2 3 j = R 0 j
        rw [puts_3 S2 j0 j1, s20]
      have s32 : 0 ≤ S3 2 0 ∧ S3 2 0 ≤ 5 := by rw [s3i 2 (by omega)]; omega
      refine ⟨g + 1, g + 1, S2, S3, r1, r2, fun _ => g1, by omega, fun _ _ => k1, ?_, s32, at6, ?_⟩
      · rcases k3 with ⟨k, ka, kb, kc, kd, ke⟩ | ⟨ka, kb, kc⟩ <;> omega
      · have dd : (rdF (R 5 0).toNat (up2 R 6 0 0) 0).2 = true := by rw [d1]; exact und
        have dn : ¬ ¬ (rdF (R 5 0).toNat (up2 R 6 0 0) 0).2 = true := fun z => z dd
        unfold runR runM ruR ruU ruH ruN
        rw [if_neg dn, if_neg dn, if_neg (show ¬ r1 < 0 by omega), if_neg (show ¬ r1 < 0 by omega), if_pos und, if_pos und, if_pos und, if_pos und, if_neg (show ¬ 100 < unC Sp 4 0 by omega), if_neg (show ¬ 100 < unC Sp 4 0 by omega), if_neg (show ¬ 100 < unC Sp 4 0 by omega), if_neg (show ¬ 100 < unC Sp 4 0 by omega)]
        rcases k3 with ⟨k, ka, kb, kc, kd, ke⟩ | ⟨ka, kb, kc, ke⟩
        · have kf := kf_fail (S := Sn) (P := unC Sp) (k := k) (by omega) kb kc
          rw [kf, if_pos (show k < unC Sp 4 0 by omega), if_pos (show k < unC Sp 4 0 by omega), if_pos (show k < unC Sp 4 0 by omega), if_pos (show r2 < 0 by omega)]
          refine ⟨kd, ?_, hX, hXP, per⟩
          have TT : Top R (uset U (kS Sh) Sn) Sh Sn Sp := ⟨t1, t2, t3, Hs_note t4 Sn, tx⟩
          have tb := T_back TT (X := up2 S3 7 0 0) s33 (s3i 1 (by omega)) (s3i 2 (by omega)) (s3i 4 (by omega)) (s3i 5 (by omega)) (up2_eq _ _ _ _) k2.2.1 k2.2.2
          exact ⟨tb.1, tb.2.1, tb.2.2.1, tb.2.2.2.1, Txt_run tx d4 (s3i 4 (by omega)) (s3i 5 (by omega)) k2.2.1 k2.2.2⟩
        · have kf := kf_none (S := Sn) (P := unC Sp) (fun j j0 j1 => ka j j0 (by omega))
          rw [if_neg kf, if_neg kf, if_neg kf, if_neg (show ¬ r2 < 0 by omega), p4]
          rw [p4] at per
          refine ⟨kb, ?_, hX, hXP, per⟩
          have y0 : ∀ j : Int, 0 ≤ j → j < 965 → swK (up2 S3 7 0 0) 965 0 j = R 0 j := fun j j0 j1 => by
            show (if 0 ≤ j ∧ j < 965 then S3 3 j else S3 0 j) = R 0 j
            rw [if_pos ⟨j0, j1⟩, s33 j j0 j1]
          have y3 : ∀ j : Int, 0 ≤ j → j < 965 → swK (up2 S3 7 0 0) 965 3 j = S3 0 j := fun j j0 j1 => by
            show (if 0 ≤ j ∧ j < 965 then S3 0 j else S3 3 j) = S3 0 j
            rw [if_pos ⟨j0, j1⟩]
          have hs : Hs (savesM (swK (up2 S3 7 0 0) 965)) (keepH Sh) (uset U (kS Sh) Sn) := by
            refine Hs_save (Hs_R t4 (s3i 1 (by omega)) (s3i 2 (by omega))) ?_ (LG_congr t1 y0) t2
            show up2 S3 7 0 0 7 0 = 0
            exact up2_eq _ _ _ _
          have so : ∀ i : Nat, i ≠ 1 → i ≠ 2 → savesM (swK (up2 S3 7 0 0) 965) i = swK (up2 S3 7 0 0) 965 i := fun i i1 i2 => saves_o _ i1 i2
          have bo : ∀ i : Nat, i ≠ 0 → backM (savesM (swK (up2 S3 7 0 0) 965)) i = savesM (swK (up2 S3 7 0 0) 965) i := fun i i0 => upR_ne i0
          refine ⟨LG_congr kc (fun j j0 j1 => ?_), ke, ?_, Hs_R hs rfl rfl, Txt_run tx d4 ?_ ?_ ?_ ?_⟩
          · show (if 0 ≤ j ∧ j < 965 then savesM (swK (up2 S3 7 0 0) 965) 3 j else _) = S3 0 j
            rw [if_pos ⟨j0, j1⟩, so 3 (by decide) (by decide), y3 j j0 j1]
          · rw [bo 7 (by decide), so 7 (by decide) (by decide)]
            show up2 S3 7 0 0 7 0 = 0
            exact up2_eq _ _ _ _
          · rw [bo 4 (by decide), so 4 (by decide) (by decide)]
            exact s3i 4 (by omega)
          · rw [bo 5 (by decide), so 5 (by decide) (by decide)]
            exact s3i 5 (by omega)
          · rw [bo 9 (by decide), so 9 (by decide) (by decide)]
            exact k2.2.1
          · rw [bo 10 (by decide), so 10 (by decide) (by decide)]
            exact k2.2.2
    · rw [if_neg l100] at g2
      have p4 : unC Sp 4 0 = 101 := by omega
      have lm : L.getD 100 0 ∈ L := by
        rw [List.getD_eq_getElem?_getD, List.getElem?_eq_getElem (show 100 < L.length by omega)]
        exact List.getElem_mem (show 100 < L.length by omega)
      have nv := (hN _ lm).1
      have v1 := hXP.2.1
      have v8 := hXP.2.2.1
      have lf : lsF (unC Sp) 100 = L.getD 100 0 := by
        unfold lsF
        rw [if_pos (by omega)]
        exact hL.2 100 (by rw [p4]; decide)
      have g2 : r1 = -1000 - L.getD 100 0 := g2
      refine ⟨g + 1, 0, S2, R, r1, 0, fun _ => g1, by omega, fun _ z => by omega, by omega, by omega, at6, ?_⟩
      have dd : (rdF (R 5 0).toNat (up2 R 6 0 0) 0).2 = true := by rw [d1]; exact und
      have dn : ¬ ¬ (rdF (R 5 0).toNat (up2 R 6 0 0) 0).2 = true := fun z => z dd
      unfold runR runM ruR ruU ruH ruN
      rw [if_neg dn, if_neg dn, if_pos (show r1 < 0 by omega), if_pos (show r1 < 0 by omega), if_pos und, if_pos und, if_pos und, if_pos und, if_pos (show 100 < unC Sp 4 0 by omega), if_pos (show 100 < unC Sp 4 0 by omega), if_pos (show 100 < unC Sp 4 0 by omega), if_pos (show 100 < unC Sp 4 0 by omega)]
      refine ⟨by rw [lf]; exact g2, ⟨by rw [s20]; exact t1, t2, ?_, Hs_R t4 (s2i 1 (by decide) (by decide) (by decide) (by decide) (by decide)) (s2i 2 (by decide) (by decide) (by decide) (by decide) (by decide)), Txt_run tx d4 (s2i 4 (by decide) (by decide) (by decide) (by decide) (by decide)) (s2i 5 (by decide) (by decide) (by decide) (by decide) (by decide)) g3.2.1 g3.2.2⟩, hX, hXP, per⟩
      rw [s2i 7 (by decide) (by decide) (by decide) (by decide) (by decide)]
      exact t3
  · have dd : ¬ (rdF (R 5 0).toNat (up2 R 6 0 0) 0).2 = true := by rw [d1]; exact und
    refine ⟨0, 0, R, R, 0, 0, fun z => absurd z dd, by omega, fun z => absurd z dd, by omega, by omega, at6, ?_⟩
    unfold runR runM ruR ruU ruH ruN
    rw [if_pos dd, if_pos dd, if_neg und, if_neg und, if_neg und, if_neg und]
    refine ⟨by rw [d2], ⟨by rw [q0]; exact t1, t2, ?_, Hs_R t4 (ri 1 (by decide) (by decide)) (ri 2 (by decide) (by decide)), Txt_run tx d4 (ri 4 (by decide) (by decide)) (ri 5 (by decide) (by decide)) (by rw [ri 9 (by decide) (by decide)]; exact x8) d3.2⟩, hX, hXP, per⟩
    rw [ri 7 (by decide) (by decide)]
    exact t3
