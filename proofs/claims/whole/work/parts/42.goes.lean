/-! witnesses of the reference's way through its program -/
def FL (S : Nat → Int → Int) : List (Int × Int) → Prop
  | [] => True
  | (q, x) :: K => S 8 (K.length : Int) = q ∧ S 9 (K.length : Int) = x ∧ FL S K
theorem FL_congr {S S' : Nat → Int → Int} : ∀ {K : List (Int × Int)}, (∀ i : Int, 0 ≤ i → i < (K.length : Int) → S' 8 i = S 8 i ∧ S' 9 i = S 9 i) → FL S K → FL S' K
  | [], _, _ => trivial
  | (q, x) :: K, h, g => by
    rw [FL] at g ⊢
    rw [List.length_cons] at h
    obtain ⟨t1, t2⟩ := h (K.length : Int) (by omega) (by omega)
    rw [t1, t2]
    exact ⟨g.1, g.2.1, FL_congr (fun i i0 i1 => h i i0 (by omega)) g.2.2⟩
def GB (T : Int → Int) (n : Int) (S : Nat → Int → Int) (p : Int) : Prop := (S 4 = T ∧ S 5 0 = n ∧ S 6 0 = p) ∧ (∀ j : Int, 0 ≤ T j ∧ T j ≤ 255) ∧ (0 ≤ n ∧ n ≤ 80) ∧ (∀ j : Int, -1000 ≤ S 9 j ∧ S 9 j ≤ 1000) ∧ (∀ j : Int, 0 ≤ S 10 j ∧ S 10 j ≤ 999)
theorem GB_Tx {T : Int → Int} {n p : Int} {S : Nat → Int → Int} (h : GB T n S p) (hp : 0 ≤ p ∧ p ≤ n) : TxOK S := by
  obtain ⟨⟨h4, h5, h6⟩, hT, hn, _, _⟩ := h
  unfold TxOK
  rw [h4, h5, h6]
  exact ⟨hT, hn, hp⟩
theorem GB_sg {T : Int → Int} {n p : Int} {S : Nat → Int → Int} (h : GB T n S p) : sgM S = sgF T n p := by
  unfold sgM
  rw [h.1.1, h.1.2.1, h.1.2.2]
theorem GB_let {T : Int → Int} {n p : Int} {S : Nat → Int → Int} (h : GB T n S p) (hl : isLt (sgF T n p)) : GB T n (raM (up2 S 6 0 (S 6 0 + 1)) (sgM S)) (aPl T n p) := by
  have sg := GB_sg h
  have r := (ra_all (S := S) (by rw [sg]; exact hl)).1
  obtain ⟨⟨h4, h5, h6⟩, hT, hn, h9, h10⟩ := h
  refine ⟨⟨?_, ?_, ?_⟩, hT, hn, ?_, ra_10r (S := up2 S 6 0 (S 6 0 + 1)) h10 _⟩
  · rw [raM_o _ _ (by decide) (by decide)]; exact h4
  · rw [raM_o _ _ (by decide) (by decide)]; exact h5
  · rw [r, h4, h5, h6]
  · rw [raM_o _ _ (by decide) (by decide)]; exact h9
theorem FL_let {S : Nat → Int → Int} {K : List (Int × Int)} (h : FL S K) (l : Int) : FL (raM (up2 S 6 0 (S 6 0 + 1)) l) K :=
  FL_congr (fun i _ _ => by rw [raM_o _ _ (i := 8) (by decide) (by decide), raM_o _ _ (i := 9) (by decide) (by decide)]; exact ⟨rfl, rfl⟩) h
theorem GB_again {T : Int → Int} {n p q x : Int} {S : Nat → Int → Int} {K : List (Int × Int)} (h : GB T n S p) (hF : FL S ((q, x) :: K)) (hx : 0 < x) : GB T n (up2 (up2 S 9 (K.length : Int) (S 9 (K.length : Int) - 1)) 6 0 (S 8 (K.length : Int))) q ∧ FL (up2 (up2 S 9 (K.length : Int) (S 9 (K.length : Int) - 1)) 6 0 (S 8 (K.length : Int))) ((q, x - 1) :: K) := by
  rw [FL] at hF
  obtain ⟨f1, f2, f3⟩ := hF
  obtain ⟨⟨h4, h5, h6⟩, hT, hn, h9, h10⟩ := h
  refine ⟨⟨⟨h4, h5, ?_⟩, hT, hn, fun j => ?_, h10⟩, ?_⟩
  · rw [up2_eq, f1]
  · show -1000 ≤ (if j = (K.length : Int) then S 9 (K.length : Int) - 1 else S 9 j) ∧ (if j = (K.length : Int) then S 9 (K.length : Int) - 1 else S 9 j) ≤ 1000
    have t := h9 (K.length : Int)
    have u := h9 j
    split <;> omega
  · rw [FL]
    refine ⟨f1, ?_, FL_congr (S := S) (fun i i0 i1 => ⟨rfl, ?_⟩) f3⟩
    · show (if (K.length : Int) = (K.length : Int) then S 9 (K.length : Int) - 1 else S 9 (K.length : Int)) = x - 1
      rw [if_pos rfl, f2]
    · show (if i = (K.length : Int) then S 9 (K.length : Int) - 1 else S 9 i) = S 9 i
      rw [if_neg (by omega)]
theorem GB_past {T : Int → Int} {n p q x : Int} {S : Nat → Int → Int} {K : List (Int × Int)} (h : GB T n S p) (hF : FL S ((q, x) :: K)) : GB T n (up2 S 6 0 (S 6 0 + 1)) (p + 1) ∧ FL (up2 S 6 0 (S 6 0 + 1)) K := by
  rw [FL] at hF
  obtain ⟨f1, f2, f3⟩ := hF
  obtain ⟨⟨h4, h5, h6⟩, hT, hn, h9, h10⟩ := h
  exact ⟨⟨⟨h4, h5, by rw [up2_eq, h6]⟩, hT, hn, h9, h10⟩, FL_congr (S := S) (fun i i0 i1 => ⟨rfl, rfl⟩) f3⟩
theorem GB_open {T : Int → Int} {n p : Int} {S : Nat → Int → Int} {K : List (Int × Int)} (h : GB T n S p) (hF : FL S K) (hc : sgF T n p = 40 ∨ (50 ≤ sgF T n p ∧ sgF T n p ≤ 57)) : GB T n (opnM S (K.length : Int)) (opQ T n p) ∧ FL (opnM S (K.length : Int)) ((opQ T n p, opX T n p) :: K) := by
  have sg := GB_sg h
  obtain ⟨⟨h4, h5, h6⟩, hT, hn, h9, h10⟩ := h
  have e6 : opnM S (K.length : Int) 6 0 = opQ T n p := by
    show S 6 0 + (if sgM S = 40 then 1 else 2) = _
    rw [sg, h6]
    rfl
  have e8 : ∀ j : Int, opnM S (K.length : Int) 8 j = if j = (K.length : Int) then opQ T n p else S 8 j := fun j => by
    show (if j = (K.length : Int) then S 6 0 + (if sgM S = 40 then 1 else 2) else S 8 j) = _
    rw [sg, h6]
    rfl
  have e9 : ∀ j : Int, opnM S (K.length : Int) 9 j = if j = (K.length : Int) then opX T n p else S 9 j := fun j => by
    show (if j = (K.length : Int) then (if sgM S = 40 then 0 else sgM S - 49) else S 9 j) = _
    rw [sg]
    rfl
  refine ⟨⟨⟨h4, h5, e6⟩, hT, hn, fun j => ?_, h10⟩, ?_⟩
  · rw [e9]
    have u := h9 j
    unfold opX
    (repeat' split) <;> omega
  · rw [FL, e8, e9, if_pos rfl, if_pos rfl]
    exact ⟨rfl, rfl, FL_congr (fun i i0 i1 => by rw [e8, e9, if_neg (by omega), if_neg (by omega)]; exact ⟨rfl, rfl⟩) hF⟩
theorem op_n41 {c : Int} (h : c = 40 ∨ (50 ≤ c ∧ c ≤ 57)) : ¬ c = 41 ∧ ¬ isLt c := by
  unfold isLt
  omega
def GE (S' S : Nat → Int → Int) : Prop := (∀ i : Nat, i ≠ 0 → i ≠ 6 → i ≠ 8 → i ≠ 9 → i ≠ 10 → S' i = S i) ∧ (∀ j : Int, -1000 ≤ S' 9 j ∧ S' 9 j ≤ 1000) ∧ (∀ j : Int, 0 ≤ S' 10 j ∧ S' 10 j ≤ 999)
theorem GE_tr {A B C : Nat → Int → Int} (h : GE A B) (g : ∀ i : Nat, i ≠ 0 → i ≠ 6 → i ≠ 8 → i ≠ 9 → i ≠ 10 → B i = C i) : GE A C := ⟨fun i a b c d e => by rw [h.1 i a b c d e, g i a b c d e], h.2⟩
theorem ra_ge {S : Nat → Int → Int} (l : Int) : ∀ i : Nat, i ≠ 0 → i ≠ 6 → i ≠ 8 → i ≠ 9 → i ≠ 10 → raM (up2 S 6 0 (S 6 0 + 1)) l i = S i := fun i _ b _ _ e => by rw [raM_o _ _ b e, up2_nr b]
/-- the first way, that only counts -/
theorem goes0 (T : Int → Int) (n : Int) : ∀ (f : Nat) {S : Nat → Int → Int} {p : Int} {K : List (Int × Int)} {ls : List Int} {cnt : Nat}, Go T n f p K ls n [] → GB T n S p → FL S K → K.length ≤ 3 → cnt ≤ 100 → ∃ S' r, GS 0 (f + 1) S (cnt : Int) (K.length : Int) S' r ∧ (r = if cnt + ls.length ≤ 100 then ((cnt + ls.length : Nat) : Int) else -1000 - ls.getD (100 - cnt) 0) ∧ GE S' S ∧ S' 0 = S 0
  | 0, S, p, K, ls, cnt, h, hB, hF, hK, hc => by
    rw [Go] at h
    obtain ⟨h0, e1, e2, e3⟩ := h
    refine ⟨S, (cnt : Int), ?_, ?_, ⟨fun _ _ _ _ _ _ => rfl, hB.2.2.2⟩, rfl⟩
    · rw [GS]
      refine ⟨GB_Tx hB h0, by omega, by omega, hB.2.2.2.1, ?_⟩
      rw [if_neg (show ¬ S 6 0 < S 5 0 by rw [hB.1.2.1, hB.1.2.2]; omega)]
      exact ⟨rfl, rfl⟩
    · rw [e1]
      show (cnt : Int) = if cnt + 0 ≤ 100 then ((cnt + 0 : Nat) : Int) else _
      rw [if_pos (by omega)]
      omega
  | f + 1, S, p, K, ls, cnt, h, hB, hF, hK, hc => by
    rw [Go] at h
    obtain ⟨h0, h⟩ := h
    have sg := GB_sg hB
    have hp : S 6 0 < S 5 0 := by rw [hB.1.2.1, hB.1.2.2]; omega
    have TX := GB_Tx hB (by omega)
    rcases h with ⟨a1, a2, ls1, a3, a4⟩ | ⟨a1, q, x, K1, a2, a3⟩ | ⟨a1, a2, a3⟩
    · by_cases q : cnt = 100
      · refine ⟨raM (up2 S 6 0 (S 6 0 + 1)) (sgM S), -1000 - S 6 0, ?_, ?_, ⟨ra_ge _, ?_, (GB_let hB a1).2.2.2.2⟩, ?_⟩
        · rw [GS]
          refine ⟨TX, by omega, by omega, hB.2.2.2.1, ?_⟩
          rw [if_pos hp, if_pos (by rw [sg]; exact a1), if_pos (by omega)]
          exact ⟨rfl, rfl⟩
        · rw [a3, List.length_cons, if_neg (by omega), q, hB.1.2.2]
          rfl
        · exact (GB_let hB a1).2.2.2.1
        · rw [raM_o _ _ (by decide) (by decide)]; rfl
      · obtain ⟨S', r, t1, t2, t3, t4⟩ := goes0 T n f (cnt := cnt + 1) a4 (GB_let hB a1) (FL_let hF _) hK (by omega)
        refine ⟨S', r, ?_, ?_, GE_tr t3 (ra_ge _), by rw [t4, raM_o _ _ (by decide) (by decide)]; rfl⟩
        · rw [GS]
          refine ⟨TX, by omega, by omega, hB.2.2.2.1, ?_⟩
          rw [if_pos hp, if_pos (by rw [sg]; exact a1), if_neg (by omega), if_neg (by decide)]
          rw [show (cnt : Int) + 1 = ((cnt + 1 : Nat) : Int) from by omega]
          exact t1
        · rw [t2, a3, List.length_cons]
          by_cases z : cnt + 1 + ls1.length ≤ 100
          · rw [if_pos z, if_pos (by omega)]
            omega
          · rw [if_neg z, if_neg (by omega), show 100 - cnt = (100 - (cnt + 1)) + 1 from by omega, List.getD_cons_succ]
    · rw [a2] at hF hK ⊢
      rw [List.length_cons] at hK
      have hF0 := hF
      rw [FL] at hF0
      rcases a3 with ⟨b1, b2⟩ | ⟨b1, b2⟩
      · obtain ⟨g1, g2⟩ := GB_again hB hF b1
        obtain ⟨S', r, t1, t2, t3, t4⟩ := goes0 T n f (cnt := cnt) b2 g1 g2 hK hc
        refine ⟨S', r, ?_, t2, GE_tr t3 (fun i _ i6 _ i9 _ => by rw [up2_nr i6, up2_nr i9]), t4⟩
        rw [GS]
        refine ⟨TX, by omega, by rw [List.length_cons]; omega, hB.2.2.2.1, ?_⟩
        rw [if_pos hp, if_neg (show ¬ isLt (sgM S) by rw [sg]; unfold isLt; omega), if_pos (by rw [sg]; exact a1), List.length_cons, show ((K1.length + 1 : Nat) : Int) - 1 = (K1.length : Int) from by omega, if_pos (show 0 < S 9 (K1.length : Int) by rw [hF0.2.1]; exact b1)]
        exact ⟨by omega, t1⟩
      · obtain ⟨g1, g2⟩ := GB_past hB hF
        obtain ⟨S', r, t1, t2, t3, t4⟩ := goes0 T n f (cnt := cnt) b2 g1 g2 (by omega) hc
        refine ⟨S', r, ?_, t2, GE_tr t3 (fun i _ i6 _ _ _ => by rw [up2_nr i6]), t4⟩
        rw [GS]
        refine ⟨TX, by omega, by rw [List.length_cons]; omega, hB.2.2.2.1, ?_⟩
        rw [if_pos hp, if_neg (show ¬ isLt (sgM S) by rw [sg]; unfold isLt; omega), if_pos (by rw [sg]; exact a1), List.length_cons, show ((K1.length + 1 : Nat) : Int) - 1 = (K1.length : Int) from by omega, if_neg (show ¬ 0 < S 9 (K1.length : Int) by rw [hF0.2.1]; omega)]
        exact ⟨by omega, t1⟩
    · obtain ⟨g1, g2⟩ := GB_open hB hF a1
      obtain ⟨S', r, t1, t2, t3, t4⟩ := goes0 T n f (cnt := cnt) a3 g1 g2 (by rw [List.length_cons]; omega) hc
      refine ⟨S', r, ?_, t2, GE_tr t3 (fun i _ i6 i8 i9 _ => by unfold opnM; rw [up2_nr i8, up2_nr i6, up2_nr i9]), t4⟩
      rw [GS]
      refine ⟨TX, by omega, by omega, hB.2.2.2.1, ?_⟩
      rw [if_pos hp, if_neg (show ¬ isLt (sgM S) by rw [sg]; exact (op_n41 a1).2), if_neg (show ¬ sgM S = 41 by rw [sg]; exact (op_n41 a1).1)]
      rw [List.length_cons, show ((K.length + 1 : Nat) : Int) = (K.length : Int) + 1 from by omega] at t1
      exact ⟨by omega, t1⟩
/-! an act that is done -/
theorem act_run {R : Nat → Int → Int} (h7 : R 7 0 = 1) (a : Int) (A' : Int → Int) : actM R a A' = if a < 0 then R else upR R 0 A' := by
  unfold actM
  rw [savesM_run R (by omega)]
theorem pe_act {A : Int → Int} {S : Nat → Int → Int} (h : LG A S) (ht : S 5 0 ≤ 20000) (P : Nat → Int → Int) (le : Int) : ∃ a A', Act A S a (peR S P le) A' (peS S P le) := by
  unfold peR peS
  by_cases c1 : sgF (P 0) (P 1 0) le = 114
  · rw [if_pos c1, if_pos c1]
    exact ⟨_, _, A_read h ht _ _⟩
  · rw [if_neg c1, if_neg c1]
    by_cases c2 : sgF (P 0) (P 1 0) le = 119
    · rw [if_pos c2, if_pos c2]
      exact ⟨_, _, A_write h ht _ _ _⟩
    · rw [if_neg c2, if_neg c2]
      by_cases c3 : sgF (P 0) (P 1 0) le = 116
      · rw [if_pos c3, if_pos c3]
        exact ⟨_, _, A_pass h ht _⟩
      · rw [if_neg c3, if_neg c3]
        exact ⟨_, _, A_cut h ht⟩
theorem does_act {R S P : Nat → Int → Int} (h : LG (R 0) S) (ht : S 5 0 ≤ 20000) {le : Int} (hl : isLt (sgF (P 0) (P 1 0) le)) (h1 : aNum (P 0) (P 1 0) le (R 10 0) (R 10 1) (R 10 2)) (h2 : aNum (P 0) (P 1 0) le (P 2 (3 * le)) (P 2 (3 * le + 1)) (P 2 (3 * le + 2))) : ∃ A', Act (R 0) S (doesR R (sgF (P 0) (P 1 0) le)) (peR S P le) A' (peS S P le) ∧ doesM R (sgF (P 0) (P 1 0) le) = actM R (doesR R (sgF (P 0) (P 1 0) le)) A' := by
  have a := h.2.1
  have e2 := h.1.1.2.2.1
  obtain ⟨u0, u1, u2⟩ := h1
  obtain ⟨v0, v1, v2⟩ := h2
  unfold doesR doesM peR peS
  rcases hl with c | c | c | c
  · have w0 : R 10 0 = P 2 (3 * le) := by rw [u0 (by omega), v0 (by omega)]
    have w1 : R 10 1 = P 2 (3 * le + 1) := by rw [u1 (by omega), v1 (by omega)]
    simp only [if_pos c]
    rw [w0, w1]
    exact ⟨_, A_read h ht _ _, E_read R _ _ (by omega)⟩
  · have w0 : R 10 0 = P 2 (3 * le) := by rw [u0 (by omega), v0 (by omega)]
    have w1 : R 10 1 = P 2 (3 * le + 1) := by rw [u1 (by omega), v1 (by omega)]
    have w2 : R 10 2 = P 2 (3 * le + 2) := by rw [u2 (by omega), v2 (by omega)]
    simp only [if_pos c, if_neg (show ¬ sgF (P 0) (P 1 0) le = 114 by omega), if_neg (show ¬ sgF (P 0) (P 1 0) le = 116 by omega)]
    rw [w0, w1, w2]
    exact ⟨_, A_write h ht _ _ _, E_write R _ _ _ (by omega)⟩
  · have w0 : R 10 0 = P 2 (3 * le) := by rw [u0 (by omega), v0 (by omega)]
    simp only [if_pos c, if_neg (show ¬ sgF (P 0) (P 1 0) le = 114 by omega), if_neg (show ¬ sgF (P 0) (P 1 0) le = 119 by omega)]
    rw [w0]
    exact ⟨_, A_pass h ht _, E_passL h ht _⟩
  · simp only [if_neg (show ¬ sgF (P 0) (P 1 0) le = 114 by omega), if_neg (show ¬ sgF (P 0) (P 1 0) le = 119 by omega), if_neg (show ¬ sgF (P 0) (P 1 0) le = 116 by omega)]
    have b : 0 ≤ cutsR (R 0) := (sumZ_rng (b := 1) (by omega) (fun j _ _ => by (try dsimp only); split <;> omega)).1
    exact ⟨_, A_cut h ht, E_cut R b⟩
theorem does_ok {R S P : Nat → Int → Int} (h : LG (R 0) S) (ht : S 5 0 ≤ 20000) {le a' : Int} {A' : Int → Int} {S' : Nat → Int → Int} (hA : Act (R 0) S (doesR R le) a' A' S') (h2 : 0 ≤ R 2 0 ∧ R 2 0 ≤ 5) (h7 : R 7 0 = 1) (h10 : ∀ j : Int, 0 ≤ R 10 j ∧ R 10 j ≤ 999) : doOK R le := by
  have e0 := h.1.1.1
  obtain ⟨p1, p2, p3, p4, p5⟩ := hA
  refine ⟨(LG_WFA h (by omega)).1, h2, Or.inr h7, fun j => by have := h10 j; omega, fun _ q k k0 k1 => ?_, by omega⟩
  exact LG_allA h (n := R 10 0) (by omega) k k0 k1
/-- the second way, that does the acts -/
theorem goes1 {Sn P : Nat → Int → Int} {L : List Int} (hL : LL P L) (hN : NV P L) (hL1 : L.length ≤ 100) : ∀ (f : Nat) {S : Nat → Int → Int} {p : Int} {K : List (Int × Int)} {ls : List Int} {cnt : Nat}, Go (P 0) (P 1 0) f p K ls (P 1 0) [] → GB (P 0) (P 1 0) S p → FL S K → K.length ≤ 3 → ls = L.drop cnt → cnt ≤ L.length → LG (S 0) (rnS Sn P (cnt : Int)) → rnS Sn P (cnt : Int) 5 0 ≤ 20000 → S 7 0 = 1 → (0 ≤ S 2 0 ∧ S 2 0 ≤ 5) → (∀ j : Int, 0 ≤ j → j < (cnt : Int) → 0 ≤ peR (rnS Sn P j) P (lsF P j)) → ∃ S' r, GS 1 (f + 1) S (cnt : Int) (K.length : Int) S' r ∧ GE S' S ∧ ((∃ k : Int, (0 ≤ k ∧ k < (L.length : Int)) ∧ (∀ j : Int, 0 ≤ j → j < k → 0 ≤ peR (rnS Sn P j) P (lsF P j)) ∧ peR (rnS Sn P k) P (lsF P k) < 0 ∧ r = -1000 - lsF P k ∧ 0 ≤ lsF P k ∧ lsF P k ≤ 80) ∨ ((∀ j : Int, 0 ≤ j → j < (L.length : Int) → 0 ≤ peR (rnS Sn P j) P (lsF P j)) ∧ r = (L.length : Int) ∧ LG (S' 0) (rnS Sn P (L.length : Int)) ∧ rnS Sn P (L.length : Int) 5 0 ≤ 20000))
  | 0, S, p, K, ls, cnt, h, hB, hF, hK, hls, hc, hG, ht, h7, h2, hd => by
    rw [Go] at h
    obtain ⟨h0, e1, e2, e3⟩ := h
    have ec : cnt = L.length := by
      rw [e1] at hls
      have t : (L.drop cnt).length = 0 := by rw [← hls]; rfl
      rw [List.length_drop] at t
      omega
    refine ⟨S, (cnt : Int), ?_, ⟨fun _ _ _ _ _ _ => rfl, hB.2.2.2⟩, Or.inr ?_⟩
    · rw [GS]
      refine ⟨GB_Tx hB h0, by omega, by omega, hB.2.2.2.1, ?_⟩
      rw [if_neg (show ¬ S 6 0 < S 5 0 by rw [hB.1.2.1, hB.1.2.2]; omega)]
      exact ⟨rfl, rfl⟩
    · rw [← ec]
      exact ⟨hd, rfl, hG, ht⟩
  | f + 1, S, p, K, ls, cnt, h, hB, hF, hK, hls, hc, hG, ht, h7, h2, hd => by
    rw [Go] at h
    obtain ⟨h0, h⟩ := h
    have sg := GB_sg hB
    have hp : S 6 0 < S 5 0 := by rw [hB.1.2.1, hB.1.2.2]; omega
    have TX := GB_Tx hB (by omega)
    rcases h with ⟨a1, a2, ls1, a3, a4⟩ | ⟨a1, q, x, K1, a2, a3⟩ | ⟨a1, a2, a3⟩
    · have lc : cnt < L.length := by
        have t : (L.drop cnt).length = ls1.length + 1 := by rw [← hls, a3, List.length_cons]
        rw [List.length_drop] at t
        omega
      have ld : L.drop cnt = p :: ls1 := by rw [← hls, a3]
      have lg : L.getD cnt 0 = p := by
        have t := gd_drop L cnt 0
        rw [ld] at t
        exact t.symm
      have l1 : ls1 = L.drop (cnt + 1) := by
        have t : (L.drop cnt).drop 1 = ls1 := by rw [ld]; rfl
        rw [List.drop_drop] at t
        exact t.symm
      have p4 : P 4 0 = (L.length : Int) := by have := hL.1; omega
      have lf : lsF P (cnt : Int) = p := by
        unfold lsF
        rw [if_pos (by omega), hL.2 cnt (by omega), lg]
      have pm : p ∈ L := List.mem_of_mem_drop (i := cnt) (by rw [ld]; exact List.mem_cons_self)
      have nv := (hN p pm).2
      have hlS : isLt (sgM S) := by rw [sg]; exact a1
      obtain ⟨r1, r2, r3⟩ := ra_all hlS
      have gb := GB_let hB a1
      have fl := FL_let (S := S) hF (sgM S)
      have ge := ra_ge (S := S) (sgM S)
      have c0 : raM (up2 S 6 0 (S 6 0 + 1)) (sgM S) 0 = S 0 := by rw [raM_o _ _ (by decide) (by decide)]; rfl
      rw [hB.1.1, hB.1.2.1, hB.1.2.2] at r3
      have r3 := r3 a2
      rw [hB.1.2.2] at gb fl ge c0
      generalize hS1 : raM (up2 S 6 0 (p + 1)) (sgM S) = S1 at r3 gb fl ge c0
      have s7 : S1 7 0 = 1 := by rw [ge 7 (by decide) (by decide) (by decide) (by decide) (by decide)]; exact h7
      have s2 : 0 ≤ S1 2 0 ∧ S1 2 0 ≤ 5 := by rw [ge 2 (by decide) (by decide) (by decide) (by decide) (by decide)]; exact h2
      obtain ⟨A', d1, d2⟩ := does_act (R := S1) (S := rnS Sn P (cnt : Int)) (P := P) (le := p) (by rw [c0]; exact hG) ht a1 r3 nv
      have ok := does_ok (R := S1) (S := rnS Sn P (cnt : Int)) (P := P) (by rw [c0]; exact hG) ht d1 s2 s7 gb.2.2.2.2
      rw [act_run s7] at d2
      have nx : rnS Sn P ((cnt : Int) + 1) = peS (rnS Sn P (cnt : Int)) P p := by
        unfold rnS
        rw [ixZ_succ _ _ (by omega)]
        show peS _ P (lsF P (cnt : Int)) = _
        rw [lf]
      have px := (hN p pm).1
      have x80 := hB.2.2.1
      by_cases neg : doesR S1 (sgF (P 0) (P 1 0) p) < 0
      · rw [if_pos neg] at d2
        refine ⟨S1, -1000 - p, ?_, ⟨ge, gb.2.2.2.1, gb.2.2.2.2⟩, Or.inl ⟨(cnt : Int), by omega, hd, ?_, by rw [lf], by rw [lf]; omega, by rw [lf]; omega⟩⟩
        · rw [GS]
          refine ⟨TX, by omega, by omega, hB.2.2.2.1, ?_⟩
          rw [if_pos hp, if_pos hlS, if_neg (by omega), if_pos (by decide), hB.1.2.2, hS1, sg]
          exact ⟨ok, by rw [if_pos neg, d2]; exact ⟨rfl, rfl⟩⟩
        · rw [lf, ← d1.1]
          exact neg
      · rw [if_neg neg] at d2
        have d1' := d1.1
        obtain ⟨S', r, t1, t2, t3⟩ := goes1 hL hN hL1 f (S := upR S1 0 A') (cnt := cnt + 1) a4 gb (FL_congr (S := S1) (fun i _ _ => ⟨rfl, rfl⟩) fl) hK l1 (by omega) (by
          rw [show ((cnt + 1 : Nat) : Int) = (cnt : Int) + 1 from by omega, nx]
          exact d1.2.1) (by
          rw [show ((cnt + 1 : Nat) : Int) = (cnt : Int) + 1 from by omega, nx]
          exact d1.2.2.1) s7 s2 (fun j j0 j1 => by
          by_cases e : j = (cnt : Int)
          · rw [e, lf]
            omega
          · exact hd j j0 (by omega))
        refine ⟨S', r, ?_, GE_tr t2 (fun i i0 i6 i8 i9 i10 => by rw [upR_ne i0, ge i i0 i6 i8 i9 i10]), t3⟩
        rw [GS]
        refine ⟨TX, by omega, by omega, hB.2.2.2.1, ?_⟩
        rw [if_pos hp, if_pos hlS, if_neg (by omega), if_pos (by decide), hB.1.2.2, hS1, sg, if_neg neg, d2]
        rw [show (cnt : Int) + 1 = ((cnt + 1 : Nat) : Int) from by omega]
        exact ⟨ok, t1⟩
    · rw [a2] at hF hK ⊢
      rw [List.length_cons] at hK
      have hF0 := hF
      rw [FL] at hF0
      rcases a3 with ⟨b1, b2⟩ | ⟨b1, b2⟩
      · obtain ⟨g1, g2⟩ := GB_again hB hF b1
        obtain ⟨S', r, t1, t2, t3⟩ := goes1 hL hN hL1 f (cnt := cnt) b2 g1 g2 hK hls hc hG ht h7 h2 hd
        refine ⟨S', r, ?_, GE_tr t2 (fun i _ i6 _ i9 _ => by rw [up2_nr i6, up2_nr i9]), t3⟩
        rw [GS]
        refine ⟨TX, by omega, by rw [List.length_cons]; omega, hB.2.2.2.1, ?_⟩
        rw [if_pos hp, if_neg (show ¬ isLt (sgM S) by rw [sg]; unfold isLt; omega), if_pos (by rw [sg]; exact a1), List.length_cons, show ((K1.length + 1 : Nat) : Int) - 1 = (K1.length : Int) from by omega, if_pos (show 0 < S 9 (K1.length : Int) by rw [hF0.2.1]; exact b1)]
        exact ⟨by omega, t1⟩
      · obtain ⟨g1, g2⟩ := GB_past hB hF
        obtain ⟨S', r, t1, t2, t3⟩ := goes1 hL hN hL1 f (cnt := cnt) b2 g1 g2 (by omega) hls hc hG ht h7 h2 hd
        refine ⟨S', r, ?_, GE_tr t2 (fun i _ i6 _ _ _ => by rw [up2_nr i6]), t3⟩
        rw [GS]
        refine ⟨TX, by omega, by rw [List.length_cons]; omega, hB.2.2.2.1, ?_⟩
        rw [if_pos hp, if_neg (show ¬ isLt (sgM S) by rw [sg]; unfold isLt; omega), if_pos (by rw [sg]; exact a1), List.length_cons, show ((K1.length + 1 : Nat) : Int) - 1 = (K1.length : Int) from by omega, if_neg (show ¬ 0 < S 9 (K1.length : Int) by rw [hF0.2.1]; omega)]
        exact ⟨by omega, t1⟩
    · obtain ⟨g1, g2⟩ := GB_open hB hF a1
      obtain ⟨S', r, t1, t2, t3⟩ := goes1 hL hN hL1 f (cnt := cnt) a3 g1 g2 (by rw [List.length_cons]; omega) hls hc hG ht h7 h2 hd
      refine ⟨S', r, ?_, GE_tr t2 (fun i _ i6 i8 i9 _ => by unfold opnM; rw [up2_nr i8, up2_nr i6, up2_nr i9]), t3⟩
      rw [GS]
      refine ⟨TX, by omega, by omega, hB.2.2.2.1, ?_⟩
      rw [if_pos hp, if_neg (show ¬ isLt (sgM S) by rw [sg]; exact (op_n41 a1).2), if_neg (show ¬ sgM S = 41 by rw [sg]; exact (op_n41 a1).1)]
      rw [List.length_cons, show ((K.length + 1 : Nat) : Int) = (K.length : Int) + 1 from by omega] at t1
      exact ⟨by omega, t1⟩
