/-! sums again -/
theorem sumN_upd {f g : Int → Int} {j0 : Int} (h0 : 0 ≤ j0) : ∀ n : Nat, (∀ j : Int, 0 ≤ j → j < (n : Int) → j ≠ j0 → f j = g j) → sumN f n = if j0 < (n : Int) then sumN g n - g j0 + f j0 else sumN g n
  | 0, _ => by rw [if_neg (by omega)]; rfl
  | n + 1, h => by
    rw [sumN, sumN, sumN_upd h0 n (fun j a b c => h j a (by omega) c)]
    by_cases e : (n : Int) = j0
    · rw [if_neg (by omega), if_pos (by omega), e]; omega
    · rw [h _ (by omega) (by omega) e]
      by_cases e2 : j0 < (n : Int)
      · rw [if_pos e2, if_pos (by omega)]; omega
      · rw [if_neg e2, if_neg (by omega)]
theorem sumZ_upd {f g : Int → Int} {k j0 : Int} (h0 : 0 ≤ j0) (h1 : j0 < k) (h : ∀ j : Int, 0 ≤ j → j < k → j ≠ j0 → f j = g j) : sumZ f k = sumZ g k - g j0 + f j0 := by
  unfold sumZ
  rw [sumN_upd h0 k.toNat (fun j a b c => h j a (by omega) c), if_pos (by omega)]
theorem sumN_rng {f : Int → Int} {b : Int} : ∀ n : Nat, (∀ j : Int, 0 ≤ j → j < (n : Int) → 0 ≤ f j ∧ f j ≤ b) → 0 ≤ sumN f n ∧ sumN f n ≤ b * (n : Int)
  | 0, _ => by simp [sumN]
  | n + 1, h => by
    have h1 := sumN_rng (f := f) (b := b) n (fun j a c => h j a (by omega))
    have h2 := h (n : Int) (by omega) (by omega)
    rw [sumN]
    have e : b * ((n + 1 : Nat) : Int) = b * (n : Int) + b := by rw [Int.natCast_add, Int.mul_add]; simp
    omega
theorem sumZ_rng {f : Int → Int} {k b : Int} (hk : 0 ≤ k) (h : ∀ j : Int, 0 ≤ j → j < k → 0 ≤ f j ∧ f j ≤ b) : 0 ≤ sumZ f k ∧ sumZ f k ≤ b * k := by
  have h1 := sumN_rng (f := f) (b := b) k.toNat (fun j a c => h j a (by omega))
  have e : ((k.toNat : Nat) : Int) = k := by omega
  rw [e] at h1
  exact h1
theorem sumN_term {f : Int → Int} {j0 : Int} (h0 : 0 ≤ j0) : ∀ n : Nat, (∀ j : Int, 0 ≤ j → j < (n : Int) → 0 ≤ f j) → j0 < (n : Int) → f j0 ≤ sumN f n
  | 0, _, h1 => by omega
  | n + 1, h, h1 => by
    rw [sumN]
    by_cases e : (n : Int) = j0
    · have h2 := (sumN_rng (f := fun j => f j - f j) (b := 0) n (fun j a c => by omega)).1
      have h3 : 0 ≤ sumN f n := by
        clear h2
        have : ∀ m : Nat, m ≤ n → 0 ≤ sumN f m := by
          intro m
          induction m with
          | zero => intro _; simp [sumN]
          | succ m ih => intro hm; rw [sumN]; have := ih (by omega); have := h (m : Int) (by omega) (by omega); omega
        exact this n (Nat.le_refl n)
      rw [e]; omega
    · have h2 := sumN_term (f := f) h0 n (fun j a c => h j a (by omega)) (by omega)
      have h3 := h (n : Int) (by omega) (by omega)
      omega
theorem sumZ_term {f : Int → Int} {k j0 : Int} (h0 : 0 ≤ j0) (h1 : j0 < k) (h : ∀ j : Int, 0 ≤ j → j < k → 0 ≤ f j) : f j0 ≤ sumZ f k :=
  sumN_term h0 k.toNat (fun j a c => h j a (by omega)) (by omega)
theorem sumN_pos {f : Int → Int} : ∀ n : Nat, (∀ j : Int, 0 ≤ j → j < (n : Int) → 0 ≤ f j) → 0 < sumN f n → ∃ j : Int, 0 ≤ j ∧ j < (n : Int) ∧ 0 < f j
  | 0, _, h1 => by simp [sumN] at h1
  | n + 1, h, h1 => by
    rw [sumN] at h1
    by_cases e : 0 < f (n : Int)
    · exact ⟨(n : Int), by omega, by omega, e⟩
    · have h2 := h (n : Int) (by omega) (by omega)
      obtain ⟨j, a, b, c⟩ := sumN_pos (f := f) n (fun j a c => h j a (by omega)) (by omega)
      exact ⟨j, a, by omega, c⟩
theorem sumZ_pos {f : Int → Int} {k : Int} (h : ∀ j : Int, 0 ≤ j → j < k → 0 ≤ f j) (h1 : 0 < sumZ f k) : ∃ j : Int, 0 ≤ j ∧ j < k ∧ 0 < f j := by
  obtain ⟨j, a, b, c⟩ := sumN_pos (f := f) k.toNat (fun j a c => h j a (by omega)) h1
  exact ⟨j, a, by omega, c⟩
theorem sumZ_zero {f : Int → Int} {k : Int} (hk : 0 ≤ k) (h : ∀ j : Int, 0 ≤ j → j < k → f j = 0) : sumZ f k = 0 := by
  have h1 := sumZ_rng (f := f) (k := k) (b := 0) hk (fun j a c => by have := h j a c; omega)
  omega
/-! a state of Plates that is in order -/
def cpOK (V : Int) (c : Int → Int) : Prop := ∀ k : Int, (0 ≤ c (4 * k) ∧ c (4 * k) ≤ 999) ∧ (0 ≤ c (4 * k + 1) ∧ c (4 * k + 1) ≤ V) ∧ (0 ≤ c (4 * k + 2) ∧ c (4 * k + 2) ≤ 1) ∧ (0 ≤ c (4 * k + 3) ∧ c (4 * k + 3) ≤ 1)
def odOK (t : Int) (o : Int → Int) : Prop := ∀ k : Int, (0 ≤ o (8 * k) ∧ o (8 * k) ≤ 1) ∧ (0 ≤ o (8 * k + 1) ∧ o (8 * k + 1) < 4) ∧ (0 ≤ o (8 * k + 2) ∧ o (8 * k + 2) < 12) ∧ (0 ≤ o (8 * k + 3) ∧ o (8 * k + 3) ≤ 2) ∧ (0 ≤ o (8 * k + 4) ∧ o (8 * k + 4) ≤ t) ∧ (-9 ≤ o (8 * k + 5) ∧ o (8 * k + 5) ≤ t) ∧ (-9 ≤ o (8 * k + 6) ∧ o (8 * k + 6) ≤ 1) ∧ (-9 ≤ o (8 * k + 7) ∧ o (8 * k + 7) ≤ 999) ∧ (o (8 * k) = 1 → 0 ≤ o (8 * k + 7))
def wrOK (w : Int → Int) : Prop := ∀ j : Int, w j = -1 ∨ (0 ≤ w j ∧ w j < 384 ∧ w j % 4 = 0)
def cnW (o : Int → Int) (n : Int) : Int := sumZ (fun k => if o (8 * k + 3) = 0 then 1 else 0) n
def cnB (o : Int → Int) (n b : Int) : Int := sumZ (fun k => if o (8 * k + 3) = 0 ∧ 12 * o (8 * k + 1) + o (8 * k + 2) = b then 1 else 0) n
def cnT (o : Int → Int) (n t : Int) : Int := sumZ (fun k => if o (8 * k + 3) = 0 ∧ o (8 * k + 1) = t then 1 else 0) n
def ltT (c : Int → Int) (t : Int) : Int := sumZ (fun k => c (48 * t + 4 * k + 3) + c (192 + 48 * t + 4 * k + 3)) 12
def Good (V : Int) (S : Nat → Int → Int) : Prop :=
  (0 ≤ S 5 0 ∧ (0 ≤ S 6 0 ∧ S 6 0 < 4) ∧ (0 ≤ S 7 0 ∧ S 7 0 ≤ 60)) ∧ cpOK V (S 0) ∧ odOK (S 5 0) (S 1) ∧ wrOK (S 2) ∧ S 8 0 = cnW (S 1) (S 7 0) ∧ (∀ b : Int, 0 ≤ b → b < 48 → S 3 b = cnB (S 1) (S 7 0) b) ∧ (∀ t : Int, 0 ≤ t → t < 4 → S 4 t = cnT (S 1) (S 7 0) t + ltT (S 0) t) ∧ (∀ b : Int, ¬ (0 ≤ b ∧ b < 48) → S 3 b = 0) ∧ (∀ t : Int, ¬ (0 ≤ t ∧ t < 4) → S 4 t = 0)
theorem cnW_rng {o : Int → Int} {n : Int} (h : 0 ≤ n) : 0 ≤ cnW o n ∧ cnW o n ≤ n := by
  have := sumZ_rng (f := fun k => if o (8 * k + 3) = 0 then (1 : Int) else 0) (b := 1) h (fun j _ _ => by (try dsimp only); split <;> omega)
  unfold cnW; omega
theorem cnB_rng {o : Int → Int} {n b : Int} (h : 0 ≤ n) : 0 ≤ cnB o n b ∧ cnB o n b ≤ n := by
  have := sumZ_rng (f := fun k => if o (8 * k + 3) = 0 ∧ 12 * o (8 * k + 1) + o (8 * k + 2) = b then (1 : Int) else 0) (b := 1) h (fun j _ _ => by (try dsimp only); split <;> omega)
  unfold cnB; omega
theorem cnT_rng {o : Int → Int} {n t : Int} (h : 0 ≤ n) : 0 ≤ cnT o n t ∧ cnT o n t ≤ n := by
  have := sumZ_rng (f := fun k => if o (8 * k + 3) = 0 ∧ o (8 * k + 1) = t then (1 : Int) else 0) (b := 1) h (fun j _ _ => by (try dsimp only); split <;> omega)
  unfold cnT; omega
theorem cpOK.at3 {V : Int} {c : Int → Int} (h : cpOK V c) {j : Int} (hj : j % 4 = 3) : 0 ≤ c j ∧ c j ≤ 1 := by
  have h1 := (h (j / 4)).2.2.2
  have e : 4 * (j / 4) + 3 = j := by omega
  rw [e] at h1; exact h1
theorem ltT_rng {V : Int} {c : Int → Int} (h : cpOK V c) (t : Int) : 0 ≤ ltT c t ∧ ltT c t ≤ 24 := by
  have := sumZ_rng (f := fun k => c (48 * t + 4 * k + 3) + c (192 + 48 * t + 4 * k + 3)) (k := 12) (b := 2) (by omega) (fun j _ _ => by
    have a := h.at3 (j := 48 * t + 4 * j + 3) (by omega)
    have b := h.at3 (j := 192 + 48 * t + 4 * j + 3) (by omega)
    (try dsimp only); omega)
  unfold ltT; omega
theorem Good.zB {V : Int} {S : Nat → Int → Int} (h : Good V S) (hV : V ≤ 900000) (ht : S 5 0 ≤ 900000) : zB S := by
  obtain ⟨⟨a5, a6, a7⟩, hc, ho, hw, h8, h3, h4, z3, z4⟩ := h
  have n8 := cnW_rng (o := S 1) (n := S 7 0) a7.1
  intro k j hk
  rcases hk with hk | ⟨hk, rfl⟩
  · rcases (show k = 0 ∨ k = 1 ∨ k = 2 ∨ k = 3 ∨ k = 4 by omega) with rfl | rfl | rfl | rfl | rfl
    · have q := hc (j / 4)
      rcases (show j = 4 * (j / 4) ∨ j = 4 * (j / 4) + 1 ∨ j = 4 * (j / 4) + 2 ∨ j = 4 * (j / 4) + 3 by omega) with e | e | e | e <;> rw [e] <;> omega
    · have q := ho (j / 8)
      rcases (show j = 8 * (j / 8) ∨ j = 8 * (j / 8) + 1 ∨ j = 8 * (j / 8) + 2 ∨ j = 8 * (j / 8) + 3 ∨ j = 8 * (j / 8) + 4 ∨ j = 8 * (j / 8) + 5 ∨ j = 8 * (j / 8) + 6 ∨ j = 8 * (j / 8) + 7 by omega) with e | e | e | e | e | e | e | e <;> rw [e] <;> omega
    · have := hw j; omega
    · by_cases q : 0 ≤ j ∧ j < 48
      · rw [h3 j q.1 q.2]; have := cnB_rng (o := S 1) (n := S 7 0) (b := j) a7.1; omega
      · rw [z3 j q]; omega
    · by_cases q : 0 ≤ j ∧ j < 4
      · rw [h4 j q.1 q.2]; have := cnT_rng (o := S 1) (n := S 7 0) (t := j) a7.1; have := ltT_rng hc j; omega
      · rw [z4 j q]; omega
  · rcases (show k = 0 ∨ k = 1 ∨ k = 2 ∨ k = 3 ∨ k = 4 ∨ k = 5 ∨ k = 6 ∨ k = 7 ∨ k = 8 by omega) with rfl | rfl | rfl | rfl | rfl | rfl | rfl | rfl | rfl
    · have q := hc 0; simp only [Int.mul_zero] at q; omega
    · have q := ho 0; simp only [Int.mul_zero] at q; omega
    · have := hw 0; omega
    · rw [h3 0 (by omega) (by omega)]; have := cnB_rng (o := S 1) (n := S 7 0) (b := 0) a7.1; omega
    · rw [h4 0 (by omega) (by omega)]; have := cnT_rng (o := S 1) (n := S 7 0) (t := 0) a7.1; have := ltT_rng hc 0; omega
    · omega
    · omega
    · omega
    · omega
theorem Good.WF {V : Int} {S : Nat → Int → Int} (h : Good V S) (hV : V ≤ 900000) (ht : S 5 0 ≤ 900000) : WF S :=
  ⟨h.zB hV ht, h.1.1, h.1.2.1, h.1.2.2, fun o => ⟨(h.2.2.1 o).2.1, (h.2.2.1 o).2.2.1⟩, h.2.2.2.1⟩
theorem Good.mono {V V' : Int} {S : Nat → Int → Int} (h : Good V S) (hV : V ≤ V') : Good V' S :=
  ⟨h.1, fun k => by have := h.2.1 k; omega, h.2.2⟩
theorem up2_app (S : Nat → Int → Int) (k : Nat) (e v : Int) (i : Nat) (j : Int) : up2 S k e v i j = if i = k ∧ j = e then v else S i j := by
  unfold up2 upR up1
  by_cases h : i = k
  · subst h; simp
  · simp [h]
/-! the counts behind a change of one order's cells -/
theorem cnW_app {o o' : Int → Int} {n j0 : Int} (h0 : 0 ≤ j0) (h1 : j0 < n) (h : ∀ k : Int, k ≠ j0 → o' (8 * k + 3) = o (8 * k + 3)) : cnW o' n = cnW o n - (if o (8 * j0 + 3) = 0 then 1 else 0) + (if o' (8 * j0 + 3) = 0 then 1 else 0) :=
  sumZ_upd h0 h1 (fun j _ _ hj => by (try dsimp only); rw [h j hj])
theorem cnB_app {o o' : Int → Int} {n j0 b : Int} (h0 : 0 ≤ j0) (h1 : j0 < n) (h : ∀ k : Int, k ≠ j0 → o' (8 * k + 3) = o (8 * k + 3) ∧ o' (8 * k + 1) = o (8 * k + 1) ∧ o' (8 * k + 2) = o (8 * k + 2)) : cnB o' n b = cnB o n b - (if o (8 * j0 + 3) = 0 ∧ 12 * o (8 * j0 + 1) + o (8 * j0 + 2) = b then 1 else 0) + (if o' (8 * j0 + 3) = 0 ∧ 12 * o' (8 * j0 + 1) + o' (8 * j0 + 2) = b then 1 else 0) :=
  sumZ_upd h0 h1 (fun j _ _ hj => by (try dsimp only); rw [(h j hj).1, (h j hj).2.1, (h j hj).2.2])
theorem cnT_app {o o' : Int → Int} {n j0 b : Int} (h0 : 0 ≤ j0) (h1 : j0 < n) (h : ∀ k : Int, k ≠ j0 → o' (8 * k + 3) = o (8 * k + 3) ∧ o' (8 * k + 1) = o (8 * k + 1)) : cnT o' n b = cnT o n b - (if o (8 * j0 + 3) = 0 ∧ o (8 * j0 + 1) = b then 1 else 0) + (if o' (8 * j0 + 3) = 0 ∧ o' (8 * j0 + 1) = b then 1 else 0) :=
  sumZ_upd h0 h1 (fun j _ _ hj => by (try dsimp only); rw [(h j hj).1, (h j hj).2])
theorem G_fin {V : Int} {S : Nat → Int → Int} (h : Good V S) {o side wo : Int} (h0 : 0 ≤ o) (h1 : o < S 7 0) (hst : S 1 (8 * o + 3) = 0) (hs : 0 ≤ side ∧ side ≤ 1) (hw : -9 ≤ wo ∧ wo ≤ 999) (hk : S 1 (8 * o) = 1 → 0 ≤ wo) : Good V (finS S o side wo) := by
  obtain ⟨⟨a5, a6, a7⟩, hc, ho, hwr, h8, h3, h4, z3, z4⟩ := h
  have e1 : finS S o side wo 1 = up1 (up1 (up1 (up1 (S 1) (8 * o + 3) 1) (8 * o + 5) (S 5 0)) (8 * o + 6) side) (8 * o + 7) wo := rfl
  have r0 : ∀ k : Int, finS S o side wo 1 (8 * k) = S 1 (8 * k) := fun k => by
    rw [e1]
    repeat rw [up1_ne (by omega)]
  have r1 : ∀ k : Int, finS S o side wo 1 (8 * k + 1) = S 1 (8 * k + 1) := fun k => by
    rw [e1]
    repeat rw [up1_ne (by omega)]
  have r2 : ∀ k : Int, finS S o side wo 1 (8 * k + 2) = S 1 (8 * k + 2) := fun k => by
    rw [e1]
    repeat rw [up1_ne (by omega)]
  have r3 : ∀ k : Int, finS S o side wo 1 (8 * k + 3) = if k = o then 1 else S 1 (8 * k + 3) := fun k => by
    rw [e1]
    by_cases q : k = o
    · subst q; rw [if_pos rfl]; repeat first | rw [up1_eq] | rw [up1_ne (by omega)]
    · rw [if_neg q]; repeat rw [up1_ne (by omega)]
  have r4 : ∀ k : Int, finS S o side wo 1 (8 * k + 4) = S 1 (8 * k + 4) := fun k => by
    rw [e1]
    repeat rw [up1_ne (by omega)]
  have r5 : ∀ k : Int, finS S o side wo 1 (8 * k + 5) = if k = o then (S 5 0) else S 1 (8 * k + 5) := fun k => by
    rw [e1]
    by_cases q : k = o
    · subst q; rw [if_pos rfl]; repeat first | rw [up1_eq] | rw [up1_ne (by omega)]
    · rw [if_neg q]; repeat rw [up1_ne (by omega)]
  have r6 : ∀ k : Int, finS S o side wo 1 (8 * k + 6) = if k = o then side else S 1 (8 * k + 6) := fun k => by
    rw [e1]
    by_cases q : k = o
    · subst q; rw [if_pos rfl]; repeat first | rw [up1_eq] | rw [up1_ne (by omega)]
    · rw [if_neg q]; repeat rw [up1_ne (by omega)]
  have r7 : ∀ k : Int, finS S o side wo 1 (8 * k + 7) = if k = o then wo else S 1 (8 * k + 7) := fun k => by
    rw [e1]
    by_cases q : k = o
    · subst q; rw [if_pos rfl]; repeat first | rw [up1_eq] | rw [up1_ne (by omega)]
    · rw [if_neg q]; repeat rw [up1_ne (by omega)]
  have w := ho o
  refine ⟨⟨a5, a6, a7⟩, hc, fun k => ?_, hwr, ?_, fun b b0 b1 => ?_, fun t t0 t1 => ?_, fun b hb => ?_, fun t ht => ?_⟩
  · have := ho k
    show _ ∧ _
    rw [r0, r1, r2, r3, r4, r5, r6, r7, show finS S o side wo 5 0 = S 5 0 from rfl]
    by_cases q : k = o
    · subst q
      simp only [if_true]
      exact ⟨this.1, this.2.1, this.2.2.1, by omega, this.2.2.2.2.1, by omega, by omega, hw, hk⟩
    · simp only [if_neg q]
      exact this
  · show S 8 0 - 1 = cnW (finS S o side wo 1) (S 7 0)
    rw [cnW_app (o := S 1) h0 h1 (fun k hk => by rw [r3, if_neg hk]), r3, if_pos rfl, hst, h8]
    simp
  · show (if b = 12 * S 1 (8 * o + 1) + S 1 (8 * o + 2) then S 3 (12 * S 1 (8 * o + 1) + S 1 (8 * o + 2)) - 1 else S 3 b) = cnB (finS S o side wo 1) (S 7 0) b
    rw [cnB_app (o := S 1) h0 h1 (fun k hk => by rw [r3, if_neg hk, r1, r2]; exact ⟨rfl, rfl, rfl⟩), r3, if_pos rfl, r1, r2, hst, if_neg (show ¬ ((1 : Int) = 0 ∧ 12 * S 1 (8 * o + 1) + S 1 (8 * o + 2) = b) by omega)]
    have := h3 b b0 b1
    by_cases q : b = 12 * S 1 (8 * o + 1) + S 1 (8 * o + 2)
    · rw [if_pos q, if_pos ⟨rfl, q.symm⟩, ← q]; omega
    · rw [if_neg q, if_neg (fun z => q z.2.symm)]; omega
  · show (if t = S 1 (8 * o + 1) then S 4 (S 1 (8 * o + 1)) - 1 else S 4 t) = cnT (finS S o side wo 1) (S 7 0) t + ltT (S 0) t
    rw [cnT_app (o := S 1) h0 h1 (fun k hk => by rw [r3, if_neg hk, r1]; exact ⟨rfl, rfl⟩), r3, if_pos rfl, r1, hst, if_neg (show ¬ ((1 : Int) = 0 ∧ S 1 (8 * o + 1) = t) by omega)]
    have := h4 t t0 t1
    by_cases q : t = S 1 (8 * o + 1)
    · rw [if_pos q, if_pos ⟨rfl, q.symm⟩, ← q]; omega
    · rw [if_neg q, if_neg (fun z => q z.2.symm)]; omega
  · show (if b = 12 * S 1 (8 * o + 1) + S 1 (8 * o + 2) then S 3 (12 * S 1 (8 * o + 1) + S 1 (8 * o + 2)) - 1 else S 3 b) = 0
    rw [if_neg (by omega)]; exact z3 b hb
  · show (if t = S 1 (8 * o + 1) then S 4 (S 1 (8 * o + 1)) - 1 else S 4 t) = 0
    rw [if_neg (by omega)]; exact z4 t ht
theorem G_tkS {V : Int} {S : Nat → Int → Int} (h : Good V S) {kind tr se wo : Int} (hn : S 7 0 < 60) (h1 : 0 ≤ tr ∧ tr < 4) (h2 : 0 ≤ se ∧ se < 12) (hkd : 0 ≤ kind ∧ kind ≤ 1) (hw : -9 ≤ wo ∧ wo ≤ 999) (hk : kind = 1 → 0 ≤ wo) : Good V (tkOrdS S kind tr se wo) := by
  obtain ⟨⟨a5, a6, a7⟩, hc, ho, hwr, h8, h3, h4, z3, z4⟩ := h
  generalize hnn : S 7 0 = n at *
  have e1 : tkOrdS S kind tr se wo 1 = up1 (up1 (up1 (up1 (up1 (up1 (up1 (up1 (S 1) (8 * n) kind) (8 * n + 1) tr) (8 * n + 2) se) (8 * n + 3) 0) (8 * n + 4) (S 5 0)) (8 * n + 5) (-9)) (8 * n + 6) (-9)) (8 * n + 7) wo := by rw [← hnn]; rfl
  have r0 : ∀ k : Int, tkOrdS S kind tr se wo 1 (8 * k) = if k = n then kind else S 1 (8 * k) := fun k => by
    rw [e1]
    by_cases q : k = n
    · subst q; rw [if_pos rfl]; repeat first | rw [up1_eq] | rw [up1_ne (by omega)]
    · rw [if_neg q]; repeat rw [up1_ne (by omega)]
  have r1 : ∀ k : Int, tkOrdS S kind tr se wo 1 (8 * k + 1) = if k = n then tr else S 1 (8 * k + 1) := fun k => by
    rw [e1]
    by_cases q : k = n
    · subst q; rw [if_pos rfl]; repeat first | rw [up1_eq] | rw [up1_ne (by omega)]
    · rw [if_neg q]; repeat rw [up1_ne (by omega)]
  have r2 : ∀ k : Int, tkOrdS S kind tr se wo 1 (8 * k + 2) = if k = n then se else S 1 (8 * k + 2) := fun k => by
    rw [e1]
    by_cases q : k = n
    · subst q; rw [if_pos rfl]; repeat first | rw [up1_eq] | rw [up1_ne (by omega)]
    · rw [if_neg q]; repeat rw [up1_ne (by omega)]
  have r3 : ∀ k : Int, tkOrdS S kind tr se wo 1 (8 * k + 3) = if k = n then 0 else S 1 (8 * k + 3) := fun k => by
    rw [e1]
    by_cases q : k = n
    · subst q; rw [if_pos rfl]; repeat first | rw [up1_eq] | rw [up1_ne (by omega)]
    · rw [if_neg q]; repeat rw [up1_ne (by omega)]
  have r4 : ∀ k : Int, tkOrdS S kind tr se wo 1 (8 * k + 4) = if k = n then (S 5 0) else S 1 (8 * k + 4) := fun k => by
    rw [e1]
    by_cases q : k = n
    · subst q; rw [if_pos rfl]; repeat first | rw [up1_eq] | rw [up1_ne (by omega)]
    · rw [if_neg q]; repeat rw [up1_ne (by omega)]
  have r5 : ∀ k : Int, tkOrdS S kind tr se wo 1 (8 * k + 5) = if k = n then (-9) else S 1 (8 * k + 5) := fun k => by
    rw [e1]
    by_cases q : k = n
    · subst q; rw [if_pos rfl]; repeat first | rw [up1_eq] | rw [up1_ne (by omega)]
    · rw [if_neg q]; repeat rw [up1_ne (by omega)]
  have r6 : ∀ k : Int, tkOrdS S kind tr se wo 1 (8 * k + 6) = if k = n then (-9) else S 1 (8 * k + 6) := fun k => by
    rw [e1]
    by_cases q : k = n
    · subst q; rw [if_pos rfl]; repeat first | rw [up1_eq] | rw [up1_ne (by omega)]
    · rw [if_neg q]; repeat rw [up1_ne (by omega)]
  have r7 : ∀ k : Int, tkOrdS S kind tr se wo 1 (8 * k + 7) = if k = n then wo else S 1 (8 * k + 7) := fun k => by
    rw [e1]
    by_cases q : k = n
    · subst q; rw [if_pos rfl]; repeat first | rw [up1_eq] | rw [up1_ne (by omega)]
    · rw [if_neg q]; repeat rw [up1_ne (by omega)]
  have e7 : tkOrdS S kind tr se wo 7 0 = n + 1 := by rw [← hnn]; rfl
  have b7 : 0 ≤ n ∧ n ≤ 60 := a7
  have cW : cnW (tkOrdS S kind tr se wo 1) (n + 1) = cnW (S 1) n + 1 := by
    unfold cnW
    rw [sumZ_succ _ b7.1, r3, if_pos rfl, if_pos rfl]
    rw [sumZ_congr (g := fun k => if S 1 (8 * k + 3) = 0 then 1 else 0) (fun j q1 q2 => by (try dsimp only); rw [r3 j, if_neg (show ¬ j = n by omega)])]
  have cB : ∀ b : Int, cnB (tkOrdS S kind tr se wo 1) (n + 1) b = cnB (S 1) n b + (if 12 * tr + se = b then 1 else 0) := by
    intro b
    unfold cnB
    rw [sumZ_succ _ b7.1, r3, r1, r2, if_pos rfl, if_pos rfl, if_pos rfl]
    rw [sumZ_congr (g := fun k => if S 1 (8 * k + 3) = 0 ∧ 12 * S 1 (8 * k + 1) + S 1 (8 * k + 2) = b then 1 else 0) (fun j q1 q2 => by (try dsimp only); rw [r3 j, r1 j, r2 j]; simp only [if_neg (show ¬ j = n by omega)])]
    simp
  have cT : ∀ b : Int, cnT (tkOrdS S kind tr se wo 1) (n + 1) b = cnT (S 1) n b + (if tr = b then 1 else 0) := by
    intro b
    unfold cnT
    rw [sumZ_succ _ b7.1, r3, r1, if_pos rfl, if_pos rfl]
    rw [sumZ_congr (g := fun k => if S 1 (8 * k + 3) = 0 ∧ S 1 (8 * k + 1) = b then 1 else 0) (fun j q1 q2 => by (try dsimp only); rw [r3 j, r1 j]; simp only [if_neg (show ¬ j = n by omega)])]
    simp
  refine ⟨⟨a5, a6, ?_⟩, hc, fun k => ?_, hwr, ?_, fun b b0 b1 => ?_, fun t t0 t1 => ?_, fun b hb => ?_, fun t ht => ?_⟩
  · rw [e7]; omega
  · have := ho k
    show _ ∧ _
    rw [r0, r1, r2, r3, r4, r5, r6, r7, show tkOrdS S kind tr se wo 5 0 = S 5 0 from rfl]
    by_cases q : k = n
    · simp only [if_pos q]
      refine ⟨hkd, h1, h2, by omega, by omega, by omega, by omega, hw, hk⟩
    · simp only [if_neg q]
      exact this
  · rw [e7, cW, ← h8]; rfl
  · rw [e7, cB, ← h3 b b0 b1]
    show (if b = 12 * tr + se then S 3 (12 * tr + se) + 1 else S 3 b) = _
    by_cases q : b = 12 * tr + se
    · rw [if_pos q, if_pos q.symm, ← q]
    · rw [if_neg q, if_neg (fun z => q z.symm)]; omega
  · rw [e7, cT]
    have := h4 t t0 t1
    show (if t = tr then S 4 tr + 1 else S 4 t) = _ + ltT (S 0) t
    by_cases q : t = tr
    · rw [if_pos q, if_pos q.symm, ← q]; omega
    · rw [if_neg q, if_neg (fun z => q z.symm)]; omega
  · show (if b = 12 * tr + se then S 3 (12 * tr + se) + 1 else S 3 b) = 0
    rw [if_neg (by omega)]; exact z3 b hb
  · show (if t = tr then S 4 tr + 1 else S 4 t) = 0
    rw [if_neg (by omega)]; exact z4 t ht
theorem ltT_up {c : Int → Int} {e v t : Int} (h : ∀ k : Int, 0 ≤ k → k < 12 → e ≠ 48 * t + 4 * k + 3 ∧ e ≠ 192 + 48 * t + 4 * k + 3) : ltT (up1 c e v) t = ltT c t :=
  sumZ_congr (fun j h0 h1 => by
    have := h j h0 h1
    (try dsimp only); rw [up1_ne (fun q => this.1 q.symm), up1_ne (fun q => this.2 q.symm)])
theorem G_setW {V : Int} {S : Nat → Int → Int} (h : Good V S) {q v w : Int} (hv : 0 ≤ v ∧ v ≤ 999) (hw : 0 ≤ w ∧ w ≤ V) : Good V (setWS S (4 * q) v w) := by
  obtain ⟨a, hc, ho, hwr, h8, h3, h4, z3, z4⟩ := h
  have e0 : setWS S (4 * q) v w 0 = up1 (up1 (up1 (S 0) (4 * q) v) (4 * q + 1) w) (4 * q + 2) 0 := rfl
  refine ⟨a, fun k => ?_, ho, hwr, h8, h3, fun t t0 t1 => ?_, z3, z4⟩
  · rw [e0]
    have := hc k
    simp only [up1]
    refine ⟨?_, ?_, ?_, ?_⟩ <;> (repeat' split) <;> omega
  · show S 4 t = cnT (S 1) (S 7 0) t + ltT (setWS S (4 * q) v w 0) t
    rw [e0, ltT_up (fun k _ _ => by omega), ltT_up (fun k _ _ => by omega), ltT_up (fun k _ _ => by omega)]
    exact h4 t t0 t1
theorem G_setL {V : Int} {S : Nat → Int → Int} (h : Good V S) {side sec late : Int} (hs : 0 ≤ side ∧ side ≤ 1) (hse : 0 ≤ sec ∧ sec < 12) (hl : 0 ≤ late ∧ late ≤ 1) : Good V (setLS S (192 * side + 48 * S 6 0 + 4 * sec) late) := by
  obtain ⟨⟨a5, a6, a7⟩, hc, ho, hwr, h8, h3, h4, z3, z4⟩ := h
  have e0 : setLS S (192 * side + 48 * S 6 0 + 4 * sec) late 0 = up1 (S 0) (192 * side + 48 * S 6 0 + 4 * sec + 3) late := rfl
  refine ⟨⟨a5, a6, a7⟩, fun k => ?_, ho, hwr, h8, h3, fun t t0 t1 => ?_, z3, fun t ht => ?_⟩
  · rw [e0]
    have := hc k
    simp only [up1]
    refine ⟨?_, ?_, ?_, ?_⟩ <;> (repeat' split) <;> omega
  · show (if t = S 6 0 then S 4 (S 6 0) + late - S 0 (192 * side + 48 * S 6 0 + 4 * sec + 3) else S 4 t) = cnT (S 1) (S 7 0) t + ltT (setLS S (192 * side + 48 * S 6 0 + 4 * sec) late 0) t
    rw [e0]
    have := h4 t t0 t1
    by_cases q : t = S 6 0
    · rw [if_pos q, ← q]
      have e : ltT (up1 (S 0) (192 * side + 48 * t + 4 * sec + 3) late) t = ltT (S 0) t - (S 0 (48 * t + 4 * sec + 3) + S 0 (192 + 48 * t + 4 * sec + 3)) + (up1 (S 0) (192 * side + 48 * t + 4 * sec + 3) late (48 * t + 4 * sec + 3) + up1 (S 0) (192 * side + 48 * t + 4 * sec + 3) late (192 + 48 * t + 4 * sec + 3)) :=
        sumZ_upd (j0 := sec) hse.1 hse.2 (fun j _ _ hj => by (try dsimp only); rw [up1_ne (by omega), up1_ne (by omega)])
      rw [e]
      rcases (show side = 0 ∨ side = 1 by omega) with rfl | rfl
      · rw [show (192 * 0 + 48 * t + 4 * sec + 3 : Int) = 48 * t + 4 * sec + 3 by omega, up1_eq, up1_ne (by omega)]; omega
      · rw [show (192 * 1 + 48 * t + 4 * sec + 3 : Int) = 192 + 48 * t + 4 * sec + 3 by omega, up1_eq, up1_ne (by omega)]; omega
    · rw [if_neg q, ltT_up (fun k _ _ => by omega)]; omega
  · show (if t = S 6 0 then S 4 (S 6 0) + late - S 0 (192 * side + 48 * S 6 0 + 4 * sec + 3) else S 4 t) = 0
    rw [if_neg (by omega)]; exact z4 t ht
theorem G_wr {V : Int} {S : Nat → Int → Int} (h : Good V S) {j v : Int} (hv : v = -1 ∨ (0 ≤ v ∧ v < 384 ∧ v % 4 = 0)) : Good V (up2 S 2 j v) := by
  obtain ⟨a, hc, ho, hwr, h8, h3, h4, z3, z4⟩ := h
  refine ⟨a, hc, ho, fun k => ?_, h8, h3, h4, z3, z4⟩
  show (if k = j then v else S 2 k) = -1 ∨ _
  have e : up2 S 2 j v 2 k = if k = j then v else S 2 k := rfl
  rw [e]
  by_cases q : k = j
  · rw [if_pos q]; exact hv
  · rw [if_neg q]; exact hwr k
theorem G_forg {V : Int} {S : Nat → Int → Int} (h : Good V S) : Good V (forgS S) := G_wr (G_wr h (Or.inl rfl)) (Or.inl rfl)
theorem odOK.mono {t t' : Int} {o : Int → Int} (h : odOK t o) (ht : t ≤ t') : odOK t' o := fun k => by
  have := h k
  exact ⟨this.1, this.2.1, this.2.2.1, this.2.2.2.1, by omega, by omega, this.2.2.2.2.2.2⟩
theorem G_tick {V : Int} {S : Nat → Int → Int} (h : Good V S) {d : Int} (hd : 0 ≤ d) : Good V (up2 S 5 0 (S 5 0 + d)) := by
  obtain ⟨⟨a5, a6, a7⟩, hc, ho, hr⟩ := h
  exact ⟨⟨(by show 0 ≤ S 5 0 + d; omega), a6, a7⟩, hc, (show odOK (S 5 0 + d) (S 1) from ho.mono (by omega)), hr⟩
theorem G_arm {V : Int} {S : Nat → Int → Int} (h : Good V S) {a : Int} (ha : 0 ≤ a ∧ a < 4) : Good V (up2 S 6 0 a) := by
  obtain ⟨⟨a5, a6, a7⟩, hr⟩ := h
  exact ⟨⟨a5, ha, a7⟩, hr⟩
theorem G_moves {V : Int} {S : Nat → Int → Int} (h : Good V S) (a : Int) : Good V (up2 S 10 0 a) := h
theorem G_wiped {V : Int} {S : Nat → Int → Int} (h : Good V S) (a : Int) : Good V (up2 S 9 0 a) := h
theorem G_tearA {V : Int} {S : Nat → Int → Int} (h : Good V S) {e : Int} (he : e % 4 = 2) : Good V (up2 S 0 e 1) := by
  obtain ⟨a, hc, ho, hwr, h8, h3, h4, z3, z4⟩ := h
  have e0 : up2 S 0 e 1 0 = up1 (S 0) e 1 := rfl
  refine ⟨a, fun k => ?_, ho, hwr, h8, h3, fun t t0 t1 => ?_, z3, z4⟩
  · rw [e0]
    have := hc k
    simp only [up1]
    refine ⟨?_, ?_, ?_, ?_⟩ <;> (repeat' split) <;> omega
  · show S 4 t = cnT (S 1) (S 7 0) t + ltT (up2 S 0 e 1 0) t
    rw [e0, ltT_up (fun k _ _ => by omega)]
    exact h4 t t0 t1
theorem G_tear {V : Int} {S : Nat → Int → Int} (h : Good V S) (side : Int) : Good V (tearS side S) := by
  unfold tearS
  split
  · rename_i q
    have := h.2.2.2.1 side
    exact G_tearA h (by omega)
  · exact h
theorem G_drop {V : Int} {S : Nat → Int → Int} (h : Good V S) : Good V (dropWS S) := by
  obtain ⟨⟨a5, a6, a7⟩, hc, ho, hwr, h8, h3, h4, z3, z4⟩ := h
  have e1 : dropWS S 1 = fun j => if j % 8 = 3 ∧ 0 ≤ j ∧ j < 8 * S 7 0 ∧ S 1 j = 0 then 2 else S 1 j := rfl
  have e0 : dropWS S 0 = fun j => if j % 4 = 3 ∧ ((0 ≤ j ∧ j < 4 * 48) ∨ (192 ≤ j ∧ j < 192 + 4 * 48)) then 0 else S 0 j := rfl
  have r3 : ∀ k : Int, 0 ≤ k → k < S 7 0 → ¬ dropWS S 1 (8 * k + 3) = 0 := fun k k0 k1 => by
    rw [e1]; dsimp only
    by_cases q : S 1 (8 * k + 3) = 0
    · rw [if_pos (by omega)]; omega
    · rw [if_neg (by omega)]; exact q
  refine ⟨⟨a5, a6, a7⟩, fun k => ?_, fun k => ?_, hwr, ?_, fun b b0 b1 => ?_, fun t t0 t1 => ?_, fun b hb => ?_, fun t ht => ?_⟩
  · rw [e0]
    have := hc k
    try dsimp only
    refine ⟨?_, ?_, ?_, ?_⟩ <;> (repeat' split) <;> omega
  · rw [e1]
    have := ho k
    have e5 : dropWS S 5 0 = S 5 0 := rfl
    rw [e5]
    show _ ∧ _
    simp only [show ∀ c : Int, (8 * k + c) % 8 = c % 8 from fun c => by omega, show (8 * k) % 8 = (0 : Int) from by omega]
    refine ⟨this.1, this.2.1, this.2.2.1, ?_, this.2.2.2.2⟩
    constructor <;> split <;> omega
  · show 0 = cnW (dropWS S 1) (S 7 0)
    exact (sumZ_zero a7.1 (fun j j0 j1 => by (try dsimp only); rw [if_neg (r3 j j0 j1)])).symm
  · show (if 0 ≤ b ∧ b < 48 then 0 else S 3 b) = cnB (dropWS S 1) (S 7 0) b
    rw [if_pos ⟨b0, b1⟩]
    exact (sumZ_zero a7.1 (fun j j0 j1 => by (try dsimp only); rw [if_neg (fun z => r3 j j0 j1 z.1)])).symm
  · show (if 0 ≤ t ∧ t < 4 then 0 else S 4 t) = cnT (dropWS S 1) (S 7 0) t + ltT (dropWS S 0) t
    rw [if_pos ⟨t0, t1⟩]
    have z1 : cnT (dropWS S 1) (S 7 0) t = 0 := sumZ_zero a7.1 (fun j j0 j1 => by (try dsimp only); rw [if_neg (fun z => r3 j j0 j1 z.1)])
    have z2 : ltT (dropWS S 0) t = 0 := sumZ_zero (by omega) (fun j j0 j1 => by (try dsimp only); rw [e0]; (try dsimp only); rw [if_pos (by omega), if_pos (by omega)]; rfl)
    rw [z1, z2]; rfl
  · show (if 0 ≤ b ∧ b < 48 then 0 else S 3 b) = 0
    rw [if_neg hb]; exact z3 b hb
  · show (if 0 ≤ t ∧ t < 4 then 0 else S 4 t) = 0
    rw [if_neg ht]; exact z4 t ht
theorem G_cut {V : Int} {S : Nat → Int → Int} (h : Good V S) : Good V (cutS S) := by
  refine G_drop ?_
  have e : ixZ tearS 2 S = tearS 1 (tearS 0 S) := by
    rw [show (2 : Int) = 1 + 1 by rfl, ixZ_succ _ _ (by omega), show (1 : Int) = 0 + 1 by rfl, ixZ_succ _ _ (by omega)]; rfl
  rw [e]
  exact G_tear (G_tear h 0) 1
theorem firstWF_rng {S : Nat → Int → Int} (h : 0 ≤ S 7 0) (kind tr se : Int) : firstWF S kind tr se = -9 ∨ (0 ≤ firstWF S kind tr se ∧ firstWF S kind tr se < S 7 0 ∧ S 1 (8 * firstWF S kind tr se + 3) = 0 ∧ S 1 (8 * firstWF S kind tr se) = kind ∧ S 1 (8 * firstWF S kind tr se + 1) = tr ∧ S 1 (8 * firstWF S kind tr se + 2) = se) :=
  fstZ_rng (fun o => S 1 (8 * o + 3) = 0 ∧ S 1 (8 * o) = kind ∧ S 1 (8 * o + 1) = tr ∧ S 1 (8 * o + 2) = se) h
/-- a head's doings keep the order -/
theorem G_head {V : Int} {S : Nat → Int → Int} (h : Good V S) {side : Int} (hs : 0 ≤ side ∧ side ≤ 1) : Good (V + 1) (useHdS S side) := by
  have hsec : 0 ≤ secF S side ∧ secF S side < 12 := by unfold secF; omega
  have a := h.1
  unfold useHdS
  generalize secF S side = sec at hsec ⊢
  unfold useHdB
  have hc := h.2.1
  have cH := hc (48 * side + 12 * S 6 0 + sec)
  have cT := hc (48 - 48 * side + 12 * S 6 0 + sec)
  have eH : 192 * side + 48 * S 6 0 + 4 * sec = 4 * (48 * side + 12 * S 6 0 + sec) := by omega
  have eT : 192 - 192 * side + 48 * S 6 0 + 4 * sec = 4 * (48 - 48 * side + 12 * S 6 0 + sec) := by omega
  have eT2 : 192 - 192 * side + 48 * S 6 0 + 4 * sec = 192 * (1 - side) + 48 * S 6 0 + 4 * sec := by omega
  have wv : (192 * side + 48 * S 6 0 + 4 * sec = -1 ∨ (0 ≤ 192 * side + 48 * S 6 0 + 4 * sec ∧ 192 * side + 48 * S 6 0 + 4 * sec < 384 ∧ (192 * side + 48 * S 6 0 + 4 * sec) % 4 = 0)) := by omega
  split
  · have g1 : Good (V + 1) (takeOS S (192 * side + 48 * S 6 0 + 4 * sec) (192 - 192 * side + 48 * S 6 0 + 4 * sec)) := by
      unfold takeOS
      rw [eH]
      rw [eT]
      exact G_setW (h.mono (by omega)) (by omega) (by omega)
    exact G_wr (G_setL g1 hs hsec (by omega)) wv
  · split
    · exact h.mono (by omega)
    · split
      · rename_i q
        rcases firstWF_rng a.2.2.1 1 (S 6 0) sec with z | ⟨f0, f1, f2, f3, f4, f5⟩
        · exact absurd z q
        · generalize firstWF S 1 (S 6 0) sec = o at f0 f1 f2 f3 f4 f5
          have ow := h.2.2.1 o
          unfold doWrS
          have g1 : Good (V + 1) (setWS S (192 * side + 48 * S 6 0 + 4 * sec) (S 1 (8 * o + 7)) (max (S 0 (192 * side + 48 * S 6 0 + 4 * sec + 1)) (S 0 (192 - 192 * side + 48 * S 6 0 + 4 * sec + 1)) + 1)) := by
            rw [eH, eT]
            refine G_setW (h.mono (by omega)) (by omega) ?_
            rw [Int.max_def]; split <;> omega
          have g2 := G_setL (side := side) (sec := sec) (late := 0) g1 hs hsec (by omega)
          have g3 := G_setL (side := 1 - side) (sec := sec) (late := 1) g2 (by omega) hsec (by omega)
          have g4 := G_wr (j := side) (v := 192 * side + 48 * S 6 0 + 4 * sec) g3 wv
          have g5 := G_fin (o := o) (side := side) (wo := S 1 (8 * o + 7)) g4 f0 f1 f2 hs (by omega) (fun _ => by omega)
          rw [eT2]
          rw [eT2] at g5
          exact g5
      · split
        · rename_i q1 q
          rcases firstWF_rng a.2.2.1 0 (S 6 0) sec with z | ⟨f0, f1, f2, f3, f4, f5⟩
          · exact absurd z q.1
          · refine (G_fin h f0 f1 f2 hs ?_ (fun z => by omega)).mono (by omega)
            rw [eH]; omega
        · exact h.mono (by omega)
theorem G_mvArm {V : Int} {S : Nat → Int → Int} (h : Good V S) : Good V (mvArmS S) := by
  unfold mvArmS
  split
  · exact h
  · rename_i q
    refine G_moves (G_arm h ?_) _
    have a := h.1.2.1
    revert q
    unfold mvDir
    (repeat' split) <;> omega
theorem G_tickS {V : Int} {S : Nat → Int → Int} (h : Good V S) : Good (V + 2) (doTickS S) := by
  unfold doTickS
  refine G_tick ?_ (by omega)
  unfold doTickH
  split
  · have := G_head (G_head (G_forg h) (side := 0) (by omega)) (side := 1) (by omega)
    exact this.mono (by omega)
  · exact (G_mvArm (G_forg h)).mono (by omega)
