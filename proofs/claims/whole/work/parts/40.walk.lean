/-! the reference's way through a text, as places, open groups and letters -/
def opQ (T : Int → Int) (n p : Int) : Int := p + (if sgF T n p = 40 then 1 else 2)
def opX (T : Int → Int) (n p : Int) : Int := if sgF T n p = 40 then 0 else sgF T n p - 49
def Go (T : Int → Int) (n : Int) : Nat → Int → List (Int × Int) → List Int → Int → List (Int × Int) → Prop
  | 0, p, K, ls, p', K' => (0 ≤ p ∧ p ≤ n) ∧ ls = [] ∧ p = p' ∧ K = K'
  | f + 1, p, K, ls, p', K' => (0 ≤ p ∧ p < n) ∧
      ((isLt (sgF T n p) ∧ aOK T n p ∧ ∃ ls1, ls = p :: ls1 ∧ Go T n f (aPl T n p) K ls1 p' K') ∨
       (sgF T n p = 41 ∧ ∃ q x K1, K = (q, x) :: K1 ∧ ((0 < x ∧ Go T n f q ((q, x - 1) :: K1) ls p' K') ∨ (x = 0 ∧ Go T n f (p + 1) K1 ls p' K'))) ∨
       ((sgF T n p = 40 ∨ (50 ≤ sgF T n p ∧ sgF T n p ≤ 57)) ∧ K.length ≤ 2 ∧ Go T n f (opQ T n p) ((opQ T n p, opX T n p) :: K) ls p' K'))
theorem Go_rng {T : Int → Int} {n : Int} : ∀ {f : Nat} {p : Int} {K : List (Int × Int)} {ls : List Int} {p' : Int} {K' : List (Int × Int)}, Go T n f p K ls p' K' → 0 ≤ p ∧ p ≤ n
  | 0, _, _, _, _, _, h => by rw [Go] at h; exact h.1
  | f + 1, _, _, _, _, _, h => by rw [Go] at h; exact ⟨h.1.1, by omega⟩
theorem Go_app {T : Int → Int} {n : Int} {g : Nat} {p1 p2 : Int} {K1 K2 : List (Int × Int)} {ls2 : List Int} (h2 : Go T n g p1 K1 ls2 p2 K2) : ∀ {f : Nat} {p : Int} {K : List (Int × Int)} {ls : List Int}, Go T n f p K ls p1 K1 → Go T n (f + g) p K (ls ++ ls2) p2 K2
  | 0, p, K, ls, h => by
    rw [Go] at h
    obtain ⟨h0, e1, e2, e3⟩ := h
    rw [e1, e2, e3, Nat.zero_add]
    exact h2
  | f + 1, p, K, ls, h => by
    rw [Go] at h
    obtain ⟨h0, h⟩ := h
    rw [show f + 1 + g = (f + g) + 1 from by omega, Go]
    refine ⟨h0, ?_⟩
    rcases h with ⟨a1, a2, ls1, a3, a4⟩ | ⟨a1, q, x, K1', a2, a3⟩ | ⟨a1, a2, a3⟩
    · refine Or.inl ⟨a1, a2, ls1 ++ ls2, ?_, Go_app h2 a4⟩
      rw [a3]
      rfl
    · refine Or.inr (Or.inl ⟨a1, q, x, K1', a2, ?_⟩)
      rcases a3 with ⟨b1, b2⟩ | ⟨b1, b2⟩
      · exact Or.inl ⟨b1, Go_app h2 b2⟩
      · exact Or.inr ⟨b1, Go_app h2 b2⟩
    · exact Or.inr (Or.inr ⟨a1, a2, Go_app h2 a3⟩)
def rep (x : Nat) (M : List Int) : List Int := match x with
  | 0 => []
  | x + 1 => rep x M ++ M
theorem rep_comm (M : List Int) : ∀ x : Nat, rep x M ++ M = M ++ rep x M
  | 0 => by show [] ++ M = M ++ []; rw [List.append_nil, List.nil_append]
  | x + 1 => by
    show (rep x M ++ M) ++ M = M ++ (rep x M ++ M)
    rw [← List.append_assoc, ← rep_comm M x]
theorem rep_mem {M : List Int} {l : Int} : ∀ {x : Nat}, l ∈ rep x M → l ∈ M
  | 0, h => by cases h
  | x + 1, h => by
    have h : l ∈ rep x M ++ M := h
    rcases List.mem_append.mp h with z | z
    · exact rep_mem z
    · exact z
/-- from the place q, below dep open groups, the way comes to the place p with the letters L and the further open groups F -/
def Reach (T : Int → Int) (n : Int) (dep : Nat) (q : Int) (L : List Int) (p : Int) (F : List (Int × Int)) : Prop := ∀ K : List (Int × Int), K.length = dep → ∃ f, Go T n f q K L p (F ++ K)
theorem Reach_then {T : Int → Int} {n : Int} {dep : Nat} {q p p' : Int} {L L2 : List Int} {F F' : List (Int × Int)} (h : Reach T n dep q L p F) (h2 : ∀ K : List (Int × Int), K.length = dep → ∃ g, Go T n g p (F ++ K) L2 p' (F' ++ K)) : Reach T n dep q (L ++ L2) p' F' := fun K hK => by
  obtain ⟨f, hf⟩ := h K hK
  obtain ⟨g, hg⟩ := h2 K hK
  exact ⟨f + g, Go_app hg hf⟩
/-- every open group, from its start on: (place behind its bracket, further turns, letters before it), the inmost first -/
def InvG (T : Int → Int) (n p : Int) (L : List Int) : List (Int × Int) → List (Int × Int × Nat) → Prop
  | F, [] => Reach T n 0 0 L p F
  | F, (q, x, len) :: G => Reach T n (G.length + 1) q (L.drop len) p F ∧ 0 ≤ x ∧ len ≤ L.length ∧ InvG T n p L (F ++ [(q, x)]) G
/-- a step that holds below every number of open groups carries the invariant on -/
theorem Inv_step {T : Int → Int} {n p p' : Int} {L L2 : List Int} {a b : List (Int × Int)} : ∀ {G : List (Int × Int × Nat)} {F : List (Int × Int)}, (∀ K : List (Int × Int), K.length = F.length + G.length → ∃ g, Go T n g p (a ++ K) L2 p' (b ++ K)) → InvG T n p L (a ++ F) G → InvG T n p' (L ++ L2) (b ++ F) G
  | [], F, hs, h => by
    rw [InvG] at h ⊢
    refine Reach_then h (fun K hK => ?_)
    obtain ⟨g, hg⟩ := hs (F ++ K) (by rw [List.length_append, hK]; rfl)
    exact ⟨g, by rw [List.append_assoc, List.append_assoc]; exact hg⟩
  | (q, x, len) :: G, F, hs, h => by
    rw [InvG] at h ⊢
    obtain ⟨h1, h2, h3, h4⟩ := h
    refine ⟨?_, h2, by rw [List.length_append]; omega, ?_⟩
    · rw [List.drop_append_of_le_length h3]
      refine Reach_then h1 (fun K hK => ?_)
      obtain ⟨g, hg⟩ := hs (F ++ K) (by rw [List.length_append, hK, List.length_cons])
      exact ⟨g, by rw [List.append_assoc, List.append_assoc]; exact hg⟩
    · rw [List.append_assoc] at h4 ⊢
      refine Inv_step (G := G) (F := F ++ [(q, x)]) (fun K hK => ?_) h4
      refine hs K ?_
      rw [hK, List.length_append, List.length_cons, List.length_cons, List.length_nil]
      omega
theorem Inv_letter {T : Int → Int} {n p : Int} {L : List Int} {G : List (Int × Int × Nat)} (h : InvG T n p L [] G) (hp : 0 ≤ p ∧ p < n) (hl : isLt (sgF T n p)) (ha : aOK T n p) (hq : 0 ≤ aPl T n p ∧ aPl T n p ≤ n) : InvG T n (aPl T n p) (L ++ [p]) [] G := by
  refine Inv_step (a := []) (b := []) (F := []) (fun K hK => ⟨1, ?_⟩) h
  rw [Go]
  refine ⟨hp, Or.inl ⟨hl, ha, [], rfl, ?_⟩⟩
  rw [Go]
  exact ⟨hq, rfl, rfl, rfl⟩
theorem Inv_open {T : Int → Int} {n p : Int} {L : List Int} {G : List (Int × Int × Nat)} (h : InvG T n p L [] G) (hp : 0 ≤ p ∧ p < n) (hc : sgF T n p = 40 ∨ (50 ≤ sgF T n p ∧ sgF T n p ≤ 57)) (hG : G.length ≤ 2) (hq : 0 ≤ opQ T n p ∧ opQ T n p ≤ n) : InvG T n (opQ T n p) L [] ((opQ T n p, opX T n p, L.length) :: G) := by
  rw [InvG]
  refine ⟨fun K hK => ⟨0, ?_⟩, ?_, Nat.le_refl _, ?_⟩
  · rw [Go]
    exact ⟨hq, List.drop_eq_nil_of_le (Nat.le_refl _), rfl, rfl⟩
  · unfold opX
    split <;> omega
  · have t := Inv_step (L2 := []) (p' := opQ T n p) (a := []) (b := [(opQ T n p, opX T n p)]) (F := []) (G := G) (fun K hK => ⟨1, by
      rw [Go]
      refine ⟨hp, Or.inr (Or.inr ⟨hc, ?_, ?_⟩)⟩
      · show K.length ≤ 2
        rw [hK, List.length_nil]
        omega
      · rw [Go]
        exact ⟨hq, rfl, rfl, rfl⟩⟩) h
    rw [List.append_nil] at t
    exact t
theorem Go_close {T : Int → Int} {n p q : Int} {M : List Int} {dep : Nat} (hp : 0 ≤ p ∧ p < n) (hc : sgF T n p = 41) (hr : Reach T n (dep + 1) q M p []) : ∀ (x : Nat) (K : List (Int × Int)), K.length = dep → ∃ f, Go T n f p ((q, (x : Int)) :: K) (rep x M) (p + 1) K
  | 0, K, hK => ⟨1, by
    rw [Go]
    refine ⟨hp, Or.inr (Or.inl ⟨hc, q, ((0 : Nat) : Int), K, rfl, Or.inr ⟨rfl, ?_⟩⟩)⟩
    rw [Go]
    exact ⟨by omega, rfl, rfl, rfl⟩⟩
  | x + 1, K, hK => by
    obtain ⟨f, hf⟩ := hr ((q, (x : Int)) :: K) (by rw [List.length_cons, hK])
    obtain ⟨g, hg⟩ := Go_close hp hc hr x K hK
    refine ⟨(f + g) + 1, ?_⟩
    rw [Go]
    refine ⟨hp, Or.inr (Or.inl ⟨hc, q, ((x + 1 : Nat) : Int), K, rfl, Or.inl ⟨by omega, ?_⟩⟩)⟩
    rw [show ((x + 1 : Nat) : Int) - 1 = (x : Int) from by omega]
    show Go T n (f + g) q ((q, (x : Int)) :: K) (rep x M ++ M) (p + 1) K
    rw [rep_comm]
    exact Go_app hg hf
theorem Inv_close {T : Int → Int} {n p q x : Int} {L : List Int} {len : Nat} {G : List (Int × Int × Nat)} (h : InvG T n p L [] ((q, x, len) :: G)) (hp : 0 ≤ p ∧ p < n) (hc : sgF T n p = 41) : InvG T n (p + 1) (L ++ rep x.toNat (L.drop len)) [] G := by
  rw [InvG] at h
  obtain ⟨h1, h2, h3, h4⟩ := h
  refine Inv_step (a := [(q, x)]) (b := []) (F := []) (fun K hK => ?_) h4
  obtain ⟨f, hf⟩ := Go_close hp hc h1 x.toNat K (by rw [hK, List.length_nil]; omega)
  rw [show ((x.toNat : Nat) : Int) = x from by omega] at hf
  exact ⟨f, hf⟩
/-! the class's row of letters -/
def LL (P : Nat → Int → Int) (L : List Int) : Prop := P 4 0 = min (L.length : Int) 101 ∧ ∀ k : Nat, (k : Int) < P 4 0 → P 3 (k : Int) = L.getD k 0
theorem gd_lt {L X : List Int} {k : Nat} (h : k < L.length) : (L ++ X).getD k 0 = L.getD k 0 := by
  rw [List.getD_eq_getElem?_getD, List.getD_eq_getElem?_getD, List.getElem?_append_left h]
theorem gd_eq (L : List Int) (y : Int) : (L ++ [y]).getD L.length 0 = y := by
  rw [List.getD_eq_getElem?_getD, List.getElem?_append_right (Nat.le_refl _), Nat.sub_self]
  rfl
theorem gd_drop (L : List Int) (m i : Nat) : (L.drop m).getD i 0 = L.getD (m + i) 0 := by
  rw [List.getD_eq_getElem?_getD, List.getD_eq_getElem?_getD, List.getElem?_drop]
theorem LL_P {P P' : Nat → Int → Int} {L : List Int} (h : LL P L) (h3 : P' 3 = P 3) (h4 : P' 4 = P 4) : LL P' L := by
  unfold LL
  rw [h3, h4]
  exact h
theorem LL_as {P : Nat → Int → Int} {L : List Int} (h : LL P L) (y : Int) : LL (asC P y) (L ++ [y]) := by
  obtain ⟨h1, h2⟩ := h
  have le : ((L ++ [y]).length : Int) = (L.length : Int) + 1 := by rw [List.length_append]; rfl
  unfold LL asC
  rw [le]
  by_cases q : P 4 0 < 101
  · rw [if_pos q, up2_eq]
    refine ⟨by omega, fun k hk => ?_⟩
    show (if (k : Int) = P 4 0 then y else P 3 (k : Int)) = _
    by_cases e : (k : Int) = P 4 0
    · have e2 : k = L.length := by omega
      rw [if_pos e, e2, gd_eq]
    · rw [if_neg e, gd_lt (by omega)]
      exact h2 k (by omega)
  · rw [if_neg q]
    refine ⟨by omega, fun k hk => ?_⟩
    rw [gd_lt (by omega)]
    exact h2 k hk
theorem as_keep (P : Nat → Int → Int) (y : Int) : P 4 0 ≤ asC P y 4 0 ∧ ∀ j : Int, j < P 4 0 → asC P y 3 j = P 3 j := by
  unfold asC
  split
  · refine ⟨by rw [up2_eq]; omega, fun j hj => ?_⟩
    show (if j = P 4 0 then y else P 3 j) = P 3 j
    rw [if_neg (by omega)]
  · exact ⟨Int.le_refl _, fun _ _ => rfl⟩
theorem LL_in : ∀ (M : List Int) {U : Nat → Int → Int} {X : List Int} {st : Int}, LL U X → 0 ≤ st → st + (M.length : Int) ≤ U 4 0 → (∀ i : Nat, i < M.length → U 3 (st + (i : Int)) = M.getD i 0) → LL (inF M.length U st) (X ++ M) ∧ U 4 0 ≤ inF M.length U st 4 0 ∧ ∀ j : Int, j < U 4 0 → inF M.length U st 3 j = U 3 j
  | [], U, X, st, h, _, _, _ => by
    rw [List.append_nil]
    exact ⟨h, Int.le_refl _, fun _ _ => rfl⟩
  | y :: ys, U, X, st, h, h0, h1, h2 => by
    have l : (((y :: ys).length : Nat) : Int) = (ys.length : Int) + 1 := by rw [List.length_cons]; omega
    rw [l] at h1
    have y0 : U 3 st = y := by
      have t := h2 0 (by rw [List.length_cons]; omega)
      rw [show st + ((0 : Nat) : Int) = st from by omega] at t
      exact t
    obtain ⟨k1, k2⟩ := as_keep U y
    have t := LL_in ys (U := asC U y) (X := X ++ [y]) (st := st + 1) (LL_as h y) (by omega) (by omega) (fun i hi => by
      have t := h2 (i + 1) (by rw [List.length_cons]; omega)
      rw [k2 _ (by omega), show st + 1 + (i : Int) = st + ((i + 1 : Nat) : Int) from by omega, t]
      rfl)
    have e : inF (y :: ys).length U st = inF ys.length (asC U y) (st + 1) := by
      rw [List.length_cons, inF, y0]
    rw [e, show X ++ y :: ys = (X ++ [y]) ++ ys from by rw [List.append_assoc]; rfl]
    exact ⟨t.1, by omega, fun j hj => by rw [t.2.2 j (by omega), k2 j hj]⟩
theorem in_full : ∀ (m : Nat) {U : Nat → Int → Int} (st : Int), ¬ U 4 0 < 101 → inF m U st = U
  | 0, _, _, _ => rfl
  | m + 1, U, st, h => by
    have e : asC U (U 3 st) = U := if_neg h
    rw [inF, e]
    exact in_full m (st + 1) h
theorem LL_rep {P P0 : Nat → Int → Int} {L : List Int} {len : Nat} {st : Int} (h : LL P L) (h3 : P0 3 = P 3) (h4 : P0 4 = P 4) (hl : len ≤ L.length) (hs : st = min (len : Int) 101) : ∀ x : Nat, LL (itN (rpC (P 4 0) st) x P0) (L ++ rep x (L.drop len)) := by
  have h0 : LL P0 L := LL_P h h3 h4
  by_cases q : P 4 0 < 101
  · have l1 : P 4 0 = (L.length : Int) := by have := h.1; omega
    have l2 : st = (len : Int) := by omega
    have key : ∀ x : Nat, LL (itN (rpC (P 4 0) st) x P0) (L ++ rep x (L.drop len)) ∧ P 4 0 ≤ itN (rpC (P 4 0) st) x P0 4 0 ∧ ∀ j : Int, j < P 4 0 → itN (rpC (P 4 0) st) x P0 3 j = P 3 j := by
      intro x
      induction x with
      | zero =>
        show LL P0 (L ++ []) ∧ P 4 0 ≤ P0 4 0 ∧ ∀ j : Int, j < P 4 0 → P0 3 j = P 3 j
        rw [List.append_nil, h3, h4]
        exact ⟨h0, Int.le_refl _, fun _ _ => rfl⟩
      | succ x ih =>
        obtain ⟨i1, i2, i3⟩ := ih
        have e : itN (rpC (P 4 0) st) (x + 1) P0 = inF (L.drop len).length (itN (rpC (P 4 0) st) x P0) st := by
          show inF (P 4 0 - st).toNat (itN (rpC (P 4 0) st) x P0) st = _
          rw [List.length_drop, show (P 4 0 - st).toNat = L.length - len from by omega]
        have ld : (((L.drop len).length : Nat) : Int) = (L.length : Int) - (len : Int) := by rw [List.length_drop]; omega
        have t := LL_in (L.drop len) (st := st) i1 (by omega) (by omega) (fun i hi => by
          have hi2 : i < L.length - len := by rw [List.length_drop] at hi; exact hi
          rw [i3 _ (by omega), gd_drop, show st + (i : Int) = ((len + i : Nat) : Int) from by omega]
          exact h.2 (len + i) (by omega))
        rw [e]
        refine ⟨?_, by omega, fun j hj => by rw [t.2.2 j (by omega), i3 j hj]⟩
        show LL _ (L ++ (rep x (L.drop len) ++ L.drop len))
        rw [← List.append_assoc]
        exact t.1
    exact fun x => (key x).1
  · have key : ∀ x : Nat, itN (rpC (P 4 0) st) x P0 = P0 := by
      intro x
      induction x with
      | zero => rfl
      | succ x ih =>
        show rpC (P 4 0) st (itN (rpC (P 4 0) st) x P0) = P0
        rw [ih]
        exact in_full _ st (by rw [h4]; exact q)
    intro x
    rw [key x]
    obtain ⟨a1, a2⟩ := h0
    rw [h4] at a1
    refine ⟨?_, fun k hk => ?_⟩
    · rw [h4, List.length_append]
      omega
    · rw [h4] at hk
      rw [gd_lt (by omega)]
      exact a2 k (by rw [h4]; exact hk)
