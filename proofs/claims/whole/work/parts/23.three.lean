/-! the whole object: itself, the state, the forecast, the history with its states, the program, one behind the other -/
def rg (a b : Nat) : Nat → Prop := fun q => a ≤ q ∧ q < b
theorem rg_sub {a b c d q : Nat} (h : rg a b q) (h1 : c ≤ a) (h2 : b ≤ d) : rg c d q := ⟨Nat.le_trans h1 h.1, Nat.lt_of_lt_of_le h.2 h2⟩
abbrev rN (o : Nat) : Nat → Nat := fun j => o + 1 + j
abbrev rF (o : Nat) : Nat → Nat := fun j => o + 7 + j
abbrev rH (o : Nat) : Nat → Nat := fun j => o + 13 + j
abbrev rS (o : Nat) : Nat → Nat → Nat := fun i j => o + 15 + 6 * i + j
abbrev rP (o : Nat) : Nat → Nat := fun j => o + 51 + j
def uset (U : Nat → Nat → Int → Int) (k : Nat) (S : Nat → Int → Int) : Nat → Nat → Int → Int := fun i => if i = k then S else U i
def W3s (o : Nat) (cI : ClassId) (U : Nat → Nat → Int → Int) : va_W := tW_X1 (rS o 0) cI (U 0) ++ (tW_X1 (rS o 1) cI (U 1) ++ (tW_X1 (rS o 2) cI (U 2) ++ (tW_X1 (rS o 3) cI (U 3) ++ (tW_X1 (rS o 4) cI (U 4) ++ tW_X1 (rS o 5) cI (U 5)))))
def W3o (o : Nat) : va_W := [(o, .inr (3, [.ref (o + 1), .ref (o + 7), .ref (o + 13), .ref (o + 51)]))]
def W3 (o : Nat) (cI cQ : ClassId) (U : Nat → Nat → Int → Int) (Sh Sn Sf Sp : Nat → Int → Int) : va_W := W3o o ++ (tW_X1 (rN o) cI Sn ++ (tW_X1 (rF o) cI Sf ++ (tW_X0 (rH o) (rS o) cQ [] Sh ++ (W3s o cI U ++ tW_X2 (rP o) cI Sp))))
theorem rng_X1 {b k : Nat} {cI : ClassId} {S : Nat → Int → Int} {q : Nat × va_E} (h : (tW_X1 (fun j => b + j) cI S)[k]? = some q) : rg b (b + 6) q.1 ∧ q.1 = b + k := by
  rcases k with _ | _ | _ | _ | _ | _ | k <;> first | (cases h; exact ⟨⟨by show b ≤ b + _; omega, by show b + _ < b + 6; omega⟩, rfl⟩) | (cases h)
theorem rng_X2 {b k : Nat} {cI : ClassId} {S : Nat → Int → Int} {q : Nat × va_E} (h : (tW_X2 (fun j => b + j) cI S)[k]? = some q) : rg b (b + 6) q.1 ∧ q.1 = b + k := by
  rcases k with _ | _ | _ | _ | _ | _ | k <;> first | (cases h; exact ⟨⟨by show b ≤ b + _; omega, by show b + _ < b + 6; omega⟩, rfl⟩) | (cases h)
theorem rng_X0 {b k : Nat} {pd : Nat → Nat → Nat} {cQ : ClassId} {S : Nat → Int → Int} {q : Nat × va_E} (h : (tW_X0 (fun j => b + j) pd cQ [] S)[k]? = some q) : rg b (b + 2) q.1 ∧ q.1 = b + k := by
  rcases k with _ | _ | k <;> first | (cases h; exact ⟨⟨by show b ≤ b + _; omega, by show b + _ < b + 2; omega⟩, rfl⟩) | (cases h)
theorem rng_o {o k : Nat} {q : Nat × va_E} (h : (W3o o)[k]? = some q) : q.1 = o := by
  rcases k with _ | k <;> first | (cases h; rfl) | (cases h)
theorem D_X1 (b : Nat) (cI : ClassId) (S : Nat → Int → Int) : va_D (rg b (b + 6)) (tW_X1 (fun j => b + j) cI S) :=
  ⟨fun i j p q hi hj e => by have a1 := (rng_X1 hi).2; have a2 := (rng_X1 hj).2; omega, fun k q hk => (rng_X1 hk).1⟩
theorem D_X2 (b : Nat) (cI : ClassId) (S : Nat → Int → Int) : va_D (rg b (b + 6)) (tW_X2 (fun j => b + j) cI S) :=
  ⟨fun i j p q hi hj e => by have a1 := (rng_X2 hi).2; have a2 := (rng_X2 hj).2; omega, fun k q hk => (rng_X2 hk).1⟩
theorem D_X0 (b : Nat) (pd : Nat → Nat → Nat) (cQ : ClassId) (S : Nat → Int → Int) : va_D (rg b (b + 2)) (tW_X0 (fun j => b + j) pd cQ [] S) :=
  ⟨fun i j p q hi hj e => by have a1 := (rng_X0 hi).2; have a2 := (rng_X0 hj).2; omega, fun k q hk => (rng_X0 hk).1⟩
theorem D_app {A1 A2 : Nat → Prop} {w1 w2 : va_W} (h1 : va_D A1 w1) (h2 : va_D A2 w2) (h : ∀ q, A1 q → A2 q → False) : va_D (fun q => A1 q ∨ A2 q) (w1 ++ w2) := by
  have key : ∀ (k : Nat) (q : Nat × va_E), (w1 ++ w2)[k]? = some q → (w1[k]? = some q ∧ k < w1.length) ∨ (w1.length ≤ k ∧ w2[k - w1.length]? = some q) := by
    intro k q hk
    by_cases hl : k < w1.length
    · rw [List.getElem?_append_left hl] at hk; exact Or.inl ⟨hk, hl⟩
    · rw [List.getElem?_append_right (by omega)] at hk; exact Or.inr ⟨by omega, hk⟩
  refine ⟨fun i j x y hi hj hxy => ?_, fun k q hk => ?_⟩
  · rcases key i x hi with ⟨a1, b1⟩ | ⟨b1, a1⟩ <;> rcases key j y hj with ⟨a2, b2⟩ | ⟨b2, a2⟩
    · exact h1.1 i j x y a1 a2 hxy
    · exact (h x.1 (h1.2 i x a1) (hxy ▸ h2.2 _ y a2)).elim
    · exact (h x.1 (hxy ▸ h1.2 j y a2) (h2.2 _ x a1)).elim
    · have := h2.1 _ _ x y a1 a2 hxy; omega
  · rcases key k q hk with ⟨a1, -⟩ | ⟨-, a1⟩
    · exact Or.inl (h1.2 k q a1)
    · exact Or.inr (h2.2 _ q a1)
section W3S
variable {D : va_G} {cl : List vw_C} {H H1 : Heap} {o : Nat} {cI cQ : ClassId} {U : Nat → Nat → Int → Int} {Sh Sn Sf Sp S' S2 : Nat → Int → Int}
theorem s_o (h : va_P D cl (W3 o cI cQ U Sh Sn Sf Sp) H) : va_P D cl (W3o o) H := z_appL h
theorem s_n (h : va_P D cl (W3 o cI cQ U Sh Sn Sf Sp) H) : va_P D cl (tW_X1 (rN o) cI Sn) H := z_appL (z_appR h)
theorem s_f (h : va_P D cl (W3 o cI cQ U Sh Sn Sf Sp) H) : va_P D cl (tW_X1 (rF o) cI Sf) H := z_appL (z_appR (z_appR h))
theorem s_h (h : va_P D cl (W3 o cI cQ U Sh Sn Sf Sp) H) : va_P D cl (tW_X0 (rH o) (rS o) cQ [] Sh) H := z_appL (z_appR (z_appR (z_appR h)))
theorem s_u (h : va_P D cl (W3 o cI cQ U Sh Sn Sf Sp) H) : va_P D cl (W3s o cI U) H := z_appL (z_appR (z_appR (z_appR (z_appR h))))
theorem s_p (h : va_P D cl (W3 o cI cQ U Sh Sn Sf Sp) H) : va_P D cl (tW_X2 (rP o) cI Sp) H := z_appR (z_appR (z_appR (z_appR (z_appR h))))
theorem s_s (h : va_P D cl (W3s o cI U) H) (i : Nat) (hi : i < 6) : va_P D cl (tW_X1 (rS o i) cI (U i)) H := by
  rcases i with _ | _ | _ | _ | _ | _ | i
  · exact z_appL h
  · exact z_appL (z_appR h)
  · exact z_appL (z_appR (z_appR h))
  · exact z_appL (z_appR (z_appR (z_appR h)))
  · exact z_appL (z_appR (z_appR (z_appR (z_appR h))))
  · exact z_appR (z_appR (z_appR (z_appR (z_appR h))))
  · omega
theorem m_s (h : ∀ i, i < 6 → va_P D cl (tW_X1 (rS o i) cI (U i)) H) : va_P D cl (W3s o cI U) H :=
  va_P.app (h 0 (by decide)) (va_P.app (h 1 (by decide)) (va_P.app (h 2 (by decide)) (va_P.app (h 3 (by decide)) (va_P.app (h 4 (by decide)) (h 5 (by decide))))))
theorem m_3 (a0 : va_P D cl (W3o o) H) (a1 : va_P D cl (tW_X1 (rN o) cI Sn) H) (a2 : va_P D cl (tW_X1 (rF o) cI Sf) H) (a3 : va_P D cl (tW_X0 (rH o) (rS o) cQ [] Sh) H) (a4 : va_P D cl (W3s o cI U) H) (a5 : va_P D cl (tW_X2 (rP o) cI Sp) H) : va_P D cl (W3 o cI cQ U Sh Sn Sf Sp) H :=
  va_P.app a0 (va_P.app a1 (va_P.app a2 (va_P.app a3 (va_P.app a4 a5))))
variable {A1 : Nat → Prop}
theorem k_o (h : va_P D cl (W3o o) H) (hk : ∀ q : Nat, q < H.size → ¬ A1 q → H1[q]? = H[q]?) (hn : ¬ A1 o) : va_P D cl (W3o o) H1 := z_kept h hk (fun k q hq => by rw [rng_o hq]; exact hn)
theorem k_1 {b : Nat} (h : va_P D cl (tW_X1 (fun j => b + j) cI Sn) H) (hk : ∀ q : Nat, q < H.size → ¬ A1 q → H1[q]? = H[q]?) (hn : ∀ q, rg b (b + 6) q → ¬ A1 q) : va_P D cl (tW_X1 (fun j => b + j) cI Sn) H1 := z_kept h hk (fun k q hq => hn _ (rng_X1 hq).1)
theorem k_2 {b : Nat} (h : va_P D cl (tW_X2 (fun j => b + j) cI Sn) H) (hk : ∀ q : Nat, q < H.size → ¬ A1 q → H1[q]? = H[q]?) (hn : ∀ q, rg b (b + 6) q → ¬ A1 q) : va_P D cl (tW_X2 (fun j => b + j) cI Sn) H1 := z_kept h hk (fun k q hq => hn _ (rng_X2 hq).1)
theorem k_0 {b : Nat} {pd : Nat → Nat → Nat} (h : va_P D cl (tW_X0 (fun j => b + j) pd cQ [] Sn) H) (hk : ∀ q : Nat, q < H.size → ¬ A1 q → H1[q]? = H[q]?) (hn : ∀ q, rg b (b + 2) q → ¬ A1 q) : va_P D cl (tW_X0 (fun j => b + j) pd cQ [] Sn) H1 := z_kept h hk (fun k q hq => hn _ (rng_X0 hq).1)
theorem k_u (h : va_P D cl (W3s o cI U) H) (hk : ∀ q : Nat, q < H.size → ¬ A1 q → H1[q]? = H[q]?) (hn : ∀ q, rg (o + 15) (o + 51) q → ¬ A1 q) : va_P D cl (W3s o cI U) H1 :=
  m_s (fun i hi => k_1 (s_s h i hi) hk (fun q z => hn q (rg_sub z (by omega) (by omega))))
theorem b_n (h : va_P D cl (W3 o cI cQ U Sh Sn Sf Sp) H) (hk : ∀ q : Nat, q < H.size → ¬ rg (o + 1) (o + 7) q → H1[q]? = H[q]?) (h1 : va_P D cl (tW_X1 (rN o) cI S') H1) : va_P D cl (W3 o cI cQ U Sh S' Sf Sp) H1 :=
  m_3 (k_o (s_o h) hk (fun z => by have := z.1; omega)) h1 (k_1 (s_f h) hk (fun q z y => by have := z.1; have := y.2; omega)) (k_0 (s_h h) hk (fun q z y => by have := z.1; have := y.2; omega)) (k_u (s_u h) hk (fun q z y => by have := z.1; have := y.2; omega)) (k_2 (s_p h) hk (fun q z y => by have := z.1; have := y.2; omega))
theorem b_f (h : va_P D cl (W3 o cI cQ U Sh Sn Sf Sp) H) (hk : ∀ q : Nat, q < H.size → ¬ rg (o + 7) (o + 13) q → H1[q]? = H[q]?) (h1 : va_P D cl (tW_X1 (rF o) cI S') H1) : va_P D cl (W3 o cI cQ U Sh Sn S' Sp) H1 :=
  m_3 (k_o (s_o h) hk (fun z => by have := z.1; omega)) (k_1 (s_n h) hk (fun q z y => by have := z.2; have := y.1; omega)) h1 (k_0 (s_h h) hk (fun q z y => by have := z.1; have := y.2; omega)) (k_u (s_u h) hk (fun q z y => by have := z.1; have := y.2; omega)) (k_2 (s_p h) hk (fun q z y => by have := z.1; have := y.2; omega))
theorem b_h (h : va_P D cl (W3 o cI cQ U Sh Sn Sf Sp) H) (hk : ∀ q : Nat, q < H.size → ¬ rg (o + 13) (o + 15) q → H1[q]? = H[q]?) (h1 : va_P D cl (tW_X0 (rH o) (rS o) cQ [] S') H1) : va_P D cl (W3 o cI cQ U S' Sn Sf Sp) H1 :=
  m_3 (k_o (s_o h) hk (fun z => by have := z.1; omega)) (k_1 (s_n h) hk (fun q z y => by have := z.2; have := y.1; omega)) (k_1 (s_f h) hk (fun q z y => by have := z.2; have := y.1; omega)) h1 (k_u (s_u h) hk (fun q z y => by have := z.1; have := y.2; omega)) (k_2 (s_p h) hk (fun q z y => by have := z.1; have := y.2; omega))
theorem b_p (h : va_P D cl (W3 o cI cQ U Sh Sn Sf Sp) H) (hk : ∀ q : Nat, q < H.size → ¬ rg (o + 51) (o + 57) q → H1[q]? = H[q]?) (h1 : va_P D cl (tW_X2 (rP o) cI S') H1) : va_P D cl (W3 o cI cQ U Sh Sn Sf S') H1 :=
  m_3 (k_o (s_o h) hk (fun z => by have := z.1; omega)) (k_1 (s_n h) hk (fun q z y => by have := z.2; have := y.1; omega)) (k_1 (s_f h) hk (fun q z y => by have := z.2; have := y.1; omega)) (k_0 (s_h h) hk (fun q z y => by have := z.2; have := y.1; omega)) (k_u (s_u h) hk (fun q z y => by have := z.2; have := y.1; omega)) h1
theorem D_fn (o : Nat) (cI : ClassId) (S S2 : Nat → Int → Int) : va_D (fun q => rg (o + 7) (o + 13) q ∨ rg (o + 1) (o + 7) q) (tW_B (rF o) (rN o) cI S S2) :=
  D_app (D_X1 (o + 7) cI S) (D_X1 (o + 1) cI S2) (fun q z y => by have := z.1; have := y.2; omega)
theorem b_fn (h : va_P D cl (W3 o cI cQ U Sh Sn Sf Sp) H) (hk : ∀ q : Nat, q < H.size → ¬ (rg (o + 7) (o + 13) q ∨ rg (o + 1) (o + 7) q) → H1[q]? = H[q]?) (h1 : va_P D cl (tW_B (rF o) (rN o) cI S' S2) H1) : va_P D cl (W3 o cI cQ U Sh S2 S' Sp) H1 :=
  m_3 (k_o (s_o h) hk (fun z => by rcases z with z | z <;> have := z.1 <;> omega)) (z_appR h1) (z_appL h1) (k_0 (s_h h) hk (fun q z y => by rcases y with y | y <;> have := z.1 <;> have := y.2 <;> omega)) (k_u (s_u h) hk (fun q z y => by rcases y with y | y <;> have := z.1 <;> have := y.2 <;> omega)) (k_2 (s_p h) hk (fun q z y => by rcases y with y | y <;> have := z.1 <;> have := y.2 <;> omega))
/-- the cells of a history, one of its states and the state -/
def aK (o k : Nat) : Nat → Prop := fun q => rg (o + 13) (o + 15) q ∨ (rg (o + 15 + 6 * k) (o + 15 + 6 * k + 6) q ∨ rg (o + 1) (o + 7) q)
theorem D_hk {k : Nat} (hk : k < 6) (T S S2 : Nat → Int → Int) : va_D (aK o k) (tW_X0 (rH o) (rS o) cQ (tW_B (rS o k) (rN o) cI S S2) T) :=
  D_app (w1 := tW_X0 (rH o) (rS o) cQ [] T) (D_X0 (o + 13) (rS o) cQ T) (D_app (D_X1 (o + 15 + 6 * k) cI S) (D_X1 (o + 1) cI S2) (fun q z y => by have := z.1; have := y.2; omega)) (fun q z y => by rcases y with y | y <;> have := z.1 <;> have := y.2 <;> have := z.2 <;> have := y.1 <;> omega)
theorem D_hk2 {k : Nat} (hk : k < 6) (T S S2 : Nat → Int → Int) : va_D (aK o k) (tW_X0 (rH o) (rS o) cQ (tW_B (rN o) (rS o k) cI S2 S) T) := by
  have t := D_app (w1 := tW_X0 (rH o) (rS o) cQ [] T) (D_X0 (o + 13) (rS o) cQ T) (D_app (D_X1 (o + 1) cI S2) (D_X1 (o + 15 + 6 * k) cI S) (fun q z y => by have := z.2; have := y.1; omega)) (fun q z y => by rcases y with y | y <;> have := z.1 <;> have := y.2 <;> have := z.2 <;> have := y.1 <;> omega)
  exact ⟨t.1, fun j q hq => (t.2 j q hq).elim Or.inl (fun z => z.elim (fun y => Or.inr (Or.inr y)) (fun y => Or.inr (Or.inl y)))⟩
theorem e_hk {k : Nat} (hk : k < 6) (h : va_P D cl (W3 o cI cQ U Sh Sn Sf Sp) H) : va_P D cl (tW_X0 (rH o) (rS o) cQ (tW_B (rS o k) (rN o) cI (U k) Sn) Sh) H := va_P.app (w1 := tW_X0 (rH o) (rS o) cQ [] Sh) (s_h h) (va_P.app (s_s (s_u h) k hk) (s_n h))
theorem e_hk2 {k : Nat} (hk : k < 6) (h : va_P D cl (W3 o cI cQ U Sh Sn Sf Sp) H) : va_P D cl (tW_X0 (rH o) (rS o) cQ (tW_B (rN o) (rS o k) cI Sn (U k)) Sh) H := va_P.app (w1 := tW_X0 (rH o) (rS o) cQ [] Sh) (s_h h) (va_P.app (s_n h) (s_s (s_u h) k hk))
theorem b_hk0 {k : Nat} (h : va_P D cl (W3 o cI cQ U Sh Sn Sf Sp) H) (hk : ∀ q : Nat, q < H.size → ¬ aK o k q → H1[q]? = H[q]?) (hk6 : k < 6) (h1 : va_P D cl (tW_X0 (rH o) (rS o) cQ [] Sh) H1) (h2 : va_P D cl (tW_X1 (rS o k) cI S') H1) (h3 : va_P D cl (tW_X1 (rN o) cI S2) H1) : va_P D cl (W3 o cI cQ (uset U k S') Sh S2 Sf Sp) H1 := by
  refine m_3 (k_o (s_o h) hk (fun z => ?_)) h3 (k_1 (s_f h) hk (fun q z y => ?_)) h1 (m_s (fun i hi => ?_)) (k_2 (s_p h) hk (fun q z y => ?_))
  · rcases z with z | z | z <;> have := z.1 <;> omega
  · rcases y with y | y | y <;> have := z.1 <;> have := z.2 <;> have := y.1 <;> have := y.2 <;> omega
  · unfold uset
    by_cases e : i = k
    · subst e; rw [if_pos rfl]; exact h2
    · rw [if_neg e]
      exact k_1 (s_s (s_u h) i hi) hk (fun q z y => by rcases y with y | y | y <;> have := z.1 <;> have := z.2 <;> have := y.1 <;> have := y.2 <;> omega)
  · rcases y with y | y | y <;> have := z.1 <;> have := z.2 <;> have := y.1 <;> have := y.2 <;> omega
theorem b_hk {k : Nat} (hk6 : k < 6) (h : va_P D cl (W3 o cI cQ U Sh Sn Sf Sp) H) (hk : ∀ q : Nat, q < H.size → ¬ aK o k q → H1[q]? = H[q]?) (h1 : va_P D cl (tW_X0 (rH o) (rS o) cQ (tW_B (rS o k) (rN o) cI S' S2) Sh) H1) : va_P D cl (W3 o cI cQ (uset U k S') Sh S2 Sf Sp) H1 :=
  b_hk0 h hk hk6 (z_appL (w1 := tW_X0 (rH o) (rS o) cQ [] Sh) h1) (z_appL (z_appR (w1 := tW_X0 (rH o) (rS o) cQ [] Sh) h1)) (z_appR (z_appR (w1 := tW_X0 (rH o) (rS o) cQ [] Sh) h1))
theorem uset_id (U : Nat → Nat → Int → Int) (k : Nat) : uset U k (U k) = U := by
  funext i
  unfold uset
  split
  · rename_i e; rw [e]
  · rfl
theorem b_hk2 {k : Nat} (hk6 : k < 6) (h : va_P D cl (W3 o cI cQ U Sh Sn Sf Sp) H) (hk : ∀ q : Nat, q < H.size → ¬ aK o k q → H1[q]? = H[q]?) (h1 : va_P D cl (tW_X0 (rH o) (rS o) cQ (tW_B (rN o) (rS o k) cI S2 (U k)) Sh) H1) : va_P D cl (W3 o cI cQ U Sh S2 Sf Sp) H1 := by
  have t := b_hk0 h hk hk6 (z_appL (w1 := tW_X0 (rH o) (rS o) cQ [] Sh) h1) (z_appR (z_appR (w1 := tW_X0 (rH o) (rS o) cQ [] Sh) h1)) (z_appL (z_appR (w1 := tW_X0 (rH o) (rS o) cQ [] Sh) h1))
  rw [uset_id] at t
  exact t
theorem aK_in {k : Nat} (hk6 : k < 6) : ∀ q, aK o k q → rg o (o + 57) q := fun q z => by
  rcases z with z | z | z <;> exact rg_sub z (by omega) (by omega)
theorem hk_lt {Sh : Nat → Int → Int} : ((Sh 1 0 + Sh 2 0) % 6).toNat < 6 := by omega
end W3S
