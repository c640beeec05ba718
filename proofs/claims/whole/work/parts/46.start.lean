/-! both at their start -/
theorem Good_0 : Good 0 (forgS (fun _ _ => 0 : Nat → Int → Int)) := by
  have e0 : ∀ j : Int, forgS (fun _ _ => 0 : Nat → Int → Int) 0 j = 0 := fun j => rfl
  have e1 : ∀ j : Int, forgS (fun _ _ => 0 : Nat → Int → Int) 1 j = 0 := fun j => rfl
  refine G_forg ⟨⟨?_, ?_, ?_⟩, fun k => ?_, fun k => ?_, fun j => ?_, ?_, fun b0 b1 b2 => ?_, fun t0 t1 t2 => ?_, fun _ _ => rfl, fun _ _ => rfl⟩
  · exact Int.le_refl _
  · show (0 : Int) ≤ 0 ∧ (0 : Int) < 4
    omega
  · show (0 : Int) ≤ 0 ∧ (0 : Int) ≤ 60
    omega
  · show (0 ≤ (0 : Int) ∧ (0 : Int) ≤ 999) ∧ (0 ≤ (0 : Int) ∧ (0 : Int) ≤ 0) ∧ (0 ≤ (0 : Int) ∧ (0 : Int) ≤ 1) ∧ (0 ≤ (0 : Int) ∧ (0 : Int) ≤ 1)
    omega
  · show (0 ≤ (0 : Int) ∧ (0 : Int) ≤ 1) ∧ (0 ≤ (0 : Int) ∧ (0 : Int) < 4) ∧ (0 ≤ (0 : Int) ∧ (0 : Int) < 12) ∧ (0 ≤ (0 : Int) ∧ (0 : Int) ≤ 2) ∧ (0 ≤ (0 : Int) ∧ (0 : Int) ≤ 0) ∧ (-9 ≤ (0 : Int) ∧ (0 : Int) ≤ 0) ∧ (-9 ≤ (0 : Int) ∧ (0 : Int) ≤ 1) ∧ (-9 ≤ (0 : Int) ∧ (0 : Int) ≤ 999) ∧ ((0 : Int) = 1 → 0 ≤ (0 : Int))
    omega
  · show (0 : Int) = -1 ∨ (0 ≤ (0 : Int) ∧ (0 : Int) < 384 ∧ (0 : Int) % 4 = 0)
    omega
  · rfl
  · rfl
  · show (0 : Int) = cnT (fun _ => 0) 0 t0 + ltT (fun _ => 0) t0
    have z1 : cnT (fun _ => 0) 0 t0 = 0 := rfl
    have z2 : ltT (fun _ => 0) t0 = 0 := sumZ_zero (by omega) (fun _ _ _ => rfl)
    rw [z1, z2]
    rfl
theorem LG_0 : LG (n4 96 0) (forgS (fun _ _ => 0 : Nat → Int → Int)) := by
  have e : ∀ j : Int, n4 96 0 j = if 0 ≤ j - 9 ∧ (j - 9) % 5 = 0 ∧ j - 9 < 5 * 96 then -2 else 0 := fun j => by
    unfold n4
    by_cases q : 0 ≤ j - 9 ∧ (j - 9) % 5 = 0 ∧ j - 9 < 5 * 96
    · rw [if_pos q, if_pos ⟨rfl, q⟩]
    · rw [if_neg q, if_neg (fun z => q z.2)]
  have f2 : ∀ j : Int, 0 ≤ j → j < 2 → forgS (fun _ _ => 0 : Nat → Int → Int) 2 j = -1 := by
    intro j a b
    unfold forgS
    rcases (show j = 0 ∨ j = 1 by omega) with rfl | rfl
    · rw [up2_ne (by decide), up2_eq]
    · rw [up2_eq]
  refine ⟨⟨⟨?_, ?_, ?_, ?_, ?_⟩, fun k w p1 p2 p3 p4 => ?_, fun j p1 p2 => ?_, fun k p1 p2 => ?_, fun sd p1 p2 => Or.inl (f2 sd p1 p2)⟩, Good_0⟩
  · rw [e, if_neg (by omega)]; rfl
  · rw [e, if_neg (by omega)]; rfl
  · rw [e, if_neg (by omega)]; rfl
  · rw [e, if_neg (by omega)]; rfl
  · rw [e, if_neg (by omega)]; rfl
  · rw [e, if_neg (by omega)]; rfl
  · rw [e, if_neg (by omega)]; rfl
  · rw [e, if_pos (by omega), f2 (k / 48) (by omega) (by omega)]
    show (-2 ≤ (-2 : Int) ∧ (-2 : Int) ≤ 0 - 1) ∧ ((-2 : Int) = 0 - 1 ↔ (-1 : Int) = 4 * k)
    omega
theorem n4_o {i : Nat} (h : i ≠ 0) : n4 96 i = fun _ => 0 := by
  funext j
  unfold n4
  rw [if_neg (fun z => h z.1)]
theorem Top_0 : Top (n4 96) (fun _ => forgS (fun _ _ => 0 : Nat → Int → Int)) (fun _ _ => 0 : Nat → Int → Int) (forgS (fun _ _ => 0 : Nat → Int → Int)) (fun _ _ => 0 : Nat → Int → Int) := by
  refine ⟨LG_0, ?_, ?_, ⟨?_, ?_, ?_, fun i i0 i1 => ?_⟩, ?_, ?_, fun j => ?_, ?_, fun j => ?_, fun j => ?_, fun j => ?_, fun j => ?_, fun j => ?_⟩
  · show (0 : Int) ≤ 20000
    omega
  · rw [n4_o (by decide)]
  · rw [n4_o (by decide)]
  · show (0 : Int) ≤ 0 ∧ (0 : Int) < 6
    omega
  · show (0 : Int) ≤ 0 ∧ (0 : Int) ≤ 5
    omega
  · have i1 : i < 0 := i1
    omega
  · rw [n4_o (by decide)]
  · rw [n4_o (by decide)]
  · show (0 : Int) ≤ 0 ∧ (0 : Int) ≤ 255
    omega
  · show (0 : Int) ≤ 0 ∧ (0 : Int) ≤ 80
    omega
  · show (0 : Int) ≤ 0 ∧ (0 : Int) ≤ 101
    omega
  · show (-1000 : Int) ≤ 0 ∧ (0 : Int) ≤ 1000
    omega
  · show (0 : Int) ≤ 0 ∧ (0 : Int) ≤ 999
    omega
  · rw [n4_o (by decide)]
    show (-1000 : Int) ≤ 0 ∧ (0 : Int) ≤ 1000
    omega
  · rw [n4_o (by decide)]
    show (0 : Int) ≤ 0 ∧ (0 : Int) ≤ 999
    omega
/-! words of the law -/
theorem inlr : ∀ w ∈ (wsL_law_r1 ++ (wsL_law_r2 ++ (wsL_law_r3 ++ (wsL_law_r4 ++ (wsL_law_r5 ++ (wsL_law_r6 ++ (wsL_law_r7 ++ (wsL_law_r8 ++ (wsL_law_r9 ++ (wsL_law_r10 ++ (wsL_law_r11 ++ (wsL_law_r12 ++ (wsL_law_r13 ++ (wsL_law_r14 ++ (wsL_law_r15 ++ (wsL_law_r16 ++ (wsL_law_r17 ++ (wsL_law_r18 ++ (wsL_law_r19 ++ (wsL_law_r20 ++ (wsL_law_r21 ++ (wsL_law_r22 ++ (wsL_law_r23 ++ (wsL_law_r24 ++ (wsL_law_r25 ++ (wsL_law_r26 ++ (wsL_law_r27 ++ wsL_law_r28))))))))))))))))))))))))))), w ∈ wsL_law := fun _ h => List.mem_append_left _ (List.mem_append_left _ (List.mem_append_left _ (List.mem_append_left _ (List.mem_append_left _ (List.mem_append_left _ h)))))
theorem inlr1 : ∀ w ∈ wsL_law_r1, w ∈ wsL_law := fun w h => inlr w (List.mem_append_left _ h)
theorem inlr2 : ∀ w ∈ wsL_law_r2, w ∈ wsL_law := fun w h => inlr w (List.mem_append_right _ (List.mem_append_left _ h))
theorem inlr3 : ∀ w ∈ wsL_law_r3, w ∈ wsL_law := fun w h => inlr w (List.mem_append_right _ (List.mem_append_right _ (List.mem_append_left _ h)))
set_option maxRecDepth 20000 in
theorem lw_ao : ∀ w ∈ [Cond.arrayOver (.object "TwinPlates$Plates")], w ∈ lw_tbl := mem_ps [123] rfl
set_option maxRecDepth 20000 in
theorem lw_nw : ∀ w ∈ [Cond.methodLinkNest RX3 28 yX2_init RX3], w ∈ lw_tbl := mem_ps [137] rfl
theorem z_d4 : ∀ j, j < 4 → defaultValue (tyX3 j) = vp_V [.null, .null, .null, .null] j := by
  intro j hj
  rcases (show j = 0 ∨ j = 1 ∨ j = 2 ∨ j = 3 by omega) with rfl | rfl | rfl | rfl <;> rfl
theorem z_dR : ∀ j, j < 11 → defaultValue (tyX4 j) = vp_V [.null, .null, .int (zI 0), .null, .null, .int (zI 0), .int (zI 0), .int (zI 0), .null, .null, .null] j := by
  intro j hj
  rcases (show j = 0 ∨ j = 1 ∨ j = 2 ∨ j = 3 ∨ j = 4 ∨ j = 5 ∨ j = 6 ∨ j = 7 ∨ j = 8 ∨ j = 9 ∨ j = 10 by omega) with rfl | rfl | rfl | rfl | rfl | rfl | rfl | rfl | rfl | rfl | rfl <;> rfl
/-- the tables as the worlds ask for them -/
theorem law_K {s : State} {b : Nat} (hts : ∀ w ∈ wsL_law, w.before #[Value.ref b] s = true) (hAO : (Cond.arrayOver (.object "TwinPlates$Plates")).before #[Value.ref b] s = true) : ∃ (dC : Nat → ClassId) (dI : Nat → Nat → Nat) (cI cQ : ClassId), va_K (dC, dI) vwCl (zT cI cQ) s := by
  obtain ⟨c0, d0, k0⟩ := u_known (C := RX0) (T := TX0) (N := 3) (n := 3) hts inlX0 (hts _ (inlr1 _ (List.mem_of_getElem? (i := 18) rfl)))
  obtain ⟨c1, d1, k1⟩ := u_known (C := RX1) (T := TX1) (N := 11) (n := 11) hts inlX1 (hts _ (inlr1 _ (List.mem_of_getElem? (i := 13) rfl)))
  obtain ⟨c2, d2, k2⟩ := u_known (C := RX2) (T := TX2) (N := 9) (n := 9) hts inlX2 (hts _ (inlr1 _ (List.mem_of_getElem? (i := 22) rfl)))
  obtain ⟨c3, d3, k3⟩ := u_known (C := RX3) (T := TX3) (N := 4) (n := 4) hts inlX3 (hts _ (inlr1 _ (List.mem_of_getElem? (i := 1) rfl)))
  obtain ⟨c4, d4, k4⟩ := u_known (C := RX4) (T := TX4) (N := 11) (n := 11) hts inlX4 (hts _ (inlr1 _ (List.mem_of_getElem? (i := 4) rfl)))
  have hI : (Cond.arrayClass .int).before #[Value.ref b] s = true := hts _ (inlr2 _ (List.mem_of_getElem? (i := 5) rfl))
  obtain ⟨cI, kI, pI, i1, i2, i3⟩ := Cond.arrayClass_spec hI
  obtain ⟨cP, cQ, kQ, q1, q2, q3, q4, q5⟩ := Cond.arrayOver_spec hAO
  refine ⟨fun k => if k = 0 then c0 else if k = 1 then c1 else if k = 2 then c2 else if k = 3 then c3 else c4, fun k => if k = 0 then d0 else if k = 1 then d1 else if k = 2 then d2 else if k = 3 then d3 else d4, cI, cQ, ?_, ?_⟩
  · intro k q hq
    match k, hq with
    | 0, hq => cases hq; exact k0
    | 1, hq => cases hq; exact k1
    | 2, hq => cases hq; exact k2
    | 3, hq => cases hq; exact k3
    | 4, hq => cases hq; exact k4
    | k + 5, hq => cases hq
  · intro k q hq
    match k, hq with
    | 0, hq => cases hq; exact ⟨fun n z => ⟨fun k h => (by cases h), kI, i2, pI, i3⟩, i1⟩
    | 1, hq => cases hq; exact ⟨fun n z => ⟨fun k h => (by cases h), kQ, q3, cP, q4⟩, kQ, cP, q3, q4, q1, q5⟩
    | k + 2, hq => cases hq
