/-! the link kept by the heads and by the ticks -/
theorem L_ext {τ : Int} {A : Int → Int} {S S' : Nat → Int → Int} (h : Lk τ A S) (h0 : S' 0 = S 0) (h1 : S' 1 = S 1) (h2 : S' 2 = S 2) (h5 : S' 5 = S 5) (h6 : S' 6 = S 6) (h7 : S' 7 = S 7) (h9 : S' 9 = S 9) (h10 : S' 10 = S 10) : Lk τ A S' := by
  unfold Lk
  rw [h0, h1, h2, h5, h6, h7, h9, h10]
  exact h
theorem L_c' {τ k w v v' e e' : Int} {A : Int → Int} {S : Nat → Int → Int} (h : Lk τ A S) (he : e = 5 * k + w + 5) (he' : e' = 4 * k + w) (hk : 0 ≤ k ∧ k < 96) (hw : 0 ≤ w ∧ w < 4) (hv : v = v') : Lk τ (up1 A e v) (up2 S 0 e' v') := by
  rw [he, he', hv]
  exact L_c h hk hw
theorem L_o' {τ j j' v v' : Int} {A : Int → Int} {S : Nat → Int → Int} (h : Lk τ A S) (hj' : j' = j + 485) (hj : 0 ≤ j ∧ j < 480) (hv : v = v') : Lk τ (up1 A j' v) (up2 S 1 j v') := by
  rw [hj', hv]
  exact L_o h hj
theorem L_w {τ k side e e' v : Int} {A : Int → Int} {S : Nat → Int → Int} (h : Lk τ A S) (hk : 48 * side ≤ k ∧ k < 48 * side + 48) (hs : 0 ≤ side ∧ side ≤ 1) (hn : S 2 side = -1) (he : e = 5 * k + 9) (he' : e' = 4 * k) (hv : v = τ) (ht : -2 ≤ τ) : Lk τ (up1 A e v) (up2 S 2 side e') := by
  rw [he, he', hv]
  obtain ⟨⟨a0, a1, a2, a3, a4⟩, h2, h3, h4, h5⟩ := h
  refine ⟨⟨?_, ?_, ?_, ?_, ?_⟩, fun k' w' p1 p2 p3 p4 => ?_, fun j p1 p2 => ?_, fun k' p1 p2 => ?_, fun sd p1 p2 => ?_⟩
  · rw [up1_ne (by omega)]; exact a0
  · rw [up1_ne (by omega)]; exact a1
  · rw [up1_ne (by omega)]; exact a2
  · rw [up1_ne (by omega)]; exact a3
  · rw [up1_ne (by omega)]; exact a4
  · rw [up1_ne (by omega)]; exact h2 k' w' p1 p2 p3 p4
  · rw [up1_ne (by omega)]; exact h3 j p1 p2
  · have q := h4 k' p1 p2
    by_cases ek : k' = k
    · rw [ek, up1_eq, show k / 48 = side from by omega, up2_eq]
      exact ⟨⟨ht, Int.le_refl _⟩, ⟨fun _ => rfl, fun _ => rfl⟩⟩
    · rw [up1_ne (by omega)]
      refine ⟨q.1, ?_⟩
      by_cases es : k' / 48 = side
      · have q2 := q.2
        rw [es, hn] at q2
        rw [es, up2_eq]
        omega
      · rw [up2_ne es]; exact q.2
  · by_cases es : sd = side
    · rw [es, up2_eq]; right; omega
    · rw [up2_ne es]; exact h5 sd p1 p2
theorem L_s0 {τ v v' : Int} {A : Int → Int} {S : Nat → Int → Int} (h : Lk τ A S) (hv : v = v') : Lk τ (up1 A 0 v) (up2 S 5 0 v') := by
  obtain ⟨⟨a0, a1, a2, a3, a4⟩, h2, h3, h4, h5⟩ := h
  refine ⟨⟨?_, ?_, ?_, ?_, ?_⟩, fun k w p1 p2 p3 p4 => ?_, fun j p1 p2 => ?_, fun k p1 p2 => ?_, h5⟩
  · rw [up1_eq, hv, up2_eq]
  · rw [up1_ne (by decide)]; exact a1
  · rw [up1_ne (by decide)]; exact a2
  · rw [up1_ne (by decide)]; exact a3
  · rw [up1_ne (by decide)]; exact a4
  · rw [up1_ne (by omega)]; exact h2 k w p1 p2 p3 p4
  · rw [up1_ne (by omega)]; exact h3 j p1 p2
  · rw [up1_ne (by omega)]; exact h4 k p1 p2
theorem L_s1 {τ v v' : Int} {A : Int → Int} {S : Nat → Int → Int} (h : Lk τ A S) (hv : v = v') : Lk τ (up1 A 1 v) (up2 S 6 0 v') := by
  obtain ⟨⟨a0, a1, a2, a3, a4⟩, h2, h3, h4, h5⟩ := h
  refine ⟨⟨?_, ?_, ?_, ?_, ?_⟩, fun k w p1 p2 p3 p4 => ?_, fun j p1 p2 => ?_, fun k p1 p2 => ?_, h5⟩
  · rw [up1_ne (by decide)]; exact a0
  · rw [up1_eq, hv, up2_eq]
  · rw [up1_ne (by decide)]; exact a2
  · rw [up1_ne (by decide)]; exact a3
  · rw [up1_ne (by decide)]; exact a4
  · rw [up1_ne (by omega)]; exact h2 k w p1 p2 p3 p4
  · rw [up1_ne (by omega)]; exact h3 j p1 p2
  · rw [up1_ne (by omega)]; exact h4 k p1 p2
theorem L_s2 {τ v v' : Int} {A : Int → Int} {S : Nat → Int → Int} (h : Lk τ A S) (hv : v = v') : Lk τ (up1 A 2 v) (up2 S 7 0 v') := by
  obtain ⟨⟨a0, a1, a2, a3, a4⟩, h2, h3, h4, h5⟩ := h
  refine ⟨⟨?_, ?_, ?_, ?_, ?_⟩, fun k w p1 p2 p3 p4 => ?_, fun j p1 p2 => ?_, fun k p1 p2 => ?_, h5⟩
  · rw [up1_ne (by decide)]; exact a0
  · rw [up1_ne (by decide)]; exact a1
  · rw [up1_eq, hv, up2_eq]
  · rw [up1_ne (by decide)]; exact a3
  · rw [up1_ne (by decide)]; exact a4
  · rw [up1_ne (by omega)]; exact h2 k w p1 p2 p3 p4
  · rw [up1_ne (by omega)]; exact h3 j p1 p2
  · rw [up1_ne (by omega)]; exact h4 k p1 p2
theorem L_s3 {τ v v' : Int} {A : Int → Int} {S : Nat → Int → Int} (h : Lk τ A S) (hv : v = v') : Lk τ (up1 A 3 v) (up2 S 9 0 v') := by
  obtain ⟨⟨a0, a1, a2, a3, a4⟩, h2, h3, h4, h5⟩ := h
  refine ⟨⟨?_, ?_, ?_, ?_, ?_⟩, fun k w p1 p2 p3 p4 => ?_, fun j p1 p2 => ?_, fun k p1 p2 => ?_, h5⟩
  · rw [up1_ne (by decide)]; exact a0
  · rw [up1_ne (by decide)]; exact a1
  · rw [up1_ne (by decide)]; exact a2
  · rw [up1_eq, hv, up2_eq]
  · rw [up1_ne (by decide)]; exact a4
  · rw [up1_ne (by omega)]; exact h2 k w p1 p2 p3 p4
  · rw [up1_ne (by omega)]; exact h3 j p1 p2
  · rw [up1_ne (by omega)]; exact h4 k p1 p2
theorem ends_tell {A : Int → Int} {o side v : Int} (h : 0 ≤ o) : endsF (up1 A (8 * o + 492) v) o side = up1 (endsF A o side) (8 * o + 492) v := by
  unfold endsF
  rw [up1_ne (show (0 : Int) ≠ 8 * o + 492 by omega)]
  funext j
  unfold up1
  (repeat' split) <;> first | rfl | (exfalso; omega)
theorem L_fin {τ o side wo : Int} {A : Int → Int} {S : Nat → Int → Int} (h : Lk τ A S) (ho : 0 ≤ o ∧ o < 60) : Lk τ (up1 (endsF A o side) (8 * o + 492) wo) (finS S o side wo) := by
  have h1 := L_o' (j' := 8 * o + 488) (j := 8 * o + 3) (v := 1) (v' := 1) h (by omega) (by omega) rfl
  have h2 := L_o' (j' := 8 * o + 490) (j := 8 * o + 5) (v := A 0) (v' := S 5 0) h1 (by omega) (by omega) h.1.1
  have h3 := L_o' (j' := 8 * o + 491) (j := 8 * o + 6) (v := side) (v' := side) h2 (by omega) (by omega) rfl
  have h4 := L_o' (j' := 8 * o + 492) (j := 8 * o + 7) (v := wo) (v' := wo) h3 (by omega) (by omega) rfl
  exact L_ext h4 rfl rfl rfl rfl rfl rfl rfl rfl
theorem L_fin0 {τ o side wo : Int} {A : Int → Int} {S : Nat → Int → Int} (h : Lk τ A S) (ho : 0 ≤ o ∧ o < 60) (hw : A (8 * o + 492) = wo) : Lk τ (endsF A o side) (finS S o side wo) := by
  have t := L_fin (side := side) (wo := wo) h ho
  have e : endsF A o side (8 * o + 492) = wo := by
    unfold endsF
    rw [up1_ne (by omega), up1_ne (by omega), up1_ne (by omega)]
    exact hw
  have e2 : up1 (endsF A o side) (8 * o + 492) wo = endsF A o side := by
    funext j
    by_cases q : j = 8 * o + 492
    · rw [q, up1_eq, e]
    · rw [up1_ne q]
  rw [e2] at t
  exact t
def Same (S' S : Nat → Int → Int) : Prop := S' 0 = S 0 ∧ S' 1 = S 1 ∧ S' 2 = S 2 ∧ S' 5 = S 5 ∧ S' 6 = S 6 ∧ S' 7 = S 7 ∧ S' 9 = S 9 ∧ S' 10 = S 10
theorem fin_same {S' S : Nat → Int → Int} {o side wo : Int} (h : Same S' S) : Same (finS S' o side wo) (finS S o side wo) := by
  obtain ⟨h0, h1, h2, h5, h6, h7, h9, h10⟩ := h
  refine ⟨h0, ?_, h2, h5, h6, h7, h9, h10⟩
  show up1 (up1 (up1 (up1 (S' 1) (8 * o + 3) 1) (8 * o + 5) (S' 5 0)) (8 * o + 6) side) (8 * o + 7) wo = up1 (up1 (up1 (up1 (S 1) (8 * o + 3) 1) (8 * o + 5) (S 5 0)) (8 * o + 6) side) (8 * o + 7) wo
  rw [h1, h5]
theorem wr_same (S : Nat → Int → Int) (X Y v w side : Int) : Same (up2 (setLS (setLS (setWS S X v w) X 0) Y 1) 2 side X) (up2 (up2 (up2 (up2 (up2 (up2 S 0 X v) 0 (X + 1) w) 0 (X + 2) 0) 0 (X + 3) 0) 2 side X) 0 (Y + 3) 1) := by
  refine ⟨?_, rfl, rfl, rfl, rfl, rfl, rfl, rfl⟩
  show up1 (up1 (up1 (up1 (up1 (S 0) X v) (X + 1) w) (X + 2) 0) (X + 3) 0) (Y + 3) 1 = up1 (up1 (up1 (up1 (up1 (S 0) X v) (X + 1) w) (X + 2) 0) (X + 3) 0) (Y + 3) 1
  rfl
theorem L_head {V side : Int} {A : Int → Int} {S : Nat → Int → Int} (h : Lk (S 5 0) A S) (g : Good V S) (hs : 0 ≤ side ∧ side ≤ 1) (hn : S 2 side = -1) : Lk (S 5 0) (headsF A side) (useHdS S side) := by
  have a := g.1
  have e0 := h.1.1
  have e1 := h.1.2.1
  have eb : blkF A side = 12 * S 6 0 + secF S side := by unfold blkF secF; rw [e0, e1]
  have hsec : 0 ≤ secF S side ∧ secF S side < 12 := by unfold secF; omega
  unfold headsF useHdS
  rw [eb, Lk_first h g hsec, Lk_first h g hsec]
  generalize secF S side = sec at hsec ⊢
  unfold headsB useHdB
  generalize hX : 192 * side + 48 * S 6 0 + 4 * sec = X
  generalize hY : 192 - 192 * side + 48 * S 6 0 + 4 * sec = Y
  generalize hB : 12 * S 6 0 + sec = B
  have cX : ∀ w : Int, 0 ≤ w → w < 4 → A (5 * (48 * side + B) + w + 5) = S 0 (X + w) := fun w w0 w1 => by
    rw [h.2.1 (48 * side + B) w (by omega) (by omega) w0 w1, show 4 * (48 * side + B) + w = X + w from by omega]
  have cY : ∀ w : Int, 0 ≤ w → w < 4 → A (5 * (48 - 48 * side + B) + w + 5) = S 0 (Y + w) := fun w w0 w1 => by
    rw [h.2.1 (48 - 48 * side + B) w (by omega) (by omega) w0 w1, show 4 * (48 - 48 * side + B) + w = Y + w from by omega]
  have x0 : A (240 * side + 5 * B + 5) = S 0 X := by have t := cX 0 (by omega) (by omega); rw [show 5 * (48 * side + B) + 0 + 5 = 240 * side + 5 * B + 5 from by omega, show X + 0 = X from by omega] at t; exact t
  have x2 : A (240 * side + 5 * B + 7) = S 0 (X + 2) := by have t := cX 2 (by omega) (by omega); rw [show 5 * (48 * side + B) + 2 + 5 = 240 * side + 5 * B + 7 from by omega] at t; exact t
  have x3 : A (240 * side + 5 * B + 8) = S 0 (X + 3) := by have t := cX 3 (by omega) (by omega); rw [show 5 * (48 * side + B) + 3 + 5 = 240 * side + 5 * B + 8 from by omega] at t; exact t
  have y0 : A (5 * B - 240 * side + 245) = S 0 Y := by have t := cY 0 (by omega) (by omega); rw [show 5 * (48 - 48 * side + B) + 0 + 5 = 5 * B - 240 * side + 245 from by omega, show Y + 0 = Y from by omega] at t; exact t
  have y1 : A (5 * B - 240 * side + 246) = S 0 (Y + 1) := by have t := cY 1 (by omega) (by omega); rw [show 5 * (48 - 48 * side + B) + 1 + 5 = 5 * B - 240 * side + 246 from by omega] at t; exact t
  have y2 : A (5 * B - 240 * side + 247) = S 0 (Y + 2) := by have t := cY 2 (by omega) (by omega); rw [show 5 * (48 - 48 * side + B) + 2 + 5 = 5 * B - 240 * side + 247 from by omega] at t; exact t
  have l3 := g.2.1.at3 (j := X + 3) (by omega)
  rw [x0, x2, x3, y0, y1, y2]
  have hwr : ∀ v w : Int, Lk (S 5 0) (writesF A side B v w) (up2 (up2 (up2 (up2 (up2 S 0 X v) 0 (X + 1) w) 0 (X + 2) 0) 0 (X + 3) 0) 2 side X) := fun v w => by
    have h1 := L_c' (e := 240 * side + 5 * B + 5) (e' := X) (k := 48 * side + B) (w := 0) (v := v) (v' := v) h (by omega) (by omega) (by omega) (by omega) rfl
    have h2 := L_c' (e := 240 * side + 5 * B + 6) (e' := X + 1) (k := 48 * side + B) (w := 1) (v := w) (v' := w) h1 (by omega) (by omega) (by omega) (by omega) rfl
    have h3 := L_c' (e := 240 * side + 5 * B + 7) (e' := X + 2) (k := 48 * side + B) (w := 2) (v := 0) (v' := 0) h2 (by omega) (by omega) (by omega) (by omega) rfl
    have h4 := L_c' (e := 240 * side + 5 * B + 8) (e' := X + 3) (k := 48 * side + B) (w := 3) (v := 0) (v' := 0) h3 (by omega) (by omega) (by omega) (by omega) rfl
    exact L_w (k := 48 * side + B) (v := A 0) h4 (by omega) hs hn (by omega) (by omega) e0 (by omega)
  by_cases q1 : S 0 (X + 3) ≠ 0 ∧ S 0 (Y + 2) = 0
  · rw [if_pos (show S 0 (X + 3) = 1 ∧ S 0 (Y + 2) = 0 by omega), if_pos q1]
    exact L_ext (hwr (S 0 Y) (S 0 (Y + 1))) rfl rfl rfl rfl rfl rfl rfl rfl
  · rw [if_neg (show ¬ (S 0 (X + 3) = 1 ∧ S 0 (Y + 2) = 0) by omega), if_neg q1]
    by_cases q2 : S 3 B = 0
    · rw [if_pos q2]
      rw [← hB] at q2
      rw [G_none g a.2.1 hsec q2 1, G_none g a.2.1 hsec q2 0, if_neg (by decide), if_neg (by omega)]
      exact h
    · rw [if_neg q2]
      by_cases q3 : firstWF S 1 (S 6 0) sec ≠ -9
      · rw [if_pos q3, if_pos q3]
        rcases firstWF_rng a.2.2.1 1 (S 6 0) sec with z | ⟨f0, f1, f2, f3, f4, f5⟩
        · exact absurd z q3
        · generalize firstWF S 1 (S 6 0) sec = o at f0 f1 f2 f3 f4 f5 ⊢
          have v7 : A (8 * o + 492) = S 1 (8 * o + 7) := by
            have t := h.2.2.1 (8 * o + 7) (by omega) (by omega)
            rw [show 8 * o + 7 + 485 = 8 * o + 492 from by omega] at t
            exact t
          have m0 := h.2.1 B 1 (by omega) (by omega) (by omega) (by omega)
          have m1 := h.2.1 (48 + B) 1 (by omega) (by omega) (by omega) (by omega)
          have em : max (A (5 * B + 6)) (A (5 * B + 246)) = max (S 0 (X + 1)) (S 0 (Y + 1)) := by
            rw [show 5 * B + 6 = 5 * B + 1 + 5 from by omega, show 5 * B + 246 = 5 * (48 + B) + 1 + 5 from by omega, m0, m1]
            rcases (show side = 0 ∨ side = 1 by omega) with q | q
            · rw [show 4 * B + 1 = X + 1 from by omega, show 4 * (48 + B) + 1 = Y + 1 from by omega]
            · rw [show 4 * B + 1 = Y + 1 from by omega, show 4 * (48 + B) + 1 = X + 1 from by omega, Int.max_comm]
          rw [v7, em]
          have h6 := L_c' (e := 5 * B - 240 * side + 248) (e' := Y + 3) (k := 48 - 48 * side + B) (w := 3) (v := 1) (v' := 1) (hwr (S 1 (8 * o + 7)) (max (S 0 (X + 1)) (S 0 (Y + 1)) + 1)) (by omega) (by omega) (by omega) (by omega) rfl
          have h7 := L_fin0 (o := o) (side := side) (wo := S 1 (8 * o + 7)) h6 (by omega) (by
            rw [up1_ne (by omega)]
            unfold writesF
            rw [up1_ne (by omega), up1_ne (by omega), up1_ne (by omega), up1_ne (by omega), up1_ne (by omega)]
            exact v7)
          unfold doWrS
          obtain ⟨m0, m1, m2, m5, m6, m7, m9, m10⟩ := fin_same (o := o) (side := side) (wo := S 1 (8 * o + 7)) (wr_same S X Y (S 1 (8 * o + 7)) (max (S 0 (X + 1)) (S 0 (Y + 1)) + 1) side)
          exact L_ext h7 m0 m1 m2 m5 m6 m7 m9 m10
      · rw [if_neg q3, if_neg q3]
        by_cases q4 : firstWF S 0 (S 6 0) sec ≠ -9 ∧ S 0 (X + 3) = 0 ∧ S 0 (X + 2) = 0
        · rw [if_pos q4, if_pos q4]
          rcases firstWF_rng a.2.2.1 0 (S 6 0) sec with z | ⟨f0, f1, f2, f3, f4, f5⟩
          · exact absurd z q4.1
          · rw [ends_tell f0]
            exact L_fin h (by omega)
        · rw [if_neg q4, if_neg q4]
          exact h
theorem useHd_2 (S : Nat → Int → Int) (side : Int) {sd : Int} (h : sd ≠ side) : useHdS S side 2 sd = S 2 sd := by
  unfold useHdS useHdB
  (repeat' split) <;> first | rfl | exact up1_ne (f := S 2) h
theorem useHd_5 (S : Nat → Int → Int) (side : Int) : useHdS S side 5 = S 5 := by
  unfold useHdS useHdB
  (repeat' split) <;> rfl
theorem tickH_5 (S : Nat → Int → Int) : doTickH S 5 = S 5 := by
  unfold doTickH
  split
  · rw [useHd_5, useHd_5]; rfl
  · unfold mvArmS
    split <;> rfl
theorem tick_5 (S : Nat → Int → Int) : doTickS S 5 0 = S 5 0 + 1 := by
  unfold doTickS
  rw [up2_eq, tickH_5]
theorem L_heads {V : Int} {A : Int → Int} {S : Nat → Int → Int} (h : Lk (S 5 0 - 1) A S) (g : Good V S) : Lk (S 5 0) (headsF A 0) (useHdS (forgS S) 0) ∧ Lk (S 5 0) (headsF (headsF A 0) 1) (useHdS (useHdS (forgS S) 0) 1) := by
  have f := L_forg h
  have gf := G_forg g
  have h1 : Lk (S 5 0) (headsF A 0) (useHdS (forgS S) 0) := L_head (S := forgS S) f gf (by omega) rfl
  refine ⟨h1, ?_⟩
  have g1 := G_head gf (side := 0) (by omega)
  have e5 : useHdS (forgS S) 0 5 0 = S 5 0 := by rw [useHd_5]; rfl
  have h2 := L_head (S := useHdS (forgS S) 0) (A := headsF A 0) (side := 1) (V := V + 1) (by rw [e5]; exact h1) g1 (by omega) (by rw [useHd_2 _ _ (by decide)]; rfl)
  rw [e5] at h2
  exact h2
theorem L_tick {V : Int} {A : Int → Int} {S : Nat → Int → Int} (h : Lk (S 5 0 - 1) A S) (g : Good V S) : Lk (S 5 0) (passesF A) (doTickS S) := by
  have a := g.1
  have w := Lk_wk h g (t := S 6 0) a.2.1
  have e1 := h.1.2.1
  have hH : Lk (S 5 0) (passesH A) (doTickH S) := by
    unfold passesH doTickH
    rw [e1]
    by_cases q : 0 < S 4 (S 6 0)
    · rw [if_pos q, if_pos (w.mpr q)]
      exact (L_heads h g).2
    · rw [if_neg q, if_neg (fun z => q (w.mp z))]
      exact L_mv (S := forgS S) (L_forg h) (G_forg g) q
  unfold passesF doTickS
  exact L_s0 hH (by rw [hH.1.1])
/-- a state between two ticks, and the reference's row for it -/
def LG (A : Int → Int) (S : Nat → Int → Int) : Prop := Lk (S 5 0 - 1) A S ∧ Good (2 * S 5 0) S
theorem LG_tick {A : Int → Int} {S : Nat → Int → Int} (h : LG A S) : LG (passesF A) (doTickS S) := by
  have t := L_tick h.1 h.2
  have g := G_tickS h.2
  have e := tick_5 S
  refine ⟨?_, ?_⟩
  · rw [e, show S 5 0 + 1 - 1 = S 5 0 from by omega]; exact t
  · rw [e]; exact g.mono (by omega)
theorem LG_ticksN {A : Int → Int} {S : Nat → Int → Int} (h : LG A S) : ∀ n : Nat, LG (itN passesF n A) (itN doTickS n S) ∧ itN doTickS n S 5 0 = S 5 0 + (n : Int)
  | 0 => ⟨h, by show S 5 0 = S 5 0 + 0; omega⟩
  | n + 1 => by
    obtain ⟨i1, i2⟩ := LG_ticksN h n
    rw [itN, itN]
    exact ⟨LG_tick i1, by rw [tick_5, i2]; omega⟩
theorem LG_ticks {A : Int → Int} {S : Nat → Int → Int} (h : LG A S) {k : Int} (hk : 0 ≤ k) : LG (itZ passesF k A) (itZ doTickS k S) ∧ itZ doTickS k S 5 0 = S 5 0 + k := by
  have t := LG_ticksN h k.toNat
  rw [show ((k.toNat : Nat) : Int) = k from by omega] at t
  exact t
theorem LG_WF {A : Int → Int} {S : Nat → Int → Int} (h : LG A S) (ht : S 5 0 ≤ 100000) : WF S ∧ WF (forgS S) ∧ WF (useHdS (forgS S) 0) := by
  have a := h.2.1
  refine ⟨h.2.WF (by omega) (by omega), (G_forg h.2).WF (by omega) (by show S 5 0 ≤ 900000; omega), (G_head (G_forg h.2) (side := 0) (by omega)).WF (by omega) ?_⟩
  rw [useHd_5]
  show S 5 0 ≤ 900000
  omega
theorem LG_WFA {A : Int → Int} {S : Nat → Int → Int} (h : LG A S) (ht : S 5 0 ≤ 100000) : WFA A ∧ WFA (headsF A 0) := by
  have a := h.2.1
  refine ⟨h.1.WFA h.2 (by omega) (by omega) (by omega), (L_heads h.1 h.2).1.WFA (G_head (G_forg h.2) (side := 0) (by omega)) (by omega) ?_ (by omega)⟩
  rw [useHd_5]
  show S 5 0 ≤ 900000
  omega
theorem LG_allW {A : Int → Int} {S : Nat → Int → Int} (h : LG A S) {n : Int} (ht : S 5 0 + n ≤ 100000) : ∀ k : Int, 0 ≤ k → k ≤ n → WF (itZ doTickS k S) ∧ WF (forgS (itZ doTickS k S)) ∧ (0 < itZ doTickS k S 4 (itZ doTickS k S 6 0) → WF (useHdS (forgS (itZ doTickS k S)) 0)) := fun k k0 k1 => by
  obtain ⟨t1, t2⟩ := LG_ticks h k0
  obtain ⟨w1, w2, w3⟩ := LG_WF t1 (by omega)
  exact ⟨w1, w2, fun _ => w3⟩
theorem LG_allA {A : Int → Int} {S : Nat → Int → Int} (h : LG A S) {n : Int} (ht : S 5 0 + n ≤ 100000) : ∀ k : Int, 0 ≤ k → k ≤ n → WFA (itZ passesF k A) ∧ (0 < wkF (itZ passesF k A) (itZ passesF k A 1) → WFA (headsF (itZ passesF k A) 0)) := fun k k0 k1 => by
  obtain ⟨t1, t2⟩ := LG_ticks h k0
  obtain ⟨w1, w2⟩ := LG_WFA t1 (by omega)
  exact ⟨w1, fun _ => w2⟩
