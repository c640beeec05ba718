/-! the reference goes through its program, and runs it -/
theorem up2_id0 (S : Nat → Int → Int) (k : Nat) (e : Int) : up2 S k e (S k e) = S := up2_id S k e
def swK (S : Nat → Int → Int) (k : Int) : Nat → Int → Int := upR (upR S 0 (fun j => if 0 ≤ j ∧ j < k then S 3 j else S 0 j)) 3 (fun j => if 0 ≤ j ∧ j < k then S 0 j else S 3 j)
theorem swK_0 (S : Nat → Int → Int) : swK S 0 = S := by
  unfold swK
  rw [upR_id (S := S) (k := 0) (fun j => if_neg (by omega))]
  exact upR_id (fun j => if_neg (by omega))
theorem swK_at0 (S : Nat → Int → Int) (k : Int) : swK S k 0 k = S 0 k := by
  show (if 0 ≤ k ∧ k < k then S 3 k else S 0 k) = S 0 k
  rw [if_neg (by omega)]
theorem swK_at3 (S : Nat → Int → Int) (k : Int) : up2 (swK S k) 0 k (S 3 k) 3 k = S 3 k := by
  show (if 0 ≤ k ∧ k < k then S 0 k else S 3 k) = S 3 k
  rw [if_neg (by omega)]
theorem swK_succ (S : Nat → Int → Int) {k : Int} (h : 0 ≤ k) : up2 (up2 (swK S k) 0 k (S 3 k)) 3 k (S 0 k) = swK S (k + 1) := by
  funext i j
  simp only [up2_app]
  unfold swK upR
  by_cases i3 : i = 3
  · subst i3
    simp only [if_true, true_and, show ¬ ((3 : Nat) = 0) by decide, false_and, if_false]
    (repeat' split) <;> first | rfl | (exfalso; omega) | (rename_i q _; rw [q])
  · by_cases i0 : i = 0
    · subst i0
      simp only [if_true, true_and, show ¬ ((0 : Nat) = 3) by decide, false_and, if_false]
      (repeat' split) <;> first | rfl | (exfalso; omega) | (rename_i q _; rw [q])
    · simp only [i3, i0, false_and, if_false]
def runM (S S2 S3 : Nat → Int → Int) (r1 r2 : Int) : Nat → Int → Int := if ¬ (rdF (S 5 0).toNat (up2 S 6 0 0) 0).2 = true then readsAllM S else if r1 < 0 then S2 else if r2 < 0 then backM (up2 S3 7 0 0) else backM (savesM (swK (up2 S3 7 0 0) 965))
def runR (S S2 S3 : Nat → Int → Int) (r1 r2 : Int) : Int := if ¬ (rdF (S 5 0).toNat (up2 S 6 0 0) 0).2 = true then -1000 - readsAllM S 6 0 else if r1 < 0 then r1 else r2

theorem in_X4_goes : ∀ w ∈ wsX40, w ∈ wsX4_goes := fun w h => List.mem_cons_of_mem _ (List.mem_append_right _ h)
set_option maxHeartbeats 4000000 in
set_option maxRecDepth 100000 in
theorem k_X4_goes (l : Launch) (dC : Nat → ClassId) (dI : Nat → Nat → Nat) (cI cQ : ClassId) (A : Nat → Prop) (ad : Nat → Nat) (S : Nat → Int → Int) (hD : ∀ S, va_D A (tW_X4 ad cI S)) (dn : Int) (f0 : Nat) (S' : Nat → Int → Int) (r : Int) (hdn : dn = 0 ∨ dn = 1) (hG : GS dn f0 (up2 S 6 0 0) 0 0 S' r) : Met l yX4_goes wsX4_goes ({ frames := 6, cells := 0, slots := 0, locals := 138 }) (zPc (dC, dI) vwCl (zT cI cQ) (tW_X4 ad cI S) [.ref (ad 0), .int (zI dn)]) (zQi (dC, dI) vwCl (tW_X4 ad cI S') (r) A) 0 0 A := by
  refine Met.ofW (cc := cX4_goes) (maxL := 7) (ret := (some .int)) (by decide) rfl ?_
  intro p e s m args below meth c s₁ B hml hv
  obtain ⟨rfl, hP, hK⟩ := hv
  have hx := B.exec
  have hb := B.bytes
  have hr := B.returns
  have hts := atoms_spec (ws := wsX4_goes) B.pre
  have hown : s.vm.findClass RX4 = some m.cls := findClass_of_methodNamed B.named
  have hlk := B.notSynchronized
  have hS : va_S A s.heap s.heap [] := va_S.rf
  have hl := lv_entry ([.ref (ad 0), .int (zI dn)]) (n := 7) (Nat.le_of_ble_eq_true rfl)
  rw [lg_entry_eq]
  generalize (lg_sl ([.ref (ad 0), .int (zI dn)]) ++ List.replicate (7 - (lg_sl ([.ref (ad 0), .int (zI dn)])).length) Slot.unset).toArray = ls at hl ⊢
  have hl : lv_has ls 7 [(0, .ref (ad 0)), (1, .int (zI dn))] := hl
  have hin : ∀ w ∈ wsX40, w ∈ wsX4_goes := in_X4_goes
  refine z_iconst hx hb dX4_goes_0 ?_
  refine lv_istore_n (lv' := [(2, .int (zI 0)), (0, .ref (ad 0)), (1, .int (zI dn))]) hx hb dX4_goes_1 rfl hl (by decide) rfl (fun ls hl => ?_)
  refine z_iconst hx hb dX4_goes_2 ?_
  refine lv_istore_n (lv' := [(3, .int (zI 0)), (2, .int (zI 0)), (0, .ref (ad 0)), (1, .int (zI dn))]) hx hb dX4_goes_3 rfl hl (by decide) rfl (fun ls hl => ?_)
  refine lv_aload_n hx hb dX4_goes_4 rfl (lv_at hl 2 rfl) ?_
  refine z_iconst hx hb dX4_goes_5 ?_
  refine px_X4_6 hx hb hts hin hown hK hP hD hS (hts _ (List.mem_of_getElem? (i := 1) rfl)) dX4_goes_6 (fun H locs hP hS => ?_)
  have hloop9 : ∀ (n : Nat) (n0 d : Int) (S1 : Nat → Int → Int) (f : Nat), (GS dn f S1 n0 d S' r) → ((f : Int) < (n : Int)) → ∀ (H : Heap) (locs : List Loc), va_P (dC, dI) vwCl (tW_X4 ad cI S1) H → va_S A s.heap H locs → ∀ ls : Array Slot, lv_has ls 7 [(3, .int (zI d)), (2, .int (zI n0)), (0, .ref (ad 0)), (1, .int (zI dn))] → W p l e (headSpec wsX4_goes ({ frames := 6, cells := 0, slots := 0, locals := 138 })).room s m ([.ref (ad 0), .int (zI dn)] : List Value).toArray below meth c H locs 0 0 (MQ below (zQi (dC, dI) vwCl (tW_X4 ad cI S') (r) A) ([.ref (ad 0), .int (zI dn)] : List Value).toArray s 0 0 A) (F0 m 9 ls []) := by
    intro n
    induction n with
    | zero =>
      intro n0 d S1 f i1 hm
      exfalso
      omega
    | succ n ih =>
      intro n0 d S1 f i1 hm H locs hP hS ls hl
      have ih9 := ih
      clear ih
      obtain ⟨g, rfl⟩ : ∃ g, f = g + 1 := by cases f with | zero => exact absurd i1 (fun q => q) | succ g => exact ⟨g, rfl⟩
      obtain ⟨iX, hn, hd, h9, i2⟩ := i1
      have hT := iX.1
      have x5 := iX.2.1
      have x6 := iX.2.2
      refine lv_aload_n hx hb dX4_goes_9 rfl (lv_at hl 2 rfl) ?_
      refine gx_X4_6 hx hb hts hin hown hK hP (hts _ (List.mem_of_getElem? (i := 1) rfl)) dX4_goes_10 ?_
      refine lv_aload_n hx hb dX4_goes_13 rfl (lv_at hl 2 rfl) ?_
      refine gx_X4_5 hx hb hts hin hown hK hP (hts _ (List.mem_of_getElem? (i := 2) rfl)) dX4_goes_14 ?_
      refine z_icmp_ge (tgt := 236) hx hb dX4_goes_17 (by decide) (by omega) (by omega) (fun c1 => ?_) (fun c1 => ?_)
      · refine lv_iload_n hx hb dX4_goes_236 rfl (lv_at hl 1 rfl) ?_
        exact z_iret hx hb hr hlk hP hS dX4_goes_237 (by first | (exfalso; omega) | (rw [if_neg (by omega)] at i2; exact i2.2.symm) | (rw [if_pos (show S1 6 0 < S1 5 0 by omega), if_pos (show isLt (sgM S1) by rw [← e_ch]; assumption), if_pos (by omega)] at i2; have := i2.2; omega) | (rw [if_pos (by omega)] at i5; have := i5.2; omega)) (congrArg (tW_X4 ad cI) (by first | (exfalso; omega) | (rw [if_neg (by omega)] at i2; exact i2.1.symm) | (rw [if_pos (show S1 6 0 < S1 5 0 by omega), if_pos (show isLt (sgM S1) by rw [← e_ch]; assumption), if_pos (by omega), ← e_ch] at i2; exact i2.1.symm) | (rw [if_pos (by omega)] at i5; exact i5.1.symm)))
      · refine lv_aload_n hx hb dX4_goes_20 rfl (lv_at hl 2 rfl) ?_
        refine z_calli (va_runV (As := []) (rest := []) ⟨hx, hb, hml, hown, hts⟩ (k_X4_here l dC dI cI cQ A ad S1 hD (by exact ⟨hT, x5, by omega⟩)) (cwV 0 hts gX4_goes_X4_here rfl rfl rfl (by decide +kernel) ⟨Nat.le_of_ble_eq_true rfl, Nat.le_of_ble_eq_true rfl⟩) (z_preV hK hP (ci := 4) (q0 := 0) rfl rfl rfl) rfl rfl hl.1 rfl (lv_room (Nat.le_of_ble_eq_true rfl)) dX4_goes_21 ⟨Nat.zero_le _, Nat.zero_le _⟩) hS (fun _ h => h) (fun H locs hP hS _ _ => ?_)
        refine z_top (y := (sgF (S1 4) (S1 5 0) (S1 6 0))) (by exact congrArg (sgF (S1 4) (S1 5 0)) rfl) ?_
        refine z_top (y := sgM S1) (by rfl) ?_
        refine z_name (fun ch e_ch => ?_)
        refine lv_istore (lv' := [(4, .int (zI ch)), (3, .int (zI d)), (2, .int (zI n0)), (0, .ref (ad 0)), (1, .int (zI dn))]) hx hb dX4_goes_24 hl (by decide) rfl (fun ls hl => ?_)
        have rgc := sgM_rng iX
        rw [← e_ch] at rgc
        refine lv_aload_n hx hb dX4_goes_26 rfl (lv_at hl 3 rfl) ?_
        refine gx_X4_6 hx hb hts hin hown hK hP (hts _ (List.mem_of_getElem? (i := 1) rfl)) dX4_goes_27 ?_
        refine lv_istore (lv' := [(5, .int (zI (S1 6 0))), (4, .int (zI ch)), (3, .int (zI d)), (2, .int (zI n0)), (0, .ref (ad 0)), (1, .int (zI dn))]) hx hb dX4_goes_30 hl (by decide) rfl (fun ls hl => ?_)
        refine lv_iload hx hb dX4_goes_32 (lv_at hl 1 rfl) ?_
        refine z_calli (va_runS (As := [.int (zI ch)]) (rest := []) ⟨hx, hb, hml, hown, hts⟩ (k_X4_isLetter l dC dI cI cQ A (tW_X4 ad cI S1) ch (by omega)) (va_cwS 1 hts gX4_goes_X4_isLetter rfl rfl rfl (by decide +kernel) ⟨Nat.le_of_ble_eq_true rfl, Nat.le_of_ble_eq_true rfl⟩) (z_preS hK hP) rfl rfl hl.1 rfl (lv_room (Nat.le_of_ble_eq_true rfl)) dX4_goes_34 ⟨Nat.zero_le _, Nat.zero_le _⟩) hS (fun _ h => h) (fun H locs hP hS _ _ => ?_)
        refine z_ifb_eq (tgt := 89) hx hb dX4_goes_37 (by decide) (fun c2 => ?_) (fun c2 => ?_)
        · refine lv_iload hx hb dX4_goes_89 (lv_at hl 1 rfl) ?_
          refine z_bipush (z := 41) hx hb dX4_goes_91 (by decide +kernel) ?_
          refine z_icmp_ne (tgt := 177) hx hb dX4_goes_93 (by decide) (by omega) (by omega) (fun c3 => ?_) (fun c3 => ?_)
          · have i4 := i2
            rw [if_pos (show S1 6 0 < S1 5 0 by omega), if_neg (show ¬ isLt (sgM S1) by rw [← e_ch]; assumption), if_neg (by omega)] at i4
            obtain ⟨hd3, i3⟩ := i4
            refine lv_aload_n hx hb dX4_goes_177 rfl (lv_at hl 4 rfl) ?_
            refine gx_X4_9 hx hb hts hin hown hK hP (hts _ (List.mem_of_getElem? (i := 3) rfl)) dX4_goes_178 ?_
            refine lv_iload_n hx hb dX4_goes_181 rfl (lv_at hl 2 rfl) ?_
            refine lv_iload hx hb dX4_goes_182 (lv_at hl 1 rfl) ?_
            refine z_bipush (z := 40) hx hb dX4_goes_184 (by decide +kernel) ?_
            refine z_icmp_ne (tgt := 193) hx hb dX4_goes_186 (by decide) (by omega) (by omega) (fun c4 => ?_) (fun c4 => ?_)
            · refine lv_iload hx hb dX4_goes_193 (lv_at hl 1 rfl) ?_
              refine z_bipush (z := 49) hx hb dX4_goes_195 (by decide +kernel) ?_
              refine z_isub hx hb dX4_goes_197 ?_
              refine st_X4_9 hx hb hK hP hD hS (by omega) dX4_goes_198 (fun H locs hP hS => ?_)
              refine lv_aload_n hx hb dX4_goes_199 rfl (lv_at hl 4 rfl) ?_
              refine lv_dup hx hb dX4_goes_200 rfl ?_
              refine gx_X4_6 hx hb hts hin hown hK hP (hts _ (List.mem_of_getElem? (i := 1) rfl)) dX4_goes_201 ?_
              refine z_top (y := S1 6 0) (rfl) ?_
              refine lv_iload hx hb dX4_goes_204 (lv_at hl 1 rfl) ?_
              refine z_bipush (z := 40) hx hb dX4_goes_206 (by decide +kernel) ?_
              refine z_icmp_ne (tgt := 215) hx hb dX4_goes_208 (by decide) (by omega) (by omega) (fun c5 => ?_) (fun c5 => ?_)
              · refine z_iconst hx hb dX4_goes_215 ?_
                refine z_iadd hx hb dX4_goes_216 ?_
                refine z_top (y := S1 6 0 + 2) (by omega) ?_
                refine px_X4_6 hx hb hts hin hown hK hP hD hS (hts _ (List.mem_of_getElem? (i := 1) rfl)) dX4_goes_217 (fun H locs hP hS => ?_)
                refine lv_aload_n hx hb dX4_goes_220 rfl (lv_at hl 4 rfl) ?_
                refine gx_X4_8 hx hb hts hin hown hK hP (hts _ (List.mem_of_getElem? (i := 4) rfl)) dX4_goes_221 ?_
                refine lv_iload_n hx hb dX4_goes_224 rfl (lv_at hl 2 rfl) ?_
                refine lv_aload_n hx hb dX4_goes_225 rfl (lv_at hl 4 rfl) ?_
                refine gx_X4_6 hx hb hts hin hown hK hP (hts _ (List.mem_of_getElem? (i := 1) rfl)) dX4_goes_226 ?_
                refine z_top (y := S1 6 0 + 2) (up2_eq _ _ _ _) ?_
                refine st_X4_8 hx hb hK hP hD hS (by omega) dX4_goes_229 (fun H locs hP hS => ?_)
                refine z_iinc (lv' := [(3, .int (zI (d + 1))), (5, .int (zI (S1 6 0))), (4, .int (zI ch)), (2, .int (zI n0)), (0, .ref (ad 0)), (1, .int (zI dn))]) hx hb dX4_goes_230 hl (k := 2) rfl (by decide) (by rw [show (d : Int) + (1) = (d + 1) from by omega]; rfl) (fun ls hl => ?_)
                refine lv_goto (tgt := 9) hx hb dX4_goes_233 (by decide) ?_
                exact ih9 n0 (d + 1) (up2 (up2 (up2 S1 9 d (ch - 49)) 6 0 (S1 6 0 + 2)) 8 d (S1 6 0 + 2)) (g) (by first | (exfalso; omega) | (rw [if_pos (show S1 6 0 < S1 5 0 by omega), if_pos (show isLt (sgM S1) by rw [← e_ch]; assumption), if_neg (by omega), if_neg (by omega), ← e_ch] at i2; exact i2) | (rw [if_neg (by omega)] at i5; exact i5) | (rw [if_pos (by omega)] at i3; exact i3) | (rw [if_neg (by omega)] at i3; rw [up2_id0]; exact i3) | (unfold opnM at i3; rw [← e_ch, if_pos (by omega), if_pos (by omega)] at i3; exact i3) | (unfold opnM at i3; rw [← e_ch, if_neg (by omega), if_neg (by omega)] at i3; exact i3)) (by omega) _ _ hP hS ls (lv_sub hl [0, 3, 4, 5] rfl)
              · refine z_iconst hx hb dX4_goes_211 ?_
                refine lv_goto (tgt := 216) hx hb dX4_goes_212 (by decide) ?_
                refine z_iadd hx hb dX4_goes_216 ?_
                refine z_top (y := S1 6 0 + 1) (by omega) ?_
                refine px_X4_6 hx hb hts hin hown hK hP hD hS (hts _ (List.mem_of_getElem? (i := 1) rfl)) dX4_goes_217 (fun H locs hP hS => ?_)
                refine lv_aload_n hx hb dX4_goes_220 rfl (lv_at hl 4 rfl) ?_
                refine gx_X4_8 hx hb hts hin hown hK hP (hts _ (List.mem_of_getElem? (i := 4) rfl)) dX4_goes_221 ?_
                refine lv_iload_n hx hb dX4_goes_224 rfl (lv_at hl 2 rfl) ?_
                refine lv_aload_n hx hb dX4_goes_225 rfl (lv_at hl 4 rfl) ?_
                refine gx_X4_6 hx hb hts hin hown hK hP (hts _ (List.mem_of_getElem? (i := 1) rfl)) dX4_goes_226 ?_
                refine z_top (y := S1 6 0 + 1) (up2_eq _ _ _ _) ?_
                refine st_X4_8 hx hb hK hP hD hS (by omega) dX4_goes_229 (fun H locs hP hS => ?_)
                refine z_iinc (lv' := [(3, .int (zI (d + 1))), (5, .int (zI (S1 6 0))), (4, .int (zI ch)), (2, .int (zI n0)), (0, .ref (ad 0)), (1, .int (zI dn))]) hx hb dX4_goes_230 hl (k := 2) rfl (by decide) (by rw [show (d : Int) + (1) = (d + 1) from by omega]; rfl) (fun ls hl => ?_)
                refine lv_goto (tgt := 9) hx hb dX4_goes_233 (by decide) ?_
                exact ih9 n0 (d + 1) (up2 (up2 (up2 S1 9 d (ch - 49)) 6 0 (S1 6 0 + 1)) 8 d (S1 6 0 + 1)) (g) (by first | (exfalso; omega) | (rw [if_pos (show S1 6 0 < S1 5 0 by omega), if_pos (show isLt (sgM S1) by rw [← e_ch]; assumption), if_neg (by omega), if_neg (by omega), ← e_ch] at i2; exact i2) | (rw [if_neg (by omega)] at i5; exact i5) | (rw [if_pos (by omega)] at i3; exact i3) | (rw [if_neg (by omega)] at i3; rw [up2_id0]; exact i3) | (unfold opnM at i3; rw [← e_ch, if_pos (by omega), if_pos (by omega)] at i3; exact i3) | (unfold opnM at i3; rw [← e_ch, if_neg (by omega), if_neg (by omega)] at i3; exact i3)) (by omega) _ _ hP hS ls (lv_sub hl [0, 3, 4, 5] rfl)
            · refine z_iconst hx hb dX4_goes_189 ?_
              refine lv_goto (tgt := 198) hx hb dX4_goes_190 (by decide) ?_
              refine st_X4_9 hx hb hK hP hD hS (by omega) dX4_goes_198 (fun H locs hP hS => ?_)
              refine lv_aload_n hx hb dX4_goes_199 rfl (lv_at hl 4 rfl) ?_
              refine lv_dup hx hb dX4_goes_200 rfl ?_
              refine gx_X4_6 hx hb hts hin hown hK hP (hts _ (List.mem_of_getElem? (i := 1) rfl)) dX4_goes_201 ?_
              refine z_top (y := S1 6 0) (rfl) ?_
              refine lv_iload hx hb dX4_goes_204 (lv_at hl 1 rfl) ?_
              refine z_bipush (z := 40) hx hb dX4_goes_206 (by decide +kernel) ?_
              refine z_icmp_ne (tgt := 215) hx hb dX4_goes_208 (by decide) (by omega) (by omega) (fun c6 => ?_) (fun c6 => ?_)
              · refine z_iconst hx hb dX4_goes_215 ?_
                refine z_iadd hx hb dX4_goes_216 ?_
                refine z_top (y := S1 6 0 + 2) (by omega) ?_
                refine px_X4_6 hx hb hts hin hown hK hP hD hS (hts _ (List.mem_of_getElem? (i := 1) rfl)) dX4_goes_217 (fun H locs hP hS => ?_)
                refine lv_aload_n hx hb dX4_goes_220 rfl (lv_at hl 4 rfl) ?_
                refine gx_X4_8 hx hb hts hin hown hK hP (hts _ (List.mem_of_getElem? (i := 4) rfl)) dX4_goes_221 ?_
                refine lv_iload_n hx hb dX4_goes_224 rfl (lv_at hl 2 rfl) ?_
                refine lv_aload_n hx hb dX4_goes_225 rfl (lv_at hl 4 rfl) ?_
                refine gx_X4_6 hx hb hts hin hown hK hP (hts _ (List.mem_of_getElem? (i := 1) rfl)) dX4_goes_226 ?_
                refine z_top (y := S1 6 0 + 2) (up2_eq _ _ _ _) ?_
                refine st_X4_8 hx hb hK hP hD hS (by omega) dX4_goes_229 (fun H locs hP hS => ?_)
                refine z_iinc (lv' := [(3, .int (zI (d + 1))), (5, .int (zI (S1 6 0))), (4, .int (zI ch)), (2, .int (zI n0)), (0, .ref (ad 0)), (1, .int (zI dn))]) hx hb dX4_goes_230 hl (k := 2) rfl (by decide) (by rw [show (d : Int) + (1) = (d + 1) from by omega]; rfl) (fun ls hl => ?_)
                refine lv_goto (tgt := 9) hx hb dX4_goes_233 (by decide) ?_
                exact ih9 n0 (d + 1) (up2 (up2 (up2 S1 9 d 0) 6 0 (S1 6 0 + 2)) 8 d (S1 6 0 + 2)) (g) (by first | (exfalso; omega) | (rw [if_pos (show S1 6 0 < S1 5 0 by omega), if_pos (show isLt (sgM S1) by rw [← e_ch]; assumption), if_neg (by omega), if_neg (by omega), ← e_ch] at i2; exact i2) | (rw [if_neg (by omega)] at i5; exact i5) | (rw [if_pos (by omega)] at i3; exact i3) | (rw [if_neg (by omega)] at i3; rw [up2_id0]; exact i3) | (unfold opnM at i3; rw [← e_ch, if_pos (by omega), if_pos (by omega)] at i3; exact i3) | (unfold opnM at i3; rw [← e_ch, if_neg (by omega), if_neg (by omega)] at i3; exact i3)) (by omega) _ _ hP hS ls (lv_sub hl [0, 3, 4, 5] rfl)
              · refine z_iconst hx hb dX4_goes_211 ?_
                refine lv_goto (tgt := 216) hx hb dX4_goes_212 (by decide) ?_
                refine z_iadd hx hb dX4_goes_216 ?_
                refine z_top (y := S1 6 0 + 1) (by omega) ?_
                refine px_X4_6 hx hb hts hin hown hK hP hD hS (hts _ (List.mem_of_getElem? (i := 1) rfl)) dX4_goes_217 (fun H locs hP hS => ?_)
                refine lv_aload_n hx hb dX4_goes_220 rfl (lv_at hl 4 rfl) ?_
                refine gx_X4_8 hx hb hts hin hown hK hP (hts _ (List.mem_of_getElem? (i := 4) rfl)) dX4_goes_221 ?_
                refine lv_iload_n hx hb dX4_goes_224 rfl (lv_at hl 2 rfl) ?_
                refine lv_aload_n hx hb dX4_goes_225 rfl (lv_at hl 4 rfl) ?_
                refine gx_X4_6 hx hb hts hin hown hK hP (hts _ (List.mem_of_getElem? (i := 1) rfl)) dX4_goes_226 ?_
                refine z_top (y := S1 6 0 + 1) (up2_eq _ _ _ _) ?_
                refine st_X4_8 hx hb hK hP hD hS (by omega) dX4_goes_229 (fun H locs hP hS => ?_)
                refine z_iinc (lv' := [(3, .int (zI (d + 1))), (5, .int (zI (S1 6 0))), (4, .int (zI ch)), (2, .int (zI n0)), (0, .ref (ad 0)), (1, .int (zI dn))]) hx hb dX4_goes_230 hl (k := 2) rfl (by decide) (by rw [show (d : Int) + (1) = (d + 1) from by omega]; rfl) (fun ls hl => ?_)
                refine lv_goto (tgt := 9) hx hb dX4_goes_233 (by decide) ?_
                exact ih9 n0 (d + 1) (up2 (up2 (up2 S1 9 d 0) 6 0 (S1 6 0 + 1)) 8 d (S1 6 0 + 1)) (g) (by first | (exfalso; omega) | (rw [if_pos (show S1 6 0 < S1 5 0 by omega), if_pos (show isLt (sgM S1) by rw [← e_ch]; assumption), if_neg (by omega), if_neg (by omega), ← e_ch] at i2; exact i2) | (rw [if_neg (by omega)] at i5; exact i5) | (rw [if_pos (by omega)] at i3; exact i3) | (rw [if_neg (by omega)] at i3; rw [up2_id0]; exact i3) | (unfold opnM at i3; rw [← e_ch, if_pos (by omega), if_pos (by omega)] at i3; exact i3) | (unfold opnM at i3; rw [← e_ch, if_neg (by omega), if_neg (by omega)] at i3; exact i3)) (by omega) _ _ hP hS ls (lv_sub hl [0, 3, 4, 5] rfl)
          · have i4 := i2
            rw [if_pos (show S1 6 0 < S1 5 0 by omega), if_neg (show ¬ isLt (sgM S1) by rw [← e_ch]; assumption), if_pos (by omega)] at i4
            obtain ⟨hd1, i3⟩ := i4
            have b9 := h9 (d - 1)
            refine lv_aload_n hx hb dX4_goes_96 rfl (lv_at hl 4 rfl) ?_
            refine gx_X4_9 hx hb hts hin hown hK hP (hts _ (List.mem_of_getElem? (i := 3) rfl)) dX4_goes_97 ?_
            refine lv_iload_n hx hb dX4_goes_100 rfl (lv_at hl 2 rfl) ?_
            refine z_iconst hx hb dX4_goes_101 ?_
            refine z_isub hx hb dX4_goes_102 ?_
            refine ld_X4_9 (v := S1 9 (d - 1)) hx hb hK hP (by omega) rfl dX4_goes_103 ?_
            refine z_if_le (tgt := 111) hx hb dX4_goes_104 (by decide) (by omega) (fun c7 => ?_) (fun c7 => ?_)
            · refine z_iconst hx hb dX4_goes_111 ?_
              refine lv_istore (lv' := [(6, .int (zI 0)), (5, .int (zI (S1 6 0))), (4, .int (zI ch)), (3, .int (zI d)), (2, .int (zI n0)), (0, .ref (ad 0)), (1, .int (zI dn))]) hx hb dX4_goes_112 hl (by decide) rfl (fun ls hl => ?_)
              refine lv_aload_n hx hb dX4_goes_114 rfl (lv_at hl 5 rfl) ?_
              refine gx_X4_9 hx hb hts hin hown hK hP (hts _ (List.mem_of_getElem? (i := 3) rfl)) dX4_goes_115 ?_
              refine lv_iload_n hx hb dX4_goes_118 rfl (lv_at hl 3 rfl) ?_
              refine z_iconst hx hb dX4_goes_119 ?_
              refine z_isub hx hb dX4_goes_120 ?_
              refine lv_dup2_11 hx hb dX4_goes_121 rfl rfl ?_
              refine ld_X4_9 (v := S1 9 (d - 1)) hx hb hK hP (by omega) rfl dX4_goes_122 ?_
              refine lv_iload hx hb dX4_goes_123 (lv_at hl 0 rfl) ?_
              refine z_if_eq (tgt := 132) hx hb dX4_goes_125 (by decide) (by omega) (fun _ => ?_) (fun q => absurd (by omega) q)
              refine z_iconst hx hb dX4_goes_132 ?_
              refine z_isub hx hb dX4_goes_133 ?_
              refine z_top (y := S1 9 (d - 1)) (by omega) ?_
              refine st_X4_9 hx hb hK hP hD hS (by omega) dX4_goes_134 (fun H locs hP hS => ?_)
              refine lv_aload_n hx hb dX4_goes_135 rfl (lv_at hl 5 rfl) ?_
              refine lv_iload hx hb dX4_goes_136 (lv_at hl 0 rfl) ?_
              refine z_if_eq (tgt := 152) hx hb dX4_goes_138 (by decide) (by omega) (fun _ => ?_) (fun q => absurd (by omega) q)
              refine lv_aload_n hx hb dX4_goes_152 rfl (lv_at hl 5 rfl) ?_
              refine gx_X4_6 hx hb hts hin hown hK hP (hts _ (List.mem_of_getElem? (i := 1) rfl)) dX4_goes_153 ?_
              refine z_top (y := S1 6 0) (rfl) ?_
              refine z_iconst hx hb dX4_goes_156 ?_
              refine z_iadd hx hb dX4_goes_157 ?_
              refine z_top (y := S1 6 0 + 1) (by omega) ?_
              refine px_X4_6 hx hb hts hin hown hK hP hD hS (hts _ (List.mem_of_getElem? (i := 1) rfl)) dX4_goes_158 (fun H locs hP hS => ?_)
              refine lv_iload_n hx hb dX4_goes_161 rfl (lv_at hl 3 rfl) ?_
              refine lv_iload hx hb dX4_goes_162 (lv_at hl 0 rfl) ?_
              refine z_if_eq (tgt := 171) hx hb dX4_goes_164 (by decide) (by omega) (fun _ => ?_) (fun q => absurd (by omega) q)
              refine z_iconst hx hb dX4_goes_171 ?_
              refine z_isub hx hb dX4_goes_172 ?_
              refine lv_istore_n (lv' := [(3, .int (zI (d - 1))), (6, .int (zI 0)), (5, .int (zI (S1 6 0))), (4, .int (zI ch)), (2, .int (zI n0)), (0, .ref (ad 0)), (1, .int (zI dn))]) hx hb dX4_goes_173 rfl hl (by decide) rfl (fun ls hl => ?_)
              refine lv_goto (tgt := 233) hx hb dX4_goes_174 (by decide) ?_
              refine lv_goto (tgt := 9) hx hb dX4_goes_233 (by decide) ?_
              exact ih9 n0 (d - 1) (up2 (up2 S1 9 (d - 1) (S1 9 (d - 1))) 6 0 (S1 6 0 + 1)) (g) (by first | (exfalso; omega) | (rw [if_pos (show S1 6 0 < S1 5 0 by omega), if_pos (show isLt (sgM S1) by rw [← e_ch]; assumption), if_neg (by omega), if_neg (by omega), ← e_ch] at i2; exact i2) | (rw [if_neg (by omega)] at i5; exact i5) | (rw [if_pos (by omega)] at i3; exact i3) | (rw [if_neg (by omega)] at i3; rw [up2_id0]; exact i3) | (unfold opnM at i3; rw [← e_ch, if_pos (by omega), if_pos (by omega)] at i3; exact i3) | (unfold opnM at i3; rw [← e_ch, if_neg (by omega), if_neg (by omega)] at i3; exact i3)) (by omega) _ _ hP hS ls (lv_sub hl [0, 4, 5, 6] rfl)
            · refine z_iconst hx hb dX4_goes_107 ?_
              refine lv_goto (tgt := 112) hx hb dX4_goes_108 (by decide) ?_
              refine lv_istore (lv' := [(6, .int (zI 1)), (5, .int (zI (S1 6 0))), (4, .int (zI ch)), (3, .int (zI d)), (2, .int (zI n0)), (0, .ref (ad 0)), (1, .int (zI dn))]) hx hb dX4_goes_112 hl (by decide) rfl (fun ls hl => ?_)
              refine lv_aload_n hx hb dX4_goes_114 rfl (lv_at hl 5 rfl) ?_
              refine gx_X4_9 hx hb hts hin hown hK hP (hts _ (List.mem_of_getElem? (i := 3) rfl)) dX4_goes_115 ?_
              refine lv_iload_n hx hb dX4_goes_118 rfl (lv_at hl 3 rfl) ?_
              refine z_iconst hx hb dX4_goes_119 ?_
              refine z_isub hx hb dX4_goes_120 ?_
              refine lv_dup2_11 hx hb dX4_goes_121 rfl rfl ?_
              refine ld_X4_9 (v := S1 9 (d - 1)) hx hb hK hP (by omega) rfl dX4_goes_122 ?_
              refine lv_iload hx hb dX4_goes_123 (lv_at hl 0 rfl) ?_
              refine z_if_eq (tgt := 132) hx hb dX4_goes_125 (by decide) (by omega) (fun q => absurd q (by omega)) (fun _ => ?_)
              refine z_iconst hx hb dX4_goes_128 ?_
              refine lv_goto (tgt := 133) hx hb dX4_goes_129 (by decide) ?_
              refine z_isub hx hb dX4_goes_133 ?_
              refine z_top (y := S1 9 (d - 1) - 1) (by omega) ?_
              refine st_X4_9 hx hb hK hP hD hS (by omega) dX4_goes_134 (fun H locs hP hS => ?_)
              refine lv_aload_n hx hb dX4_goes_135 rfl (lv_at hl 5 rfl) ?_
              refine lv_iload hx hb dX4_goes_136 (lv_at hl 0 rfl) ?_
              refine z_if_eq (tgt := 152) hx hb dX4_goes_138 (by decide) (by omega) (fun q => absurd q (by omega)) (fun _ => ?_)
              refine lv_aload_n hx hb dX4_goes_141 rfl (lv_at hl 5 rfl) ?_
              refine gx_X4_8 hx hb hts hin hown hK hP (hts _ (List.mem_of_getElem? (i := 4) rfl)) dX4_goes_142 ?_
              refine lv_iload_n hx hb dX4_goes_145 rfl (lv_at hl 3 rfl) ?_
              refine z_iconst hx hb dX4_goes_146 ?_
              refine z_isub hx hb dX4_goes_147 ?_
              refine ld_X4_8 (v := S1 8 (d - 1)) hx hb hK hP (by omega) rfl dX4_goes_148 ?_
              refine lv_goto (tgt := 158) hx hb dX4_goes_149 (by decide) ?_
              refine px_X4_6 hx hb hts hin hown hK hP hD hS (hts _ (List.mem_of_getElem? (i := 1) rfl)) dX4_goes_158 (fun H locs hP hS => ?_)
              refine lv_iload_n hx hb dX4_goes_161 rfl (lv_at hl 3 rfl) ?_
              refine lv_iload hx hb dX4_goes_162 (lv_at hl 0 rfl) ?_
              refine z_if_eq (tgt := 171) hx hb dX4_goes_164 (by decide) (by omega) (fun q => absurd q (by omega)) (fun _ => ?_)
              refine z_iconst hx hb dX4_goes_167 ?_
              refine lv_goto (tgt := 172) hx hb dX4_goes_168 (by decide) ?_
              refine z_isub hx hb dX4_goes_172 ?_
              refine z_top (y := d) (by omega) ?_
              refine lv_istore_n (lv' := [(3, .int (zI d)), (6, .int (zI 1)), (5, .int (zI (S1 6 0))), (4, .int (zI ch)), (2, .int (zI n0)), (0, .ref (ad 0)), (1, .int (zI dn))]) hx hb dX4_goes_173 rfl hl (by decide) rfl (fun ls hl => ?_)
              refine lv_goto (tgt := 233) hx hb dX4_goes_174 (by decide) ?_
              refine lv_goto (tgt := 9) hx hb dX4_goes_233 (by decide) ?_
              exact ih9 n0 d (up2 (up2 S1 9 (d - 1) (S1 9 (d - 1) - 1)) 6 0 (S1 8 (d - 1))) (g) (by first | (exfalso; omega) | (rw [if_pos (show S1 6 0 < S1 5 0 by omega), if_pos (show isLt (sgM S1) by rw [← e_ch]; assumption), if_neg (by omega), if_neg (by omega), ← e_ch] at i2; exact i2) | (rw [if_neg (by omega)] at i5; exact i5) | (rw [if_pos (by omega)] at i3; exact i3) | (rw [if_neg (by omega)] at i3; rw [up2_id0]; exact i3) | (unfold opnM at i3; rw [← e_ch, if_pos (by omega), if_pos (by omega)] at i3; exact i3) | (unfold opnM at i3; rw [← e_ch, if_neg (by omega), if_neg (by omega)] at i3; exact i3)) (by omega) _ _ hP hS ls (lv_sub hl [0, 4, 5, 6] rfl)
        · refine lv_aload_n hx hb dX4_goes_40 rfl (lv_at hl 4 rfl) ?_
          refine lv_dup hx hb dX4_goes_41 rfl ?_
          refine gx_X4_6 hx hb hts hin hown hK hP (hts _ (List.mem_of_getElem? (i := 1) rfl)) dX4_goes_42 ?_
          refine z_iconst hx hb dX4_goes_45 ?_
          refine z_iadd hx hb dX4_goes_46 ?_
          refine z_top (y := S1 6 0 + 1) (by omega) ?_
          refine px_X4_6 hx hb hts hin hown hK hP hD hS (hts _ (List.mem_of_getElem? (i := 1) rfl)) dX4_goes_47 (fun H locs hP hS => ?_)
          refine lv_aload_n hx hb dX4_goes_50 rfl (lv_at hl 4 rfl) ?_
          refine lv_iload hx hb dX4_goes_51 (lv_at hl 1 rfl) ?_
          refine z_calli (va_runV (As := [.int (zI ch)]) (rest := []) ⟨hx, hb, hml, hown, hts⟩ (k_X4_readsAct l dC dI cI cQ A ad (up2 S1 6 0 (S1 6 0 + 1)) hD ch (by exact Tx_adv iX (by omega)) (by omega)) (cwV 1 hts gX4_goes_X4_readsAct rfl rfl rfl (by decide +kernel) ⟨Nat.le_of_ble_eq_true rfl, Nat.le_of_ble_eq_true rfl⟩) (z_preV hK hP (ci := 4) (q0 := 0) rfl rfl rfl) rfl rfl hl.1 rfl (lv_room (Nat.le_of_ble_eq_true rfl)) dX4_goes_53 ⟨Nat.zero_le _, Nat.zero_le _⟩) hS (fun _ h => h) (fun H locs hP hS _ _ => ?_)
          refine lv_pop hx hb dX4_goes_56 rfl ?_
          refine lv_iload_n hx hb dX4_goes_57 rfl (lv_at hl 3 rfl) ?_
          refine z_bipush (z := 100) hx hb dX4_goes_58 (by decide +kernel) ?_
          refine z_icmp_eq (tgt := 76) hx hb dX4_goes_60 (by decide) (by omega) (by omega) (fun c14 => ?_) (fun c14 => ?_)
          · refine z_sipush (z := (-1000)) hx hb dX4_goes_76 (by decide +kernel) ?_
            refine lv_iload hx hb dX4_goes_79 (lv_at hl 0 rfl) ?_
            refine z_isub hx hb dX4_goes_81 ?_
            refine z_top (y := -S1 6 0 - 1000) (by omega) ?_
            exact z_iret hx hb hr hlk hP hS dX4_goes_82 (by first | (exfalso; omega) | (rw [if_neg (by omega)] at i2; exact i2.2.symm) | (rw [if_pos (show S1 6 0 < S1 5 0 by omega), if_pos (show isLt (sgM S1) by rw [← e_ch]; assumption), if_pos (by omega)] at i2; have := i2.2; omega) | (rw [if_pos (by omega)] at i5; have := i5.2; omega)) (congrArg (tW_X4 ad cI) (by first | (exfalso; omega) | (rw [if_neg (by omega)] at i2; exact i2.1.symm) | (rw [if_pos (show S1 6 0 < S1 5 0 by omega), if_pos (show isLt (sgM S1) by rw [← e_ch]; assumption), if_pos (by omega), ← e_ch] at i2; exact i2.1.symm) | (rw [if_pos (by omega)] at i5; exact i5.1.symm)))
          · refine lv_iload_n hx hb dX4_goes_63 rfl (lv_at hl 5 rfl) ?_
            refine z_if_eq (tgt := 83) hx hb dX4_goes_64 (by decide) (by omega) (fun c15 => ?_) (fun c15 => ?_)
            · refine z_iinc (lv' := [(2, .int (zI (n0 + 1))), (5, .int (zI (S1 6 0))), (4, .int (zI ch)), (3, .int (zI d)), (0, .ref (ad 0)), (1, .int (zI dn))]) hx hb dX4_goes_83 hl (k := 3) rfl (by decide) (by rw [show (n0 : Int) + (1) = (n0 + 1) from by omega]; rfl) (fun ls hl => ?_)
              refine lv_goto (tgt := 233) hx hb dX4_goes_86 (by decide) ?_
              refine lv_goto (tgt := 9) hx hb dX4_goes_233 (by decide) ?_
              exact ih9 (n0 + 1) d (raM (up2 S1 6 0 (S1 6 0 + 1)) ch) (g) (by first | (exfalso; omega) | (rw [if_pos (show S1 6 0 < S1 5 0 by omega), if_pos (show isLt (sgM S1) by rw [← e_ch]; assumption), if_neg (by omega), if_neg (by omega), ← e_ch] at i2; exact i2) | (rw [if_neg (by omega)] at i5; exact i5) | (rw [if_pos (by omega)] at i3; exact i3) | (rw [if_neg (by omega)] at i3; rw [up2_id0]; exact i3) | (unfold opnM at i3; rw [← e_ch, if_pos (by omega), if_pos (by omega)] at i3; exact i3) | (unfold opnM at i3; rw [← e_ch, if_neg (by omega), if_neg (by omega)] at i3; exact i3)) (by omega) _ _ hP hS ls (lv_sub hl [3, 0, 4, 5] rfl)
            · have i4 := i2
              rw [if_pos (show S1 6 0 < S1 5 0 by omega), if_pos (show isLt (sgM S1) by rw [← e_ch]; assumption), if_neg (by omega), if_pos (by omega), ← e_ch] at i4
              obtain ⟨hO, i5⟩ := i4
              have hOr := hO.2.2.2.2.2
              refine lv_aload_n hx hb dX4_goes_67 rfl (lv_at hl 4 rfl) ?_
              refine lv_iload hx hb dX4_goes_68 (lv_at hl 1 rfl) ?_
              refine z_calli (va_runV (As := [.int (zI ch)]) (rest := []) ⟨hx, hb, hml, hown, hts⟩ (k_X4_does l dC dI cI cQ A ad (raM (up2 S1 6 0 (S1 6 0 + 1)) ch) hD ch (by exact hO) (by omega)) (cwV 1 hts gX4_goes_X4_does rfl rfl rfl (by decide +kernel) ⟨Nat.le_of_ble_eq_true rfl, Nat.le_of_ble_eq_true rfl⟩) (z_preV hK hP (ci := 4) (q0 := 0) rfl rfl rfl) rfl rfl hl.1 rfl (lv_room (Nat.le_of_ble_eq_true rfl)) dX4_goes_70 ⟨Nat.zero_le _, Nat.zero_le _⟩) hS (fun _ h => h) (fun H locs hP hS _ _ => ?_)
              refine z_if_ge (tgt := 83) hx hb dX4_goes_73 (by decide) (by omega) (fun c16 => ?_) (fun c16 => ?_)
              · refine z_iinc (lv' := [(2, .int (zI (n0 + 1))), (5, .int (zI (S1 6 0))), (4, .int (zI ch)), (3, .int (zI d)), (0, .ref (ad 0)), (1, .int (zI dn))]) hx hb dX4_goes_83 hl (k := 3) rfl (by decide) (by rw [show (n0 : Int) + (1) = (n0 + 1) from by omega]; rfl) (fun ls hl => ?_)
                refine lv_goto (tgt := 233) hx hb dX4_goes_86 (by decide) ?_
                refine lv_goto (tgt := 9) hx hb dX4_goes_233 (by decide) ?_
                exact ih9 (n0 + 1) d (doesM (raM (up2 S1 6 0 (S1 6 0 + 1)) ch) ch) (g) (by first | (exfalso; omega) | (rw [if_pos (show S1 6 0 < S1 5 0 by omega), if_pos (show isLt (sgM S1) by rw [← e_ch]; assumption), if_neg (by omega), if_neg (by omega), ← e_ch] at i2; exact i2) | (rw [if_neg (by omega)] at i5; exact i5) | (rw [if_pos (by omega)] at i3; exact i3) | (rw [if_neg (by omega)] at i3; rw [up2_id0]; exact i3) | (unfold opnM at i3; rw [← e_ch, if_pos (by omega), if_pos (by omega)] at i3; exact i3) | (unfold opnM at i3; rw [← e_ch, if_neg (by omega), if_neg (by omega)] at i3; exact i3)) (by omega) _ _ hP hS ls (lv_sub hl [3, 0, 4, 5] rfl)
              · refine z_sipush (z := (-1000)) hx hb dX4_goes_76 (by decide +kernel) ?_
                refine lv_iload hx hb dX4_goes_79 (lv_at hl 0 rfl) ?_
                refine z_isub hx hb dX4_goes_81 ?_
                refine z_top (y := -S1 6 0 - 1000) (by omega) ?_
                exact z_iret hx hb hr hlk hP hS dX4_goes_82 (by first | (exfalso; omega) | (rw [if_neg (by omega)] at i2; exact i2.2.symm) | (rw [if_pos (show S1 6 0 < S1 5 0 by omega), if_pos (show isLt (sgM S1) by rw [← e_ch]; assumption), if_pos (by omega)] at i2; have := i2.2; omega) | (rw [if_pos (by omega)] at i5; have := i5.2; omega)) (congrArg (tW_X4 ad cI) (by first | (exfalso; omega) | (rw [if_neg (by omega)] at i2; exact i2.1.symm) | (rw [if_pos (show S1 6 0 < S1 5 0 by omega), if_pos (show isLt (sgM S1) by rw [← e_ch]; assumption), if_pos (by omega), ← e_ch] at i2; exact i2.1.symm) | (rw [if_pos (by omega)] at i5; exact i5.1.symm)))
  exact hloop9 (((f0 : Int) : Int) + 1).toNat 0 0 (up2 S 6 0 0) (f0) (by exact hG) (by omega) _ _ hP hS ls (lv_sub hl [0, 1, 2, 3] rfl)
theorem in_X4_run : ∀ w ∈ wsX40, w ∈ wsX4_run := fun w h => List.mem_cons_of_mem _ (List.mem_append_right _ h)
set_option maxHeartbeats 4000000 in
set_option maxRecDepth 100000 in
theorem k_X4_run (l : Launch) (dC : Nat → ClassId) (dI : Nat → Nat → Nat) (cI cQ : ClassId) (A : Nat → Prop) (ad : Nat → Nat) (S : Nat → Int → Int) (hD : ∀ S, va_D A (tW_X4 ad cI S)) (f1 f2 : Nat) (S2 S3 : Nat → Int → Int) (r1 r2 : Int) (hX : TxO S) (hG1 : (rdF (S 5 0).toNat (up2 S 6 0 0) 0).2 = true → GS 0 f1 (up2 (readsAllM S) 6 0 0) 0 0 S2 r1) (hr1 : -1000000 ≤ r1 ∧ r1 ≤ 1000000) (hG2 : (rdF (S 5 0).toNat (up2 S 6 0 0) 0).2 = true → 0 ≤ r1 → GS 1 f2 (up2 (up2 (putsM S2) 7 0 1) 6 0 0) 0 0 S3 r2) (hr2 : -1000000 ≤ r2 ∧ r2 ≤ 1000000) (h3 : 0 ≤ S3 2 0 ∧ S3 2 0 ≤ 5) (h0 : -1000 ≤ readsAllM S 6 0 ∧ readsAllM S 6 0 ≤ 1000) : Met l yX4_run wsX4_run ({ frames := 7, cells := 0, slots := 0, locals := 164 }) (zPc (dC, dI) vwCl (zT cI cQ) (tW_X4 ad cI S) [.ref (ad 0)]) (zQi (dC, dI) vwCl (tW_X4 ad cI (runM S S2 S3 r1 r2)) (runR S S2 S3 r1 r2) A) 0 0 A := by
  refine Met.ofW (cc := cX4_run) (maxL := 4) (ret := (some .int)) (by decide) rfl ?_
  intro p e s m args below meth c s₁ B hml hv
  obtain ⟨rfl, hP, hK⟩ := hv
  have hx := B.exec
  have hb := B.bytes
  have hr := B.returns
  have hts := atoms_spec (ws := wsX4_run) B.pre
  have hown : s.vm.findClass RX4 = some m.cls := findClass_of_methodNamed B.named
  have hlk := B.notSynchronized
  have hS : va_S A s.heap s.heap [] := va_S.rf
  have hl := lv_entry ([.ref (ad 0)]) (n := 4) (Nat.le_of_ble_eq_true rfl)
  rw [lg_entry_eq]
  generalize (lg_sl ([.ref (ad 0)]) ++ List.replicate (4 - (lg_sl ([.ref (ad 0)])).length) Slot.unset).toArray = ls at hl ⊢
  have hl : lv_has ls 4 [(0, .ref (ad 0))] := hl
  have hin : ∀ w ∈ wsX40, w ∈ wsX4_run := in_X4_run
  refine lv_aload_n hx hb dX4_run_0 rfl (lv_at hl 0 rfl) ?_
  refine z_calli (va_runV (As := []) (rest := []) ⟨hx, hb, hml, hown, hts⟩ (k_X4_readsAll l dC dI cI cQ A ad S hD (by exact hX)) (cwV 0 hts gX4_run_X4_readsAll rfl rfl rfl (by decide +kernel) ⟨Nat.le_of_ble_eq_true rfl, Nat.le_of_ble_eq_true rfl⟩) (z_preV hK hP (ci := 4) (q0 := 0) rfl rfl rfl) rfl rfl hl.1 rfl (lv_room (Nat.le_of_ble_eq_true rfl)) dX4_run_1 ⟨Nat.zero_le _, Nat.zero_le _⟩) hS (fun _ h => h) (fun H locs hP hS _ _ => ?_)
  refine z_ifb_ne (tgt := 16) hx hb dX4_run_4 (by decide) (fun c1 => ?_) (fun c1 => ?_)
  · refine lv_aload_n hx hb dX4_run_16 rfl (lv_at hl 0 rfl) ?_
    refine z_iconst hx hb dX4_run_17 ?_
    refine z_calli (va_runV (As := [.int (zI 0)]) (rest := []) ⟨hx, hb, hml, hown, hts⟩ (k_X4_goes l dC dI cI cQ A ad (readsAllM S) hD 0 (f1) (S2) (r1) (by omega) (by exact hG1 (by assumption))) (cwV 1 hts gX4_run_X4_goes rfl rfl rfl (by decide +kernel) ⟨Nat.le_of_ble_eq_true rfl, Nat.le_of_ble_eq_true rfl⟩) (z_preV hK hP (ci := 4) (q0 := 0) rfl rfl rfl) rfl rfl hl.1 rfl (lv_room (Nat.le_of_ble_eq_true rfl)) dX4_run_18 ⟨Nat.zero_le _, Nat.zero_le _⟩) hS (fun _ h => h) (fun H locs hP hS _ _ => ?_)
    refine lv_istore_n (lv' := [(1, .int (zI r1)), (0, .ref (ad 0))]) hx hb dX4_run_21 rfl hl (by decide) rfl (fun ls hl => ?_)
    refine lv_iload_n hx hb dX4_run_22 rfl (lv_at hl 0 rfl) ?_
    refine z_if_ge (tgt := 28) hx hb dX4_run_23 (by decide) (by omega) (fun c2 => ?_) (fun c2 => ?_)
    · refine lv_aload_n hx hb dX4_run_28 rfl (lv_at hl 1 rfl) ?_
      refine z_callv (va_runV (As := []) (rest := []) ⟨hx, hb, hml, hown, hts⟩ (k_X4_puts l dC dI cI cQ A ad S2 hD) (cwV 0 hts gX4_run_X4_puts rfl rfl rfl (by decide +kernel) ⟨Nat.le_of_ble_eq_true rfl, Nat.le_of_ble_eq_true rfl⟩) (z_preV hK hP (ci := 4) (q0 := 0) rfl rfl rfl) rfl rfl hl.1 rfl (lv_room (Nat.le_of_ble_eq_true rfl)) dX4_run_29 ⟨Nat.zero_le _, Nat.zero_le _⟩) hS (fun _ h => h) (fun H locs hP hS _ _ => ?_)
      refine lv_aload_n hx hb dX4_run_32 rfl (lv_at hl 1 rfl) ?_
      refine z_iconst hx hb dX4_run_33 ?_
      refine px_X4_7 hx hb hts hin hown hK hP hD hS (hts _ (List.mem_of_getElem? (i := 2) rfl)) (by omega) dX4_run_34 (fun H locs hP hS => ?_)
      refine lv_aload_n hx hb dX4_run_37 rfl (lv_at hl 1 rfl) ?_
      refine z_iconst hx hb dX4_run_38 ?_
      refine z_calli (va_runV (As := [.int (zI 1)]) (rest := []) ⟨hx, hb, hml, hown, hts⟩ (k_X4_goes l dC dI cI cQ A ad (up2 (putsM S2) 7 0 1) hD 1 (f2) (S3) (r2) (by omega) (by exact hG2 (by assumption) (by omega))) (cwV 1 hts gX4_run_X4_goes rfl rfl rfl (by decide +kernel) ⟨Nat.le_of_ble_eq_true rfl, Nat.le_of_ble_eq_true rfl⟩) (z_preV hK hP (ci := 4) (q0 := 0) rfl rfl rfl) rfl rfl hl.1 rfl (lv_room (Nat.le_of_ble_eq_true rfl)) dX4_run_39 ⟨Nat.zero_le _, Nat.zero_le _⟩) hS (fun _ h => h) (fun H locs hP hS _ _ => ?_)
      refine lv_istore_n (lv' := [(1, .int (zI r2)), (0, .ref (ad 0))]) hx hb dX4_run_42 rfl hl (by decide) rfl (fun ls hl => ?_)
      refine lv_aload_n hx hb dX4_run_43 rfl (lv_at hl 1 rfl) ?_
      refine z_iconst hx hb dX4_run_44 ?_
      refine px_X4_7 hx hb hts hin hown hK hP hD hS (hts _ (List.mem_of_getElem? (i := 2) rfl)) (by omega) dX4_run_45 (fun H locs hP hS => ?_)
      refine lv_iload_n hx hb dX4_run_48 rfl (lv_at hl 0 rfl) ?_
      refine z_if_ge (tgt := 58) hx hb dX4_run_49 (by decide) (by omega) (fun c3 => ?_) (fun c3 => ?_)
      · refine z_iconst hx hb dX4_run_58 ?_
        refine lv_istore_n (lv' := [(2, .int (zI 0)), (1, .int (zI r2)), (0, .ref (ad 0))]) hx hb dX4_run_59 rfl hl (by decide) rfl (fun ls hl => ?_)
        have hloop60 : ∀ (n : Nat) (k : Int) (S9 : Nat → Int → Int), (0 ≤ k ∧ k ≤ 965) → (S9 = swK (up2 S3 7 0 0) k) → (965 - k < (n : Int)) → ∀ (H : Heap) (locs : List Loc), va_P (dC, dI) vwCl (tW_X4 ad cI S9) H → va_S A s.heap H locs → ∀ ls : Array Slot, lv_has ls 4 [(2, .int (zI k)), (1, .int (zI r2)), (0, .ref (ad 0))] → W p l e (headSpec wsX4_run ({ frames := 7, cells := 0, slots := 0, locals := 164 })).room s m ([.ref (ad 0)] : List Value).toArray below meth c H locs 0 0 (MQ below (zQi (dC, dI) vwCl (tW_X4 ad cI (runM S S2 S3 r1 r2)) (runR S S2 S3 r1 r2) A) ([.ref (ad 0)] : List Value).toArray s 0 0 A) (F0 m 60 ls []) := by
          intro n
          induction n with
          | zero =>
            intro k S9 i0 i1 hm
            exfalso
            omega
          | succ n ih =>
            intro k S9 i0 i1 hm H locs hP hS ls hl
            have ih60 := ih
            clear ih
            subst i1
            refine lv_iload_n hx hb dX4_run_60 rfl (lv_at hl 0 rfl) ?_
            refine z_sipush (z := 965) hx hb dX4_run_61 (by decide +kernel) ?_
            refine z_icmp_ge (tgt := 99) hx hb dX4_run_64 (by decide) (by omega) (by omega) (fun c4 => ?_) (fun c4 => ?_)
            · obtain rfl : k = 965 := by omega
              refine lv_aload_n hx hb dX4_run_99 rfl (lv_at hl 2 rfl) ?_
              refine z_callv (va_runV (As := []) (rest := []) ⟨hx, hb, hml, hown, hts⟩ (k_X4_saves l dC dI cI cQ A ad (swK (up2 S3 7 0 0) 965) hD (by exact h3) (by exact Or.inl rfl)) (cwV 0 hts gX4_run_X4_saves rfl rfl rfl (by decide +kernel) ⟨Nat.le_of_ble_eq_true rfl, Nat.le_of_ble_eq_true rfl⟩) (z_preV hK hP (ci := 4) (q0 := 0) rfl rfl rfl) rfl rfl hl.1 rfl (lv_room (Nat.le_of_ble_eq_true rfl)) dX4_run_100 ⟨Nat.zero_le _, Nat.zero_le _⟩) hS (fun _ h => h) (fun H locs hP hS _ _ => ?_)
              refine lv_aload_n hx hb dX4_run_103 rfl (lv_at hl 2 rfl) ?_
              refine z_callv (va_runV (As := []) (rest := []) ⟨hx, hb, hml, hown, hts⟩ (k_X4_back l dC dI cI cQ A ad (savesM (swK (up2 S3 7 0 0) 965)) hD) (cwV 0 hts gX4_run_X4_back rfl rfl rfl (by decide +kernel) ⟨Nat.le_of_ble_eq_true rfl, Nat.le_of_ble_eq_true rfl⟩) (z_preV hK hP (ci := 4) (q0 := 0) rfl rfl rfl) rfl rfl hl.1 rfl (lv_room (Nat.le_of_ble_eq_true rfl)) dX4_run_104 ⟨Nat.zero_le _, Nat.zero_le _⟩) hS (fun _ h => h) (fun H locs hP hS _ _ => ?_)
              refine lv_iload_n hx hb dX4_run_107 rfl (lv_at hl 1 rfl) ?_
              exact z_iret hx hb hr hlk hP hS dX4_run_108 (by unfold runR; first | (rw [if_pos (by assumption)]; omega) | (rw [if_neg (by assumption), if_pos (by omega)]) | (rw [if_neg (fun q => q (by assumption)), if_pos (by omega)]) | (rw [if_neg (fun q => q (by assumption)), if_neg (by omega)])) (congrArg (tW_X4 ad cI) (by unfold runM; first | (rw [if_pos (by assumption)]) | (rw [if_neg (fun q => q (by assumption)), if_pos (by omega)]) | (rw [if_neg (fun q => q (by assumption)), if_neg (by omega), if_pos (by omega)]) | (rw [if_neg (fun q => q (by assumption)), if_neg (by omega), if_neg (by omega)])))
            · refine lv_aload_n hx hb dX4_run_67 rfl (lv_at hl 2 rfl) ?_
              refine gx_X4_0 hx hb hts hin hown hK hP (hts _ (List.mem_of_getElem? (i := 3) rfl)) dX4_run_68 ?_
              refine lv_iload_n hx hb dX4_run_71 rfl (lv_at hl 0 rfl) ?_
              refine ld_X4_0 (v := (swK (up2 S3 7 0 0) k) 0 k) hx hb hK hP (by omega) rfl dX4_run_72 ?_
              refine z_top (y := (up2 S3 7 0 0) 0 k) (by exact swK_at0 _ _) ?_
              refine lv_istore_n (lv' := [(3, .int (zI ((up2 S3 7 0 0) 0 k))), (2, .int (zI k)), (1, .int (zI r2)), (0, .ref (ad 0))]) hx hb dX4_run_73 rfl hl (by decide) rfl (fun ls hl => ?_)
              refine lv_aload_n hx hb dX4_run_74 rfl (lv_at hl 3 rfl) ?_
              refine gx_X4_0 hx hb hts hin hown hK hP (hts _ (List.mem_of_getElem? (i := 3) rfl)) dX4_run_75 ?_
              refine lv_iload_n hx hb dX4_run_78 rfl (lv_at hl 1 rfl) ?_
              refine lv_aload_n hx hb dX4_run_79 rfl (lv_at hl 3 rfl) ?_
              refine gx_X4_3 hx hb hts hin hown hK hP (hts _ (List.mem_of_getElem? (i := 4) rfl)) dX4_run_80 ?_
              refine lv_iload_n hx hb dX4_run_83 rfl (lv_at hl 1 rfl) ?_
              refine ld_X4_3 (v := (swK (up2 S3 7 0 0) k) 3 k) hx hb hK hP (by omega) rfl dX4_run_84 ?_
              refine z_top (y := (up2 S3 7 0 0) 3 k) (by exact swK_at3 _ _) ?_
              refine st_X4_0 hx hb hK hP hD hS (by omega) dX4_run_85 (fun H locs hP hS => ?_)
              refine lv_aload_n hx hb dX4_run_86 rfl (lv_at hl 3 rfl) ?_
              refine gx_X4_3 hx hb hts hin hown hK hP (hts _ (List.mem_of_getElem? (i := 4) rfl)) dX4_run_87 ?_
              refine lv_iload_n hx hb dX4_run_90 rfl (lv_at hl 1 rfl) ?_
              refine lv_iload_n hx hb dX4_run_91 rfl (lv_at hl 0 rfl) ?_
              refine st_X4_3 hx hb hK hP hD hS (by omega) dX4_run_92 (fun H locs hP hS => ?_)
              refine z_iinc (lv' := [(2, .int (zI (k + 1))), (3, .int (zI ((up2 S3 7 0 0) 0 k))), (1, .int (zI r2)), (0, .ref (ad 0))]) hx hb dX4_run_93 hl (k := 1) rfl (by decide) (by rw [show (k : Int) + (1) = (k + 1) from by omega]; rfl) (fun ls hl => ?_)
              refine lv_goto (tgt := 60) hx hb dX4_run_96 (by decide) ?_
              exact ih60 (k + 1) (up2 (up2 (swK (up2 S3 7 0 0) k) 0 k ((up2 S3 7 0 0) 3 k)) 3 k ((up2 S3 7 0 0) 0 k)) (by omega) (by exact swK_succ _ (by omega)) (by omega) _ _ hP hS ls (lv_sub hl [0, 2, 3] rfl)
        exact hloop60 ((965 - 0 : Int) + 1).toNat 0 (up2 S3 7 0 0) (by omega) (by exact (swK_0 _).symm) (by omega) _ _ hP hS ls (lv_sub hl [0, 1, 2] rfl)
      · refine lv_aload_n hx hb dX4_run_52 rfl (lv_at hl 1 rfl) ?_
        refine z_callv (va_runV (As := []) (rest := []) ⟨hx, hb, hml, hown, hts⟩ (k_X4_back l dC dI cI cQ A ad (up2 S3 7 0 0) hD) (cwV 0 hts gX4_run_X4_back rfl rfl rfl (by decide +kernel) ⟨Nat.le_of_ble_eq_true rfl, Nat.le_of_ble_eq_true rfl⟩) (z_preV hK hP (ci := 4) (q0 := 0) rfl rfl rfl) rfl rfl hl.1 rfl (lv_room (Nat.le_of_ble_eq_true rfl)) dX4_run_53 ⟨Nat.zero_le _, Nat.zero_le _⟩) hS (fun _ h => h) (fun H locs hP hS _ _ => ?_)
        refine lv_iload_n hx hb dX4_run_56 rfl (lv_at hl 0 rfl) ?_
        exact z_iret hx hb hr hlk hP hS dX4_run_57 (by unfold runR; first | (rw [if_pos (by assumption)]; omega) | (rw [if_neg (by assumption), if_pos (by omega)]) | (rw [if_neg (fun q => q (by assumption)), if_pos (by omega)]) | (rw [if_neg (fun q => q (by assumption)), if_neg (by omega)])) (congrArg (tW_X4 ad cI) (by unfold runM; first | (rw [if_pos (by assumption)]) | (rw [if_neg (fun q => q (by assumption)), if_pos (by omega)]) | (rw [if_neg (fun q => q (by assumption)), if_neg (by omega), if_pos (by omega)]) | (rw [if_neg (fun q => q (by assumption)), if_neg (by omega), if_neg (by omega)])))
    · refine lv_iload_n hx hb dX4_run_26 rfl (lv_at hl 0 rfl) ?_
      exact z_iret hx hb hr hlk hP hS dX4_run_27 (by unfold runR; first | (rw [if_pos (by assumption)]; omega) | (rw [if_neg (by assumption), if_pos (by omega)]) | (rw [if_neg (fun q => q (by assumption)), if_pos (by omega)]) | (rw [if_neg (fun q => q (by assumption)), if_neg (by omega)])) (congrArg (tW_X4 ad cI) (by unfold runM; first | (rw [if_pos (by assumption)]) | (rw [if_neg (fun q => q (by assumption)), if_pos (by omega)]) | (rw [if_neg (fun q => q (by assumption)), if_neg (by omega), if_pos (by omega)]) | (rw [if_neg (fun q => q (by assumption)), if_neg (by omega), if_neg (by omega)])))
  · refine z_sipush (z := (-1000)) hx hb dX4_run_7 (by decide +kernel) ?_
    refine lv_aload_n hx hb dX4_run_10 rfl (lv_at hl 0 rfl) ?_
    refine gx_X4_6 hx hb hts hin hown hK hP (hts _ (List.mem_of_getElem? (i := 1) rfl)) dX4_run_11 ?_
    refine z_isub hx hb dX4_run_14 ?_
    refine z_top (y := -(readsAllM S) 6 0 - 1000) (by omega) ?_
    exact z_iret hx hb hr hlk hP hS dX4_run_15 (by unfold runR; first | (rw [if_pos (by assumption)]; omega) | (rw [if_neg (by assumption), if_pos (by omega)]) | (rw [if_neg (fun q => q (by assumption)), if_pos (by omega)]) | (rw [if_neg (fun q => q (by assumption)), if_neg (by omega)])) (congrArg (tW_X4 ad cI) (by unfold runM; first | (rw [if_pos (by assumption)]) | (rw [if_neg (fun q => q (by assumption)), if_pos (by omega)]) | (rw [if_neg (fun q => q (by assumption)), if_neg (by omega), if_pos (by omega)]) | (rw [if_neg (fun q => q (by assumption)), if_neg (by omega), if_neg (by omega)])))
