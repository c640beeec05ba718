/-! small facts on the reference's sums -/
theorem shK_at (S : Nat → Int → Int) (k : Int) : shK S k 1 (k + 965) = S 1 (k + 965) := by
  unfold shK
  rw [upR_eq, if_neg (by omega)]
theorem wkO_0 (A : Int → Int) (tr : Int) : wkO A tr 0 = 0 := rfl
theorem wkL_0 (A : Int → Int) (tr : Int) : wkL A tr 0 = 0 := rfl
theorem wkO_succ (A : Int → Int) (tr : Int) {n : Int} (h : 0 ≤ n) : wkO A tr (n + 1) = wkO A tr n + (if A (8 * n + 488) = 0 ∧ A (8 * n + 486) = tr then 1 else 0) := sumZ_succ _ h
theorem wkL_succ (A : Int → Int) (tr : Int) {n : Int} (h : 0 ≤ n) : wkL A tr (n + 1) = wkL A tr n + (if A (60 * tr + 5 * n + 8) = 1 ∨ A (60 * tr + 5 * n + 248) = 1 then 1 else 0) := sumZ_succ _ h
theorem sumN_nn {f : Int → Int} (h : ∀ j : Int, 0 ≤ f j) : ∀ n : Nat, 0 ≤ sumN f n
  | 0 => by simp [sumN]
  | n + 1 => by rw [sumN]; have := sumN_nn h n; have := h (n : Int); omega
theorem wk_rng1 (A : Int → Int) (tr n : Int) : 0 ≤ wkO A tr n := sumN_nn (fun j => by (try dsimp only); split <;> omega) _
theorem wk_rng2 (A : Int → Int) (tr n : Int) : 0 ≤ wkL A tr n := sumN_nn (fun j => by (try dsimp only); split <;> omega) _
theorem inSt_rng {A : Int → Int} (h : 0 ≤ A 2) (st : Int) : 0 ≤ inStF A st ∧ inStF A st ≤ A 2 := by
  have := sumZ_rng (f := fun o => if A (8 * o + 488) = st then (1 : Int) else 0) (b := 1) h (fun j _ _ => by (try dsimp only); split <;> omega)
  unfold inStF; omega
theorem sz_rng (v : Int) : 0 ≤ szF v ∧ (szF v = v ∨ szF v = -v) := by unfold szF; split <;> omega
theorem nearN_rng (A : Int → Int) : ∀ n : Nat, nearN A n = -9 ∨ (0 ≤ nearN A n ∧ nearN A n < (n : Int))
  | 0 => Or.inl rfl
  | n + 1 => by
    have := nearN_rng A n
    rw [nearN]
    split <;> omega
theorem near_rng (A : Int → Int) (k : Int) : nearZ A k = -9 ∨ (0 ≤ nearZ A k ∧ nearZ A k < (k.toNat : Int)) := nearN_rng A k.toNat
theorem firstFF_rng {A : Int → Int} (h : 0 ≤ A 2) (kind blk : Int) : firstFF A kind blk = -9 ∨ (0 ≤ firstFF A kind blk ∧ firstFF A kind blk < A 2 ∧ A (8 * firstFF A kind blk + 488) = 0 ∧ A (8 * firstFF A kind blk + 485) = kind ∧ 12 * A (8 * firstFF A kind blk + 486) + A (8 * firstFF A kind blk + 487) = blk) :=
  fstZ_rng (fun o => A (8 * o + 488) = 0 ∧ A (8 * o + 485) = kind ∧ 12 * A (8 * o + 486) + A (8 * o + 487) = blk) h

set_option maxHeartbeats 4000000 in
set_option maxRecDepth 100000 in
theorem k_X4_within (l : Launch) (dC : Nat → ClassId) (dI : Nat → Nat → Nat) (cI cQ : ClassId) (A : Nat → Prop) (ws : va_W) (v lo hi : Int) (q0 : -2147483648 ≤ v ∧ v < 2147483648) (q1 : -2147483648 ≤ lo ∧ lo < 2147483648) (q2 : -2147483648 ≤ hi ∧ hi < 2147483648) : Met l yX4_within wsX4_within ({ frames := 0, cells := 0, slots := 0, locals := 0 }) (zPc (dC, dI) vwCl (zT cI cQ) ws [.int (zI v), .int (zI lo), .int (zI hi)]) (zQi (dC, dI) vwCl ws (if lo ≤ v ∧ v ≤ hi then 1 else 0) A) 0 0 A := by
  refine Met.ofW (cc := cX4_within) (maxL := 3) (ret := (some .boolean)) (by decide) rfl ?_
  intro p e s m args below meth c s₁ B hml hv
  obtain ⟨rfl, hP, hK⟩ := hv
  have hx := B.exec
  have hb := B.bytes
  have hr := B.returns
  have hts := atoms_spec (ws := wsX4_within) B.pre
  have hown : s.vm.findClass RX4 = some m.cls := findClass_of_methodNamed B.named
  have hlk := B.notSynchronized
  have hS : va_S A s.heap s.heap [] := va_S.rf
  have hl := lv_entry ([.int (zI v), .int (zI lo), .int (zI hi)]) (n := 3) (Nat.le_of_ble_eq_true rfl)
  rw [lg_entry_eq]
  generalize (lg_sl ([.int (zI v), .int (zI lo), .int (zI hi)]) ++ List.replicate (3 - (lg_sl ([.int (zI v), .int (zI lo), .int (zI hi)])).length) Slot.unset).toArray = ls at hl ⊢
  have hl : lv_has ls 3 [(0, .int (zI v)), (1, .int (zI lo)), (2, .int (zI hi))] := hl
  refine lv_iload_n hx hb dX4_within_0 rfl (lv_at hl 0 rfl) ?_
  refine lv_iload_n hx hb dX4_within_1 rfl (lv_at hl 1 rfl) ?_
  refine z_icmp_lt (tgt := 14) hx hb dX4_within_2 (by decide) (by omega) (by omega) (fun c1 => ?_) (fun c1 => ?_)
  · refine z_iconst hx hb dX4_within_14 ?_
    exact z_zret hx hb hr hlk hP hS dX4_within_15 (by omega) (by first | rw [if_pos (by omega)] | rw [if_neg (by omega)]) rfl
  · refine lv_iload_n hx hb dX4_within_5 rfl (lv_at hl 0 rfl) ?_
    refine lv_iload_n hx hb dX4_within_6 rfl (lv_at hl 2 rfl) ?_
    refine z_icmp_gt (tgt := 14) hx hb dX4_within_7 (by decide) (by omega) (by omega) (fun c2 => ?_) (fun c2 => ?_)
    · refine z_iconst hx hb dX4_within_14 ?_
      exact z_zret hx hb hr hlk hP hS dX4_within_15 (by omega) (by first | rw [if_pos (by omega)] | rw [if_neg (by omega)]) rfl
    · refine z_iconst hx hb dX4_within_10 ?_
      refine lv_goto (tgt := 15) hx hb dX4_within_11 (by decide) ?_
      exact z_zret hx hb hr hlk hP hS dX4_within_15 (by omega) (by first | rw [if_pos (by omega)] | rw [if_neg (by omega)]) rfl
theorem in_X4_saves : ∀ w ∈ wsX40, w ∈ wsX4_saves := fun w h => List.mem_cons_of_mem _ (List.mem_append_right _ h)
set_option maxHeartbeats 4000000 in
set_option maxRecDepth 100000 in
theorem k_X4_saves (l : Launch) (dC : Nat → ClassId) (dI : Nat → Nat → Nat) (cI cQ : ClassId) (A : Nat → Prop) (ad : Nat → Nat) (S : Nat → Int → Int) (hD : ∀ S, va_D A (tW_X4 ad cI S)) (h : 0 ≤ S 2 0 ∧ S 2 0 ≤ 5) (h7 : S 7 0 = 0 ∨ S 7 0 = 1) : Met l yX4_saves wsX4_saves ({ frames := 0, cells := 0, slots := 0, locals := 0 }) (zPc (dC, dI) vwCl (zT cI cQ) (tW_X4 ad cI S) [.ref (ad 0)]) (zQv (dC, dI) vwCl (tW_X4 ad cI (savesM S)) A) 0 0 A := by
  refine Met.ofW (cc := cX4_saves) (maxL := 2) (ret := none) (by decide) rfl ?_
  intro p e s m args below meth c s₁ B hml hv
  obtain ⟨rfl, hP, hK⟩ := hv
  have hx := B.exec
  have hb := B.bytes
  have hr := B.returns
  have hts := atoms_spec (ws := wsX4_saves) B.pre
  have hown : s.vm.findClass RX4 = some m.cls := findClass_of_methodNamed B.named
  have hlk := B.notSynchronized
  have hS : va_S A s.heap s.heap [] := va_S.rf
  have hl := lv_entry ([.ref (ad 0)]) (n := 2) (Nat.le_of_ble_eq_true rfl)
  rw [lg_entry_eq]
  generalize (lg_sl ([.ref (ad 0)]) ++ List.replicate (2 - (lg_sl ([.ref (ad 0)])).length) Slot.unset).toArray = ls at hl ⊢
  have hl : lv_has ls 2 [(0, .ref (ad 0))] := hl
  have hin : ∀ w ∈ wsX40, w ∈ wsX4_saves := in_X4_saves
  refine lv_aload_n hx hb dX4_saves_0 rfl (lv_at hl 0 rfl) ?_
  refine gx_X4_7 hx hb hts hin hown hK hP (hts _ (List.mem_of_getElem? (i := 1) rfl)) dX4_saves_1 ?_
  refine z_if_eq (tgt := 8) hx hb dX4_saves_4 (by decide) (by omega) (fun c1 => ?_) (fun c1 => ?_)
  · refine lv_aload_n hx hb dX4_saves_8 rfl (lv_at hl 0 rfl) ?_
    refine gx_X4_2 hx hb hts hin hown hK hP (hts _ (List.mem_of_getElem? (i := 2) rfl)) dX4_saves_9 ?_
    refine z_iconst hx hb dX4_saves_12 ?_
    refine z_icmp_ne (tgt := 57) hx hb dX4_saves_13 (by decide) (by omega) (by omega) (fun c2 => ?_) (fun c2 => ?_)
    · refine z_iconst hx hb dX4_saves_57 ?_
      refine lv_istore_n (lv' := [(1, .int (zI 0)), (0, .ref (ad 0))]) hx hb dX4_saves_58 rfl hl (by decide) rfl (fun ls hl => ?_)
      have hloop59 : ∀ (n : Nat) (k : Int) (S1 : Nat → Int → Int), (0 ≤ k ∧ k ≤ 965) → (S1 = svK S (S 2 0) k) → (965 - k < (n : Int)) → ∀ (H : Heap) (locs : List Loc), va_P (dC, dI) vwCl (tW_X4 ad cI S1) H → va_S A s.heap H locs → ∀ ls : Array Slot, lv_has ls 2 [(1, .int (zI k)), (0, .ref (ad 0))] → W p l e (headSpec wsX4_saves ({ frames := 0, cells := 0, slots := 0, locals := 0 })).room s m ([.ref (ad 0)] : List Value).toArray below meth c H locs 0 0 (MQ below (zQv (dC, dI) vwCl (tW_X4 ad cI (savesM S)) A) ([.ref (ad 0)] : List Value).toArray s 0 0 A) (F0 m 59 ls []) := by
        intro n
        induction n with
        | zero =>
          intro k S1 i0 i1 hm
          exfalso
          omega
        | succ n ih =>
          intro k S1 i0 i1 hm H locs hP hS ls hl
          have ih59 := ih
          clear ih
          subst i1
          refine lv_iload_n hx hb dX4_saves_59 rfl (lv_at hl 0 rfl) ?_
          refine z_sipush (z := 965) hx hb dX4_saves_60 (by decide +kernel) ?_
          refine z_icmp_ge (tgt := 93) hx hb dX4_saves_63 (by decide) (by omega) (by omega) (fun c3 => ?_) (fun c3 => ?_)
          · refine lv_aload_n hx hb dX4_saves_93 rfl (lv_at hl 1 rfl) ?_
            refine lv_dup hx hb dX4_saves_94 rfl ?_
            refine gx_X4_2 hx hb hts hin hown hK hP (hts _ (List.mem_of_getElem? (i := 2) rfl)) dX4_saves_95 ?_
            refine z_top (y := S 2 0) (rfl) ?_
            refine z_iconst hx hb dX4_saves_98 ?_
            refine z_iadd hx hb dX4_saves_99 ?_
            refine z_top (y := S 2 0 + 1) (by omega) ?_
            refine px_X4_2 hx hb hts hin hown hK hP hD hS (hts _ (List.mem_of_getElem? (i := 2) rfl)) dX4_saves_100 (fun H locs hP hS => ?_)
            obtain rfl : k = 965 := by omega
            exact z_vret hx hb hr hlk hP hS dX4_saves_103 (congrArg (tW_X4 ad cI) (by unfold savesM; rw [if_neg (by omega)]; first | rw [if_pos (by omega)] | rw [if_neg (by omega)]))
          · refine lv_aload_n hx hb dX4_saves_66 rfl (lv_at hl 1 rfl) ?_
            refine gx_X4_1 hx hb hts hin hown hK hP (hts _ (List.mem_of_getElem? (i := 3) rfl)) dX4_saves_67 ?_
            refine z_sipush (z := 965) hx hb dX4_saves_70 (by decide +kernel) ?_
            refine lv_aload_n hx hb dX4_saves_73 rfl (lv_at hl 1 rfl) ?_
            refine gx_X4_2 hx hb hts hin hown hK hP (hts _ (List.mem_of_getElem? (i := 2) rfl)) dX4_saves_74 ?_
            refine z_top (y := S 2 0) (rfl) ?_
            refine z_imul hx hb dX4_saves_77 ?_
            refine z_top (y := 965 * S 2 0) (by omega) ?_
            refine lv_iload_n hx hb dX4_saves_78 rfl (lv_at hl 0 rfl) ?_
            refine z_iadd hx hb dX4_saves_79 ?_
            refine z_top (y := 965 * S 2 0 + k) (by omega) ?_
            refine lv_aload_n hx hb dX4_saves_80 rfl (lv_at hl 1 rfl) ?_
            refine gx_X4_0 hx hb hts hin hown hK hP (hts _ (List.mem_of_getElem? (i := 4) rfl)) dX4_saves_81 ?_
            refine lv_iload_n hx hb dX4_saves_84 rfl (lv_at hl 0 rfl) ?_
            refine ld_X4_0 (v := S 0 k) hx hb hK hP (by omega) rfl dX4_saves_85 ?_
            refine st_X4_1 hx hb hK hP hD hS (by omega) dX4_saves_86 (fun H locs hP hS => ?_)
            refine z_iinc (lv' := [(1, .int (zI (k + 1))), (0, .ref (ad 0))]) hx hb dX4_saves_87 hl (k := 0) rfl (by decide) (by rw [show (k : Int) + (1) = (k + 1) from by omega]; rfl) (fun ls hl => ?_)
            refine lv_goto (tgt := 59) hx hb dX4_saves_90 (by decide) ?_
            exact ih59 (k + 1) (up2 (svK S (S 2 0) k) 1 (965 * S 2 0 + k) (S 0 k)) (by omega) (by exact svK_succ _ _ (by omega) (by omega)) (by omega) _ _ hP hS ls (lv_sub hl [0, 1] rfl)
      exact hloop59 ((965 - 0 : Int) + 1).toNat 0 S (by omega) (by exact (svK_0 _ _).symm) (by omega) _ _ hP hS ls (lv_sub hl [0, 1] rfl)
    · refine z_iconst hx hb dX4_saves_16 ?_
      refine lv_istore_n (lv' := [(1, .int (zI 0)), (0, .ref (ad 0))]) hx hb dX4_saves_17 rfl hl (by decide) rfl (fun ls hl => ?_)
      have hloop18 : ∀ (n : Nat) (k1 : Int) (S1 : Nat → Int → Int), (0 ≤ k1 ∧ k1 ≤ 3860) → (S1 = shK S k1) → (3860 - k1 < (n : Int)) → ∀ (H : Heap) (locs : List Loc), va_P (dC, dI) vwCl (tW_X4 ad cI S1) H → va_S A s.heap H locs → ∀ ls : Array Slot, lv_has ls 2 [(1, .int (zI k1)), (0, .ref (ad 0))] → W p l e (headSpec wsX4_saves ({ frames := 0, cells := 0, slots := 0, locals := 0 })).room s m ([.ref (ad 0)] : List Value).toArray below meth c H locs 0 0 (MQ below (zQv (dC, dI) vwCl (tW_X4 ad cI (savesM S)) A) ([.ref (ad 0)] : List Value).toArray s 0 0 A) (F0 m 18 ls []) := by
        intro n
        induction n with
        | zero =>
          intro k1 S1 i0 i1 hm
          exfalso
          omega
        | succ n ih =>
          intro k1 S1 i0 i1 hm H locs hP hS ls hl
          have ih18 := ih
          clear ih
          subst i1
          refine lv_iload_n hx hb dX4_saves_18 rfl (lv_at hl 0 rfl) ?_
          refine z_sipush (z := 3860) hx hb dX4_saves_19 (by decide +kernel) ?_
          refine z_icmp_ge (tgt := 47) hx hb dX4_saves_22 (by decide) (by omega) (by omega) (fun c4 => ?_) (fun c4 => ?_)
          · obtain rfl : k1 = 3860 := by omega
            refine lv_aload_n hx hb dX4_saves_47 rfl (lv_at hl 1 rfl) ?_
            refine lv_dup hx hb dX4_saves_48 rfl ?_
            refine gx_X4_2 hx hb hts hin hown hK hP (hts _ (List.mem_of_getElem? (i := 2) rfl)) dX4_saves_49 ?_
            refine z_top (y := S 2 0) (rfl) ?_
            refine z_iconst hx hb dX4_saves_52 ?_
            refine z_isub hx hb dX4_saves_53 ?_
            refine z_top (y := S 2 0 - 1) (by omega) ?_
            refine px_X4_2 hx hb hts hin hown hK hP hD hS (hts _ (List.mem_of_getElem? (i := 2) rfl)) dX4_saves_54 (fun H locs hP hS => ?_)
            refine z_iconst hx hb dX4_saves_57 ?_
            refine lv_istore_n (lv' := [(1, .int (zI 0)), (0, .ref (ad 0))]) hx hb dX4_saves_58 rfl hl (by decide) rfl (fun ls hl => ?_)
            have hloop59 : ∀ (n : Nat) (k : Int) (S1 : Nat → Int → Int), (0 ≤ k ∧ k ≤ 965) → (S1 = svK (up2 (shK S 3860) 2 0 (S 2 0 - 1)) (S 2 0 - 1) k) → (965 - k < (n : Int)) → ∀ (H : Heap) (locs : List Loc), va_P (dC, dI) vwCl (tW_X4 ad cI S1) H → va_S A s.heap H locs → ∀ ls : Array Slot, lv_has ls 2 [(1, .int (zI k)), (0, .ref (ad 0))] → W p l e (headSpec wsX4_saves ({ frames := 0, cells := 0, slots := 0, locals := 0 })).room s m ([.ref (ad 0)] : List Value).toArray below meth c H locs 0 0 (MQ below (zQv (dC, dI) vwCl (tW_X4 ad cI (savesM S)) A) ([.ref (ad 0)] : List Value).toArray s 0 0 A) (F0 m 59 ls []) := by
              intro n
              induction n with
              | zero =>
                intro k S1 i0 i1 hm
                exfalso
                omega
              | succ n ih =>
                intro k S1 i0 i1 hm H locs hP hS ls hl
                have ih59 := ih
                clear ih
                subst i1
                refine lv_iload_n hx hb dX4_saves_59 rfl (lv_at hl 0 rfl) ?_
                refine z_sipush (z := 965) hx hb dX4_saves_60 (by decide +kernel) ?_
                refine z_icmp_ge (tgt := 93) hx hb dX4_saves_63 (by decide) (by omega) (by omega) (fun c5 => ?_) (fun c5 => ?_)
                · refine lv_aload_n hx hb dX4_saves_93 rfl (lv_at hl 1 rfl) ?_
                  refine lv_dup hx hb dX4_saves_94 rfl ?_
                  refine gx_X4_2 hx hb hts hin hown hK hP (hts _ (List.mem_of_getElem? (i := 2) rfl)) dX4_saves_95 ?_
                  refine z_top (y := S 2 0 - 1) ((show (up2 (shK S 3860) 2 0 (S 2 0 - 1)) 2 0 = (S 2 0 - 1) from up2_eq _ _ _ _)) ?_
                  refine z_iconst hx hb dX4_saves_98 ?_
                  refine z_iadd hx hb dX4_saves_99 ?_
                  refine z_top (y := S 2 0) (by omega) ?_
                  refine px_X4_2 hx hb hts hin hown hK hP hD hS (hts _ (List.mem_of_getElem? (i := 2) rfl)) dX4_saves_100 (fun H locs hP hS => ?_)
                  obtain rfl : k = 965 := by omega
                  exact z_vret hx hb hr hlk hP hS dX4_saves_103 (congrArg (tW_X4 ad cI) (by unfold savesM; rw [if_neg (by omega)]; first | rw [if_pos (by omega)] | rw [if_neg (by omega)]))
                · refine lv_aload_n hx hb dX4_saves_66 rfl (lv_at hl 1 rfl) ?_
                  refine gx_X4_1 hx hb hts hin hown hK hP (hts _ (List.mem_of_getElem? (i := 3) rfl)) dX4_saves_67 ?_
                  refine z_sipush (z := 965) hx hb dX4_saves_70 (by decide +kernel) ?_
                  refine lv_aload_n hx hb dX4_saves_73 rfl (lv_at hl 1 rfl) ?_
                  refine gx_X4_2 hx hb hts hin hown hK hP (hts _ (List.mem_of_getElem? (i := 2) rfl)) dX4_saves_74 ?_
                  refine z_top (y := S 2 0 - 1) ((show (up2 (shK S 3860) 2 0 (S 2 0 - 1)) 2 0 = (S 2 0 - 1) from up2_eq _ _ _ _)) ?_
                  refine z_imul hx hb dX4_saves_77 ?_
                  refine z_top (y := 965 * S 2 0 - 965) (by omega) ?_
                  refine lv_iload_n hx hb dX4_saves_78 rfl (lv_at hl 0 rfl) ?_
                  refine z_iadd hx hb dX4_saves_79 ?_
                  refine z_top (y := 965 * S 2 0 + k - 965) (by omega) ?_
                  refine lv_aload_n hx hb dX4_saves_80 rfl (lv_at hl 1 rfl) ?_
                  refine gx_X4_0 hx hb hts hin hown hK hP (hts _ (List.mem_of_getElem? (i := 4) rfl)) dX4_saves_81 ?_
                  refine lv_iload_n hx hb dX4_saves_84 rfl (lv_at hl 0 rfl) ?_
                  refine ld_X4_0 (v := S 0 k) hx hb hK hP (by omega) rfl dX4_saves_85 ?_
                  refine st_X4_1 hx hb hK hP hD hS (by omega) dX4_saves_86 (fun H locs hP hS => ?_)
                  refine z_iinc (lv' := [(1, .int (zI (k + 1))), (0, .ref (ad 0))]) hx hb dX4_saves_87 hl (k := 0) rfl (by decide) (by rw [show (k : Int) + (1) = (k + 1) from by omega]; rfl) (fun ls hl => ?_)
                  refine lv_goto (tgt := 59) hx hb dX4_saves_90 (by decide) ?_
                  exact ih59 (k + 1) (up2 (svK (up2 (shK S 3860) 2 0 (S 2 0 - 1)) (S 2 0 - 1) k) 1 (965 * S 2 0 + k - 965) (S 0 k)) (by omega) (by exact svK_succ _ _ (by omega) (by omega)) (by omega) _ _ hP hS ls (lv_sub hl [0, 1] rfl)
            exact hloop59 ((965 - 0 : Int) + 1).toNat 0 (up2 (shK S 3860) 2 0 (S 2 0 - 1)) (by omega) (by exact (svK_0 _ _).symm) (by omega) _ _ hP hS ls (lv_sub hl [0, 1] rfl)
          · refine lv_aload_n hx hb dX4_saves_25 rfl (lv_at hl 1 rfl) ?_
            refine gx_X4_1 hx hb hts hin hown hK hP (hts _ (List.mem_of_getElem? (i := 3) rfl)) dX4_saves_26 ?_
            refine lv_iload_n hx hb dX4_saves_29 rfl (lv_at hl 0 rfl) ?_
            refine lv_aload_n hx hb dX4_saves_30 rfl (lv_at hl 1 rfl) ?_
            refine gx_X4_1 hx hb hts hin hown hK hP (hts _ (List.mem_of_getElem? (i := 3) rfl)) dX4_saves_31 ?_
            refine lv_iload_n hx hb dX4_saves_34 rfl (lv_at hl 0 rfl) ?_
            refine z_sipush (z := 965) hx hb dX4_saves_35 (by decide +kernel) ?_
            refine z_iadd hx hb dX4_saves_38 ?_
            refine ld_X4_1 (v := (shK S k1) 1 (k1 + 965)) hx hb hK hP (by omega) rfl dX4_saves_39 ?_
            refine z_top (y := S 1 (k1 + 965)) (by exact shK_at S k1) ?_
            refine st_X4_1 hx hb hK hP hD hS (by omega) dX4_saves_40 (fun H locs hP hS => ?_)
            refine z_iinc (lv' := [(1, .int (zI (k1 + 1))), (0, .ref (ad 0))]) hx hb dX4_saves_41 hl (k := 0) rfl (by decide) (by rw [show (k1 : Int) + (1) = (k1 + 1) from by omega]; rfl) (fun ls hl => ?_)
            refine lv_goto (tgt := 18) hx hb dX4_saves_44 (by decide) ?_
            exact ih18 (k1 + 1) (up2 (shK S k1) 1 k1 (S 1 (k1 + 965))) (by omega) (by exact shK_succ S (by omega)) (by omega) _ _ hP hS ls (lv_sub hl [0, 1] rfl)
      exact hloop18 ((3860 - 0 : Int) + 1).toNat 0 S (by omega) (by exact (shK_0 S).symm) (by omega) _ _ hP hS ls (lv_sub hl [0, 1] rfl)
  · exact z_vret hx hb hr hlk hP hS dX4_saves_7 (congrArg (tW_X4 ad cI) (by unfold savesM; rw [if_pos (by omega)]))
theorem in_X4_undo : ∀ w ∈ wsX40, w ∈ wsX4_undo := fun w h => List.mem_cons_of_mem _ (List.mem_append_right _ h)
set_option maxHeartbeats 4000000 in
set_option maxRecDepth 100000 in
theorem k_X4_undo (l : Launch) (dC : Nat → ClassId) (dI : Nat → Nat → Nat) (cI cQ : ClassId) (A : Nat → Prop) (ad : Nat → Nat) (S : Nat → Int → Int) (hD : ∀ S, va_D A (tW_X4 ad cI S)) (h : 0 ≤ S 2 0 ∧ S 2 0 ≤ 5) : Met l yX4_undo wsX4_undo ({ frames := 0, cells := 0, slots := 0, locals := 0 }) (zPc (dC, dI) vwCl (zT cI cQ) (tW_X4 ad cI S) [.ref (ad 0)]) (zQi (dC, dI) vwCl (tW_X4 ad cI (undoM S)) (if S 2 0 = 0 then -2 else S 2 0 - 1) A) 0 0 A := by
  refine Met.ofW (cc := cX4_undo) (maxL := 2) (ret := (some .int)) (by decide) rfl ?_
  intro p e s m args below meth c s₁ B hml hv
  obtain ⟨rfl, hP, hK⟩ := hv
  have hx := B.exec
  have hb := B.bytes
  have hr := B.returns
  have hts := atoms_spec (ws := wsX4_undo) B.pre
  have hown : s.vm.findClass RX4 = some m.cls := findClass_of_methodNamed B.named
  have hlk := B.notSynchronized
  have hS : va_S A s.heap s.heap [] := va_S.rf
  have hl := lv_entry ([.ref (ad 0)]) (n := 2) (Nat.le_of_ble_eq_true rfl)
  rw [lg_entry_eq]
  generalize (lg_sl ([.ref (ad 0)]) ++ List.replicate (2 - (lg_sl ([.ref (ad 0)])).length) Slot.unset).toArray = ls at hl ⊢
  have hl : lv_has ls 2 [(0, .ref (ad 0))] := hl
  have hin : ∀ w ∈ wsX40, w ∈ wsX4_undo := in_X4_undo
  refine lv_aload_n hx hb dX4_undo_0 rfl (lv_at hl 0 rfl) ?_
  refine gx_X4_2 hx hb hts hin hown hK hP (hts _ (List.mem_of_getElem? (i := 1) rfl)) dX4_undo_1 ?_
  refine z_if_ne (tgt := 10) hx hb dX4_undo_4 (by decide) (by omega) (fun c1 => ?_) (fun c1 => ?_)
  · refine lv_aload_n hx hb dX4_undo_10 rfl (lv_at hl 0 rfl) ?_
    refine lv_dup hx hb dX4_undo_11 rfl ?_
    refine gx_X4_2 hx hb hts hin hown hK hP (hts _ (List.mem_of_getElem? (i := 1) rfl)) dX4_undo_12 ?_
    refine z_iconst hx hb dX4_undo_15 ?_
    refine z_isub hx hb dX4_undo_16 ?_
    refine z_top (y := S 2 0 - 1) (by omega) ?_
    refine px_X4_2 hx hb hts hin hown hK hP hD hS (hts _ (List.mem_of_getElem? (i := 1) rfl)) dX4_undo_17 (fun H locs hP hS => ?_)
    refine z_iconst hx hb dX4_undo_20 ?_
    refine lv_istore_n (lv' := [(1, .int (zI 0)), (0, .ref (ad 0))]) hx hb dX4_undo_21 rfl hl (by decide) rfl (fun ls hl => ?_)
    have hloop22 : ∀ (n : Nat) (k : Int) (S1 : Nat → Int → Int), (0 ≤ k ∧ k ≤ 965) → (S1 = unK (up2 S 2 0 (S 2 0 - 1)) (S 2 0 - 1) k) → (965 - k < (n : Int)) → ∀ (H : Heap) (locs : List Loc), va_P (dC, dI) vwCl (tW_X4 ad cI S1) H → va_S A s.heap H locs → ∀ ls : Array Slot, lv_has ls 2 [(1, .int (zI k)), (0, .ref (ad 0))] → W p l e (headSpec wsX4_undo ({ frames := 0, cells := 0, slots := 0, locals := 0 })).room s m ([.ref (ad 0)] : List Value).toArray below meth c H locs 0 0 (MQ below (zQi (dC, dI) vwCl (tW_X4 ad cI (undoM S)) (if S 2 0 = 0 then -2 else S 2 0 - 1) A) ([.ref (ad 0)] : List Value).toArray s 0 0 A) (F0 m 22 ls []) := by
      intro n
      induction n with
      | zero =>
        intro k S1 i0 i1 hm
        exfalso
        omega
      | succ n ih =>
        intro k S1 i0 i1 hm H locs hP hS ls hl
        have ih22 := ih
        clear ih
        subst i1
        refine lv_iload_n hx hb dX4_undo_22 rfl (lv_at hl 0 rfl) ?_
        refine z_sipush (z := 965) hx hb dX4_undo_23 (by decide +kernel) ?_
        refine z_icmp_ge (tgt := 56) hx hb dX4_undo_26 (by decide) (by omega) (by omega) (fun c2 => ?_) (fun c2 => ?_)
        · refine lv_aload_n hx hb dX4_undo_56 rfl (lv_at hl 1 rfl) ?_
          refine gx_X4_2 hx hb hts hin hown hK hP (hts _ (List.mem_of_getElem? (i := 1) rfl)) dX4_undo_57 ?_
          refine z_top (y := S 2 0 - 1) ((show (up2 S 2 0 (S 2 0 - 1)) 2 0 = (S 2 0 - 1) from up2_eq _ _ _ _)) ?_
          obtain rfl : k = 965 := by omega
          exact z_iret hx hb hr hlk hP hS dX4_undo_60 (by first | rw [if_pos (by omega)] | rw [if_neg (by omega)]) (congrArg (tW_X4 ad cI) (by unfold undoM; first | rw [if_pos (by omega)] | rw [if_neg (by omega)]))
        · refine lv_aload_n hx hb dX4_undo_29 rfl (lv_at hl 1 rfl) ?_
          refine gx_X4_0 hx hb hts hin hown hK hP (hts _ (List.mem_of_getElem? (i := 2) rfl)) dX4_undo_30 ?_
          refine lv_iload_n hx hb dX4_undo_33 rfl (lv_at hl 0 rfl) ?_
          refine lv_aload_n hx hb dX4_undo_34 rfl (lv_at hl 1 rfl) ?_
          refine gx_X4_1 hx hb hts hin hown hK hP (hts _ (List.mem_of_getElem? (i := 3) rfl)) dX4_undo_35 ?_
          refine z_sipush (z := 965) hx hb dX4_undo_38 (by decide +kernel) ?_
          refine lv_aload_n hx hb dX4_undo_41 rfl (lv_at hl 1 rfl) ?_
          refine gx_X4_2 hx hb hts hin hown hK hP (hts _ (List.mem_of_getElem? (i := 1) rfl)) dX4_undo_42 ?_
          refine z_top (y := S 2 0 - 1) ((show (up2 S 2 0 (S 2 0 - 1)) 2 0 = (S 2 0 - 1) from up2_eq _ _ _ _)) ?_
          refine z_imul hx hb dX4_undo_45 ?_
          refine z_top (y := 965 * S 2 0 - 965) (by omega) ?_
          refine lv_iload_n hx hb dX4_undo_46 rfl (lv_at hl 0 rfl) ?_
          refine z_iadd hx hb dX4_undo_47 ?_
          refine z_top (y := 965 * S 2 0 + k - 965) (by omega) ?_
          refine ld_X4_1 (v := S 1 (965 * S 2 0 + k - 965)) hx hb hK hP (by omega) rfl dX4_undo_48 ?_
          refine st_X4_0 hx hb hK hP hD hS (by omega) dX4_undo_49 (fun H locs hP hS => ?_)
          refine z_iinc (lv' := [(1, .int (zI (k + 1))), (0, .ref (ad 0))]) hx hb dX4_undo_50 hl (k := 0) rfl (by decide) (by rw [show (k : Int) + (1) = (k + 1) from by omega]; rfl) (fun ls hl => ?_)
          refine lv_goto (tgt := 22) hx hb dX4_undo_53 (by decide) ?_
          exact ih22 (k + 1) (up2 (unK (up2 S 2 0 (S 2 0 - 1)) (S 2 0 - 1) k) 0 k (S 1 (965 * S 2 0 + k - 965))) (by omega) (by exact unK_succ _ _ (by omega) (by omega)) (by omega) _ _ hP hS ls (lv_sub hl [0, 1] rfl)
    exact hloop22 ((965 - 0 : Int) + 1).toNat 0 (up2 S 2 0 (S 2 0 - 1)) (by omega) (by exact (unK_0 _ _).symm) (by omega) _ _ hP hS ls (lv_sub hl [0, 1] rfl)
  · refine z_bipush (z := (-2)) hx hb dX4_undo_7 (by decide +kernel) ?_
    exact z_iret hx hb hr hlk hP hS dX4_undo_9 (by first | rw [if_pos (by omega)] | rw [if_neg (by omega)]) (congrArg (tW_X4 ad cI) (by unfold undoM; first | rw [if_pos (by omega)] | rw [if_neg (by omega)]))
theorem in_X4_puts : ∀ w ∈ wsX40, w ∈ wsX4_puts := fun w h => List.mem_cons_of_mem _ (List.mem_append_right _ h)
set_option maxHeartbeats 4000000 in
set_option maxRecDepth 100000 in
theorem k_X4_puts (l : Launch) (dC : Nat → ClassId) (dI : Nat → Nat → Nat) (cI cQ : ClassId) (A : Nat → Prop) (ad : Nat → Nat) (S : Nat → Int → Int) (hD : ∀ S, va_D A (tW_X4 ad cI S)) : Met l yX4_puts wsX4_puts ({ frames := 0, cells := 0, slots := 0, locals := 0 }) (zPc (dC, dI) vwCl (zT cI cQ) (tW_X4 ad cI S) [.ref (ad 0)]) (zQv (dC, dI) vwCl (tW_X4 ad cI (putsM S)) A) 0 0 A := by
  refine Met.ofW (cc := cX4_puts) (maxL := 2) (ret := none) (by decide) rfl ?_
  intro p e s m args below meth c s₁ B hml hv
  obtain ⟨rfl, hP, hK⟩ := hv
  have hx := B.exec
  have hb := B.bytes
  have hr := B.returns
  have hts := atoms_spec (ws := wsX4_puts) B.pre
  have hown : s.vm.findClass RX4 = some m.cls := findClass_of_methodNamed B.named
  have hlk := B.notSynchronized
  have hS : va_S A s.heap s.heap [] := va_S.rf
  have hl := lv_entry ([.ref (ad 0)]) (n := 2) (Nat.le_of_ble_eq_true rfl)
  rw [lg_entry_eq]
  generalize (lg_sl ([.ref (ad 0)]) ++ List.replicate (2 - (lg_sl ([.ref (ad 0)])).length) Slot.unset).toArray = ls at hl ⊢
  have hl : lv_has ls 2 [(0, .ref (ad 0))] := hl
  have hin : ∀ w ∈ wsX40, w ∈ wsX4_puts := in_X4_puts
  refine z_iconst hx hb dX4_puts_0 ?_
  refine lv_istore_n (lv' := [(1, .int (zI 0)), (0, .ref (ad 0))]) hx hb dX4_puts_1 rfl hl (by decide) rfl (fun ls hl => ?_)
  have hloop2 : ∀ (n : Nat) (k : Int) (S1 : Nat → Int → Int), (0 ≤ k ∧ k ≤ 965) → (S1 = ptK S k) → (965 - k < (n : Int)) → ∀ (H : Heap) (locs : List Loc), va_P (dC, dI) vwCl (tW_X4 ad cI S1) H → va_S A s.heap H locs → ∀ ls : Array Slot, lv_has ls 2 [(1, .int (zI k)), (0, .ref (ad 0))] → W p l e (headSpec wsX4_puts ({ frames := 0, cells := 0, slots := 0, locals := 0 })).room s m ([.ref (ad 0)] : List Value).toArray below meth c H locs 0 0 (MQ below (zQv (dC, dI) vwCl (tW_X4 ad cI (putsM S)) A) ([.ref (ad 0)] : List Value).toArray s 0 0 A) (F0 m 2 ls []) := by
    intro n
    induction n with
    | zero =>
      intro k S1 i0 i1 hm
      exfalso
      omega
    | succ n ih =>
      intro k S1 i0 i1 hm H locs hP hS ls hl
      have ih2 := ih
      clear ih
      subst i1
      refine lv_iload_n hx hb dX4_puts_2 rfl (lv_at hl 0 rfl) ?_
      refine z_sipush (z := 965) hx hb dX4_puts_3 (by decide +kernel) ?_
      refine z_icmp_ge (tgt := 27) hx hb dX4_puts_6 (by decide) (by omega) (by omega) (fun c1 => ?_) (fun c1 => ?_)
      · obtain rfl : k = 965 := by omega
        exact z_vret hx hb hr hlk hP hS dX4_puts_27 (congrArg (tW_X4 ad cI) (by rfl))
      · refine lv_aload_n hx hb dX4_puts_9 rfl (lv_at hl 1 rfl) ?_
        refine gx_X4_3 hx hb hts hin hown hK hP (hts _ (List.mem_of_getElem? (i := 1) rfl)) dX4_puts_10 ?_
        refine lv_iload_n hx hb dX4_puts_13 rfl (lv_at hl 0 rfl) ?_
        refine lv_aload_n hx hb dX4_puts_14 rfl (lv_at hl 1 rfl) ?_
        refine gx_X4_0 hx hb hts hin hown hK hP (hts _ (List.mem_of_getElem? (i := 2) rfl)) dX4_puts_15 ?_
        refine lv_iload_n hx hb dX4_puts_18 rfl (lv_at hl 0 rfl) ?_
        refine ld_X4_0 (v := S 0 k) hx hb hK hP (by omega) rfl dX4_puts_19 ?_
        refine st_X4_3 hx hb hK hP hD hS (by omega) dX4_puts_20 (fun H locs hP hS => ?_)
        refine z_iinc (lv' := [(1, .int (zI (k + 1))), (0, .ref (ad 0))]) hx hb dX4_puts_21 hl (k := 0) rfl (by decide) (by rw [show (k : Int) + (1) = (k + 1) from by omega]; rfl) (fun ls hl => ?_)
        refine lv_goto (tgt := 2) hx hb dX4_puts_24 (by decide) ?_
        exact ih2 (k + 1) (up2 (ptK S k) 3 k (S 0 k)) (by omega) (by exact ptK_succ S (by omega)) (by omega) _ _ hP hS ls (lv_sub hl [0, 1] rfl)
  exact hloop2 ((965 - 0 : Int) + 1).toNat 0 S (by omega) (by exact (ptK_0 S).symm) (by omega) _ _ hP hS ls (lv_sub hl [0, 1] rfl)
theorem in_X4_back : ∀ w ∈ wsX40, w ∈ wsX4_back := fun w h => List.mem_cons_of_mem _ (List.mem_append_right _ h)
set_option maxHeartbeats 4000000 in
set_option maxRecDepth 100000 in
theorem k_X4_back (l : Launch) (dC : Nat → ClassId) (dI : Nat → Nat → Nat) (cI cQ : ClassId) (A : Nat → Prop) (ad : Nat → Nat) (S : Nat → Int → Int) (hD : ∀ S, va_D A (tW_X4 ad cI S)) : Met l yX4_back wsX4_back ({ frames := 0, cells := 0, slots := 0, locals := 0 }) (zPc (dC, dI) vwCl (zT cI cQ) (tW_X4 ad cI S) [.ref (ad 0)]) (zQv (dC, dI) vwCl (tW_X4 ad cI (backM S)) A) 0 0 A := by
  refine Met.ofW (cc := cX4_back) (maxL := 2) (ret := none) (by decide) rfl ?_
  intro p e s m args below meth c s₁ B hml hv
  obtain ⟨rfl, hP, hK⟩ := hv
  have hx := B.exec
  have hb := B.bytes
  have hr := B.returns
  have hts := atoms_spec (ws := wsX4_back) B.pre
  have hown : s.vm.findClass RX4 = some m.cls := findClass_of_methodNamed B.named
  have hlk := B.notSynchronized
  have hS : va_S A s.heap s.heap [] := va_S.rf
  have hl := lv_entry ([.ref (ad 0)]) (n := 2) (Nat.le_of_ble_eq_true rfl)
  rw [lg_entry_eq]
  generalize (lg_sl ([.ref (ad 0)]) ++ List.replicate (2 - (lg_sl ([.ref (ad 0)])).length) Slot.unset).toArray = ls at hl ⊢
  have hl : lv_has ls 2 [(0, .ref (ad 0))] := hl
  have hin : ∀ w ∈ wsX40, w ∈ wsX4_back := in_X4_back
  refine z_iconst hx hb dX4_back_0 ?_
  refine lv_istore_n (lv' := [(1, .int (zI 0)), (0, .ref (ad 0))]) hx hb dX4_back_1 rfl hl (by decide) rfl (fun ls hl => ?_)
  have hloop2 : ∀ (n : Nat) (k : Int) (S1 : Nat → Int → Int), (0 ≤ k ∧ k ≤ 965) → (S1 = bkK S k) → (965 - k < (n : Int)) → ∀ (H : Heap) (locs : List Loc), va_P (dC, dI) vwCl (tW_X4 ad cI S1) H → va_S A s.heap H locs → ∀ ls : Array Slot, lv_has ls 2 [(1, .int (zI k)), (0, .ref (ad 0))] → W p l e (headSpec wsX4_back ({ frames := 0, cells := 0, slots := 0, locals := 0 })).room s m ([.ref (ad 0)] : List Value).toArray below meth c H locs 0 0 (MQ below (zQv (dC, dI) vwCl (tW_X4 ad cI (backM S)) A) ([.ref (ad 0)] : List Value).toArray s 0 0 A) (F0 m 2 ls []) := by
    intro n
    induction n with
    | zero =>
      intro k S1 i0 i1 hm
      exfalso
      omega
    | succ n ih =>
      intro k S1 i0 i1 hm H locs hP hS ls hl
      have ih2 := ih
      clear ih
      subst i1
      refine lv_iload_n hx hb dX4_back_2 rfl (lv_at hl 0 rfl) ?_
      refine z_sipush (z := 965) hx hb dX4_back_3 (by decide +kernel) ?_
      refine z_icmp_ge (tgt := 27) hx hb dX4_back_6 (by decide) (by omega) (by omega) (fun c1 => ?_) (fun c1 => ?_)
      · obtain rfl : k = 965 := by omega
        exact z_vret hx hb hr hlk hP hS dX4_back_27 (congrArg (tW_X4 ad cI) (by rfl))
      · refine lv_aload_n hx hb dX4_back_9 rfl (lv_at hl 1 rfl) ?_
        refine gx_X4_0 hx hb hts hin hown hK hP (hts _ (List.mem_of_getElem? (i := 1) rfl)) dX4_back_10 ?_
        refine lv_iload_n hx hb dX4_back_13 rfl (lv_at hl 0 rfl) ?_
        refine lv_aload_n hx hb dX4_back_14 rfl (lv_at hl 1 rfl) ?_
        refine gx_X4_3 hx hb hts hin hown hK hP (hts _ (List.mem_of_getElem? (i := 2) rfl)) dX4_back_15 ?_
        refine lv_iload_n hx hb dX4_back_18 rfl (lv_at hl 0 rfl) ?_
        refine ld_X4_3 (v := S 3 k) hx hb hK hP (by omega) rfl dX4_back_19 ?_
        refine st_X4_0 hx hb hK hP hD hS (by omega) dX4_back_20 (fun H locs hP hS => ?_)
        refine z_iinc (lv' := [(1, .int (zI (k + 1))), (0, .ref (ad 0))]) hx hb dX4_back_21 hl (k := 0) rfl (by decide) (by rw [show (k : Int) + (1) = (k + 1) from by omega]; rfl) (fun ls hl => ?_)
        refine lv_goto (tgt := 2) hx hb dX4_back_24 (by decide) ?_
        exact ih2 (k + 1) (up2 (bkK S k) 0 k (S 3 k)) (by omega) (by exact bkK_succ S (by omega)) (by omega) _ _ hP hS ls (lv_sub hl [0, 1] rfl)
  exact hloop2 ((965 - 0 : Int) + 1).toNat 0 S (by omega) (by exact (bkK_0 S).symm) (by omega) _ _ hP hS ls (lv_sub hl [0, 1] rfl)
set_option maxHeartbeats 4000000 in
set_option maxRecDepth 100000 in
theorem k_X4_isBlock (l : Launch) (dC : Nat → ClassId) (dI : Nat → Nat → Nat) (cI cQ : ClassId) (A : Nat → Prop) (ws : va_W) (tr se : Int) (q0 : -2147483648 ≤ tr ∧ tr < 2147483648) (q1 : -2147483648 ≤ se ∧ se < 2147483648) : Met l yX4_isBlock wsX4_isBlock ({ frames := 1, cells := 0, slots := 0, locals := 22 }) (zPc (dC, dI) vwCl (zT cI cQ) ws [.int (zI tr), .int (zI se)]) (zQi (dC, dI) vwCl ws (if (0 ≤ tr ∧ tr ≤ 3) ∧ 0 ≤ se ∧ se ≤ 11 then 1 else 0) A) 0 0 A := by
  refine Met.ofW (cc := cX4_isBlock) (maxL := 2) (ret := (some .boolean)) (by decide) rfl ?_
  intro p e s m args below meth c s₁ B hml hv
  obtain ⟨rfl, hP, hK⟩ := hv
  have hx := B.exec
  have hb := B.bytes
  have hr := B.returns
  have hts := atoms_spec (ws := wsX4_isBlock) B.pre
  have hown : s.vm.findClass RX4 = some m.cls := findClass_of_methodNamed B.named
  have hlk := B.notSynchronized
  have hS : va_S A s.heap s.heap [] := va_S.rf
  have hl := lv_entry ([.int (zI tr), .int (zI se)]) (n := 2) (Nat.le_of_ble_eq_true rfl)
  rw [lg_entry_eq]
  generalize (lg_sl ([.int (zI tr), .int (zI se)]) ++ List.replicate (2 - (lg_sl ([.int (zI tr), .int (zI se)])).length) Slot.unset).toArray = ls at hl ⊢
  have hl : lv_has ls 2 [(0, .int (zI tr)), (1, .int (zI se))] := hl
  refine lv_iload_n hx hb dX4_isBlock_0 rfl (lv_at hl 0 rfl) ?_
  refine z_iconst hx hb dX4_isBlock_1 ?_
  refine z_iconst hx hb dX4_isBlock_2 ?_
  refine z_calli (va_runS (As := [.int (zI tr), .int (zI 0), .int (zI 3)]) (rest := []) ⟨hx, hb, hml, hown, hts⟩ (k_X4_within l dC dI cI cQ A ws tr 0 3 (by omega) (by omega) (by omega)) (va_cwS 3 hts gX4_isBlock_X4_within rfl rfl rfl (by decide +kernel) ⟨Nat.le_of_ble_eq_true rfl, Nat.le_of_ble_eq_true rfl⟩) (z_preS hK hP) rfl rfl hl.1 rfl (lv_room (Nat.le_of_ble_eq_true rfl)) dX4_isBlock_3 ⟨Nat.zero_le _, Nat.zero_le _⟩) hS (fun _ h => h) (fun H locs hP hS _ _ => ?_)
  refine z_ifb_eq (tgt := 23) hx hb dX4_isBlock_6 (by decide) (fun c1 => ?_) (fun c1 => ?_)
  · refine z_iconst hx hb dX4_isBlock_23 ?_
    exact z_zret hx hb hr hlk hP hS dX4_isBlock_24 (by omega) (by first | rw [if_pos (by omega)] | rw [if_neg (by omega)]) rfl
  · refine lv_iload_n hx hb dX4_isBlock_9 rfl (lv_at hl 1 rfl) ?_
    refine z_iconst hx hb dX4_isBlock_10 ?_
    refine z_bipush (z := 11) hx hb dX4_isBlock_11 (by decide +kernel) ?_
    refine z_calli (va_runS (As := [.int (zI se), .int (zI 0), .int (zI 11)]) (rest := []) ⟨hx, hb, hml, hown, hts⟩ (k_X4_within l dC dI cI cQ A ws se 0 11 (by omega) (by omega) (by omega)) (va_cwS 3 hts gX4_isBlock_X4_within rfl rfl rfl (by decide +kernel) ⟨Nat.le_of_ble_eq_true rfl, Nat.le_of_ble_eq_true rfl⟩) (z_preS hK hP) rfl rfl hl.1 rfl (lv_room (Nat.le_of_ble_eq_true rfl)) dX4_isBlock_13 ⟨Nat.zero_le _, Nat.zero_le _⟩) hS (fun _ h => h) (fun H locs hP hS _ _ => ?_)
    refine z_ifb_eq (tgt := 23) hx hb dX4_isBlock_16 (by decide) (fun c2 => ?_) (fun c2 => ?_)
    · refine z_iconst hx hb dX4_isBlock_23 ?_
      exact z_zret hx hb hr hlk hP hS dX4_isBlock_24 (by omega) (by first | rw [if_pos (by omega)] | rw [if_neg (by omega)]) rfl
    · refine z_iconst hx hb dX4_isBlock_19 ?_
      refine lv_goto (tgt := 24) hx hb dX4_isBlock_20 (by decide) ?_
      exact z_zret hx hb hr hlk hP hS dX4_isBlock_24 (by omega) (by first | rw [if_pos (by omega)] | rw [if_neg (by omega)]) rfl
theorem in_X4_of : ∀ w ∈ wsX40, w ∈ wsX4_of := fun w h => List.mem_cons_of_mem _ (List.mem_append_right _ h)
set_option maxHeartbeats 4000000 in
set_option maxRecDepth 100000 in
theorem k_X4_of (l : Launch) (dC : Nat → ClassId) (dI : Nat → Nat → Nat) (cI cQ : ClassId) (A : Nat → Prop) (ad : Nat → Nat) (S : Nat → Int → Int) (hD : ∀ S, va_D A (tW_X4 ad cI S)) (side b wh : Int) (h : 0 ≤ 240 * side + 5 * b + wh + 5 ∧ 240 * side + 5 * b + wh + 5 < 965) : Met l yX4_of wsX4_of ({ frames := 0, cells := 0, slots := 0, locals := 0 }) (zPc (dC, dI) vwCl (zT cI cQ) (tW_X4 ad cI S) [.ref (ad 0), .int (zI side), .int (zI b), .int (zI wh)]) (zQi (dC, dI) vwCl (tW_X4 ad cI S) (S 0 (240 * side + 5 * b + wh + 5)) A) 0 0 A := by
  refine Met.ofW (cc := cX4_of) (maxL := 4) (ret := (some .int)) (by decide) rfl ?_
  intro p e s m args below meth c s₁ B hml hv
  obtain ⟨rfl, hP, hK⟩ := hv
  have hx := B.exec
  have hb := B.bytes
  have hr := B.returns
  have hts := atoms_spec (ws := wsX4_of) B.pre
  have hown : s.vm.findClass RX4 = some m.cls := findClass_of_methodNamed B.named
  have hlk := B.notSynchronized
  have hS : va_S A s.heap s.heap [] := va_S.rf
  have hl := lv_entry ([.ref (ad 0), .int (zI side), .int (zI b), .int (zI wh)]) (n := 4) (Nat.le_of_ble_eq_true rfl)
  rw [lg_entry_eq]
  generalize (lg_sl ([.ref (ad 0), .int (zI side), .int (zI b), .int (zI wh)]) ++ List.replicate (4 - (lg_sl ([.ref (ad 0), .int (zI side), .int (zI b), .int (zI wh)])).length) Slot.unset).toArray = ls at hl ⊢
  have hl : lv_has ls 4 [(0, .ref (ad 0)), (1, .int (zI side)), (2, .int (zI b)), (3, .int (zI wh))] := hl
  have hin : ∀ w ∈ wsX40, w ∈ wsX4_of := in_X4_of
  refine lv_aload_n hx hb dX4_of_0 rfl (lv_at hl 0 rfl) ?_
  refine gx_X4_0 hx hb hts hin hown hK hP (hts _ (List.mem_of_getElem? (i := 1) rfl)) dX4_of_1 ?_
  refine z_iconst hx hb dX4_of_4 ?_
  refine z_iconst hx hb dX4_of_5 ?_
  refine z_bipush (z := 48) hx hb dX4_of_6 (by decide +kernel) ?_
  refine lv_iload_n hx hb dX4_of_8 rfl (lv_at hl 1 rfl) ?_
  refine z_imul hx hb dX4_of_9 ?_
  refine lv_iload_n hx hb dX4_of_10 rfl (lv_at hl 2 rfl) ?_
  refine z_iadd hx hb dX4_of_11 ?_
  refine z_top (y := 48 * side + b) (by omega) ?_
  refine z_imul hx hb dX4_of_12 ?_
  refine z_top (y := 240 * side + 5 * b) (by omega) ?_
  refine z_iadd hx hb dX4_of_13 ?_
  refine z_top (y := 240 * side + 5 * b + 5) (by omega) ?_
  refine lv_iload_n hx hb dX4_of_14 rfl (lv_at hl 3 rfl) ?_
  refine z_iadd hx hb dX4_of_15 ?_
  refine z_top (y := 240 * side + 5 * b + wh + 5) (by omega) ?_
  refine ld_X4_0 (v := S 0 (240 * side + 5 * b + wh + 5)) hx hb hK hP (by omega) rfl dX4_of_16 ?_
  exact z_iret hx hb hr hlk hP hS dX4_of_17 rfl rfl
theorem in_X4_put : ∀ w ∈ wsX40, w ∈ wsX4_put := fun w h => List.mem_cons_of_mem _ (List.mem_append_right _ h)
set_option maxHeartbeats 4000000 in
set_option maxRecDepth 100000 in
theorem k_X4_put (l : Launch) (dC : Nat → ClassId) (dI : Nat → Nat → Nat) (cI cQ : ClassId) (A : Nat → Prop) (ad : Nat → Nat) (S : Nat → Int → Int) (hD : ∀ S, va_D A (tW_X4 ad cI S)) (side b wh v : Int) (h : 0 ≤ 240 * side + 5 * b + wh + 5 ∧ 240 * side + 5 * b + wh + 5 < 965) : Met l yX4_put wsX4_put ({ frames := 0, cells := 0, slots := 0, locals := 0 }) (zPc (dC, dI) vwCl (zT cI cQ) (tW_X4 ad cI S) [.ref (ad 0), .int (zI side), .int (zI b), .int (zI wh), .int (zI v)]) (zQv (dC, dI) vwCl (tW_X4 ad cI (putM S side b wh v)) A) 0 0 A := by
  refine Met.ofW (cc := cX4_put) (maxL := 5) (ret := none) (by decide) rfl ?_
  intro p e s m args below meth c s₁ B hml hv
  obtain ⟨rfl, hP, hK⟩ := hv
  have hx := B.exec
  have hb := B.bytes
  have hr := B.returns
  have hts := atoms_spec (ws := wsX4_put) B.pre
  have hown : s.vm.findClass RX4 = some m.cls := findClass_of_methodNamed B.named
  have hlk := B.notSynchronized
  have hS : va_S A s.heap s.heap [] := va_S.rf
  have hl := lv_entry ([.ref (ad 0), .int (zI side), .int (zI b), .int (zI wh), .int (zI v)]) (n := 5) (Nat.le_of_ble_eq_true rfl)
  rw [lg_entry_eq]
  generalize (lg_sl ([.ref (ad 0), .int (zI side), .int (zI b), .int (zI wh), .int (zI v)]) ++ List.replicate (5 - (lg_sl ([.ref (ad 0), .int (zI side), .int (zI b), .int (zI wh), .int (zI v)])).length) Slot.unset).toArray = ls at hl ⊢
  have hl : lv_has ls 5 [(0, .ref (ad 0)), (1, .int (zI side)), (2, .int (zI b)), (3, .int (zI wh)), (4, .int (zI v))] := hl
  have hin : ∀ w ∈ wsX40, w ∈ wsX4_put := in_X4_put
  refine lv_aload_n hx hb dX4_put_0 rfl (lv_at hl 0 rfl) ?_
  refine gx_X4_0 hx hb hts hin hown hK hP (hts _ (List.mem_of_getElem? (i := 1) rfl)) dX4_put_1 ?_
  refine z_iconst hx hb dX4_put_4 ?_
  refine z_iconst hx hb dX4_put_5 ?_
  refine z_bipush (z := 48) hx hb dX4_put_6 (by decide +kernel) ?_
  refine lv_iload_n hx hb dX4_put_8 rfl (lv_at hl 1 rfl) ?_
  refine z_imul hx hb dX4_put_9 ?_
  refine lv_iload_n hx hb dX4_put_10 rfl (lv_at hl 2 rfl) ?_
  refine z_iadd hx hb dX4_put_11 ?_
  refine z_top (y := 48 * side + b) (by omega) ?_
  refine z_imul hx hb dX4_put_12 ?_
  refine z_top (y := 240 * side + 5 * b) (by omega) ?_
  refine z_iadd hx hb dX4_put_13 ?_
  refine z_top (y := 240 * side + 5 * b + 5) (by omega) ?_
  refine lv_iload_n hx hb dX4_put_14 rfl (lv_at hl 3 rfl) ?_
  refine z_iadd hx hb dX4_put_15 ?_
  refine z_top (y := 240 * side + 5 * b + wh + 5) (by omega) ?_
  refine lv_iload hx hb dX4_put_16 (lv_at hl 4 rfl) ?_
  refine st_X4_0 hx hb hK hP hD hS (by omega) dX4_put_18 (fun H locs hP hS => ?_)
  exact z_vret hx hb hr hlk hP hS dX4_put_19 (congrArg (tW_X4 ad cI) (by rfl))
theorem in_X4_told : ∀ w ∈ wsX40, w ∈ wsX4_told := fun w h => List.mem_cons_of_mem _ (List.mem_append_right _ h)
set_option maxHeartbeats 4000000 in
set_option maxRecDepth 100000 in
theorem k_X4_told (l : Launch) (dC : Nat → ClassId) (dI : Nat → Nat → Nat) (cI cQ : ClassId) (A : Nat → Prop) (ad : Nat → Nat) (S : Nat → Int → Int) (hD : ∀ S, va_D A (tW_X4 ad cI S)) (o wh : Int) (h : 0 ≤ 8 * o + wh ∧ 8 * o + wh < 480) : Met l yX4_told wsX4_told ({ frames := 0, cells := 0, slots := 0, locals := 0 }) (zPc (dC, dI) vwCl (zT cI cQ) (tW_X4 ad cI S) [.ref (ad 0), .int (zI o), .int (zI wh)]) (zQi (dC, dI) vwCl (tW_X4 ad cI S) (S 0 (8 * o + wh + 485)) A) 0 0 A := by
  refine Met.ofW (cc := cX4_told) (maxL := 3) (ret := (some .int)) (by decide) rfl ?_
  intro p e s m args below meth c s₁ B hml hv
  obtain ⟨rfl, hP, hK⟩ := hv
  have hx := B.exec
  have hb := B.bytes
  have hr := B.returns
  have hts := atoms_spec (ws := wsX4_told) B.pre
  have hown : s.vm.findClass RX4 = some m.cls := findClass_of_methodNamed B.named
  have hlk := B.notSynchronized
  have hS : va_S A s.heap s.heap [] := va_S.rf
  have hl := lv_entry ([.ref (ad 0), .int (zI o), .int (zI wh)]) (n := 3) (Nat.le_of_ble_eq_true rfl)
  rw [lg_entry_eq]
  generalize (lg_sl ([.ref (ad 0), .int (zI o), .int (zI wh)]) ++ List.replicate (3 - (lg_sl ([.ref (ad 0), .int (zI o), .int (zI wh)])).length) Slot.unset).toArray = ls at hl ⊢
  have hl : lv_has ls 3 [(0, .ref (ad 0)), (1, .int (zI o)), (2, .int (zI wh))] := hl
  have hin : ∀ w ∈ wsX40, w ∈ wsX4_told := in_X4_told
  refine lv_aload_n hx hb dX4_told_0 rfl (lv_at hl 0 rfl) ?_
  refine gx_X4_0 hx hb hts hin hown hK hP (hts _ (List.mem_of_getElem? (i := 1) rfl)) dX4_told_1 ?_
  refine z_sipush (z := 485) hx hb dX4_told_4 (by decide +kernel) ?_
  refine z_bipush (z := 8) hx hb dX4_told_7 (by decide +kernel) ?_
  refine lv_iload_n hx hb dX4_told_9 rfl (lv_at hl 1 rfl) ?_
  refine z_imul hx hb dX4_told_10 ?_
  refine z_iadd hx hb dX4_told_11 ?_
  refine z_top (y := 8 * o + 485) (by omega) ?_
  refine lv_iload_n hx hb dX4_told_12 rfl (lv_at hl 2 rfl) ?_
  refine z_iadd hx hb dX4_told_13 ?_
  refine z_top (y := 8 * o + wh + 485) (by omega) ?_
  refine ld_X4_0 (v := S 0 (8 * o + wh + 485)) hx hb hK hP (by omega) rfl dX4_told_14 ?_
  exact z_iret hx hb hr hlk hP hS dX4_told_15 rfl rfl
theorem in_X4_tell : ∀ w ∈ wsX40, w ∈ wsX4_tell := fun w h => List.mem_cons_of_mem _ (List.mem_append_right _ h)
set_option maxHeartbeats 4000000 in
set_option maxRecDepth 100000 in
theorem k_X4_tell (l : Launch) (dC : Nat → ClassId) (dI : Nat → Nat → Nat) (cI cQ : ClassId) (A : Nat → Prop) (ad : Nat → Nat) (S : Nat → Int → Int) (hD : ∀ S, va_D A (tW_X4 ad cI S)) (o wh v : Int) (h : 0 ≤ 8 * o + wh ∧ 8 * o + wh < 480) : Met l yX4_tell wsX4_tell ({ frames := 0, cells := 0, slots := 0, locals := 0 }) (zPc (dC, dI) vwCl (zT cI cQ) (tW_X4 ad cI S) [.ref (ad 0), .int (zI o), .int (zI wh), .int (zI v)]) (zQv (dC, dI) vwCl (tW_X4 ad cI (tellM S o wh v)) A) 0 0 A := by
  refine Met.ofW (cc := cX4_tell) (maxL := 4) (ret := none) (by decide) rfl ?_
  intro p e s m args below meth c s₁ B hml hv
  obtain ⟨rfl, hP, hK⟩ := hv
  have hx := B.exec
  have hb := B.bytes
  have hr := B.returns
  have hts := atoms_spec (ws := wsX4_tell) B.pre
  have hown : s.vm.findClass RX4 = some m.cls := findClass_of_methodNamed B.named
  have hlk := B.notSynchronized
  have hS : va_S A s.heap s.heap [] := va_S.rf
  have hl := lv_entry ([.ref (ad 0), .int (zI o), .int (zI wh), .int (zI v)]) (n := 4) (Nat.le_of_ble_eq_true rfl)
  rw [lg_entry_eq]
  generalize (lg_sl ([.ref (ad 0), .int (zI o), .int (zI wh), .int (zI v)]) ++ List.replicate (4 - (lg_sl ([.ref (ad 0), .int (zI o), .int (zI wh), .int (zI v)])).length) Slot.unset).toArray = ls at hl ⊢
  have hl : lv_has ls 4 [(0, .ref (ad 0)), (1, .int (zI o)), (2, .int (zI wh)), (3, .int (zI v))] := hl
  have hin : ∀ w ∈ wsX40, w ∈ wsX4_tell := in_X4_tell
  refine lv_aload_n hx hb dX4_tell_0 rfl (lv_at hl 0 rfl) ?_
  refine gx_X4_0 hx hb hts hin hown hK hP (hts _ (List.mem_of_getElem? (i := 1) rfl)) dX4_tell_1 ?_
  refine z_sipush (z := 485) hx hb dX4_tell_4 (by decide +kernel) ?_
  refine z_bipush (z := 8) hx hb dX4_tell_7 (by decide +kernel) ?_
  refine lv_iload_n hx hb dX4_tell_9 rfl (lv_at hl 1 rfl) ?_
  refine z_imul hx hb dX4_tell_10 ?_
  refine z_iadd hx hb dX4_tell_11 ?_
  refine z_top (y := 8 * o + 485) (by omega) ?_
  refine lv_iload_n hx hb dX4_tell_12 rfl (lv_at hl 2 rfl) ?_
  refine z_iadd hx hb dX4_tell_13 ?_
  refine z_top (y := 8 * o + wh + 485) (by omega) ?_
  refine lv_iload_n hx hb dX4_tell_14 rfl (lv_at hl 3 rfl) ?_
  refine st_X4_0 hx hb hK hP hD hS (by omega) dX4_tell_15 (fun H locs hP hS => ?_)
  exact z_vret hx hb hr hlk hP hS dX4_tell_16 (congrArg (tW_X4 ad cI) (by rfl))
theorem in_X4_inState : ∀ w ∈ wsX40, w ∈ wsX4_inState := fun w h => List.mem_cons_of_mem _ (List.mem_append_right _ h)
set_option maxHeartbeats 4000000 in
set_option maxRecDepth 100000 in
theorem k_X4_inState (l : Launch) (dC : Nat → ClassId) (dI : Nat → Nat → Nat) (cI cQ : ClassId) (A : Nat → Prop) (ad : Nat → Nat) (S : Nat → Int → Int) (hD : ∀ S, va_D A (tW_X4 ad cI S)) (st : Int) (hA : WFA (S 0)) (q0 : -2147483648 ≤ st ∧ st < 2147483648) : Met l yX4_inState wsX4_inState ({ frames := 1, cells := 0, slots := 0, locals := 22 }) (zPc (dC, dI) vwCl (zT cI cQ) (tW_X4 ad cI S) [.ref (ad 0), .int (zI st)]) (zQi (dC, dI) vwCl (tW_X4 ad cI S) (inStF (S 0) st) A) 0 0 A := by
  refine Met.ofW (cc := cX4_inState) (maxL := 4) (ret := (some .int)) (by decide) rfl ?_
  intro p e s m args below meth c s₁ B hml hv
  obtain ⟨rfl, hP, hK⟩ := hv
  have hx := B.exec
  have hb := B.bytes
  have hr := B.returns
  have hts := atoms_spec (ws := wsX4_inState) B.pre
  have hown : s.vm.findClass RX4 = some m.cls := findClass_of_methodNamed B.named
  have hlk := B.notSynchronized
  have hS : va_S A s.heap s.heap [] := va_S.rf
  have hl := lv_entry ([.ref (ad 0), .int (zI st)]) (n := 4) (Nat.le_of_ble_eq_true rfl)
  rw [lg_entry_eq]
  generalize (lg_sl ([.ref (ad 0), .int (zI st)]) ++ List.replicate (4 - (lg_sl ([.ref (ad 0), .int (zI st)])).length) Slot.unset).toArray = ls at hl ⊢
  have hl : lv_has ls 4 [(0, .ref (ad 0)), (1, .int (zI st))] := hl
  have hin : ∀ w ∈ wsX40, w ∈ wsX4_inState := in_X4_inState
  obtain ⟨hB0, hA0, hA1, hA2⟩ := id hA
  have hB : ∀ (k : Nat) (j : Int), 0 ≤ j → j < 965 → j ≠ 3 → j ≠ 4 → -1000000 ≤ S 0 j ∧ S 0 j ≤ 1000000 := fun _ j => hB0 j
  refine z_iconst hx hb dX4_inState_0 ?_
  refine lv_istore_n (lv' := [(2, .int (zI 0)), (0, .ref (ad 0)), (1, .int (zI st))]) hx hb dX4_inState_1 rfl hl (by decide) rfl (fun ls hl => ?_)
  refine z_iconst hx hb dX4_inState_2 ?_
  refine lv_istore_n (lv' := [(3, .int (zI 0)), (2, .int (zI 0)), (0, .ref (ad 0)), (1, .int (zI st))]) hx hb dX4_inState_3 rfl hl (by decide) rfl (fun ls hl => ?_)
  have hloop4 : ∀ (n : Nat) (n0 o : Int), (0 ≤ o ∧ o ≤ S 0 2) → (n0 = sumZ (fun o => if S 0 (8 * o + 488) = st then 1 else 0) o) → (S 0 2 - o < (n : Int)) → ∀ (H : Heap) (locs : List Loc), va_P (dC, dI) vwCl (tW_X4 ad cI S) H → va_S A s.heap H locs → ∀ ls : Array Slot, lv_has ls 4 [(3, .int (zI o)), (2, .int (zI n0)), (0, .ref (ad 0)), (1, .int (zI st))] → W p l e (headSpec wsX4_inState ({ frames := 1, cells := 0, slots := 0, locals := 22 })).room s m ([.ref (ad 0), .int (zI st)] : List Value).toArray below meth c H locs 0 0 (MQ below (zQi (dC, dI) vwCl (tW_X4 ad cI S) (inStF (S 0) st) A) ([.ref (ad 0), .int (zI st)] : List Value).toArray s 0 0 A) (F0 m 4 ls []) := by
    intro n
    induction n with
    | zero =>
      intro n0 o i0 i1 hm
      exfalso
      omega
    | succ n ih =>
      intro n0 o i0 i1 hm H locs hP hS ls hl
      have ih4 := ih
      clear ih
      refine lv_iload_n hx hb dX4_inState_4 rfl (lv_at hl 0 rfl) ?_
      refine lv_aload_n hx hb dX4_inState_5 rfl (lv_at hl 2 rfl) ?_
      refine gx_X4_0 hx hb hts hin hown hK hP (hts _ (List.mem_of_getElem? (i := 1) rfl)) dX4_inState_6 ?_
      refine z_iconst hx hb dX4_inState_9 ?_
      refine ld_X4_0 (v := S 0 2) hx hb hK hP (by omega) rfl dX4_inState_10 ?_
      have b1 := hB 0 2 (by omega) (by omega) (by omega) (by omega)
      refine z_icmp_ge (tgt := 38) hx hb dX4_inState_11 (by decide) (by omega) (by omega) (fun c1 => ?_) (fun c1 => ?_)
      · refine lv_iload_n hx hb dX4_inState_38 rfl (lv_at hl 1 rfl) ?_
        have e2 : S 0 2 = o := by omega
        exact z_iret hx hb hr hlk hP hS dX4_inState_39 (by unfold inStF; rw [e2]; exact i1) rfl
      · refine lv_iload_n hx hb dX4_inState_14 rfl (lv_at hl 1 rfl) ?_
        refine lv_aload_n hx hb dX4_inState_15 rfl (lv_at hl 2 rfl) ?_
        refine lv_iload_n hx hb dX4_inState_16 rfl (lv_at hl 0 rfl) ?_
        refine z_iconst hx hb dX4_inState_17 ?_
        refine z_calli (va_runV (As := [.int (zI o), .int (zI 3)]) (rest := [.int (zI n0)]) ⟨hx, hb, hml, hown, hts⟩ (k_X4_told l dC dI cI cQ A ad S hD o 3 (by omega)) (cwV 2 hts gX4_inState_X4_told rfl rfl rfl (by decide +kernel) ⟨Nat.le_of_ble_eq_true rfl, Nat.le_of_ble_eq_true rfl⟩) (z_preV hK hP (ci := 4) (q0 := 0) rfl rfl rfl) rfl rfl hl.1 rfl (lv_room (Nat.le_of_ble_eq_true rfl)) dX4_inState_18 ⟨Nat.zero_le _, Nat.zero_le _⟩) hS (fun _ h => h) (fun H locs hP hS _ _ => ?_)
        refine z_top (y := S 0 (8 * o + 488)) (by rw [show (8 * o + 3 + 485) = (8 * o + 488 : Int) from by omega]; first | done | exact rfl) ?_
        have b2 := hB 0 (8 * o + 488) (by omega) (by omega) (by omega) (by omega)
        refine lv_iload_n hx hb dX4_inState_21 rfl (lv_at hl 3 rfl) ?_
        refine z_icmp_ne (tgt := 29) hx hb dX4_inState_22 (by decide) (by omega) (by omega) (fun c2 => ?_) (fun c2 => ?_)
        · refine z_iconst hx hb dX4_inState_29 ?_
          refine z_iadd hx hb dX4_inState_30 ?_
          refine z_top (y := n0) (by omega) ?_
          refine lv_istore_n (lv' := [(2, .int (zI n0)), (3, .int (zI o)), (0, .ref (ad 0)), (1, .int (zI st))]) hx hb dX4_inState_31 rfl hl (by decide) rfl (fun ls hl => ?_)
          refine z_iinc (lv' := [(3, .int (zI (o + 1))), (2, .int (zI n0)), (0, .ref (ad 0)), (1, .int (zI st))]) hx hb dX4_inState_32 hl (k := 1) rfl (by decide) (by rw [show (o : Int) + (1) = (o + 1) from by omega]; rfl) (fun ls hl => ?_)
          refine lv_goto (tgt := 4) hx hb dX4_inState_35 (by decide) ?_
          exact ih4 n0 (o + 1) (by omega) (by rw [sumZ_succ _ i0.1, ← i1]; split <;> omega) (by omega) _ _ hP hS ls (lv_sub hl [0, 1, 2, 3] rfl)
        · refine z_iconst hx hb dX4_inState_25 ?_
          refine lv_goto (tgt := 30) hx hb dX4_inState_26 (by decide) ?_
          refine z_iadd hx hb dX4_inState_30 ?_
          refine lv_istore_n (lv' := [(2, .int (zI (n0 + 1))), (3, .int (zI o)), (0, .ref (ad 0)), (1, .int (zI st))]) hx hb dX4_inState_31 rfl hl (by decide) rfl (fun ls hl => ?_)
          refine z_iinc (lv' := [(3, .int (zI (o + 1))), (2, .int (zI (n0 + 1))), (0, .ref (ad 0)), (1, .int (zI st))]) hx hb dX4_inState_32 hl (k := 1) rfl (by decide) (by rw [show (o : Int) + (1) = (o + 1) from by omega]; rfl) (fun ls hl => ?_)
          refine lv_goto (tgt := 4) hx hb dX4_inState_35 (by decide) ?_
          exact ih4 (n0 + 1) (o + 1) (by omega) (by rw [sumZ_succ _ i0.1, ← i1]; split <;> omega) (by omega) _ _ hP hS ls (lv_sub hl [0, 1, 2, 3] rfl)
  exact hloop4 ((S 0 2 - 0 : Int) + 1).toNat 0 0 (by omega) (by rfl) (by omega) _ _ hP hS ls (lv_sub hl [0, 1, 2, 3] rfl)
theorem in_X4_takes : ∀ w ∈ wsX40, w ∈ wsX4_takes := fun w h => List.mem_cons_of_mem _ (List.mem_append_right _ h)
set_option maxHeartbeats 4000000 in
set_option maxRecDepth 100000 in
theorem k_X4_takes (l : Launch) (dC : Nat → ClassId) (dI : Nat → Nat → Nat) (cI cQ : ClassId) (A : Nat → Prop) (ad : Nat → Nat) (S : Nat → Int → Int) (hD : ∀ S, va_D A (tW_X4 ad cI S)) (kind tr se v : Int) (hA : WFA (S 0)) (h : 0 ≤ S 2 0 ∧ S 2 0 ≤ 5) (h7 : S 7 0 = 0 ∨ S 7 0 = 1) (q0 : -2147483648 ≤ kind ∧ kind < 2147483648) : Met l yX4_takes wsX4_takes ({ frames := 2, cells := 0, slots := 0, locals := 45 }) (zPc (dC, dI) vwCl (zT cI cQ) (tW_X4 ad cI S) [.ref (ad 0), .int (zI kind), .int (zI tr), .int (zI se), .int (zI v)]) (zQi (dC, dI) vwCl (tW_X4 ad cI (takesM S kind tr se v)) (takesR (S 0)) A) 0 0 A := by
  refine Met.ofW (cc := cX4_takes) (maxL := 6) (ret := (some .int)) (by decide) rfl ?_
  intro p e s m args below meth c s₁ B hml hv
  obtain ⟨rfl, hP, hK⟩ := hv
  have hx := B.exec
  have hb := B.bytes
  have hr := B.returns
  have hts := atoms_spec (ws := wsX4_takes) B.pre
  have hown : s.vm.findClass RX4 = some m.cls := findClass_of_methodNamed B.named
  have hlk := B.notSynchronized
  have hS : va_S A s.heap s.heap [] := va_S.rf
  have hl := lv_entry ([.ref (ad 0), .int (zI kind), .int (zI tr), .int (zI se), .int (zI v)]) (n := 6) (Nat.le_of_ble_eq_true rfl)
  rw [lg_entry_eq]
  generalize (lg_sl ([.ref (ad 0), .int (zI kind), .int (zI tr), .int (zI se), .int (zI v)]) ++ List.replicate (6 - (lg_sl ([.ref (ad 0), .int (zI kind), .int (zI tr), .int (zI se), .int (zI v)])).length) Slot.unset).toArray = ls at hl ⊢
  have hl : lv_has ls 6 [(0, .ref (ad 0)), (1, .int (zI kind)), (2, .int (zI tr)), (3, .int (zI se)), (4, .int (zI v))] := hl
  have hin : ∀ w ∈ wsX40, w ∈ wsX4_takes := in_X4_takes
  obtain ⟨hB0, hA0, hA1, hA2⟩ := id hA
  have hB : ∀ (k : Nat) (j : Int), 0 ≤ j → j < 965 → j ≠ 3 → j ≠ 4 → -1000000 ≤ S 0 j ∧ S 0 j ≤ 1000000 := fun _ j => hB0 j
  refine lv_aload_n hx hb dX4_takes_0 rfl (lv_at hl 0 rfl) ?_
  refine gx_X4_0 hx hb hts hin hown hK hP (hts _ (List.mem_of_getElem? (i := 1) rfl)) dX4_takes_1 ?_
  refine z_iconst hx hb dX4_takes_4 ?_
  refine ld_X4_0 (v := S 0 2) hx hb hK hP (by omega) rfl dX4_takes_5 ?_
  have b1 := hB 0 2 (by omega) (by omega) (by omega) (by omega)
  refine z_bipush (z := 60) hx hb dX4_takes_6 (by decide +kernel) ?_
  refine z_icmp_eq (tgt := 21) hx hb dX4_takes_8 (by decide) (by omega) (by omega) (fun c1 => ?_) (fun c1 => ?_)
  · refine z_bipush (z := (-3)) hx hb dX4_takes_21 (by decide +kernel) ?_
    exact z_iret hx hb hr hlk hP hS dX4_takes_23 (by unfold takesR; first | rw [if_pos (by omega)] | rw [if_neg (by omega)]) (congrArg (tW_X4 ad cI) (by unfold takesM; first | rw [if_pos (by omega)] | (rw [if_neg (by omega)]; unfold tkAF; (first | rw [if_pos (by omega)] | rw [if_neg (by omega)]); simp only [tellM_eq, up2_def, upR_eq, upR_upR, savesM_0]; simp only [show 8 * S 0 2 + 0 + 485 = (8 * S 0 2 + 485 : Int) from by omega, show 8 * S 0 2 + 1 + 485 = (8 * S 0 2 + 486 : Int) from by omega, show 8 * S 0 2 + 2 + 485 = (8 * S 0 2 + 487 : Int) from by omega, show 8 * S 0 2 + 3 + 485 = (8 * S 0 2 + 488 : Int) from by omega, show 8 * S 0 2 + 4 + 485 = (8 * S 0 2 + 489 : Int) from by omega, show 8 * S 0 2 + 5 + 485 = (8 * S 0 2 + 490 : Int) from by omega, show 8 * S 0 2 + 6 + 485 = (8 * S 0 2 + 491 : Int) from by omega, show 8 * S 0 2 + 7 + 485 = (8 * S 0 2 + 492 : Int) from by omega])))
  · refine lv_aload_n hx hb dX4_takes_11 rfl (lv_at hl 0 rfl) ?_
    refine z_iconst hx hb dX4_takes_12 ?_
    refine z_calli (va_runV (As := [.int (zI 0)]) (rest := []) ⟨hx, hb, hml, hown, hts⟩ (k_X4_inState l dC dI cI cQ A ad S hD 0 (by exact hA) (by omega)) (cwV 1 hts gX4_takes_X4_inState rfl rfl rfl (by decide +kernel) ⟨Nat.le_of_ble_eq_true rfl, Nat.le_of_ble_eq_true rfl⟩) (z_preV hK hP (ci := 4) (q0 := 0) rfl rfl rfl) rfl rfl hl.1 rfl (lv_room (Nat.le_of_ble_eq_true rfl)) dX4_takes_13 ⟨Nat.zero_le _, Nat.zero_le _⟩) hS (fun _ h => h) (fun H locs hP hS _ _ => ?_)
    have ib := inSt_rng (A := S 0) (by omega) 0
    refine z_bipush (z := 20) hx hb dX4_takes_16 (by decide +kernel) ?_
    refine z_icmp_lt (tgt := 24) hx hb dX4_takes_18 (by decide) (by omega) (by omega) (fun c2 => ?_) (fun c2 => ?_)
    · refine lv_aload_n hx hb dX4_takes_24 rfl (lv_at hl 0 rfl) ?_
      refine z_callv (va_runV (As := []) (rest := []) ⟨hx, hb, hml, hown, hts⟩ (k_X4_saves l dC dI cI cQ A ad S hD (by exact h) (by exact h7)) (cwV 0 hts gX4_takes_X4_saves rfl rfl rfl (by decide +kernel) ⟨Nat.le_of_ble_eq_true rfl, Nat.le_of_ble_eq_true rfl⟩) (z_preV hK hP (ci := 4) (q0 := 0) rfl rfl rfl) rfl rfl hl.1 rfl (lv_room (Nat.le_of_ble_eq_true rfl)) dX4_takes_25 ⟨Nat.zero_le _, Nat.zero_le _⟩) hS (fun _ h => h) (fun H locs hP hS _ _ => ?_)
      refine lv_aload_n hx hb dX4_takes_28 rfl (lv_at hl 0 rfl) ?_
      refine gx_X4_0 hx hb hts hin hown hK hP (hts _ (List.mem_of_getElem? (i := 1) rfl)) dX4_takes_29 ?_
      refine z_iconst hx hb dX4_takes_32 ?_
      refine ld_X4_0 (v := S 0 2) hx hb hK hP (by omega) ((congrFun (savesM_0 S) _)) dX4_takes_33 ?_
      have b2 := hB 0 2 (by omega) (by omega) (by omega) (by omega)
      refine lv_istore (lv' := [(5, .int (zI (S 0 2))), (0, .ref (ad 0)), (1, .int (zI kind)), (2, .int (zI tr)), (3, .int (zI se)), (4, .int (zI v))]) hx hb dX4_takes_34 hl (by decide) rfl (fun ls hl => ?_)
      refine lv_aload_n hx hb dX4_takes_36 rfl (lv_at hl 1 rfl) ?_
      refine gx_X4_0 hx hb hts hin hown hK hP (hts _ (List.mem_of_getElem? (i := 1) rfl)) dX4_takes_37 ?_
      refine z_iconst hx hb dX4_takes_40 ?_
      refine lv_dup2_11 hx hb dX4_takes_41 rfl rfl ?_
      refine ld_X4_0 (v := S 0 2) hx hb hK hP (by omega) ((congrFun (savesM_0 S) _)) dX4_takes_42 ?_
      have b3 := hB 0 2 (by omega) (by omega) (by omega) (by omega)
      refine z_iconst hx hb dX4_takes_43 ?_
      refine z_iadd hx hb dX4_takes_44 ?_
      refine z_top (y := S 0 2 + 1) (by omega) ?_
      refine st_X4_0 hx hb hK hP hD hS (by omega) dX4_takes_45 (fun H locs hP hS => ?_)
      refine lv_aload_n hx hb dX4_takes_46 rfl (lv_at hl 1 rfl) ?_
      refine lv_iload hx hb dX4_takes_47 (lv_at hl 0 rfl) ?_
      refine z_iconst hx hb dX4_takes_49 ?_
      refine lv_iload_n hx hb dX4_takes_50 rfl (lv_at hl 2 rfl) ?_
      refine z_callv (va_runV (As := [.int (zI (S 0 2)), .int (zI 0), .int (zI kind)]) (rest := []) ⟨hx, hb, hml, hown, hts⟩ (k_X4_tell l dC dI cI cQ A ad (up2 (savesM S) 0 2 (S 0 2 + 1)) hD (S 0 2) 0 kind (by omega)) (cwV 3 hts gX4_takes_X4_tell rfl rfl rfl (by decide +kernel) ⟨Nat.le_of_ble_eq_true rfl, Nat.le_of_ble_eq_true rfl⟩) (z_preV hK hP (ci := 4) (q0 := 0) rfl rfl rfl) rfl rfl hl.1 rfl (lv_room (Nat.le_of_ble_eq_true rfl)) dX4_takes_51 ⟨Nat.zero_le _, Nat.zero_le _⟩) hS (fun _ h => h) (fun H locs hP hS _ _ => ?_)
      refine lv_aload_n hx hb dX4_takes_54 rfl (lv_at hl 1 rfl) ?_
      refine lv_iload hx hb dX4_takes_55 (lv_at hl 0 rfl) ?_
      refine z_iconst hx hb dX4_takes_57 ?_
      refine lv_iload_n hx hb dX4_takes_58 rfl (lv_at hl 3 rfl) ?_
      refine z_callv (va_runV (As := [.int (zI (S 0 2)), .int (zI 1), .int (zI tr)]) (rest := []) ⟨hx, hb, hml, hown, hts⟩ (k_X4_tell l dC dI cI cQ A ad (tellM (up2 (savesM S) 0 2 (S 0 2 + 1)) (S 0 2) 0 kind) hD (S 0 2) 1 tr (by omega)) (cwV 3 hts gX4_takes_X4_tell rfl rfl rfl (by decide +kernel) ⟨Nat.le_of_ble_eq_true rfl, Nat.le_of_ble_eq_true rfl⟩) (z_preV hK hP (ci := 4) (q0 := 0) rfl rfl rfl) rfl rfl hl.1 rfl (lv_room (Nat.le_of_ble_eq_true rfl)) dX4_takes_59 ⟨Nat.zero_le _, Nat.zero_le _⟩) hS (fun _ h => h) (fun H locs hP hS _ _ => ?_)
      refine lv_aload_n hx hb dX4_takes_62 rfl (lv_at hl 1 rfl) ?_
      refine lv_iload hx hb dX4_takes_63 (lv_at hl 0 rfl) ?_
      refine z_iconst hx hb dX4_takes_65 ?_
      refine lv_iload_n hx hb dX4_takes_66 rfl (lv_at hl 4 rfl) ?_
      refine z_callv (va_runV (As := [.int (zI (S 0 2)), .int (zI 2), .int (zI se)]) (rest := []) ⟨hx, hb, hml, hown, hts⟩ (k_X4_tell l dC dI cI cQ A ad (tellM (tellM (up2 (savesM S) 0 2 (S 0 2 + 1)) (S 0 2) 0 kind) (S 0 2) 1 tr) hD (S 0 2) 2 se (by omega)) (cwV 3 hts gX4_takes_X4_tell rfl rfl rfl (by decide +kernel) ⟨Nat.le_of_ble_eq_true rfl, Nat.le_of_ble_eq_true rfl⟩) (z_preV hK hP (ci := 4) (q0 := 0) rfl rfl rfl) rfl rfl hl.1 rfl (lv_room (Nat.le_of_ble_eq_true rfl)) dX4_takes_67 ⟨Nat.zero_le _, Nat.zero_le _⟩) hS (fun _ h => h) (fun H locs hP hS _ _ => ?_)
      refine lv_aload_n hx hb dX4_takes_70 rfl (lv_at hl 1 rfl) ?_
      refine lv_iload hx hb dX4_takes_71 (lv_at hl 0 rfl) ?_
      refine z_iconst hx hb dX4_takes_73 ?_
      refine z_iconst hx hb dX4_takes_74 ?_
      refine z_callv (va_runV (As := [.int (zI (S 0 2)), .int (zI 3), .int (zI 0)]) (rest := []) ⟨hx, hb, hml, hown, hts⟩ (k_X4_tell l dC dI cI cQ A ad (tellM (tellM (tellM (up2 (savesM S) 0 2 (S 0 2 + 1)) (S 0 2) 0 kind) (S 0 2) 1 tr) (S 0 2) 2 se) hD (S 0 2) 3 0 (by omega)) (cwV 3 hts gX4_takes_X4_tell rfl rfl rfl (by decide +kernel) ⟨Nat.le_of_ble_eq_true rfl, Nat.le_of_ble_eq_true rfl⟩) (z_preV hK hP (ci := 4) (q0 := 0) rfl rfl rfl) rfl rfl hl.1 rfl (lv_room (Nat.le_of_ble_eq_true rfl)) dX4_takes_75 ⟨Nat.zero_le _, Nat.zero_le _⟩) hS (fun _ h => h) (fun H locs hP hS _ _ => ?_)
      refine lv_aload_n hx hb dX4_takes_78 rfl (lv_at hl 1 rfl) ?_
      refine lv_iload hx hb dX4_takes_79 (lv_at hl 0 rfl) ?_
      refine z_iconst hx hb dX4_takes_81 ?_
      refine lv_aload_n hx hb dX4_takes_82 rfl (lv_at hl 1 rfl) ?_
      refine gx_X4_0 hx hb hts hin hown hK hP (hts _ (List.mem_of_getElem? (i := 1) rfl)) dX4_takes_83 ?_
      refine z_iconst hx hb dX4_takes_86 ?_
      refine ld_X4_0 (v := S 0 0) hx hb hK hP (by omega) (((up2_ne (by omega)).trans (((up2_ne (by omega)).trans (((up2_ne (by omega)).trans (((up2_ne (by omega)).trans (((up2_ne (by omega)).trans ((congrFun (savesM_0 S) _)))))))))))) dX4_takes_87 ?_
      have b4 := hB 0 0 (by omega) (by omega) (by omega) (by omega)
      refine z_callv (va_runV (As := [.int (zI (S 0 2)), .int (zI 4), .int (zI (S 0 0))]) (rest := []) ⟨hx, hb, hml, hown, hts⟩ (k_X4_tell l dC dI cI cQ A ad (tellM (tellM (tellM (tellM (up2 (savesM S) 0 2 (S 0 2 + 1)) (S 0 2) 0 kind) (S 0 2) 1 tr) (S 0 2) 2 se) (S 0 2) 3 0) hD (S 0 2) 4 (S 0 0) (by omega)) (cwV 3 hts gX4_takes_X4_tell rfl rfl rfl (by decide +kernel) ⟨Nat.le_of_ble_eq_true rfl, Nat.le_of_ble_eq_true rfl⟩) (z_preV hK hP (ci := 4) (q0 := 0) rfl rfl rfl) rfl rfl hl.1 rfl (lv_room (Nat.le_of_ble_eq_true rfl)) dX4_takes_88 ⟨Nat.zero_le _, Nat.zero_le _⟩) hS (fun _ h => h) (fun H locs hP hS _ _ => ?_)
      refine lv_aload_n hx hb dX4_takes_91 rfl (lv_at hl 1 rfl) ?_
      refine lv_iload hx hb dX4_takes_92 (lv_at hl 0 rfl) ?_
      refine z_iconst hx hb dX4_takes_94 ?_
      refine z_bipush (z := (-9)) hx hb dX4_takes_95 (by decide +kernel) ?_
      refine z_callv (va_runV (As := [.int (zI (S 0 2)), .int (zI 5), .int (zI (-9))]) (rest := []) ⟨hx, hb, hml, hown, hts⟩ (k_X4_tell l dC dI cI cQ A ad (tellM (tellM (tellM (tellM (tellM (up2 (savesM S) 0 2 (S 0 2 + 1)) (S 0 2) 0 kind) (S 0 2) 1 tr) (S 0 2) 2 se) (S 0 2) 3 0) (S 0 2) 4 (S 0 0)) hD (S 0 2) 5 (-9) (by omega)) (cwV 3 hts gX4_takes_X4_tell rfl rfl rfl (by decide +kernel) ⟨Nat.le_of_ble_eq_true rfl, Nat.le_of_ble_eq_true rfl⟩) (z_preV hK hP (ci := 4) (q0 := 0) rfl rfl rfl) rfl rfl hl.1 rfl (lv_room (Nat.le_of_ble_eq_true rfl)) dX4_takes_97 ⟨Nat.zero_le _, Nat.zero_le _⟩) hS (fun _ h => h) (fun H locs hP hS _ _ => ?_)
      refine lv_aload_n hx hb dX4_takes_100 rfl (lv_at hl 1 rfl) ?_
      refine lv_iload hx hb dX4_takes_101 (lv_at hl 0 rfl) ?_
      refine z_bipush (z := 6) hx hb dX4_takes_103 (by decide +kernel) ?_
      refine z_bipush (z := (-9)) hx hb dX4_takes_105 (by decide +kernel) ?_
      refine z_callv (va_runV (As := [.int (zI (S 0 2)), .int (zI 6), .int (zI (-9))]) (rest := []) ⟨hx, hb, hml, hown, hts⟩ (k_X4_tell l dC dI cI cQ A ad (tellM (tellM (tellM (tellM (tellM (tellM (up2 (savesM S) 0 2 (S 0 2 + 1)) (S 0 2) 0 kind) (S 0 2) 1 tr) (S 0 2) 2 se) (S 0 2) 3 0) (S 0 2) 4 (S 0 0)) (S 0 2) 5 (-9)) hD (S 0 2) 6 (-9) (by omega)) (cwV 3 hts gX4_takes_X4_tell rfl rfl rfl (by decide +kernel) ⟨Nat.le_of_ble_eq_true rfl, Nat.le_of_ble_eq_true rfl⟩) (z_preV hK hP (ci := 4) (q0 := 0) rfl rfl rfl) rfl rfl hl.1 rfl (lv_room (Nat.le_of_ble_eq_true rfl)) dX4_takes_107 ⟨Nat.zero_le _, Nat.zero_le _⟩) hS (fun _ h => h) (fun H locs hP hS _ _ => ?_)
      refine lv_aload_n hx hb dX4_takes_110 rfl (lv_at hl 1 rfl) ?_
      refine lv_iload hx hb dX4_takes_111 (lv_at hl 0 rfl) ?_
      refine z_bipush (z := 7) hx hb dX4_takes_113 (by decide +kernel) ?_
      refine lv_iload_n hx hb dX4_takes_115 rfl (lv_at hl 2 rfl) ?_
      refine z_iconst hx hb dX4_takes_116 ?_
      refine z_icmp_ne (tgt := 125) hx hb dX4_takes_117 (by decide) (by omega) (by omega) (fun c3 => ?_) (fun c3 => ?_)
      · refine z_bipush (z := (-9)) hx hb dX4_takes_125 (by decide +kernel) ?_
        refine z_callv (va_runV (As := [.int (zI (S 0 2)), .int (zI 7), .int (zI (-9))]) (rest := []) ⟨hx, hb, hml, hown, hts⟩ (k_X4_tell l dC dI cI cQ A ad (tellM (tellM (tellM (tellM (tellM (tellM (tellM (up2 (savesM S) 0 2 (S 0 2 + 1)) (S 0 2) 0 kind) (S 0 2) 1 tr) (S 0 2) 2 se) (S 0 2) 3 0) (S 0 2) 4 (S 0 0)) (S 0 2) 5 (-9)) (S 0 2) 6 (-9)) hD (S 0 2) 7 (-9) (by omega)) (cwV 3 hts gX4_takes_X4_tell rfl rfl rfl (by decide +kernel) ⟨Nat.le_of_ble_eq_true rfl, Nat.le_of_ble_eq_true rfl⟩) (z_preV hK hP (ci := 4) (q0 := 0) rfl rfl rfl) rfl rfl hl.1 rfl (lv_room (Nat.le_of_ble_eq_true rfl)) dX4_takes_127 ⟨Nat.zero_le _, Nat.zero_le _⟩) hS (fun _ h => h) (fun H locs hP hS _ _ => ?_)
        refine lv_iload hx hb dX4_takes_130 (lv_at hl 0 rfl) ?_
        exact z_iret hx hb hr hlk hP hS dX4_takes_132 (by unfold takesR; first | rw [if_pos (by omega)] | rw [if_neg (by omega)]) (congrArg (tW_X4 ad cI) (by unfold takesM; first | rw [if_pos (by omega)] | (rw [if_neg (by omega)]; unfold tkAF; (first | rw [if_pos (by omega)] | rw [if_neg (by omega)]); simp only [tellM_eq, up2_def, upR_eq, upR_upR, savesM_0]; simp only [show 8 * S 0 2 + 0 + 485 = (8 * S 0 2 + 485 : Int) from by omega, show 8 * S 0 2 + 1 + 485 = (8 * S 0 2 + 486 : Int) from by omega, show 8 * S 0 2 + 2 + 485 = (8 * S 0 2 + 487 : Int) from by omega, show 8 * S 0 2 + 3 + 485 = (8 * S 0 2 + 488 : Int) from by omega, show 8 * S 0 2 + 4 + 485 = (8 * S 0 2 + 489 : Int) from by omega, show 8 * S 0 2 + 5 + 485 = (8 * S 0 2 + 490 : Int) from by omega, show 8 * S 0 2 + 6 + 485 = (8 * S 0 2 + 491 : Int) from by omega, show 8 * S 0 2 + 7 + 485 = (8 * S 0 2 + 492 : Int) from by omega])))
      · refine lv_iload hx hb dX4_takes_120 (lv_at hl 5 rfl) ?_
        refine lv_goto (tgt := 127) hx hb dX4_takes_122 (by decide) ?_
        refine z_callv (va_runV (As := [.int (zI (S 0 2)), .int (zI 7), .int (zI v)]) (rest := []) ⟨hx, hb, hml, hown, hts⟩ (k_X4_tell l dC dI cI cQ A ad (tellM (tellM (tellM (tellM (tellM (tellM (tellM (up2 (savesM S) 0 2 (S 0 2 + 1)) (S 0 2) 0 kind) (S 0 2) 1 tr) (S 0 2) 2 se) (S 0 2) 3 0) (S 0 2) 4 (S 0 0)) (S 0 2) 5 (-9)) (S 0 2) 6 (-9)) hD (S 0 2) 7 v (by omega)) (cwV 3 hts gX4_takes_X4_tell rfl rfl rfl (by decide +kernel) ⟨Nat.le_of_ble_eq_true rfl, Nat.le_of_ble_eq_true rfl⟩) (z_preV hK hP (ci := 4) (q0 := 0) rfl rfl rfl) rfl rfl hl.1 rfl (lv_room (Nat.le_of_ble_eq_true rfl)) dX4_takes_127 ⟨Nat.zero_le _, Nat.zero_le _⟩) hS (fun _ h => h) (fun H locs hP hS _ _ => ?_)
        refine lv_iload hx hb dX4_takes_130 (lv_at hl 0 rfl) ?_
        exact z_iret hx hb hr hlk hP hS dX4_takes_132 (by unfold takesR; first | rw [if_pos (by omega)] | rw [if_neg (by omega)]) (congrArg (tW_X4 ad cI) (by unfold takesM; first | rw [if_pos (by omega)] | (rw [if_neg (by omega)]; unfold tkAF; (first | rw [if_pos (by omega)] | rw [if_neg (by omega)]); simp only [tellM_eq, up2_def, upR_eq, upR_upR, savesM_0]; simp only [show 8 * S 0 2 + 0 + 485 = (8 * S 0 2 + 485 : Int) from by omega, show 8 * S 0 2 + 1 + 485 = (8 * S 0 2 + 486 : Int) from by omega, show 8 * S 0 2 + 2 + 485 = (8 * S 0 2 + 487 : Int) from by omega, show 8 * S 0 2 + 3 + 485 = (8 * S 0 2 + 488 : Int) from by omega, show 8 * S 0 2 + 4 + 485 = (8 * S 0 2 + 489 : Int) from by omega, show 8 * S 0 2 + 5 + 485 = (8 * S 0 2 + 490 : Int) from by omega, show 8 * S 0 2 + 6 + 485 = (8 * S 0 2 + 491 : Int) from by omega, show 8 * S 0 2 + 7 + 485 = (8 * S 0 2 + 492 : Int) from by omega])))
    · refine z_bipush (z := (-3)) hx hb dX4_takes_21 (by decide +kernel) ?_
      exact z_iret hx hb hr hlk hP hS dX4_takes_23 (by unfold takesR; first | rw [if_pos (by omega)] | rw [if_neg (by omega)]) (congrArg (tW_X4 ad cI) (by unfold takesM; first | rw [if_pos (by omega)] | (rw [if_neg (by omega)]; unfold tkAF; (first | rw [if_pos (by omega)] | rw [if_neg (by omega)]); simp only [tellM_eq, up2_def, upR_eq, upR_upR, savesM_0]; simp only [show 8 * S 0 2 + 0 + 485 = (8 * S 0 2 + 485 : Int) from by omega, show 8 * S 0 2 + 1 + 485 = (8 * S 0 2 + 486 : Int) from by omega, show 8 * S 0 2 + 2 + 485 = (8 * S 0 2 + 487 : Int) from by omega, show 8 * S 0 2 + 3 + 485 = (8 * S 0 2 + 488 : Int) from by omega, show 8 * S 0 2 + 4 + 485 = (8 * S 0 2 + 489 : Int) from by omega, show 8 * S 0 2 + 5 + 485 = (8 * S 0 2 + 490 : Int) from by omega, show 8 * S 0 2 + 6 + 485 = (8 * S 0 2 + 491 : Int) from by omega, show 8 * S 0 2 + 7 + 485 = (8 * S 0 2 + 492 : Int) from by omega])))
theorem in_X4_read : ∀ w ∈ wsX40, w ∈ wsX4_read := fun w h => List.mem_cons_of_mem _ (List.mem_append_right _ h)
set_option maxHeartbeats 4000000 in
set_option maxRecDepth 100000 in
theorem k_X4_read (l : Launch) (dC : Nat → ClassId) (dI : Nat → Nat → Nat) (cI cQ : ClassId) (A : Nat → Prop) (ad : Nat → Nat) (S : Nat → Int → Int) (hD : ∀ S, va_D A (tW_X4 ad cI S)) (tr se : Int) (hA : WFA (S 0)) (h : 0 ≤ S 2 0 ∧ S 2 0 ≤ 5) (h7 : S 7 0 = 0 ∨ S 7 0 = 1) (q0 : -2147483648 ≤ tr ∧ tr < 2147483648) (q1 : -2147483648 ≤ se ∧ se < 2147483648) : Met l yX4_read wsX4_read ({ frames := 3, cells := 0, slots := 0, locals := 70 }) (zPc (dC, dI) vwCl (zT cI cQ) (tW_X4 ad cI S) [.ref (ad 0), .int (zI tr), .int (zI se)]) (zQi (dC, dI) vwCl (tW_X4 ad cI (readM S tr se)) (readR (S 0) tr se) A) 0 0 A := by
  refine Met.ofW (cc := cX4_read) (maxL := 3) (ret := (some .int)) (by decide) rfl ?_
  intro p e s m args below meth c s₁ B hml hv
  obtain ⟨rfl, hP, hK⟩ := hv
  have hx := B.exec
  have hb := B.bytes
  have hr := B.returns
  have hts := atoms_spec (ws := wsX4_read) B.pre
  have hown : s.vm.findClass RX4 = some m.cls := findClass_of_methodNamed B.named
  have hlk := B.notSynchronized
  have hS : va_S A s.heap s.heap [] := va_S.rf
  have hl := lv_entry ([.ref (ad 0), .int (zI tr), .int (zI se)]) (n := 3) (Nat.le_of_ble_eq_true rfl)
  rw [lg_entry_eq]
  generalize (lg_sl ([.ref (ad 0), .int (zI tr), .int (zI se)]) ++ List.replicate (3 - (lg_sl ([.ref (ad 0), .int (zI tr), .int (zI se)])).length) Slot.unset).toArray = ls at hl ⊢
  have hl : lv_has ls 3 [(0, .ref (ad 0)), (1, .int (zI tr)), (2, .int (zI se))] := hl
  have hin : ∀ w ∈ wsX40, w ∈ wsX4_read := in_X4_read
  refine lv_iload_n hx hb dX4_read_0 rfl (lv_at hl 1 rfl) ?_
  refine lv_iload_n hx hb dX4_read_1 rfl (lv_at hl 2 rfl) ?_
  refine z_calli (va_runS (As := [.int (zI tr), .int (zI se)]) (rest := []) ⟨hx, hb, hml, hown, hts⟩ (k_X4_isBlock l dC dI cI cQ A (tW_X4 ad cI S) tr se (by omega) (by omega)) (va_cwS 2 hts gX4_read_X4_isBlock rfl rfl rfl (by decide +kernel) ⟨Nat.le_of_ble_eq_true rfl, Nat.le_of_ble_eq_true rfl⟩) (z_preS hK hP) rfl rfl hl.1 rfl (lv_room (Nat.le_of_ble_eq_true rfl)) dX4_read_2 ⟨Nat.zero_le _, Nat.zero_le _⟩) hS (fun _ h => h) (fun H locs hP hS _ _ => ?_)
  refine z_ifb_eq (tgt := 19) hx hb dX4_read_5 (by decide) (fun c1 => ?_) (fun c1 => ?_)
  · refine z_iconst hx hb dX4_read_19 ?_
    exact z_iret hx hb hr hlk hP hS dX4_read_20 (by unfold readR; first | rw [if_pos (by omega)] | rw [if_neg (by omega)]) (congrArg (tW_X4 ad cI) (by unfold readM; first | rw [if_pos (by omega)] | rw [if_neg (by omega)]))
  · refine lv_aload_n hx hb dX4_read_8 rfl (lv_at hl 0 rfl) ?_
    refine z_iconst hx hb dX4_read_9 ?_
    refine lv_iload_n hx hb dX4_read_10 rfl (lv_at hl 1 rfl) ?_
    refine lv_iload_n hx hb dX4_read_11 rfl (lv_at hl 2 rfl) ?_
    refine z_iconst hx hb dX4_read_12 ?_
    refine z_calli (va_runV (As := [.int (zI 0), .int (zI tr), .int (zI se), .int (zI 0)]) (rest := []) ⟨hx, hb, hml, hown, hts⟩ (k_X4_takes l dC dI cI cQ A ad S hD 0 tr se 0 (by exact hA) (by exact h) (by exact h7) (by omega)) (cwV 4 hts gX4_read_X4_takes rfl rfl rfl (by decide +kernel) ⟨Nat.le_of_ble_eq_true rfl, Nat.le_of_ble_eq_true rfl⟩) (z_preV hK hP (ci := 4) (q0 := 0) rfl rfl rfl) rfl rfl hl.1 rfl (lv_room (Nat.le_of_ble_eq_true rfl)) dX4_read_13 ⟨Nat.zero_le _, Nat.zero_le _⟩) hS (fun _ h => h) (fun H locs hP hS _ _ => ?_)
    refine lv_goto (tgt := 20) hx hb dX4_read_16 (by decide) ?_
    exact z_iret hx hb hr hlk hP hS dX4_read_20 (by unfold readR; first | rw [if_pos (by omega)] | rw [if_neg (by omega)]) (congrArg (tW_X4 ad cI) (by unfold readM; first | rw [if_pos (by omega)] | rw [if_neg (by omega)]))
theorem in_X4_write : ∀ w ∈ wsX40, w ∈ wsX4_write := fun w h => List.mem_cons_of_mem _ (List.mem_append_right _ h)
set_option maxHeartbeats 4000000 in
set_option maxRecDepth 100000 in
theorem k_X4_write (l : Launch) (dC : Nat → ClassId) (dI : Nat → Nat → Nat) (cI cQ : ClassId) (A : Nat → Prop) (ad : Nat → Nat) (S : Nat → Int → Int) (hD : ∀ S, va_D A (tW_X4 ad cI S)) (tr se v : Int) (hA : WFA (S 0)) (h : 0 ≤ S 2 0 ∧ S 2 0 ≤ 5) (h7 : S 7 0 = 0 ∨ S 7 0 = 1) (q0 : -2147483648 ≤ tr ∧ tr < 2147483648) (q1 : -2147483648 ≤ se ∧ se < 2147483648) (q2 : -2147483648 ≤ v ∧ v < 2147483648) : Met l yX4_write wsX4_write ({ frames := 3, cells := 0, slots := 0, locals := 70 }) (zPc (dC, dI) vwCl (zT cI cQ) (tW_X4 ad cI S) [.ref (ad 0), .int (zI tr), .int (zI se), .int (zI v)]) (zQi (dC, dI) vwCl (tW_X4 ad cI (writeM S tr se v)) (writeR (S 0) tr se v) A) 0 0 A := by
  refine Met.ofW (cc := cX4_write) (maxL := 4) (ret := (some .int)) (by decide) rfl ?_
  intro p e s m args below meth c s₁ B hml hv
  obtain ⟨rfl, hP, hK⟩ := hv
  have hx := B.exec
  have hb := B.bytes
  have hr := B.returns
  have hts := atoms_spec (ws := wsX4_write) B.pre
  have hown : s.vm.findClass RX4 = some m.cls := findClass_of_methodNamed B.named
  have hlk := B.notSynchronized
  have hS : va_S A s.heap s.heap [] := va_S.rf
  have hl := lv_entry ([.ref (ad 0), .int (zI tr), .int (zI se), .int (zI v)]) (n := 4) (Nat.le_of_ble_eq_true rfl)
  rw [lg_entry_eq]
  generalize (lg_sl ([.ref (ad 0), .int (zI tr), .int (zI se), .int (zI v)]) ++ List.replicate (4 - (lg_sl ([.ref (ad 0), .int (zI tr), .int (zI se), .int (zI v)])).length) Slot.unset).toArray = ls at hl ⊢
  have hl : lv_has ls 4 [(0, .ref (ad 0)), (1, .int (zI tr)), (2, .int (zI se)), (3, .int (zI v))] := hl
  have hin : ∀ w ∈ wsX40, w ∈ wsX4_write := in_X4_write
  refine lv_iload_n hx hb dX4_write_0 rfl (lv_at hl 1 rfl) ?_
  refine lv_iload_n hx hb dX4_write_1 rfl (lv_at hl 2 rfl) ?_
  refine z_calli (va_runS (As := [.int (zI tr), .int (zI se)]) (rest := []) ⟨hx, hb, hml, hown, hts⟩ (k_X4_isBlock l dC dI cI cQ A (tW_X4 ad cI S) tr se (by omega) (by omega)) (va_cwS 2 hts gX4_write_X4_isBlock rfl rfl rfl (by decide +kernel) ⟨Nat.le_of_ble_eq_true rfl, Nat.le_of_ble_eq_true rfl⟩) (z_preS hK hP) rfl rfl hl.1 rfl (lv_room (Nat.le_of_ble_eq_true rfl)) dX4_write_2 ⟨Nat.zero_le _, Nat.zero_le _⟩) hS (fun _ h => h) (fun H locs hP hS _ _ => ?_)
  refine z_ifb_eq (tgt := 30) hx hb dX4_write_5 (by decide) (fun c1 => ?_) (fun c1 => ?_)
  · refine z_iconst hx hb dX4_write_30 ?_
    exact z_iret hx hb hr hlk hP hS dX4_write_31 (by unfold writeR; first | rw [if_pos (by omega)] | rw [if_neg (by omega)]) (congrArg (tW_X4 ad cI) (by unfold writeM; first | rw [if_pos (by omega)] | rw [if_neg (by omega)]))
  · refine lv_iload_n hx hb dX4_write_8 rfl (lv_at hl 3 rfl) ?_
    refine z_iconst hx hb dX4_write_9 ?_
    refine z_sipush (z := 999) hx hb dX4_write_10 (by decide +kernel) ?_
    refine z_calli (va_runS (As := [.int (zI v), .int (zI 0), .int (zI 999)]) (rest := []) ⟨hx, hb, hml, hown, hts⟩ (k_X4_within l dC dI cI cQ A (tW_X4 ad cI S) v 0 999 (by omega) (by omega) (by omega)) (va_cwS 3 hts gX4_write_X4_within rfl rfl rfl (by decide +kernel) ⟨Nat.le_of_ble_eq_true rfl, Nat.le_of_ble_eq_true rfl⟩) (z_preS hK hP) rfl rfl hl.1 rfl (lv_room (Nat.le_of_ble_eq_true rfl)) dX4_write_13 ⟨Nat.zero_le _, Nat.zero_le _⟩) hS (fun _ h => h) (fun H locs hP hS _ _ => ?_)
    refine z_ifb_eq (tgt := 30) hx hb dX4_write_16 (by decide) (fun c2 => ?_) (fun c2 => ?_)
    · refine z_iconst hx hb dX4_write_30 ?_
      exact z_iret hx hb hr hlk hP hS dX4_write_31 (by unfold writeR; first | rw [if_pos (by omega)] | rw [if_neg (by omega)]) (congrArg (tW_X4 ad cI) (by unfold writeM; first | rw [if_pos (by omega)] | rw [if_neg (by omega)]))
    · refine lv_aload_n hx hb dX4_write_19 rfl (lv_at hl 0 rfl) ?_
      refine z_iconst hx hb dX4_write_20 ?_
      refine lv_iload_n hx hb dX4_write_21 rfl (lv_at hl 1 rfl) ?_
      refine lv_iload_n hx hb dX4_write_22 rfl (lv_at hl 2 rfl) ?_
      refine lv_iload_n hx hb dX4_write_23 rfl (lv_at hl 3 rfl) ?_
      refine z_calli (va_runV (As := [.int (zI 1), .int (zI tr), .int (zI se), .int (zI v)]) (rest := []) ⟨hx, hb, hml, hown, hts⟩ (k_X4_takes l dC dI cI cQ A ad S hD 1 tr se v (by exact hA) (by exact h) (by exact h7) (by omega)) (cwV 4 hts gX4_write_X4_takes rfl rfl rfl (by decide +kernel) ⟨Nat.le_of_ble_eq_true rfl, Nat.le_of_ble_eq_true rfl⟩) (z_preV hK hP (ci := 4) (q0 := 0) rfl rfl rfl) rfl rfl hl.1 rfl (lv_room (Nat.le_of_ble_eq_true rfl)) dX4_write_24 ⟨Nat.zero_le _, Nat.zero_le _⟩) hS (fun _ h => h) (fun H locs hP hS _ _ => ?_)
      refine lv_goto (tgt := 31) hx hb dX4_write_27 (by decide) ?_
      exact z_iret hx hb hr hlk hP hS dX4_write_31 (by unfold writeR; first | rw [if_pos (by omega)] | rw [if_neg (by omega)]) (congrArg (tW_X4 ad cI) (by unfold writeM; first | rw [if_pos (by omega)] | rw [if_neg (by omega)]))
theorem in_X4_hasWork : ∀ w ∈ wsX40, w ∈ wsX4_hasWork := fun w h => List.mem_cons_of_mem _ (List.mem_append_right _ h)
set_option maxHeartbeats 4000000 in
set_option maxRecDepth 100000 in
theorem k_X4_hasWork (l : Launch) (dC : Nat → ClassId) (dI : Nat → Nat → Nat) (cI cQ : ClassId) (A : Nat → Prop) (ad : Nat → Nat) (S : Nat → Int → Int) (hD : ∀ S, va_D A (tW_X4 ad cI S)) (tr : Int) (hA : WFA (S 0)) (ht : 0 ≤ tr ∧ tr < 4) : Met l yX4_hasWork wsX4_hasWork ({ frames := 1, cells := 0, slots := 0, locals := 23 }) (zPc (dC, dI) vwCl (zT cI cQ) (tW_X4 ad cI S) [.ref (ad 0), .int (zI tr)]) (zQi (dC, dI) vwCl (tW_X4 ad cI S) (if 0 < wkF (S 0) tr then 1 else 0) A) 0 0 A := by
  refine Met.ofW (cc := cX4_hasWork) (maxL := 4) (ret := (some .boolean)) (by decide) rfl ?_
  intro p e s m args below meth c s₁ B hml hv
  obtain ⟨rfl, hP, hK⟩ := hv
  have hx := B.exec
  have hb := B.bytes
  have hr := B.returns
  have hts := atoms_spec (ws := wsX4_hasWork) B.pre
  have hown : s.vm.findClass RX4 = some m.cls := findClass_of_methodNamed B.named
  have hlk := B.notSynchronized
  have hS : va_S A s.heap s.heap [] := va_S.rf
  have hl := lv_entry ([.ref (ad 0), .int (zI tr)]) (n := 4) (Nat.le_of_ble_eq_true rfl)
  rw [lg_entry_eq]
  generalize (lg_sl ([.ref (ad 0), .int (zI tr)]) ++ List.replicate (4 - (lg_sl ([.ref (ad 0), .int (zI tr)])).length) Slot.unset).toArray = ls at hl ⊢
  have hl : lv_has ls 4 [(0, .ref (ad 0)), (1, .int (zI tr))] := hl
  have hin : ∀ w ∈ wsX40, w ∈ wsX4_hasWork := in_X4_hasWork
  obtain ⟨hB0, hA0, hA1, hA2⟩ := id hA
  have hB : ∀ (k : Nat) (j : Int), 0 ≤ j → j < 965 → j ≠ 3 → j ≠ 4 → -1000000 ≤ S 0 j ∧ S 0 j ≤ 1000000 := fun _ j => hB0 j
  refine z_iconst hx hb dX4_hasWork_0 ?_
  refine lv_istore_n (lv' := [(2, .int (zI 0)), (0, .ref (ad 0)), (1, .int (zI tr))]) hx hb dX4_hasWork_1 rfl hl (by decide) rfl (fun ls hl => ?_)
  refine z_iconst hx hb dX4_hasWork_2 ?_
  refine lv_istore_n (lv' := [(3, .int (zI 0)), (2, .int (zI 0)), (0, .ref (ad 0)), (1, .int (zI tr))]) hx hb dX4_hasWork_3 rfl hl (by decide) rfl (fun ls hl => ?_)
  have hloop4 : ∀ (n : Nat) (is o : Int), (0 ≤ o ∧ o ≤ S 0 2) → (0 ≤ is ∧ is ≤ 1) → (is = 1 ↔ 0 < wkO (S 0) tr o) → (S 0 2 - o < (n : Int)) → ∀ (H : Heap) (locs : List Loc), va_P (dC, dI) vwCl (tW_X4 ad cI S) H → va_S A s.heap H locs → ∀ ls : Array Slot, lv_has ls 4 [(3, .int (zI o)), (2, .int (zI is)), (0, .ref (ad 0)), (1, .int (zI tr))] → W p l e (headSpec wsX4_hasWork ({ frames := 1, cells := 0, slots := 0, locals := 23 })).room s m ([.ref (ad 0), .int (zI tr)] : List Value).toArray below meth c H locs 0 0 (MQ below (zQi (dC, dI) vwCl (tW_X4 ad cI S) (if 0 < wkF (S 0) tr then 1 else 0) A) ([.ref (ad 0), .int (zI tr)] : List Value).toArray s 0 0 A) (F0 m 4 ls []) := by
    intro n
    induction n with
    | zero =>
      intro is o i0 i1 i2 hm
      exfalso
      omega
    | succ n ih =>
      intro is o i0 i1 i2 hm H locs hP hS ls hl
      have ih4 := ih
      clear ih
      refine lv_iload_n hx hb dX4_hasWork_4 rfl (lv_at hl 0 rfl) ?_
      refine lv_aload_n hx hb dX4_hasWork_5 rfl (lv_at hl 2 rfl) ?_
      refine gx_X4_0 hx hb hts hin hown hK hP (hts _ (List.mem_of_getElem? (i := 1) rfl)) dX4_hasWork_6 ?_
      refine z_iconst hx hb dX4_hasWork_9 ?_
      refine ld_X4_0 (v := S 0 2) hx hb hK hP (by omega) rfl dX4_hasWork_10 ?_
      have b1 := hB 0 2 (by omega) (by omega) (by omega) (by omega)
      refine z_icmp_ge (tgt := 49) hx hb dX4_hasWork_11 (by decide) (by omega) (by omega) (fun c1 => ?_) (fun c1 => ?_)
      · refine z_iconst hx hb dX4_hasWork_49 ?_
        refine lv_istore_n (lv' := [(3, .int (zI 0)), (2, .int (zI is)), (0, .ref (ad 0)), (1, .int (zI tr))]) hx hb dX4_hasWork_50 rfl hl (by decide) rfl (fun ls hl => ?_)
        have hloop51 : ∀ (n : Nat) (is k : Int), (0 ≤ k ∧ k ≤ 12) → (0 ≤ is ∧ is ≤ 1) → (is = 1 ↔ 0 < wkO (S 0) tr (S 0 2) + wkL (S 0) tr k) → (12 - k < (n : Int)) → ∀ (H : Heap) (locs : List Loc), va_P (dC, dI) vwCl (tW_X4 ad cI S) H → va_S A s.heap H locs → ∀ ls : Array Slot, lv_has ls 4 [(3, .int (zI k)), (2, .int (zI is)), (0, .ref (ad 0)), (1, .int (zI tr))] → W p l e (headSpec wsX4_hasWork ({ frames := 1, cells := 0, slots := 0, locals := 23 })).room s m ([.ref (ad 0), .int (zI tr)] : List Value).toArray below meth c H locs 0 0 (MQ below (zQi (dC, dI) vwCl (tW_X4 ad cI S) (if 0 < wkF (S 0) tr then 1 else 0) A) ([.ref (ad 0), .int (zI tr)] : List Value).toArray s 0 0 A) (F0 m 51 ls []) := by
          intro n
          induction n with
          | zero =>
            intro is k k0 k1 k2 hm
            exfalso
            omega
          | succ n ih =>
            intro is k k0 k1 k2 hm H locs hP hS ls hl
            have ih51 := ih
            clear ih
            refine lv_iload_n hx hb dX4_hasWork_51 rfl (lv_at hl 0 rfl) ?_
            refine z_bipush (z := 12) hx hb dX4_hasWork_52 (by decide +kernel) ?_
            refine z_icmp_ge (tgt := 105) hx hb dX4_hasWork_54 (by decide) (by omega) (by omega) (fun c2 => ?_) (fun c2 => ?_)
            · refine lv_iload_n hx hb dX4_hasWork_105 rfl (lv_at hl 1 rfl) ?_
              obtain rfl : k = 12 := by omega
              have j2 := wk_rng1 (S 0) tr (S 0 2)
              have j3 := wk_rng2 (S 0) tr 12
              exact z_zret hx hb hr hlk hP hS dX4_hasWork_106 (by omega) (by unfold wkF; split <;> omega) rfl
            · refine lv_iload_n hx hb dX4_hasWork_57 rfl (lv_at hl 1 rfl) ?_
              refine z_if_ne (tgt := 93) hx hb dX4_hasWork_58 (by decide) (by omega) (fun c3 => ?_) (fun c3 => ?_)
              · refine z_iconst hx hb dX4_hasWork_93 ?_
                refine lv_goto (tgt := 98) hx hb dX4_hasWork_94 (by decide) ?_
                refine lv_istore_n (lv' := [(2, .int (zI 1)), (3, .int (zI k)), (0, .ref (ad 0)), (1, .int (zI tr))]) hx hb dX4_hasWork_98 rfl hl (by decide) rfl (fun ls hl => ?_)
                refine z_iinc (lv' := [(3, .int (zI (k + 1))), (2, .int (zI 1)), (0, .ref (ad 0)), (1, .int (zI tr))]) hx hb dX4_hasWork_99 hl (k := 1) rfl (by decide) (by rw [show (k : Int) + (1) = (k + 1) from by omega]; rfl) (fun ls hl => ?_)
                refine lv_goto (tgt := 51) hx hb dX4_hasWork_102 (by decide) ?_
                exact ih51 1 (k + 1) (by omega) (by omega) (by have j := wkL_succ (S 0) tr k0.1; have j2 := wk_rng1 (S 0) tr (S 0 2); have j3 := wk_rng2 (S 0) tr k; split at j <;> omega) (by omega) _ _ hP hS ls (lv_sub hl [0, 1, 2, 3] rfl)
              · refine lv_aload_n hx hb dX4_hasWork_61 rfl (lv_at hl 2 rfl) ?_
                refine z_iconst hx hb dX4_hasWork_62 ?_
                refine z_bipush (z := 12) hx hb dX4_hasWork_63 (by decide +kernel) ?_
                refine lv_iload_n hx hb dX4_hasWork_65 rfl (lv_at hl 3 rfl) ?_
                refine z_imul hx hb dX4_hasWork_66 ?_
                refine lv_iload_n hx hb dX4_hasWork_67 rfl (lv_at hl 0 rfl) ?_
                refine z_iadd hx hb dX4_hasWork_68 ?_
                refine z_top (y := 12 * tr + k) (by omega) ?_
                refine z_iconst hx hb dX4_hasWork_69 ?_
                refine z_calli (va_runV (As := [.int (zI 0), .int (zI (12 * tr + k)), .int (zI 3)]) (rest := []) ⟨hx, hb, hml, hown, hts⟩ (k_X4_of l dC dI cI cQ A ad S hD 0 (12 * tr + k) 3 (by omega)) (cwV 3 hts gX4_hasWork_X4_of rfl rfl rfl (by decide +kernel) ⟨Nat.le_of_ble_eq_true rfl, Nat.le_of_ble_eq_true rfl⟩) (z_preV hK hP (ci := 4) (q0 := 0) rfl rfl rfl) rfl rfl hl.1 rfl (lv_room (Nat.le_of_ble_eq_true rfl)) dX4_hasWork_70 ⟨Nat.zero_le _, Nat.zero_le _⟩) hS (fun _ h => h) (fun H locs hP hS _ _ => ?_)
                refine z_top (y := S 0 (60 * tr + 5 * k + 8)) (by rw [show (240 * 0 + 5 * (12 * tr + k) + 3 + 5) = (60 * tr + 5 * k + 8 : Int) from by omega]; first | done | exact rfl) ?_
                have b2 := hB 0 (60 * tr + 5 * k + 8) (by omega) (by omega) (by omega) (by omega)
                refine z_iconst hx hb dX4_hasWork_73 ?_
                refine z_icmp_eq (tgt := 93) hx hb dX4_hasWork_74 (by decide) (by omega) (by omega) (fun c4 => ?_) (fun c4 => ?_)
                · refine z_iconst hx hb dX4_hasWork_93 ?_
                  refine lv_goto (tgt := 98) hx hb dX4_hasWork_94 (by decide) ?_
                  refine lv_istore_n (lv' := [(2, .int (zI 1)), (3, .int (zI k)), (0, .ref (ad 0)), (1, .int (zI tr))]) hx hb dX4_hasWork_98 rfl hl (by decide) rfl (fun ls hl => ?_)
                  refine z_iinc (lv' := [(3, .int (zI (k + 1))), (2, .int (zI 1)), (0, .ref (ad 0)), (1, .int (zI tr))]) hx hb dX4_hasWork_99 hl (k := 1) rfl (by decide) (by rw [show (k : Int) + (1) = (k + 1) from by omega]; rfl) (fun ls hl => ?_)
                  refine lv_goto (tgt := 51) hx hb dX4_hasWork_102 (by decide) ?_
                  exact ih51 1 (k + 1) (by omega) (by omega) (by have j := wkL_succ (S 0) tr k0.1; have j2 := wk_rng1 (S 0) tr (S 0 2); have j3 := wk_rng2 (S 0) tr k; split at j <;> omega) (by omega) _ _ hP hS ls (lv_sub hl [0, 1, 2, 3] rfl)
                · refine lv_aload_n hx hb dX4_hasWork_77 rfl (lv_at hl 2 rfl) ?_
                  refine z_iconst hx hb dX4_hasWork_78 ?_
                  refine z_bipush (z := 12) hx hb dX4_hasWork_79 (by decide +kernel) ?_
                  refine lv_iload_n hx hb dX4_hasWork_81 rfl (lv_at hl 3 rfl) ?_
                  refine z_imul hx hb dX4_hasWork_82 ?_
                  refine lv_iload_n hx hb dX4_hasWork_83 rfl (lv_at hl 0 rfl) ?_
                  refine z_iadd hx hb dX4_hasWork_84 ?_
                  refine z_top (y := 12 * tr + k) (by omega) ?_
                  refine z_iconst hx hb dX4_hasWork_85 ?_
                  refine z_calli (va_runV (As := [.int (zI 1), .int (zI (12 * tr + k)), .int (zI 3)]) (rest := []) ⟨hx, hb, hml, hown, hts⟩ (k_X4_of l dC dI cI cQ A ad S hD 1 (12 * tr + k) 3 (by omega)) (cwV 3 hts gX4_hasWork_X4_of rfl rfl rfl (by decide +kernel) ⟨Nat.le_of_ble_eq_true rfl, Nat.le_of_ble_eq_true rfl⟩) (z_preV hK hP (ci := 4) (q0 := 0) rfl rfl rfl) rfl rfl hl.1 rfl (lv_room (Nat.le_of_ble_eq_true rfl)) dX4_hasWork_86 ⟨Nat.zero_le _, Nat.zero_le _⟩) hS (fun _ h => h) (fun H locs hP hS _ _ => ?_)
                  refine z_top (y := S 0 (60 * tr + 5 * k + 248)) (by rw [show (240 * 1 + 5 * (12 * tr + k) + 3 + 5) = (60 * tr + 5 * k + 248 : Int) from by omega]; first | done | exact rfl) ?_
                  have b3 := hB 0 (60 * tr + 5 * k + 248) (by omega) (by omega) (by omega) (by omega)
                  refine z_iconst hx hb dX4_hasWork_89 ?_
                  refine z_icmp_ne (tgt := 97) hx hb dX4_hasWork_90 (by decide) (by omega) (by omega) (fun c5 => ?_) (fun c5 => ?_)
                  · refine z_iconst hx hb dX4_hasWork_97 ?_
                    refine lv_istore_n (lv' := [(2, .int (zI 0)), (3, .int (zI k)), (0, .ref (ad 0)), (1, .int (zI tr))]) hx hb dX4_hasWork_98 rfl hl (by decide) rfl (fun ls hl => ?_)
                    refine z_iinc (lv' := [(3, .int (zI (k + 1))), (2, .int (zI 0)), (0, .ref (ad 0)), (1, .int (zI tr))]) hx hb dX4_hasWork_99 hl (k := 1) rfl (by decide) (by rw [show (k : Int) + (1) = (k + 1) from by omega]; rfl) (fun ls hl => ?_)
                    refine lv_goto (tgt := 51) hx hb dX4_hasWork_102 (by decide) ?_
                    exact ih51 0 (k + 1) (by omega) (by omega) (by have j := wkL_succ (S 0) tr k0.1; have j2 := wk_rng1 (S 0) tr (S 0 2); have j3 := wk_rng2 (S 0) tr k; split at j <;> omega) (by omega) _ _ hP hS ls (lv_sub hl [0, 1, 2, 3] rfl)
                  · refine z_iconst hx hb dX4_hasWork_93 ?_
                    refine lv_goto (tgt := 98) hx hb dX4_hasWork_94 (by decide) ?_
                    refine lv_istore_n (lv' := [(2, .int (zI 1)), (3, .int (zI k)), (0, .ref (ad 0)), (1, .int (zI tr))]) hx hb dX4_hasWork_98 rfl hl (by decide) rfl (fun ls hl => ?_)
                    refine z_iinc (lv' := [(3, .int (zI (k + 1))), (2, .int (zI 1)), (0, .ref (ad 0)), (1, .int (zI tr))]) hx hb dX4_hasWork_99 hl (k := 1) rfl (by decide) (by rw [show (k : Int) + (1) = (k + 1) from by omega]; rfl) (fun ls hl => ?_)
                    refine lv_goto (tgt := 51) hx hb dX4_hasWork_102 (by decide) ?_
                    exact ih51 1 (k + 1) (by omega) (by omega) (by have j := wkL_succ (S 0) tr k0.1; have j2 := wk_rng1 (S 0) tr (S 0 2); have j3 := wk_rng2 (S 0) tr k; split at j <;> omega) (by omega) _ _ hP hS ls (lv_sub hl [0, 1, 2, 3] rfl)
        exact hloop51 ((12 - 0 : Int) + 1).toNat is 0 (by omega) (by omega) (by rw [wkL_0, show S 0 2 = o from by omega]; omega) (by omega) _ _ hP hS ls (lv_sub hl [0, 1, 2, 3] rfl)
      · refine lv_iload_n hx hb dX4_hasWork_14 rfl (lv_at hl 1 rfl) ?_
        refine z_if_ne (tgt := 37) hx hb dX4_hasWork_15 (by decide) (by omega) (fun c6 => ?_) (fun c6 => ?_)
        · refine z_iconst hx hb dX4_hasWork_37 ?_
          refine lv_goto (tgt := 42) hx hb dX4_hasWork_38 (by decide) ?_
          refine lv_istore_n (lv' := [(2, .int (zI 1)), (3, .int (zI o)), (0, .ref (ad 0)), (1, .int (zI tr))]) hx hb dX4_hasWork_42 rfl hl (by decide) rfl (fun ls hl => ?_)
          refine z_iinc (lv' := [(3, .int (zI (o + 1))), (2, .int (zI 1)), (0, .ref (ad 0)), (1, .int (zI tr))]) hx hb dX4_hasWork_43 hl (k := 1) rfl (by decide) (by rw [show (o : Int) + (1) = (o + 1) from by omega]; rfl) (fun ls hl => ?_)
          refine lv_goto (tgt := 4) hx hb dX4_hasWork_46 (by decide) ?_
          exact ih4 1 (o + 1) (by omega) (by omega) (by have j := wkO_succ (S 0) tr i0.1; have j2 := wk_rng1 (S 0) tr o; split at j <;> omega) (by omega) _ _ hP hS ls (lv_sub hl [0, 1, 2, 3] rfl)
        · refine lv_aload_n hx hb dX4_hasWork_18 rfl (lv_at hl 2 rfl) ?_
          refine lv_iload_n hx hb dX4_hasWork_19 rfl (lv_at hl 0 rfl) ?_
          refine z_iconst hx hb dX4_hasWork_20 ?_
          refine z_calli (va_runV (As := [.int (zI o), .int (zI 3)]) (rest := []) ⟨hx, hb, hml, hown, hts⟩ (k_X4_told l dC dI cI cQ A ad S hD o 3 (by omega)) (cwV 2 hts gX4_hasWork_X4_told rfl rfl rfl (by decide +kernel) ⟨Nat.le_of_ble_eq_true rfl, Nat.le_of_ble_eq_true rfl⟩) (z_preV hK hP (ci := 4) (q0 := 0) rfl rfl rfl) rfl rfl hl.1 rfl (lv_room (Nat.le_of_ble_eq_true rfl)) dX4_hasWork_21 ⟨Nat.zero_le _, Nat.zero_le _⟩) hS (fun _ h => h) (fun H locs hP hS _ _ => ?_)
          refine z_top (y := S 0 (8 * o + 488)) (by rw [show (8 * o + 3 + 485) = (8 * o + 488 : Int) from by omega]; first | done | exact rfl) ?_
          have b4 := hB 0 (8 * o + 488) (by omega) (by omega) (by omega) (by omega)
          refine z_if_ne (tgt := 41) hx hb dX4_hasWork_24 (by decide) (by omega) (fun c7 => ?_) (fun c7 => ?_)
          · refine z_iconst hx hb dX4_hasWork_41 ?_
            refine lv_istore_n (lv' := [(2, .int (zI 0)), (3, .int (zI o)), (0, .ref (ad 0)), (1, .int (zI tr))]) hx hb dX4_hasWork_42 rfl hl (by decide) rfl (fun ls hl => ?_)
            refine z_iinc (lv' := [(3, .int (zI (o + 1))), (2, .int (zI 0)), (0, .ref (ad 0)), (1, .int (zI tr))]) hx hb dX4_hasWork_43 hl (k := 1) rfl (by decide) (by rw [show (o : Int) + (1) = (o + 1) from by omega]; rfl) (fun ls hl => ?_)
            refine lv_goto (tgt := 4) hx hb dX4_hasWork_46 (by decide) ?_
            exact ih4 0 (o + 1) (by omega) (by omega) (by have j := wkO_succ (S 0) tr i0.1; have j2 := wk_rng1 (S 0) tr o; split at j <;> omega) (by omega) _ _ hP hS ls (lv_sub hl [0, 1, 2, 3] rfl)
          · refine lv_aload_n hx hb dX4_hasWork_27 rfl (lv_at hl 2 rfl) ?_
            refine lv_iload_n hx hb dX4_hasWork_28 rfl (lv_at hl 0 rfl) ?_
            refine z_iconst hx hb dX4_hasWork_29 ?_
            refine z_calli (va_runV (As := [.int (zI o), .int (zI 1)]) (rest := []) ⟨hx, hb, hml, hown, hts⟩ (k_X4_told l dC dI cI cQ A ad S hD o 1 (by omega)) (cwV 2 hts gX4_hasWork_X4_told rfl rfl rfl (by decide +kernel) ⟨Nat.le_of_ble_eq_true rfl, Nat.le_of_ble_eq_true rfl⟩) (z_preV hK hP (ci := 4) (q0 := 0) rfl rfl rfl) rfl rfl hl.1 rfl (lv_room (Nat.le_of_ble_eq_true rfl)) dX4_hasWork_30 ⟨Nat.zero_le _, Nat.zero_le _⟩) hS (fun _ h => h) (fun H locs hP hS _ _ => ?_)
            refine z_top (y := S 0 (8 * o + 486)) (by rw [show (8 * o + 1 + 485) = (8 * o + 486 : Int) from by omega]; first | done | exact rfl) ?_
            have b5 := hB 0 (8 * o + 486) (by omega) (by omega) (by omega) (by omega)
            refine lv_iload_n hx hb dX4_hasWork_33 rfl (lv_at hl 3 rfl) ?_
            refine z_icmp_ne (tgt := 41) hx hb dX4_hasWork_34 (by decide) (by omega) (by omega) (fun c8 => ?_) (fun c8 => ?_)
            · refine z_iconst hx hb dX4_hasWork_41 ?_
              refine lv_istore_n (lv' := [(2, .int (zI 0)), (3, .int (zI o)), (0, .ref (ad 0)), (1, .int (zI tr))]) hx hb dX4_hasWork_42 rfl hl (by decide) rfl (fun ls hl => ?_)
              refine z_iinc (lv' := [(3, .int (zI (o + 1))), (2, .int (zI 0)), (0, .ref (ad 0)), (1, .int (zI tr))]) hx hb dX4_hasWork_43 hl (k := 1) rfl (by decide) (by rw [show (o : Int) + (1) = (o + 1) from by omega]; rfl) (fun ls hl => ?_)
              refine lv_goto (tgt := 4) hx hb dX4_hasWork_46 (by decide) ?_
              exact ih4 0 (o + 1) (by omega) (by omega) (by have j := wkO_succ (S 0) tr i0.1; have j2 := wk_rng1 (S 0) tr o; split at j <;> omega) (by omega) _ _ hP hS ls (lv_sub hl [0, 1, 2, 3] rfl)
            · refine z_iconst hx hb dX4_hasWork_37 ?_
              refine lv_goto (tgt := 42) hx hb dX4_hasWork_38 (by decide) ?_
              refine lv_istore_n (lv' := [(2, .int (zI 1)), (3, .int (zI o)), (0, .ref (ad 0)), (1, .int (zI tr))]) hx hb dX4_hasWork_42 rfl hl (by decide) rfl (fun ls hl => ?_)
              refine z_iinc (lv' := [(3, .int (zI (o + 1))), (2, .int (zI 1)), (0, .ref (ad 0)), (1, .int (zI tr))]) hx hb dX4_hasWork_43 hl (k := 1) rfl (by decide) (by rw [show (o : Int) + (1) = (o + 1) from by omega]; rfl) (fun ls hl => ?_)
              refine lv_goto (tgt := 4) hx hb dX4_hasWork_46 (by decide) ?_
              exact ih4 1 (o + 1) (by omega) (by omega) (by have j := wkO_succ (S 0) tr i0.1; have j2 := wk_rng1 (S 0) tr o; split at j <;> omega) (by omega) _ _ hP hS ls (lv_sub hl [0, 1, 2, 3] rfl)
  exact hloop4 ((S 0 2 - 0 : Int) + 1).toNat 0 0 (by omega) (by omega) (by rw [wkO_0]; omega) (by omega) _ _ hP hS ls (lv_sub hl [0, 1, 2, 3] rfl)
set_option maxHeartbeats 4000000 in
set_option maxRecDepth 100000 in
theorem k_X4_size (l : Launch) (dC : Nat → ClassId) (dI : Nat → Nat → Nat) (cI cQ : ClassId) (A : Nat → Prop) (ws : va_W) (v : Int) (h : -1000000 ≤ v ∧ v ≤ 1000000) : Met l yX4_size wsX4_size ({ frames := 0, cells := 0, slots := 0, locals := 0 }) (zPc (dC, dI) vwCl (zT cI cQ) ws [.int (zI v)]) (zQi (dC, dI) vwCl ws (szF v) A) 0 0 A := by
  refine Met.ofW (cc := cX4_size) (maxL := 1) (ret := (some .int)) (by decide) rfl ?_
  intro p e s m args below meth c s₁ B hml hv
  obtain ⟨rfl, hP, hK⟩ := hv
  have hx := B.exec
  have hb := B.bytes
  have hr := B.returns
  have hts := atoms_spec (ws := wsX4_size) B.pre
  have hown : s.vm.findClass RX4 = some m.cls := findClass_of_methodNamed B.named
  have hlk := B.notSynchronized
  have hS : va_S A s.heap s.heap [] := va_S.rf
  have hl := lv_entry ([.int (zI v)]) (n := 1) (Nat.le_of_ble_eq_true rfl)
  rw [lg_entry_eq]
  generalize (lg_sl ([.int (zI v)]) ++ List.replicate (1 - (lg_sl ([.int (zI v)])).length) Slot.unset).toArray = ls at hl ⊢
  have hl : lv_has ls 1 [(0, .int (zI v))] := hl
  refine lv_iload_n hx hb dX4_size_0 rfl (lv_at hl 0 rfl) ?_
  refine z_if_ge (tgt := 9) hx hb dX4_size_1 (by decide) (by omega) (fun c1 => ?_) (fun c1 => ?_)
  · refine lv_iload_n hx hb dX4_size_9 rfl (lv_at hl 0 rfl) ?_
    exact z_iret hx hb hr hlk hP hS dX4_size_10 (by unfold szF; first | rw [if_pos (by omega)] | rw [if_neg (by omega)]) rfl
  · refine lv_iload_n hx hb dX4_size_4 rfl (lv_at hl 0 rfl) ?_
    refine z_ineg hx hb dX4_size_5 ?_
    refine z_top (y := -v) (by omega) ?_
    refine lv_goto (tgt := 10) hx hb dX4_size_6 (by decide) ?_
    exact z_iret hx hb hr hlk hP hS dX4_size_10 (by unfold szF; first | rw [if_pos (by omega)] | rw [if_neg (by omega)]) rfl
theorem in_X4_nearest : ∀ w ∈ wsX40, w ∈ wsX4_nearest := fun w h => List.mem_cons_of_mem _ (List.mem_append_right _ h)
set_option maxHeartbeats 4000000 in
set_option maxRecDepth 100000 in
theorem k_X4_nearest (l : Launch) (dC : Nat → ClassId) (dI : Nat → Nat → Nat) (cI cQ : ClassId) (A : Nat → Prop) (ad : Nat → Nat) (S : Nat → Int → Int) (hD : ∀ S, va_D A (tW_X4 ad cI S)) (hA : WFA (S 0)) : Met l yX4_nearest wsX4_nearest ({ frames := 2, cells := 0, slots := 0, locals := 46 }) (zPc (dC, dI) vwCl (zT cI cQ) (tW_X4 ad cI S) [.ref (ad 0)]) (zQi (dC, dI) vwCl (tW_X4 ad cI S) (nearZ (S 0) 4) A) 0 0 A := by
  refine Met.ofW (cc := cX4_nearest) (maxL := 4) (ret := (some .int)) (by decide) rfl ?_
  intro p e s m args below meth c s₁ B hml hv
  obtain ⟨rfl, hP, hK⟩ := hv
  have hx := B.exec
  have hb := B.bytes
  have hr := B.returns
  have hts := atoms_spec (ws := wsX4_nearest) B.pre
  have hown : s.vm.findClass RX4 = some m.cls := findClass_of_methodNamed B.named
  have hlk := B.notSynchronized
  have hS : va_S A s.heap s.heap [] := va_S.rf
  have hl := lv_entry ([.ref (ad 0)]) (n := 4) (Nat.le_of_ble_eq_true rfl)
  rw [lg_entry_eq]
  generalize (lg_sl ([.ref (ad 0)]) ++ List.replicate (4 - (lg_sl ([.ref (ad 0)])).length) Slot.unset).toArray = ls at hl ⊢
  have hl : lv_has ls 4 [(0, .ref (ad 0))] := hl
  have hin : ∀ w ∈ wsX40, w ∈ wsX4_nearest := in_X4_nearest
  obtain ⟨hB0, hA0, hA1, hA2⟩ := id hA
  have hB : ∀ (k : Nat) (j : Int), 0 ≤ j → j < 965 → j ≠ 3 → j ≠ 4 → -1000000 ≤ S 0 j ∧ S 0 j ≤ 1000000 := fun _ j => hB0 j
  refine z_bipush (z := (-9)) hx hb dX4_nearest_0 (by decide +kernel) ?_
  refine lv_istore_n (lv' := [(1, .int (zI (-9))), (0, .ref (ad 0))]) hx hb dX4_nearest_2 rfl hl (by decide) rfl (fun ls hl => ?_)
  refine z_iconst hx hb dX4_nearest_3 ?_
  refine lv_istore_n (lv' := [(2, .int (zI 0)), (1, .int (zI (-9))), (0, .ref (ad 0))]) hx hb dX4_nearest_4 rfl hl (by decide) rfl (fun ls hl => ?_)
  have hloop5 : ∀ (n : Nat) (best tr : Int), (0 ≤ tr ∧ tr ≤ 4) → (best = -9 ∨ (0 ≤ best ∧ best < tr)) → (best = nearZ (S 0) tr) → (4 - tr < (n : Int)) → ∀ (H : Heap) (locs : List Loc), va_P (dC, dI) vwCl (tW_X4 ad cI S) H → va_S A s.heap H locs → ∀ ls : Array Slot, lv_has ls 4 [(2, .int (zI tr)), (1, .int (zI best)), (0, .ref (ad 0))] → W p l e (headSpec wsX4_nearest ({ frames := 2, cells := 0, slots := 0, locals := 46 })).room s m ([.ref (ad 0)] : List Value).toArray below meth c H locs 0 0 (MQ below (zQi (dC, dI) vwCl (tW_X4 ad cI S) (nearZ (S 0) 4) A) ([.ref (ad 0)] : List Value).toArray s 0 0 A) (F0 m 5 ls []) := by
    intro n
    induction n with
    | zero =>
      intro best tr i0 i2 i1 hm
      exfalso
      omega
    | succ n ih =>
      intro best tr i0 i2 i1 hm H locs hP hS ls hl
      have ih5 := ih
      clear ih
      refine lv_iload_n hx hb dX4_nearest_5 rfl (lv_at hl 0 rfl) ?_
      refine z_iconst hx hb dX4_nearest_6 ?_
      refine z_icmp_ge (tgt := 71) hx hb dX4_nearest_7 (by decide) (by omega) (by omega) (fun c1 => ?_) (fun c1 => ?_)
      · refine lv_iload_n hx hb dX4_nearest_71 rfl (lv_at hl 1 rfl) ?_
        obtain rfl : tr = 4 := by omega
        exact z_iret hx hb hr hlk hP hS dX4_nearest_72 (by exact i1) rfl
      · refine lv_iload_n hx hb dX4_nearest_10 rfl (lv_at hl 1 rfl) ?_
        refine z_bipush (z := (-9)) hx hb dX4_nearest_11 (by decide +kernel) ?_
        refine z_icmp_eq (tgt := 41) hx hb dX4_nearest_13 (by decide) (by omega) (by omega) (fun c2 => ?_) (fun c2 => ?_)
        · refine z_iconst hx hb dX4_nearest_41 ?_
          refine lv_goto (tgt := 46) hx hb dX4_nearest_42 (by decide) ?_
          refine lv_istore_n (lv' := [(3, .int (zI 1)), (2, .int (zI tr)), (1, .int (zI best)), (0, .ref (ad 0))]) hx hb dX4_nearest_46 rfl hl (by decide) rfl (fun ls hl => ?_)
          refine lv_aload_n hx hb dX4_nearest_47 rfl (lv_at hl 3 rfl) ?_
          refine lv_iload_n hx hb dX4_nearest_48 rfl (lv_at hl 1 rfl) ?_
          refine z_calli (va_runV (As := [.int (zI tr)]) (rest := []) ⟨hx, hb, hml, hown, hts⟩ (k_X4_hasWork l dC dI cI cQ A ad S hD tr (by exact hA) (by omega)) (cwV 1 hts gX4_nearest_X4_hasWork rfl rfl rfl (by decide +kernel) ⟨Nat.le_of_ble_eq_true rfl, Nat.le_of_ble_eq_true rfl⟩) (z_preV hK hP (ci := 4) (q0 := 0) rfl rfl rfl) rfl rfl hl.1 rfl (lv_room (Nat.le_of_ble_eq_true rfl)) dX4_nearest_49 ⟨Nat.zero_le _, Nat.zero_le _⟩) hS (fun _ h => h) (fun H locs hP hS _ _ => ?_)
          refine z_ifb_eq (tgt := 63) hx hb dX4_nearest_52 (by decide) (fun c3 => ?_) (fun c3 => ?_)
          · refine lv_iload_n hx hb dX4_nearest_63 rfl (lv_at hl 2 rfl) ?_
            refine lv_istore_n (lv' := [(1, .int (zI best)), (3, .int (zI 1)), (2, .int (zI tr)), (0, .ref (ad 0))]) hx hb dX4_nearest_64 rfl hl (by decide) rfl (fun ls hl => ?_)
            refine z_iinc (lv' := [(2, .int (zI (tr + 1))), (1, .int (zI best)), (3, .int (zI 1)), (0, .ref (ad 0))]) hx hb dX4_nearest_65 hl (k := 2) rfl (by decide) (by rw [show (tr : Int) + (1) = (tr + 1) from by omega]; rfl) (fun ls hl => ?_)
            refine lv_goto (tgt := 5) hx hb dX4_nearest_68 (by decide) ?_
            exact ih5 best (tr + 1) (by omega) (by omega) (by rw [nearZ_succ _ i0.1, ← i1]; split <;> omega) (by omega) _ _ hP hS ls (lv_sub hl [0, 1, 3] rfl)
          · refine lv_iload_n hx hb dX4_nearest_55 rfl (lv_at hl 0 rfl) ?_
            refine z_if_eq (tgt := 63) hx hb dX4_nearest_56 (by decide) (by omega) (fun q => absurd q (by omega)) (fun _ => ?_)
            refine lv_iload_n hx hb dX4_nearest_59 rfl (lv_at hl 1 rfl) ?_
            refine lv_goto (tgt := 64) hx hb dX4_nearest_60 (by decide) ?_
            refine lv_istore_n (lv' := [(1, .int (zI tr)), (3, .int (zI 1)), (2, .int (zI tr)), (0, .ref (ad 0))]) hx hb dX4_nearest_64 rfl hl (by decide) rfl (fun ls hl => ?_)
            refine z_iinc (lv' := [(2, .int (zI (tr + 1))), (1, .int (zI tr)), (3, .int (zI 1)), (0, .ref (ad 0))]) hx hb dX4_nearest_65 hl (k := 2) rfl (by decide) (by rw [show (tr : Int) + (1) = (tr + 1) from by omega]; rfl) (fun ls hl => ?_)
            refine lv_goto (tgt := 5) hx hb dX4_nearest_68 (by decide) ?_
            exact ih5 tr (tr + 1) (by omega) (by omega) (by rw [nearZ_succ _ i0.1, ← i1]; split <;> omega) (by omega) _ _ hP hS ls (lv_sub hl [0, 1, 3] rfl)
        · refine lv_iload_n hx hb dX4_nearest_16 rfl (lv_at hl 0 rfl) ?_
          refine lv_aload_n hx hb dX4_nearest_17 rfl (lv_at hl 2 rfl) ?_
          refine gx_X4_0 hx hb hts hin hown hK hP (hts _ (List.mem_of_getElem? (i := 1) rfl)) dX4_nearest_18 ?_
          refine z_iconst hx hb dX4_nearest_21 ?_
          refine ld_X4_0 (v := S 0 1) hx hb hK hP (by omega) rfl dX4_nearest_22 ?_
          have b1 := hB 0 1 (by omega) (by omega) (by omega) (by omega)
          refine z_isub hx hb dX4_nearest_23 ?_
          refine z_top (y := tr - S 0 1) (by omega) ?_
          refine z_calli (va_runS (As := [.int (zI (tr - S 0 1))]) (rest := []) ⟨hx, hb, hml, hown, hts⟩ (k_X4_size l dC dI cI cQ A (tW_X4 ad cI S) (tr - S 0 1) (by omega)) (va_cwS 1 hts gX4_nearest_X4_size rfl rfl rfl (by decide +kernel) ⟨Nat.le_of_ble_eq_true rfl, Nat.le_of_ble_eq_true rfl⟩) (z_preS hK hP) rfl rfl hl.1 rfl (lv_room (Nat.le_of_ble_eq_true rfl)) dX4_nearest_24 ⟨Nat.zero_le _, Nat.zero_le _⟩) hS (fun _ h => h) (fun H locs hP hS _ _ => ?_)
          have sz1 := sz_rng (tr - S 0 1)
          have sz2 := sz_rng (best - S 0 1)
          refine lv_iload_n hx hb dX4_nearest_27 rfl (lv_at hl 1 rfl) ?_
          refine lv_aload_n hx hb dX4_nearest_28 rfl (lv_at hl 2 rfl) ?_
          refine gx_X4_0 hx hb hts hin hown hK hP (hts _ (List.mem_of_getElem? (i := 1) rfl)) dX4_nearest_29 ?_
          refine z_iconst hx hb dX4_nearest_32 ?_
          refine ld_X4_0 (v := S 0 1) hx hb hK hP (by omega) rfl dX4_nearest_33 ?_
          have b2 := hB 0 1 (by omega) (by omega) (by omega) (by omega)
          refine z_isub hx hb dX4_nearest_34 ?_
          refine z_top (y := best - S 0 1) (by omega) ?_
          refine z_calli (va_runS (As := [.int (zI (best - S 0 1))]) (rest := [.int (zI (szF (tr - S 0 1)))]) ⟨hx, hb, hml, hown, hts⟩ (k_X4_size l dC dI cI cQ A (tW_X4 ad cI S) (best - S 0 1) (by omega)) (va_cwS 1 hts gX4_nearest_X4_size rfl rfl rfl (by decide +kernel) ⟨Nat.le_of_ble_eq_true rfl, Nat.le_of_ble_eq_true rfl⟩) (z_preS hK hP) rfl rfl hl.1 rfl (lv_room (Nat.le_of_ble_eq_true rfl)) dX4_nearest_35 ⟨Nat.zero_le _, Nat.zero_le _⟩) hS (fun _ h => h) (fun H locs hP hS _ _ => ?_)
          refine z_icmp_ge (tgt := 45) hx hb dX4_nearest_38 (by decide) (by omega) (by omega) (fun c5 => ?_) (fun c5 => ?_)
          · refine z_iconst hx hb dX4_nearest_45 ?_
            refine lv_istore_n (lv' := [(3, .int (zI 0)), (2, .int (zI tr)), (1, .int (zI best)), (0, .ref (ad 0))]) hx hb dX4_nearest_46 rfl hl (by decide) rfl (fun ls hl => ?_)
            refine lv_aload_n hx hb dX4_nearest_47 rfl (lv_at hl 3 rfl) ?_
            refine lv_iload_n hx hb dX4_nearest_48 rfl (lv_at hl 1 rfl) ?_
            refine z_calli (va_runV (As := [.int (zI tr)]) (rest := []) ⟨hx, hb, hml, hown, hts⟩ (k_X4_hasWork l dC dI cI cQ A ad S hD tr (by exact hA) (by omega)) (cwV 1 hts gX4_nearest_X4_hasWork rfl rfl rfl (by decide +kernel) ⟨Nat.le_of_ble_eq_true rfl, Nat.le_of_ble_eq_true rfl⟩) (z_preV hK hP (ci := 4) (q0 := 0) rfl rfl rfl) rfl rfl hl.1 rfl (lv_room (Nat.le_of_ble_eq_true rfl)) dX4_nearest_49 ⟨Nat.zero_le _, Nat.zero_le _⟩) hS (fun _ h => h) (fun H locs hP hS _ _ => ?_)
            refine z_ifb_eq (tgt := 63) hx hb dX4_nearest_52 (by decide) (fun c6 => ?_) (fun c6 => ?_)
            · refine lv_iload_n hx hb dX4_nearest_63 rfl (lv_at hl 2 rfl) ?_
              refine lv_istore_n (lv' := [(1, .int (zI best)), (3, .int (zI 0)), (2, .int (zI tr)), (0, .ref (ad 0))]) hx hb dX4_nearest_64 rfl hl (by decide) rfl (fun ls hl => ?_)
              refine z_iinc (lv' := [(2, .int (zI (tr + 1))), (1, .int (zI best)), (3, .int (zI 0)), (0, .ref (ad 0))]) hx hb dX4_nearest_65 hl (k := 2) rfl (by decide) (by rw [show (tr : Int) + (1) = (tr + 1) from by omega]; rfl) (fun ls hl => ?_)
              refine lv_goto (tgt := 5) hx hb dX4_nearest_68 (by decide) ?_
              exact ih5 best (tr + 1) (by omega) (by omega) (by rw [nearZ_succ _ i0.1, ← i1]; split <;> omega) (by omega) _ _ hP hS ls (lv_sub hl [0, 1, 3] rfl)
            · refine lv_iload_n hx hb dX4_nearest_55 rfl (lv_at hl 0 rfl) ?_
              refine z_if_eq (tgt := 63) hx hb dX4_nearest_56 (by decide) (by omega) (fun _ => ?_) (fun q => absurd (by omega) q)
              refine lv_iload_n hx hb dX4_nearest_63 rfl (lv_at hl 2 rfl) ?_
              refine lv_istore_n (lv' := [(1, .int (zI best)), (3, .int (zI 0)), (2, .int (zI tr)), (0, .ref (ad 0))]) hx hb dX4_nearest_64 rfl hl (by decide) rfl (fun ls hl => ?_)
              refine z_iinc (lv' := [(2, .int (zI (tr + 1))), (1, .int (zI best)), (3, .int (zI 0)), (0, .ref (ad 0))]) hx hb dX4_nearest_65 hl (k := 2) rfl (by decide) (by rw [show (tr : Int) + (1) = (tr + 1) from by omega]; rfl) (fun ls hl => ?_)
              refine lv_goto (tgt := 5) hx hb dX4_nearest_68 (by decide) ?_
              exact ih5 best (tr + 1) (by omega) (by omega) (by rw [nearZ_succ _ i0.1, ← i1]; split <;> omega) (by omega) _ _ hP hS ls (lv_sub hl [0, 1, 3] rfl)
          · refine z_iconst hx hb dX4_nearest_41 ?_
            refine lv_goto (tgt := 46) hx hb dX4_nearest_42 (by decide) ?_
            refine lv_istore_n (lv' := [(3, .int (zI 1)), (2, .int (zI tr)), (1, .int (zI best)), (0, .ref (ad 0))]) hx hb dX4_nearest_46 rfl hl (by decide) rfl (fun ls hl => ?_)
            refine lv_aload_n hx hb dX4_nearest_47 rfl (lv_at hl 3 rfl) ?_
            refine lv_iload_n hx hb dX4_nearest_48 rfl (lv_at hl 1 rfl) ?_
            refine z_calli (va_runV (As := [.int (zI tr)]) (rest := []) ⟨hx, hb, hml, hown, hts⟩ (k_X4_hasWork l dC dI cI cQ A ad S hD tr (by exact hA) (by omega)) (cwV 1 hts gX4_nearest_X4_hasWork rfl rfl rfl (by decide +kernel) ⟨Nat.le_of_ble_eq_true rfl, Nat.le_of_ble_eq_true rfl⟩) (z_preV hK hP (ci := 4) (q0 := 0) rfl rfl rfl) rfl rfl hl.1 rfl (lv_room (Nat.le_of_ble_eq_true rfl)) dX4_nearest_49 ⟨Nat.zero_le _, Nat.zero_le _⟩) hS (fun _ h => h) (fun H locs hP hS _ _ => ?_)
            refine z_ifb_eq (tgt := 63) hx hb dX4_nearest_52 (by decide) (fun c8 => ?_) (fun c8 => ?_)
            · refine lv_iload_n hx hb dX4_nearest_63 rfl (lv_at hl 2 rfl) ?_
              refine lv_istore_n (lv' := [(1, .int (zI best)), (3, .int (zI 1)), (2, .int (zI tr)), (0, .ref (ad 0))]) hx hb dX4_nearest_64 rfl hl (by decide) rfl (fun ls hl => ?_)
              refine z_iinc (lv' := [(2, .int (zI (tr + 1))), (1, .int (zI best)), (3, .int (zI 1)), (0, .ref (ad 0))]) hx hb dX4_nearest_65 hl (k := 2) rfl (by decide) (by rw [show (tr : Int) + (1) = (tr + 1) from by omega]; rfl) (fun ls hl => ?_)
              refine lv_goto (tgt := 5) hx hb dX4_nearest_68 (by decide) ?_
              exact ih5 best (tr + 1) (by omega) (by omega) (by rw [nearZ_succ _ i0.1, ← i1]; split <;> omega) (by omega) _ _ hP hS ls (lv_sub hl [0, 1, 3] rfl)
            · refine lv_iload_n hx hb dX4_nearest_55 rfl (lv_at hl 0 rfl) ?_
              refine z_if_eq (tgt := 63) hx hb dX4_nearest_56 (by decide) (by omega) (fun q => absurd q (by omega)) (fun _ => ?_)
              refine lv_iload_n hx hb dX4_nearest_59 rfl (lv_at hl 1 rfl) ?_
              refine lv_goto (tgt := 64) hx hb dX4_nearest_60 (by decide) ?_
              refine lv_istore_n (lv' := [(1, .int (zI tr)), (3, .int (zI 1)), (2, .int (zI tr)), (0, .ref (ad 0))]) hx hb dX4_nearest_64 rfl hl (by decide) rfl (fun ls hl => ?_)
              refine z_iinc (lv' := [(2, .int (zI (tr + 1))), (1, .int (zI tr)), (3, .int (zI 1)), (0, .ref (ad 0))]) hx hb dX4_nearest_65 hl (k := 2) rfl (by decide) (by rw [show (tr : Int) + (1) = (tr + 1) from by omega]; rfl) (fun ls hl => ?_)
              refine lv_goto (tgt := 5) hx hb dX4_nearest_68 (by decide) ?_
              exact ih5 tr (tr + 1) (by omega) (by omega) (by rw [nearZ_succ _ i0.1, ← i1]; split <;> omega) (by omega) _ _ hP hS ls (lv_sub hl [0, 1, 3] rfl)
  exact hloop5 ((4 - 0 : Int) + 1).toNat (-9) 0 (by omega) (by omega) (by rfl) (by omega) _ _ hP hS ls (lv_sub hl [0, 1, 2] rfl)
theorem in_X4_firstFor : ∀ w ∈ wsX40, w ∈ wsX4_firstFor := fun w h => List.mem_cons_of_mem _ (List.mem_append_right _ h)
set_option maxHeartbeats 4000000 in
set_option maxRecDepth 100000 in
theorem k_X4_firstFor (l : Launch) (dC : Nat → ClassId) (dI : Nat → Nat → Nat) (cI cQ : ClassId) (A : Nat → Prop) (ad : Nat → Nat) (S : Nat → Int → Int) (hD : ∀ S, va_D A (tW_X4 ad cI S)) (kind blk : Int) (hA : WFA (S 0)) (q0 : -2147483648 ≤ kind ∧ kind < 2147483648) (q1 : -2147483648 ≤ blk ∧ blk < 2147483648) : Met l yX4_firstFor wsX4_firstFor ({ frames := 1, cells := 0, slots := 0, locals := 22 }) (zPc (dC, dI) vwCl (zT cI cQ) (tW_X4 ad cI S) [.ref (ad 0), .int (zI kind), .int (zI blk)]) (zQi (dC, dI) vwCl (tW_X4 ad cI S) (firstFF (S 0) kind blk) A) 0 0 A := by
  refine Met.ofW (cc := cX4_firstFor) (maxL := 4) (ret := (some .int)) (by decide) rfl ?_
  intro p e s m args below meth c s₁ B hml hv
  obtain ⟨rfl, hP, hK⟩ := hv
  have hx := B.exec
  have hb := B.bytes
  have hr := B.returns
  have hts := atoms_spec (ws := wsX4_firstFor) B.pre
  have hown : s.vm.findClass RX4 = some m.cls := findClass_of_methodNamed B.named
  have hlk := B.notSynchronized
  have hS : va_S A s.heap s.heap [] := va_S.rf
  have hl := lv_entry ([.ref (ad 0), .int (zI kind), .int (zI blk)]) (n := 4) (Nat.le_of_ble_eq_true rfl)
  rw [lg_entry_eq]
  generalize (lg_sl ([.ref (ad 0), .int (zI kind), .int (zI blk)]) ++ List.replicate (4 - (lg_sl ([.ref (ad 0), .int (zI kind), .int (zI blk)])).length) Slot.unset).toArray = ls at hl ⊢
  have hl : lv_has ls 4 [(0, .ref (ad 0)), (1, .int (zI kind)), (2, .int (zI blk))] := hl
  have hin : ∀ w ∈ wsX40, w ∈ wsX4_firstFor := in_X4_firstFor
  obtain ⟨hB0, hA0, hA1, hA2⟩ := id hA
  have hB : ∀ (k : Nat) (j : Int), 0 ≤ j → j < 965 → j ≠ 3 → j ≠ 4 → -1000000 ≤ S 0 j ∧ S 0 j ≤ 1000000 := fun _ j => hB0 j
  refine z_iconst hx hb dX4_firstFor_0 ?_
  refine lv_istore_n (lv' := [(3, .int (zI 0)), (0, .ref (ad 0)), (1, .int (zI kind)), (2, .int (zI blk))]) hx hb dX4_firstFor_1 rfl hl (by decide) rfl (fun ls hl => ?_)
  have hloop2 : ∀ (n : Nat) (o : Int), (0 ≤ o ∧ o ≤ S 0 2) → (fstN (fun o => S 0 (8 * o + 488) = 0 ∧ S 0 (8 * o + 485) = kind ∧ 12 * S 0 (8 * o + 486) + S 0 (8 * o + 487) = blk) (S 0 2 - o).toNat o = fstN (fun o => S 0 (8 * o + 488) = 0 ∧ S 0 (8 * o + 485) = kind ∧ 12 * S 0 (8 * o + 486) + S 0 (8 * o + 487) = blk) (S 0 2).toNat 0) → (S 0 2 - o < (n : Int)) → ∀ (H : Heap) (locs : List Loc), va_P (dC, dI) vwCl (tW_X4 ad cI S) H → va_S A s.heap H locs → ∀ ls : Array Slot, lv_has ls 4 [(3, .int (zI o)), (0, .ref (ad 0)), (1, .int (zI kind)), (2, .int (zI blk))] → W p l e (headSpec wsX4_firstFor ({ frames := 1, cells := 0, slots := 0, locals := 22 })).room s m ([.ref (ad 0), .int (zI kind), .int (zI blk)] : List Value).toArray below meth c H locs 0 0 (MQ below (zQi (dC, dI) vwCl (tW_X4 ad cI S) (firstFF (S 0) kind blk) A) ([.ref (ad 0), .int (zI kind), .int (zI blk)] : List Value).toArray s 0 0 A) (F0 m 2 ls []) := by
    intro n
    induction n with
    | zero =>
      intro o i0 i1 hm
      exfalso
      omega
    | succ n ih =>
      intro o i0 i1 hm H locs hP hS ls hl
      have ih2 := ih
      clear ih
      refine lv_iload_n hx hb dX4_firstFor_2 rfl (lv_at hl 0 rfl) ?_
      refine lv_aload_n hx hb dX4_firstFor_3 rfl (lv_at hl 1 rfl) ?_
      refine gx_X4_0 hx hb hts hin hown hK hP (hts _ (List.mem_of_getElem? (i := 1) rfl)) dX4_firstFor_4 ?_
      refine z_iconst hx hb dX4_firstFor_7 ?_
      refine ld_X4_0 (v := S 0 2) hx hb hK hP (by omega) rfl dX4_firstFor_8 ?_
      have b1 := hB 0 2 (by omega) (by omega) (by omega) (by omega)
      refine z_icmp_ge (tgt := 59) hx hb dX4_firstFor_9 (by decide) (by omega) (by omega) (fun c1 => ?_) (fun c1 => ?_)
      · refine z_bipush (z := (-9)) hx hb dX4_firstFor_59 (by decide +kernel) ?_
        exact z_iret hx hb hr hlk hP hS dX4_firstFor_61 (by unfold firstFF fstZ; rw [← i1, fstN_0 _ _ (by omega)]) rfl
      · refine lv_aload_n hx hb dX4_firstFor_12 rfl (lv_at hl 1 rfl) ?_
        refine lv_iload_n hx hb dX4_firstFor_13 rfl (lv_at hl 0 rfl) ?_
        refine z_iconst hx hb dX4_firstFor_14 ?_
        refine z_calli (va_runV (As := [.int (zI o), .int (zI 3)]) (rest := []) ⟨hx, hb, hml, hown, hts⟩ (k_X4_told l dC dI cI cQ A ad S hD o 3 (by omega)) (cwV 2 hts gX4_firstFor_X4_told rfl rfl rfl (by decide +kernel) ⟨Nat.le_of_ble_eq_true rfl, Nat.le_of_ble_eq_true rfl⟩) (z_preV hK hP (ci := 4) (q0 := 0) rfl rfl rfl) rfl rfl hl.1 rfl (lv_room (Nat.le_of_ble_eq_true rfl)) dX4_firstFor_15 ⟨Nat.zero_le _, Nat.zero_le _⟩) hS (fun _ h => h) (fun H locs hP hS _ _ => ?_)
        refine z_top (y := S 0 (8 * o + 488)) (by rw [show (8 * o + 3 + 485) = (8 * o + 488 : Int) from by omega]; first | done | exact rfl) ?_
        have b2 := hB 0 (8 * o + 488) (by omega) (by omega) (by omega) (by omega)
        refine z_if_ne (tgt := 53) hx hb dX4_firstFor_18 (by decide) (by omega) (fun c2 => ?_) (fun c2 => ?_)
        · refine z_iinc (lv' := [(3, .int (zI (o + 1))), (0, .ref (ad 0)), (1, .int (zI kind)), (2, .int (zI blk))]) hx hb dX4_firstFor_53 hl (k := 0) rfl (by decide) (by rw [show (o : Int) + (1) = (o + 1) from by omega]; rfl) (fun ls hl => ?_)
          refine lv_goto (tgt := 2) hx hb dX4_firstFor_56 (by decide) ?_
          exact ih2 (o + 1) (by omega) (by rw [← i1, fstN_pos _ o (by omega), if_neg (by omega), show S 0 2 - (o + 1) = S 0 2 - o - 1 from by omega]) (by omega) _ _ hP hS ls (lv_sub hl [0, 1, 2, 3] rfl)
        · refine lv_aload_n hx hb dX4_firstFor_21 rfl (lv_at hl 1 rfl) ?_
          refine lv_iload_n hx hb dX4_firstFor_22 rfl (lv_at hl 0 rfl) ?_
          refine z_iconst hx hb dX4_firstFor_23 ?_
          refine z_calli (va_runV (As := [.int (zI o), .int (zI 0)]) (rest := []) ⟨hx, hb, hml, hown, hts⟩ (k_X4_told l dC dI cI cQ A ad S hD o 0 (by omega)) (cwV 2 hts gX4_firstFor_X4_told rfl rfl rfl (by decide +kernel) ⟨Nat.le_of_ble_eq_true rfl, Nat.le_of_ble_eq_true rfl⟩) (z_preV hK hP (ci := 4) (q0 := 0) rfl rfl rfl) rfl rfl hl.1 rfl (lv_room (Nat.le_of_ble_eq_true rfl)) dX4_firstFor_24 ⟨Nat.zero_le _, Nat.zero_le _⟩) hS (fun _ h => h) (fun H locs hP hS _ _ => ?_)
          refine z_top (y := S 0 (8 * o + 485)) (by rw [show (8 * o + 0 + 485) = (8 * o + 485 : Int) from by omega]; first | done | exact rfl) ?_
          have b3 := hB 0 (8 * o + 485) (by omega) (by omega) (by omega) (by omega)
          refine lv_iload_n hx hb dX4_firstFor_27 rfl (lv_at hl 2 rfl) ?_
          refine z_icmp_ne (tgt := 53) hx hb dX4_firstFor_28 (by decide) (by omega) (by omega) (fun c3 => ?_) (fun c3 => ?_)
          · refine z_iinc (lv' := [(3, .int (zI (o + 1))), (0, .ref (ad 0)), (1, .int (zI kind)), (2, .int (zI blk))]) hx hb dX4_firstFor_53 hl (k := 0) rfl (by decide) (by rw [show (o : Int) + (1) = (o + 1) from by omega]; rfl) (fun ls hl => ?_)
            refine lv_goto (tgt := 2) hx hb dX4_firstFor_56 (by decide) ?_
            exact ih2 (o + 1) (by omega) (by rw [← i1, fstN_pos _ o (by omega), if_neg (by omega), show S 0 2 - (o + 1) = S 0 2 - o - 1 from by omega]) (by omega) _ _ hP hS ls (lv_sub hl [0, 1, 2, 3] rfl)
          · refine z_bipush (z := 12) hx hb dX4_firstFor_31 (by decide +kernel) ?_
            refine lv_aload_n hx hb dX4_firstFor_33 rfl (lv_at hl 1 rfl) ?_
            refine lv_iload_n hx hb dX4_firstFor_34 rfl (lv_at hl 0 rfl) ?_
            refine z_iconst hx hb dX4_firstFor_35 ?_
            refine z_calli (va_runV (As := [.int (zI o), .int (zI 1)]) (rest := [.int (zI 12)]) ⟨hx, hb, hml, hown, hts⟩ (k_X4_told l dC dI cI cQ A ad S hD o 1 (by omega)) (cwV 2 hts gX4_firstFor_X4_told rfl rfl rfl (by decide +kernel) ⟨Nat.le_of_ble_eq_true rfl, Nat.le_of_ble_eq_true rfl⟩) (z_preV hK hP (ci := 4) (q0 := 0) rfl rfl rfl) rfl rfl hl.1 rfl (lv_room (Nat.le_of_ble_eq_true rfl)) dX4_firstFor_36 ⟨Nat.zero_le _, Nat.zero_le _⟩) hS (fun _ h => h) (fun H locs hP hS _ _ => ?_)
            refine z_top (y := S 0 (8 * o + 486)) (by rw [show (8 * o + 1 + 485) = (8 * o + 486 : Int) from by omega]; first | done | exact rfl) ?_
            have b4 := hB 0 (8 * o + 486) (by omega) (by omega) (by omega) (by omega)
            refine z_imul hx hb dX4_firstFor_39 ?_
            refine z_top (y := 12 * S 0 (8 * o + 486)) (by omega) ?_
            refine lv_aload_n hx hb dX4_firstFor_40 rfl (lv_at hl 1 rfl) ?_
            refine lv_iload_n hx hb dX4_firstFor_41 rfl (lv_at hl 0 rfl) ?_
            refine z_iconst hx hb dX4_firstFor_42 ?_
            refine z_calli (va_runV (As := [.int (zI o), .int (zI 2)]) (rest := [.int (zI (12 * S 0 (8 * o + 486)))]) ⟨hx, hb, hml, hown, hts⟩ (k_X4_told l dC dI cI cQ A ad S hD o 2 (by omega)) (cwV 2 hts gX4_firstFor_X4_told rfl rfl rfl (by decide +kernel) ⟨Nat.le_of_ble_eq_true rfl, Nat.le_of_ble_eq_true rfl⟩) (z_preV hK hP (ci := 4) (q0 := 0) rfl rfl rfl) rfl rfl hl.1 rfl (lv_room (Nat.le_of_ble_eq_true rfl)) dX4_firstFor_43 ⟨Nat.zero_le _, Nat.zero_le _⟩) hS (fun _ h => h) (fun H locs hP hS _ _ => ?_)
            refine z_top (y := S 0 (8 * o + 487)) (by rw [show (8 * o + 2 + 485) = (8 * o + 487 : Int) from by omega]; first | done | exact rfl) ?_
            have b5 := hB 0 (8 * o + 487) (by omega) (by omega) (by omega) (by omega)
            refine z_iadd hx hb dX4_firstFor_46 ?_
            refine z_top (y := 12 * S 0 (8 * o + 486) + S 0 (8 * o + 487)) (by omega) ?_
            refine lv_iload_n hx hb dX4_firstFor_47 rfl (lv_at hl 3 rfl) ?_
            refine z_icmp_ne (tgt := 53) hx hb dX4_firstFor_48 (by decide) (by omega) (by omega) (fun c4 => ?_) (fun c4 => ?_)
            · refine z_iinc (lv' := [(3, .int (zI (o + 1))), (0, .ref (ad 0)), (1, .int (zI kind)), (2, .int (zI blk))]) hx hb dX4_firstFor_53 hl (k := 0) rfl (by decide) (by rw [show (o : Int) + (1) = (o + 1) from by omega]; rfl) (fun ls hl => ?_)
              refine lv_goto (tgt := 2) hx hb dX4_firstFor_56 (by decide) ?_
              exact ih2 (o + 1) (by omega) (by rw [← i1, fstN_pos _ o (by omega), if_neg (by omega), show S 0 2 - (o + 1) = S 0 2 - o - 1 from by omega]) (by omega) _ _ hP hS ls (lv_sub hl [0, 1, 2, 3] rfl)
            · refine lv_iload_n hx hb dX4_firstFor_51 rfl (lv_at hl 0 rfl) ?_
              exact z_iret hx hb hr hlk hP hS dX4_firstFor_52 (by unfold firstFF fstZ; rw [← i1, fstN_pos _ _ (by omega), if_pos ⟨by omega, by omega, by omega⟩]) rfl
  exact hloop2 ((S 0 2 - 0 : Int) + 1).toNat 0 (by omega) (by rw [show S 0 2 - 0 = S 0 2 from by omega]) (by omega) _ _ hP hS ls (lv_sub hl [0, 1, 2, 3] rfl)
theorem in_X4_ends : ∀ w ∈ wsX40, w ∈ wsX4_ends := fun w h => List.mem_cons_of_mem _ (List.mem_append_right _ h)
set_option maxHeartbeats 4000000 in
set_option maxRecDepth 100000 in
theorem k_X4_ends (l : Launch) (dC : Nat → ClassId) (dI : Nat → Nat → Nat) (cI cQ : ClassId) (A : Nat → Prop) (ad : Nat → Nat) (S : Nat → Int → Int) (hD : ∀ S, va_D A (tW_X4 ad cI S)) (o side : Int) (h : 0 ≤ o ∧ o < 60) : Met l yX4_ends wsX4_ends ({ frames := 1, cells := 0, slots := 0, locals := 23 }) (zPc (dC, dI) vwCl (zT cI cQ) (tW_X4 ad cI S) [.ref (ad 0), .int (zI o), .int (zI side)]) (zQv (dC, dI) vwCl (tW_X4 ad cI (endsM S o side)) A) 0 0 A := by
  refine Met.ofW (cc := cX4_ends) (maxL := 3) (ret := none) (by decide) rfl ?_
  intro p e s m args below meth c s₁ B hml hv
  obtain ⟨rfl, hP, hK⟩ := hv
  have hx := B.exec
  have hb := B.bytes
  have hr := B.returns
  have hts := atoms_spec (ws := wsX4_ends) B.pre
  have hown : s.vm.findClass RX4 = some m.cls := findClass_of_methodNamed B.named
  have hlk := B.notSynchronized
  have hS : va_S A s.heap s.heap [] := va_S.rf
  have hl := lv_entry ([.ref (ad 0), .int (zI o), .int (zI side)]) (n := 3) (Nat.le_of_ble_eq_true rfl)
  rw [lg_entry_eq]
  generalize (lg_sl ([.ref (ad 0), .int (zI o), .int (zI side)]) ++ List.replicate (3 - (lg_sl ([.ref (ad 0), .int (zI o), .int (zI side)])).length) Slot.unset).toArray = ls at hl ⊢
  have hl : lv_has ls 3 [(0, .ref (ad 0)), (1, .int (zI o)), (2, .int (zI side))] := hl
  have hin : ∀ w ∈ wsX40, w ∈ wsX4_ends := in_X4_ends
  refine lv_aload_n hx hb dX4_ends_0 rfl (lv_at hl 0 rfl) ?_
  refine lv_iload_n hx hb dX4_ends_1 rfl (lv_at hl 1 rfl) ?_
  refine z_iconst hx hb dX4_ends_2 ?_
  refine z_iconst hx hb dX4_ends_3 ?_
  refine z_callv (va_runV (As := [.int (zI o), .int (zI 3), .int (zI 1)]) (rest := []) ⟨hx, hb, hml, hown, hts⟩ (k_X4_tell l dC dI cI cQ A ad S hD o 3 1 (by omega)) (cwV 3 hts gX4_ends_X4_tell rfl rfl rfl (by decide +kernel) ⟨Nat.le_of_ble_eq_true rfl, Nat.le_of_ble_eq_true rfl⟩) (z_preV hK hP (ci := 4) (q0 := 0) rfl rfl rfl) rfl rfl hl.1 rfl (lv_room (Nat.le_of_ble_eq_true rfl)) dX4_ends_4 ⟨Nat.zero_le _, Nat.zero_le _⟩) hS (fun _ h => h) (fun H locs hP hS _ _ => ?_)
  refine lv_aload_n hx hb dX4_ends_7 rfl (lv_at hl 0 rfl) ?_
  refine lv_iload_n hx hb dX4_ends_8 rfl (lv_at hl 1 rfl) ?_
  refine z_iconst hx hb dX4_ends_9 ?_
  refine lv_aload_n hx hb dX4_ends_10 rfl (lv_at hl 0 rfl) ?_
  refine gx_X4_0 hx hb hts hin hown hK hP (hts _ (List.mem_of_getElem? (i := 1) rfl)) dX4_ends_11 ?_
  refine z_iconst hx hb dX4_ends_14 ?_
  refine ld_X4_0 (v := S 0 0) hx hb hK hP (by omega) (((up2_ne (by omega)).trans (rfl))) dX4_ends_15 ?_
  refine z_callv (va_runV (As := [.int (zI o), .int (zI 5), .int (zI (S 0 0))]) (rest := []) ⟨hx, hb, hml, hown, hts⟩ (k_X4_tell l dC dI cI cQ A ad (tellM S o 3 1) hD o 5 (S 0 0) (by omega)) (cwV 3 hts gX4_ends_X4_tell rfl rfl rfl (by decide +kernel) ⟨Nat.le_of_ble_eq_true rfl, Nat.le_of_ble_eq_true rfl⟩) (z_preV hK hP (ci := 4) (q0 := 0) rfl rfl rfl) rfl rfl hl.1 rfl (lv_room (Nat.le_of_ble_eq_true rfl)) dX4_ends_16 ⟨Nat.zero_le _, Nat.zero_le _⟩) hS (fun _ h => h) (fun H locs hP hS _ _ => ?_)
  refine lv_aload_n hx hb dX4_ends_19 rfl (lv_at hl 0 rfl) ?_
  refine lv_iload_n hx hb dX4_ends_20 rfl (lv_at hl 1 rfl) ?_
  refine z_bipush (z := 6) hx hb dX4_ends_21 (by decide +kernel) ?_
  refine lv_iload_n hx hb dX4_ends_23 rfl (lv_at hl 2 rfl) ?_
  refine z_callv (va_runV (As := [.int (zI o), .int (zI 6), .int (zI side)]) (rest := []) ⟨hx, hb, hml, hown, hts⟩ (k_X4_tell l dC dI cI cQ A ad (tellM (tellM S o 3 1) o 5 (S 0 0)) hD o 6 side (by omega)) (cwV 3 hts gX4_ends_X4_tell rfl rfl rfl (by decide +kernel) ⟨Nat.le_of_ble_eq_true rfl, Nat.le_of_ble_eq_true rfl⟩) (z_preV hK hP (ci := 4) (q0 := 0) rfl rfl rfl) rfl rfl hl.1 rfl (lv_room (Nat.le_of_ble_eq_true rfl)) dX4_ends_24 ⟨Nat.zero_le _, Nat.zero_le _⟩) hS (fun _ h => h) (fun H locs hP hS _ _ => ?_)
  exact z_vret hx hb hr hlk hP hS dX4_ends_27 (congrArg (tW_X4 ad cI) (by rw [endsM_eq]; unfold endsF; simp only [tellM_eq, upR_eq, upR_upR]; simp only [show 8 * o + 3 + 485 = 8 * o + 488 from by omega, show 8 * o + 5 + 485 = 8 * o + 490 from by omega, show 8 * o + 6 + 485 = 8 * o + 491 from by omega]))
theorem in_X4_writes : ∀ w ∈ wsX40, w ∈ wsX4_writes := fun w h => List.mem_cons_of_mem _ (List.mem_append_right _ h)
set_option maxHeartbeats 4000000 in
set_option maxRecDepth 100000 in
theorem k_X4_writes (l : Launch) (dC : Nat → ClassId) (dI : Nat → Nat → Nat) (cI cQ : ClassId) (A : Nat → Prop) (ad : Nat → Nat) (S : Nat → Int → Int) (hD : ∀ S, va_D A (tW_X4 ad cI S)) (side b v w : Int) (h : 0 ≤ side ∧ side ≤ 1) (h2 : 0 ≤ b ∧ b < 48) : Met l yX4_writes wsX4_writes ({ frames := 1, cells := 0, slots := 0, locals := 24 }) (zPc (dC, dI) vwCl (zT cI cQ) (tW_X4 ad cI S) [.ref (ad 0), .int (zI side), .int (zI b), .int (zI v), .int (zI w)]) (zQv (dC, dI) vwCl (tW_X4 ad cI (writesM S side b v w)) A) 0 0 A := by
  refine Met.ofW (cc := cX4_writes) (maxL := 5) (ret := none) (by decide) rfl ?_
  intro p e s m args below meth c s₁ B hml hv
  obtain ⟨rfl, hP, hK⟩ := hv
  have hx := B.exec
  have hb := B.bytes
  have hr := B.returns
  have hts := atoms_spec (ws := wsX4_writes) B.pre
  have hown : s.vm.findClass RX4 = some m.cls := findClass_of_methodNamed B.named
  have hlk := B.notSynchronized
  have hS : va_S A s.heap s.heap [] := va_S.rf
  have hl := lv_entry ([.ref (ad 0), .int (zI side), .int (zI b), .int (zI v), .int (zI w)]) (n := 5) (Nat.le_of_ble_eq_true rfl)
  rw [lg_entry_eq]
  generalize (lg_sl ([.ref (ad 0), .int (zI side), .int (zI b), .int (zI v), .int (zI w)]) ++ List.replicate (5 - (lg_sl ([.ref (ad 0), .int (zI side), .int (zI b), .int (zI v), .int (zI w)])).length) Slot.unset).toArray = ls at hl ⊢
  have hl : lv_has ls 5 [(0, .ref (ad 0)), (1, .int (zI side)), (2, .int (zI b)), (3, .int (zI v)), (4, .int (zI w))] := hl
  have hin : ∀ w ∈ wsX40, w ∈ wsX4_writes := in_X4_writes
  refine lv_aload_n hx hb dX4_writes_0 rfl (lv_at hl 0 rfl) ?_
  refine lv_iload_n hx hb dX4_writes_1 rfl (lv_at hl 1 rfl) ?_
  refine lv_iload_n hx hb dX4_writes_2 rfl (lv_at hl 2 rfl) ?_
  refine z_iconst hx hb dX4_writes_3 ?_
  refine lv_iload_n hx hb dX4_writes_4 rfl (lv_at hl 3 rfl) ?_
  refine z_callv (va_runV (As := [.int (zI side), .int (zI b), .int (zI 0), .int (zI v)]) (rest := []) ⟨hx, hb, hml, hown, hts⟩ (k_X4_put l dC dI cI cQ A ad S hD side b 0 v (by omega)) (cwV 4 hts gX4_writes_X4_put rfl rfl rfl (by decide +kernel) ⟨Nat.le_of_ble_eq_true rfl, Nat.le_of_ble_eq_true rfl⟩) (z_preV hK hP (ci := 4) (q0 := 0) rfl rfl rfl) rfl rfl hl.1 rfl (lv_room (Nat.le_of_ble_eq_true rfl)) dX4_writes_5 ⟨Nat.zero_le _, Nat.zero_le _⟩) hS (fun _ h => h) (fun H locs hP hS _ _ => ?_)
  refine lv_aload_n hx hb dX4_writes_8 rfl (lv_at hl 0 rfl) ?_
  refine lv_iload_n hx hb dX4_writes_9 rfl (lv_at hl 1 rfl) ?_
  refine lv_iload_n hx hb dX4_writes_10 rfl (lv_at hl 2 rfl) ?_
  refine z_iconst hx hb dX4_writes_11 ?_
  refine lv_iload hx hb dX4_writes_12 (lv_at hl 4 rfl) ?_
  refine z_callv (va_runV (As := [.int (zI side), .int (zI b), .int (zI 1), .int (zI w)]) (rest := []) ⟨hx, hb, hml, hown, hts⟩ (k_X4_put l dC dI cI cQ A ad (putM S side b 0 v) hD side b 1 w (by omega)) (cwV 4 hts gX4_writes_X4_put rfl rfl rfl (by decide +kernel) ⟨Nat.le_of_ble_eq_true rfl, Nat.le_of_ble_eq_true rfl⟩) (z_preV hK hP (ci := 4) (q0 := 0) rfl rfl rfl) rfl rfl hl.1 rfl (lv_room (Nat.le_of_ble_eq_true rfl)) dX4_writes_14 ⟨Nat.zero_le _, Nat.zero_le _⟩) hS (fun _ h => h) (fun H locs hP hS _ _ => ?_)
  refine lv_aload_n hx hb dX4_writes_17 rfl (lv_at hl 0 rfl) ?_
  refine lv_iload_n hx hb dX4_writes_18 rfl (lv_at hl 1 rfl) ?_
  refine lv_iload_n hx hb dX4_writes_19 rfl (lv_at hl 2 rfl) ?_
  refine z_iconst hx hb dX4_writes_20 ?_
  refine z_iconst hx hb dX4_writes_21 ?_
  refine z_callv (va_runV (As := [.int (zI side), .int (zI b), .int (zI 2), .int (zI 0)]) (rest := []) ⟨hx, hb, hml, hown, hts⟩ (k_X4_put l dC dI cI cQ A ad (putM (putM S side b 0 v) side b 1 w) hD side b 2 0 (by omega)) (cwV 4 hts gX4_writes_X4_put rfl rfl rfl (by decide +kernel) ⟨Nat.le_of_ble_eq_true rfl, Nat.le_of_ble_eq_true rfl⟩) (z_preV hK hP (ci := 4) (q0 := 0) rfl rfl rfl) rfl rfl hl.1 rfl (lv_room (Nat.le_of_ble_eq_true rfl)) dX4_writes_22 ⟨Nat.zero_le _, Nat.zero_le _⟩) hS (fun _ h => h) (fun H locs hP hS _ _ => ?_)
  refine lv_aload_n hx hb dX4_writes_25 rfl (lv_at hl 0 rfl) ?_
  refine lv_iload_n hx hb dX4_writes_26 rfl (lv_at hl 1 rfl) ?_
  refine lv_iload_n hx hb dX4_writes_27 rfl (lv_at hl 2 rfl) ?_
  refine z_iconst hx hb dX4_writes_28 ?_
  refine z_iconst hx hb dX4_writes_29 ?_
  refine z_callv (va_runV (As := [.int (zI side), .int (zI b), .int (zI 3), .int (zI 0)]) (rest := []) ⟨hx, hb, hml, hown, hts⟩ (k_X4_put l dC dI cI cQ A ad (putM (putM (putM S side b 0 v) side b 1 w) side b 2 0) hD side b 3 0 (by omega)) (cwV 4 hts gX4_writes_X4_put rfl rfl rfl (by decide +kernel) ⟨Nat.le_of_ble_eq_true rfl, Nat.le_of_ble_eq_true rfl⟩) (z_preV hK hP (ci := 4) (q0 := 0) rfl rfl rfl) rfl rfl hl.1 rfl (lv_room (Nat.le_of_ble_eq_true rfl)) dX4_writes_30 ⟨Nat.zero_le _, Nat.zero_le _⟩) hS (fun _ h => h) (fun H locs hP hS _ _ => ?_)
  refine lv_aload_n hx hb dX4_writes_33 rfl (lv_at hl 0 rfl) ?_
  refine lv_iload_n hx hb dX4_writes_34 rfl (lv_at hl 1 rfl) ?_
  refine lv_iload_n hx hb dX4_writes_35 rfl (lv_at hl 2 rfl) ?_
  refine z_iconst hx hb dX4_writes_36 ?_
  refine lv_aload_n hx hb dX4_writes_37 rfl (lv_at hl 0 rfl) ?_
  refine gx_X4_0 hx hb hts hin hown hK hP (hts _ (List.mem_of_getElem? (i := 1) rfl)) dX4_writes_38 ?_
  refine z_iconst hx hb dX4_writes_41 ?_
  refine ld_X4_0 (v := S 0 0) hx hb hK hP (by omega) (((up2_ne (by omega)).trans (((up2_ne (by omega)).trans (((up2_ne (by omega)).trans (((up2_ne (by omega)).trans (rfl))))))))) dX4_writes_42 ?_
  refine z_callv (va_runV (As := [.int (zI side), .int (zI b), .int (zI 4), .int (zI (S 0 0))]) (rest := []) ⟨hx, hb, hml, hown, hts⟩ (k_X4_put l dC dI cI cQ A ad (putM (putM (putM (putM S side b 0 v) side b 1 w) side b 2 0) side b 3 0) hD side b 4 (S 0 0) (by omega)) (cwV 4 hts gX4_writes_X4_put rfl rfl rfl (by decide +kernel) ⟨Nat.le_of_ble_eq_true rfl, Nat.le_of_ble_eq_true rfl⟩) (z_preV hK hP (ci := 4) (q0 := 0) rfl rfl rfl) rfl rfl hl.1 rfl (lv_room (Nat.le_of_ble_eq_true rfl)) dX4_writes_43 ⟨Nat.zero_le _, Nat.zero_le _⟩) hS (fun _ h => h) (fun H locs hP hS _ _ => ?_)
  exact z_vret hx hb hr hlk hP hS dX4_writes_46 (congrArg (tW_X4 ad cI) (by rw [writesM_eq]; unfold writesF; simp only [putM_eq, upR_eq, upR_upR]; simp only [show 240 * side + 5 * b + 0 + 5 = 240 * side + 5 * b + 5 from by omega, show 240 * side + 5 * b + 1 + 5 = 240 * side + 5 * b + 6 from by omega, show 240 * side + 5 * b + 2 + 5 = 240 * side + 5 * b + 7 from by omega, show 240 * side + 5 * b + 3 + 5 = 240 * side + 5 * b + 8 from by omega, show 240 * side + 5 * b + 4 + 5 = 240 * side + 5 * b + 9 from by omega]))
theorem in_X4_sectorUnder : ∀ w ∈ wsX40, w ∈ wsX4_sectorUnder := fun w h => List.mem_cons_of_mem _ (List.mem_append_right _ h)
set_option maxHeartbeats 4000000 in
set_option maxRecDepth 100000 in
theorem k_X4_sectorUnder (l : Launch) (dC : Nat → ClassId) (dI : Nat → Nat → Nat) (cI cQ : ClassId) (A : Nat → Prop) (ad : Nat → Nat) (S : Nat → Int → Int) (hD : ∀ S, va_D A (tW_X4 ad cI S)) (side : Int) (hA : WFA (S 0)) (hs : 0 ≤ side ∧ side ≤ 1) : Met l yX4_sectorUnder wsX4_sectorUnder ({ frames := 0, cells := 0, slots := 0, locals := 0 }) (zPc (dC, dI) vwCl (zT cI cQ) (tW_X4 ad cI S) [.ref (ad 0), .int (zI side)]) (zQi (dC, dI) vwCl (tW_X4 ad cI S) ((S 0 0 + 6 * side) % 12) A) 0 0 A := by
  refine Met.ofW (cc := cX4_sectorUnder) (maxL := 2) (ret := (some .int)) (by decide) rfl ?_
  intro p e s m args below meth c s₁ B hml hv
  obtain ⟨rfl, hP, hK⟩ := hv
  have hx := B.exec
  have hb := B.bytes
  have hr := B.returns
  have hts := atoms_spec (ws := wsX4_sectorUnder) B.pre
  have hown : s.vm.findClass RX4 = some m.cls := findClass_of_methodNamed B.named
  have hlk := B.notSynchronized
  have hS : va_S A s.heap s.heap [] := va_S.rf
  have hl := lv_entry ([.ref (ad 0), .int (zI side)]) (n := 2) (Nat.le_of_ble_eq_true rfl)
  rw [lg_entry_eq]
  generalize (lg_sl ([.ref (ad 0), .int (zI side)]) ++ List.replicate (2 - (lg_sl ([.ref (ad 0), .int (zI side)])).length) Slot.unset).toArray = ls at hl ⊢
  have hl : lv_has ls 2 [(0, .ref (ad 0)), (1, .int (zI side))] := hl
  have hin : ∀ w ∈ wsX40, w ∈ wsX4_sectorUnder := in_X4_sectorUnder
  obtain ⟨hB0, hA0, hA1, hA2⟩ := id hA
  have hB : ∀ (k : Nat) (j : Int), 0 ≤ j → j < 965 → j ≠ 3 → j ≠ 4 → -1000000 ≤ S 0 j ∧ S 0 j ≤ 1000000 := fun _ j => hB0 j
  refine lv_aload_n hx hb dX4_sectorUnder_0 rfl (lv_at hl 0 rfl) ?_
  refine gx_X4_0 hx hb hts hin hown hK hP (hts _ (List.mem_of_getElem? (i := 1) rfl)) dX4_sectorUnder_1 ?_
  refine z_iconst hx hb dX4_sectorUnder_4 ?_
  refine ld_X4_0 (v := S 0 0) hx hb hK hP (by omega) rfl dX4_sectorUnder_5 ?_
  have b1 := hB 0 0 (by omega) (by omega) (by omega) (by omega)
  refine z_bipush (z := 6) hx hb dX4_sectorUnder_6 (by decide +kernel) ?_
  refine lv_iload_n hx hb dX4_sectorUnder_8 rfl (lv_at hl 1 rfl) ?_
  refine z_imul hx hb dX4_sectorUnder_9 ?_
  refine z_iadd hx hb dX4_sectorUnder_10 ?_
  refine z_top (y := S 0 0 + 6 * side) (by omega) ?_
  refine z_bipush (z := 12) hx hb dX4_sectorUnder_11 (by decide +kernel) ?_
  refine z_irem hx hb dX4_sectorUnder_13 (by omega) (by omega) ?_
  exact z_iret hx hb hr hlk hP hS dX4_sectorUnder_14 rfl rfl
set_option maxHeartbeats 4000000 in
set_option maxRecDepth 100000 in
theorem k_X4_most (l : Launch) (dC : Nat → ClassId) (dI : Nat → Nat → Nat) (cI cQ : ClassId) (A : Nat → Prop) (ws : va_W) (x y : Int) (q0 : -2147483648 ≤ x ∧ x < 2147483648) (q1 : -2147483648 ≤ y ∧ y < 2147483648) : Met l yX4_most wsX4_most ({ frames := 0, cells := 0, slots := 0, locals := 0 }) (zPc (dC, dI) vwCl (zT cI cQ) ws [.int (zI x), .int (zI y)]) (zQi (dC, dI) vwCl ws (max x y) A) 0 0 A := by
  refine Met.ofW (cc := cX4_most) (maxL := 2) (ret := (some .int)) (by decide) rfl ?_
  intro p e s m args below meth c s₁ B hml hv
  obtain ⟨rfl, hP, hK⟩ := hv
  have hx := B.exec
  have hb := B.bytes
  have hr := B.returns
  have hts := atoms_spec (ws := wsX4_most) B.pre
  have hown : s.vm.findClass RX4 = some m.cls := findClass_of_methodNamed B.named
  have hlk := B.notSynchronized
  have hS : va_S A s.heap s.heap [] := va_S.rf
  have hl := lv_entry ([.int (zI x), .int (zI y)]) (n := 2) (Nat.le_of_ble_eq_true rfl)
  rw [lg_entry_eq]
  generalize (lg_sl ([.int (zI x), .int (zI y)]) ++ List.replicate (2 - (lg_sl ([.int (zI x), .int (zI y)])).length) Slot.unset).toArray = ls at hl ⊢
  have hl : lv_has ls 2 [(0, .int (zI x)), (1, .int (zI y))] := hl
  refine lv_iload_n hx hb dX4_most_0 rfl (lv_at hl 0 rfl) ?_
  refine lv_iload_n hx hb dX4_most_1 rfl (lv_at hl 1 rfl) ?_
  refine z_icmp_le (tgt := 9) hx hb dX4_most_2 (by decide) (by omega) (by omega) (fun c1 => ?_) (fun c1 => ?_)
  · refine lv_iload_n hx hb dX4_most_9 rfl (lv_at hl 1 rfl) ?_
    exact z_iret hx hb hr hlk hP hS dX4_most_10 (by rw [Int.max_def]; split <;> omega) rfl
  · refine lv_iload_n hx hb dX4_most_5 rfl (lv_at hl 0 rfl) ?_
    refine lv_goto (tgt := 10) hx hb dX4_most_6 (by decide) ?_
    exact z_iret hx hb hr hlk hP hS dX4_most_10 (by rw [Int.max_def]; split <;> omega) rfl
theorem in_X4_heads : ∀ w ∈ wsX40, w ∈ wsX4_heads := fun w h => List.mem_cons_of_mem _ (List.mem_append_right _ h)
set_option maxHeartbeats 4000000 in
set_option maxRecDepth 100000 in
theorem k_X4_heads (l : Launch) (dC : Nat → ClassId) (dI : Nat → Nat → Nat) (cI cQ : ClassId) (A : Nat → Prop) (ad : Nat → Nat) (S : Nat → Int → Int) (hD : ∀ S, va_D A (tW_X4 ad cI S)) (side : Int) (hA : WFA (S 0)) (hs : 0 ≤ side ∧ side ≤ 1) : Met l yX4_heads wsX4_heads ({ frames := 2, cells := 0, slots := 0, locals := 48 }) (zPc (dC, dI) vwCl (zT cI cQ) (tW_X4 ad cI S) [.ref (ad 0), .int (zI side)]) (zQv (dC, dI) vwCl (tW_X4 ad cI (headsM S side)) A) 0 0 A := by
  refine Met.ofW (cc := cX4_heads) (maxL := 6) (ret := none) (by decide) rfl ?_
  intro p e s m args below meth c s₁ B hml hv
  obtain ⟨rfl, hP, hK⟩ := hv
  have hx := B.exec
  have hb := B.bytes
  have hr := B.returns
  have hts := atoms_spec (ws := wsX4_heads) B.pre
  have hown : s.vm.findClass RX4 = some m.cls := findClass_of_methodNamed B.named
  have hlk := B.notSynchronized
  have hS : va_S A s.heap s.heap [] := va_S.rf
  have hl := lv_entry ([.ref (ad 0), .int (zI side)]) (n := 6) (Nat.le_of_ble_eq_true rfl)
  rw [lg_entry_eq]
  generalize (lg_sl ([.ref (ad 0), .int (zI side)]) ++ List.replicate (6 - (lg_sl ([.ref (ad 0), .int (zI side)])).length) Slot.unset).toArray = ls at hl ⊢
  have hl : lv_has ls 6 [(0, .ref (ad 0)), (1, .int (zI side))] := hl
  have hin : ∀ w ∈ wsX40, w ∈ wsX4_heads := in_X4_heads
  obtain ⟨hB0, hA0, hA1, hA2⟩ := id hA
  have hB : ∀ (k : Nat) (j : Int), 0 ≤ j → j < 965 → j ≠ 3 → j ≠ 4 → -1000000 ≤ S 0 j ∧ S 0 j ≤ 1000000 := fun _ j => hB0 j
  refine z_bipush (z := 12) hx hb dX4_heads_0 (by decide +kernel) ?_
  refine lv_aload_n hx hb dX4_heads_2 rfl (lv_at hl 0 rfl) ?_
  refine gx_X4_0 hx hb hts hin hown hK hP (hts _ (List.mem_of_getElem? (i := 1) rfl)) dX4_heads_3 ?_
  refine z_iconst hx hb dX4_heads_6 ?_
  refine ld_X4_0 (v := S 0 1) hx hb hK hP (by omega) rfl dX4_heads_7 ?_
  have b1 := hB 0 1 (by omega) (by omega) (by omega) (by omega)
  refine z_imul hx hb dX4_heads_8 ?_
  refine z_top (y := 12 * S 0 1) (by omega) ?_
  refine lv_aload_n hx hb dX4_heads_9 rfl (lv_at hl 0 rfl) ?_
  refine lv_iload_n hx hb dX4_heads_10 rfl (lv_at hl 1 rfl) ?_
  refine z_calli (va_runV (As := [.int (zI side)]) (rest := [.int (zI (12 * S 0 1))]) ⟨hx, hb, hml, hown, hts⟩ (k_X4_sectorUnder l dC dI cI cQ A ad S hD side (by exact hA) (by omega)) (cwV 1 hts gX4_heads_X4_sectorUnder rfl rfl rfl (by decide +kernel) ⟨Nat.le_of_ble_eq_true rfl, Nat.le_of_ble_eq_true rfl⟩) (z_preV hK hP (ci := 4) (q0 := 0) rfl rfl rfl) rfl rfl hl.1 rfl (lv_room (Nat.le_of_ble_eq_true rfl)) dX4_heads_11 ⟨Nat.zero_le _, Nat.zero_le _⟩) hS (fun _ h => h) (fun H locs hP hS _ _ => ?_)
  refine z_iadd hx hb dX4_heads_14 ?_
  refine z_top (y := 12 * S 0 1 + ((S 0 0 + 6 * side) % 12)) (by omega) ?_
  refine z_name (fun blk e_blk => ?_)
  refine lv_istore_n (lv' := [(2, .int (zI blk)), (0, .ref (ad 0)), (1, .int (zI side))]) hx hb dX4_heads_15 rfl hl (by decide) rfl (fun ls hl => ?_)
  refine z_iconst hx hb dX4_heads_16 ?_
  refine lv_iload_n hx hb dX4_heads_17 rfl (lv_at hl 2 rfl) ?_
  refine z_isub hx hb dX4_heads_18 ?_
  refine z_top (y := -side + 1) (by omega) ?_
  refine lv_istore_n (lv' := [(3, .int (zI (-side + 1))), (2, .int (zI blk)), (0, .ref (ad 0)), (1, .int (zI side))]) hx hb dX4_heads_19 rfl hl (by decide) rfl (fun ls hl => ?_)
  refine lv_aload_n hx hb dX4_heads_20 rfl (lv_at hl 2 rfl) ?_
  refine z_iconst hx hb dX4_heads_21 ?_
  refine lv_iload_n hx hb dX4_heads_22 rfl (lv_at hl 1 rfl) ?_
  refine z_calli (va_runV (As := [.int (zI 1), .int (zI blk)]) (rest := []) ⟨hx, hb, hml, hown, hts⟩ (k_X4_firstFor l dC dI cI cQ A ad S hD 1 blk (by exact hA) (by omega) (by omega)) (cwV 2 hts gX4_heads_X4_firstFor rfl rfl rfl (by decide +kernel) ⟨Nat.le_of_ble_eq_true rfl, Nat.le_of_ble_eq_true rfl⟩) (z_preV hK hP (ci := 4) (q0 := 0) rfl rfl rfl) rfl rfl hl.1 rfl (lv_room (Nat.le_of_ble_eq_true rfl)) dX4_heads_23 ⟨Nat.zero_le _, Nat.zero_le _⟩) hS (fun _ h => h) (fun H locs hP hS _ _ => ?_)
  refine z_name (fun fw e_fw => ?_)
  refine lv_istore (lv' := [(4, .int (zI fw)), (3, .int (zI (-side + 1))), (2, .int (zI blk)), (0, .ref (ad 0)), (1, .int (zI side))]) hx hb dX4_heads_26 hl (by decide) rfl (fun ls hl => ?_)
  have rg1 := firstFF_rng (A := S 0) (by omega) 1 blk
  rw [← e_fw] at rg1
  refine lv_aload_n hx hb dX4_heads_28 rfl (lv_at hl 3 rfl) ?_
  refine z_iconst hx hb dX4_heads_29 ?_
  refine lv_iload_n hx hb dX4_heads_30 rfl (lv_at hl 2 rfl) ?_
  refine z_calli (va_runV (As := [.int (zI 0), .int (zI blk)]) (rest := []) ⟨hx, hb, hml, hown, hts⟩ (k_X4_firstFor l dC dI cI cQ A ad S hD 0 blk (by exact hA) (by omega) (by omega)) (cwV 2 hts gX4_heads_X4_firstFor rfl rfl rfl (by decide +kernel) ⟨Nat.le_of_ble_eq_true rfl, Nat.le_of_ble_eq_true rfl⟩) (z_preV hK hP (ci := 4) (q0 := 0) rfl rfl rfl) rfl rfl hl.1 rfl (lv_room (Nat.le_of_ble_eq_true rfl)) dX4_heads_31 ⟨Nat.zero_le _, Nat.zero_le _⟩) hS (fun _ h => h) (fun H locs hP hS _ _ => ?_)
  refine z_name (fun fr e_fr => ?_)
  refine lv_istore (lv' := [(5, .int (zI fr)), (4, .int (zI fw)), (3, .int (zI (-side + 1))), (2, .int (zI blk)), (0, .ref (ad 0)), (1, .int (zI side))]) hx hb dX4_heads_34 hl (by decide) rfl (fun ls hl => ?_)
  have rg2 := firstFF_rng (A := S 0) (by omega) 0 blk
  rw [← e_fr] at rg2
  refine lv_aload_n hx hb dX4_heads_36 rfl (lv_at hl 4 rfl) ?_
  refine lv_iload_n hx hb dX4_heads_37 rfl (lv_at hl 5 rfl) ?_
  refine lv_iload_n hx hb dX4_heads_38 rfl (lv_at hl 3 rfl) ?_
  refine z_iconst hx hb dX4_heads_39 ?_
  refine z_calli (va_runV (As := [.int (zI side), .int (zI blk), .int (zI 3)]) (rest := []) ⟨hx, hb, hml, hown, hts⟩ (k_X4_of l dC dI cI cQ A ad S hD side blk 3 (by omega)) (cwV 3 hts gX4_heads_X4_of rfl rfl rfl (by decide +kernel) ⟨Nat.le_of_ble_eq_true rfl, Nat.le_of_ble_eq_true rfl⟩) (z_preV hK hP (ci := 4) (q0 := 0) rfl rfl rfl) rfl rfl hl.1 rfl (lv_room (Nat.le_of_ble_eq_true rfl)) dX4_heads_40 ⟨Nat.zero_le _, Nat.zero_le _⟩) hS (fun _ h => h) (fun H locs hP hS _ _ => ?_)
  refine z_top (y := S 0 (240 * side + 5 * blk + 8)) (by rw [show (240 * side + 5 * blk + 3 + 5) = (240 * side + 5 * blk + 8 : Int) from by omega]; first | done | exact rfl) ?_
  have b2 := hB 0 (240 * side + 5 * blk + 8) (by omega) (by omega) (by omega) (by omega)
  refine z_iconst hx hb dX4_heads_43 ?_
  refine z_icmp_ne (tgt := 80) hx hb dX4_heads_44 (by decide) (by omega) (by omega) (fun c1 => ?_) (fun c1 => ?_)
  · refine lv_iload hx hb dX4_heads_80 (lv_at hl 1 rfl) ?_
    refine z_bipush (z := (-9)) hx hb dX4_heads_82 (by decide +kernel) ?_
    refine z_icmp_eq (tgt := 138) hx hb dX4_heads_84 (by decide) (by omega) (by omega) (fun c2 => ?_) (fun c2 => ?_)
    · refine lv_iload hx hb dX4_heads_138 (lv_at hl 0 rfl) ?_
      refine z_bipush (z := (-9)) hx hb dX4_heads_140 (by decide +kernel) ?_
      refine z_icmp_eq (tgt := 187) hx hb dX4_heads_142 (by decide) (by omega) (by omega) (fun c3 => ?_) (fun c3 => ?_)
      · exact z_vret hx hb hr hlk hP hS dX4_heads_187 (congrArg (tW_X4 ad cI) (by unfold headsM headsF; rw [show blkF (S 0) side = blk from e_blk.symm]; rw [← e_fw, ← e_fr]; unfold headsB; first | (exfalso; omega) | (rw [if_pos ⟨by omega, by omega⟩]; simp only [writesM_eq, putM_eq, tellM_eq, endsM_eq, upR_eq, upR_upR, show 240 * (-side + 1) + 5 * blk + 3 + 5 = (5 * blk - 240 * side + 248 : Int) from by omega, show 8 * fr + 7 + 485 = (8 * fr + 492 : Int) from by omega]) | (rw [if_neg (by omega), if_pos (by omega)]; simp only [writesM_eq, putM_eq, tellM_eq, endsM_eq, upR_eq, upR_upR, show 240 * (-side + 1) + 5 * blk + 3 + 5 = (5 * blk - 240 * side + 248 : Int) from by omega, show 8 * fr + 7 + 485 = (8 * fr + 492 : Int) from by omega]) | (rw [if_neg (by omega), if_neg (by omega), if_pos ⟨by omega, by omega, by omega⟩]; simp only [writesM_eq, putM_eq, tellM_eq, endsM_eq, upR_eq, upR_upR, show 240 * (-side + 1) + 5 * blk + 3 + 5 = (5 * blk - 240 * side + 248 : Int) from by omega, show 8 * fr + 7 + 485 = (8 * fr + 492 : Int) from by omega]) | (rw [if_neg (by omega), if_neg (by omega), if_neg (by omega)]; exact (upR_self S 0).symm)))
      · refine lv_aload_n hx hb dX4_heads_145 rfl (lv_at hl 4 rfl) ?_
        refine lv_iload_n hx hb dX4_heads_146 rfl (lv_at hl 5 rfl) ?_
        refine lv_iload_n hx hb dX4_heads_147 rfl (lv_at hl 3 rfl) ?_
        refine z_iconst hx hb dX4_heads_148 ?_
        refine z_calli (va_runV (As := [.int (zI side), .int (zI blk), .int (zI 3)]) (rest := []) ⟨hx, hb, hml, hown, hts⟩ (k_X4_of l dC dI cI cQ A ad S hD side blk 3 (by omega)) (cwV 3 hts gX4_heads_X4_of rfl rfl rfl (by decide +kernel) ⟨Nat.le_of_ble_eq_true rfl, Nat.le_of_ble_eq_true rfl⟩) (z_preV hK hP (ci := 4) (q0 := 0) rfl rfl rfl) rfl rfl hl.1 rfl (lv_room (Nat.le_of_ble_eq_true rfl)) dX4_heads_149 ⟨Nat.zero_le _, Nat.zero_le _⟩) hS (fun _ h => h) (fun H locs hP hS _ _ => ?_)
        refine z_top (y := S 0 (240 * side + 5 * blk + 8)) (by rw [show (240 * side + 5 * blk + 3 + 5) = (240 * side + 5 * blk + 8 : Int) from by omega]; first | done | exact rfl) ?_
        have b3 := hB 0 (240 * side + 5 * blk + 8) (by omega) (by omega) (by omega) (by omega)
        refine z_if_ne (tgt := 187) hx hb dX4_heads_152 (by decide) (by omega) (fun c4 => ?_) (fun c4 => ?_)
        · exact z_vret hx hb hr hlk hP hS dX4_heads_187 (congrArg (tW_X4 ad cI) (by unfold headsM headsF; rw [show blkF (S 0) side = blk from e_blk.symm]; rw [← e_fw, ← e_fr]; unfold headsB; first | (exfalso; omega) | (rw [if_pos ⟨by omega, by omega⟩]; simp only [writesM_eq, putM_eq, tellM_eq, endsM_eq, upR_eq, upR_upR, show 240 * (-side + 1) + 5 * blk + 3 + 5 = (5 * blk - 240 * side + 248 : Int) from by omega, show 8 * fr + 7 + 485 = (8 * fr + 492 : Int) from by omega]) | (rw [if_neg (by omega), if_pos (by omega)]; simp only [writesM_eq, putM_eq, tellM_eq, endsM_eq, upR_eq, upR_upR, show 240 * (-side + 1) + 5 * blk + 3 + 5 = (5 * blk - 240 * side + 248 : Int) from by omega, show 8 * fr + 7 + 485 = (8 * fr + 492 : Int) from by omega]) | (rw [if_neg (by omega), if_neg (by omega), if_pos ⟨by omega, by omega, by omega⟩]; simp only [writesM_eq, putM_eq, tellM_eq, endsM_eq, upR_eq, upR_upR, show 240 * (-side + 1) + 5 * blk + 3 + 5 = (5 * blk - 240 * side + 248 : Int) from by omega, show 8 * fr + 7 + 485 = (8 * fr + 492 : Int) from by omega]) | (rw [if_neg (by omega), if_neg (by omega), if_neg (by omega)]; exact (upR_self S 0).symm)))
        · refine lv_aload_n hx hb dX4_heads_155 rfl (lv_at hl 4 rfl) ?_
          refine lv_iload_n hx hb dX4_heads_156 rfl (lv_at hl 5 rfl) ?_
          refine lv_iload_n hx hb dX4_heads_157 rfl (lv_at hl 3 rfl) ?_
          refine z_iconst hx hb dX4_heads_158 ?_
          refine z_calli (va_runV (As := [.int (zI side), .int (zI blk), .int (zI 2)]) (rest := []) ⟨hx, hb, hml, hown, hts⟩ (k_X4_of l dC dI cI cQ A ad S hD side blk 2 (by omega)) (cwV 3 hts gX4_heads_X4_of rfl rfl rfl (by decide +kernel) ⟨Nat.le_of_ble_eq_true rfl, Nat.le_of_ble_eq_true rfl⟩) (z_preV hK hP (ci := 4) (q0 := 0) rfl rfl rfl) rfl rfl hl.1 rfl (lv_room (Nat.le_of_ble_eq_true rfl)) dX4_heads_159 ⟨Nat.zero_le _, Nat.zero_le _⟩) hS (fun _ h => h) (fun H locs hP hS _ _ => ?_)
          refine z_top (y := S 0 (240 * side + 5 * blk + 7)) (by rw [show (240 * side + 5 * blk + 2 + 5) = (240 * side + 5 * blk + 7 : Int) from by omega]; first | done | exact rfl) ?_
          have b4 := hB 0 (240 * side + 5 * blk + 7) (by omega) (by omega) (by omega) (by omega)
          refine z_if_ne (tgt := 187) hx hb dX4_heads_162 (by decide) (by omega) (fun c5 => ?_) (fun c5 => ?_)
          · exact z_vret hx hb hr hlk hP hS dX4_heads_187 (congrArg (tW_X4 ad cI) (by unfold headsM headsF; rw [show blkF (S 0) side = blk from e_blk.symm]; rw [← e_fw, ← e_fr]; unfold headsB; first | (exfalso; omega) | (rw [if_pos ⟨by omega, by omega⟩]; simp only [writesM_eq, putM_eq, tellM_eq, endsM_eq, upR_eq, upR_upR, show 240 * (-side + 1) + 5 * blk + 3 + 5 = (5 * blk - 240 * side + 248 : Int) from by omega, show 8 * fr + 7 + 485 = (8 * fr + 492 : Int) from by omega]) | (rw [if_neg (by omega), if_pos (by omega)]; simp only [writesM_eq, putM_eq, tellM_eq, endsM_eq, upR_eq, upR_upR, show 240 * (-side + 1) + 5 * blk + 3 + 5 = (5 * blk - 240 * side + 248 : Int) from by omega, show 8 * fr + 7 + 485 = (8 * fr + 492 : Int) from by omega]) | (rw [if_neg (by omega), if_neg (by omega), if_pos ⟨by omega, by omega, by omega⟩]; simp only [writesM_eq, putM_eq, tellM_eq, endsM_eq, upR_eq, upR_upR, show 240 * (-side + 1) + 5 * blk + 3 + 5 = (5 * blk - 240 * side + 248 : Int) from by omega, show 8 * fr + 7 + 485 = (8 * fr + 492 : Int) from by omega]) | (rw [if_neg (by omega), if_neg (by omega), if_neg (by omega)]; exact (upR_self S 0).symm)))
          · refine lv_aload_n hx hb dX4_heads_165 rfl (lv_at hl 4 rfl) ?_
            refine lv_iload hx hb dX4_heads_166 (lv_at hl 0 rfl) ?_
            refine z_bipush (z := 7) hx hb dX4_heads_168 (by decide +kernel) ?_
            refine lv_aload_n hx hb dX4_heads_170 rfl (lv_at hl 4 rfl) ?_
            refine lv_iload_n hx hb dX4_heads_171 rfl (lv_at hl 5 rfl) ?_
            refine lv_iload_n hx hb dX4_heads_172 rfl (lv_at hl 3 rfl) ?_
            refine z_iconst hx hb dX4_heads_173 ?_
            refine z_calli (va_runV (As := [.int (zI side), .int (zI blk), .int (zI 0)]) (rest := [.int (zI 7), .int (zI fr), .ref (ad 0)]) ⟨hx, hb, hml, hown, hts⟩ (k_X4_of l dC dI cI cQ A ad S hD side blk 0 (by omega)) (cwV 3 hts gX4_heads_X4_of rfl rfl rfl (by decide +kernel) ⟨Nat.le_of_ble_eq_true rfl, Nat.le_of_ble_eq_true rfl⟩) (z_preV hK hP (ci := 4) (q0 := 0) rfl rfl rfl) rfl rfl hl.1 rfl (lv_room (Nat.le_of_ble_eq_true rfl)) dX4_heads_174 ⟨Nat.zero_le _, Nat.zero_le _⟩) hS (fun _ h => h) (fun H locs hP hS _ _ => ?_)
            refine z_top (y := S 0 (240 * side + 5 * blk + 5)) (by rw [show (240 * side + 5 * blk + 0 + 5) = (240 * side + 5 * blk + 5 : Int) from by omega]; first | done | exact rfl) ?_
            have b5 := hB 0 (240 * side + 5 * blk + 5) (by omega) (by omega) (by omega) (by omega)
            refine z_callv (va_runV (As := [.int (zI fr), .int (zI 7), .int (zI (S 0 (240 * side + 5 * blk + 5)))]) (rest := []) ⟨hx, hb, hml, hown, hts⟩ (k_X4_tell l dC dI cI cQ A ad S hD fr 7 (S 0 (240 * side + 5 * blk + 5)) (by omega)) (cwV 3 hts gX4_heads_X4_tell rfl rfl rfl (by decide +kernel) ⟨Nat.le_of_ble_eq_true rfl, Nat.le_of_ble_eq_true rfl⟩) (z_preV hK hP (ci := 4) (q0 := 0) rfl rfl rfl) rfl rfl hl.1 rfl (lv_room (Nat.le_of_ble_eq_true rfl)) dX4_heads_177 ⟨Nat.zero_le _, Nat.zero_le _⟩) hS (fun _ h => h) (fun H locs hP hS _ _ => ?_)
            refine lv_aload_n hx hb dX4_heads_180 rfl (lv_at hl 4 rfl) ?_
            refine lv_iload hx hb dX4_heads_181 (lv_at hl 0 rfl) ?_
            refine lv_iload_n hx hb dX4_heads_183 rfl (lv_at hl 5 rfl) ?_
            refine z_callv (va_runV (As := [.int (zI fr), .int (zI side)]) (rest := []) ⟨hx, hb, hml, hown, hts⟩ (k_X4_ends l dC dI cI cQ A ad (tellM S fr 7 (S 0 (240 * side + 5 * blk + 5))) hD fr side (by omega)) (cwV 2 hts gX4_heads_X4_ends rfl rfl rfl (by decide +kernel) ⟨Nat.le_of_ble_eq_true rfl, Nat.le_of_ble_eq_true rfl⟩) (z_preV hK hP (ci := 4) (q0 := 0) rfl rfl rfl) rfl rfl hl.1 rfl (lv_room (Nat.le_of_ble_eq_true rfl)) dX4_heads_184 ⟨Nat.zero_le _, Nat.zero_le _⟩) hS (fun _ h => h) (fun H locs hP hS _ _ => ?_)
            exact z_vret hx hb hr hlk hP hS dX4_heads_187 (congrArg (tW_X4 ad cI) (by unfold headsM headsF; rw [show blkF (S 0) side = blk from e_blk.symm]; rw [← e_fw, ← e_fr]; unfold headsB; first | (exfalso; omega) | (rw [if_pos ⟨by omega, by omega⟩]; simp only [writesM_eq, putM_eq, tellM_eq, endsM_eq, upR_eq, upR_upR, show 240 * (-side + 1) + 5 * blk + 3 + 5 = (5 * blk - 240 * side + 248 : Int) from by omega, show 8 * fr + 7 + 485 = (8 * fr + 492 : Int) from by omega]) | (rw [if_neg (by omega), if_pos (by omega)]; simp only [writesM_eq, putM_eq, tellM_eq, endsM_eq, upR_eq, upR_upR, show 240 * (-side + 1) + 5 * blk + 3 + 5 = (5 * blk - 240 * side + 248 : Int) from by omega, show 8 * fr + 7 + 485 = (8 * fr + 492 : Int) from by omega]) | (rw [if_neg (by omega), if_neg (by omega), if_pos ⟨by omega, by omega, by omega⟩]; simp only [writesM_eq, putM_eq, tellM_eq, endsM_eq, upR_eq, upR_upR, show 240 * (-side + 1) + 5 * blk + 3 + 5 = (5 * blk - 240 * side + 248 : Int) from by omega, show 8 * fr + 7 + 485 = (8 * fr + 492 : Int) from by omega]) | (rw [if_neg (by omega), if_neg (by omega), if_neg (by omega)]; exact (upR_self S 0).symm)))
    · refine lv_aload_n hx hb dX4_heads_87 rfl (lv_at hl 4 rfl) ?_
      refine lv_iload_n hx hb dX4_heads_88 rfl (lv_at hl 5 rfl) ?_
      refine lv_iload_n hx hb dX4_heads_89 rfl (lv_at hl 3 rfl) ?_
      refine lv_aload_n hx hb dX4_heads_90 rfl (lv_at hl 4 rfl) ?_
      refine lv_iload hx hb dX4_heads_91 (lv_at hl 1 rfl) ?_
      refine z_bipush (z := 7) hx hb dX4_heads_93 (by decide +kernel) ?_
      refine z_calli (va_runV (As := [.int (zI fw), .int (zI 7)]) (rest := [.int (zI blk), .int (zI side), .ref (ad 0)]) ⟨hx, hb, hml, hown, hts⟩ (k_X4_told l dC dI cI cQ A ad S hD fw 7 (by omega)) (cwV 2 hts gX4_heads_X4_told rfl rfl rfl (by decide +kernel) ⟨Nat.le_of_ble_eq_true rfl, Nat.le_of_ble_eq_true rfl⟩) (z_preV hK hP (ci := 4) (q0 := 0) rfl rfl rfl) rfl rfl hl.1 rfl (lv_room (Nat.le_of_ble_eq_true rfl)) dX4_heads_95 ⟨Nat.zero_le _, Nat.zero_le _⟩) hS (fun _ h => h) (fun H locs hP hS _ _ => ?_)
      refine z_top (y := S 0 (8 * fw + 492)) (by rw [show (8 * fw + 7 + 485) = (8 * fw + 492 : Int) from by omega]; first | done | exact rfl) ?_
      have b6 := hB 0 (8 * fw + 492) (by omega) (by omega) (by omega) (by omega)
      refine lv_aload_n hx hb dX4_heads_98 rfl (lv_at hl 4 rfl) ?_
      refine z_iconst hx hb dX4_heads_99 ?_
      refine lv_iload_n hx hb dX4_heads_100 rfl (lv_at hl 3 rfl) ?_
      refine z_iconst hx hb dX4_heads_101 ?_
      refine z_calli (va_runV (As := [.int (zI 0), .int (zI blk), .int (zI 1)]) (rest := [.int (zI (S 0 (8 * fw + 492))), .int (zI blk), .int (zI side), .ref (ad 0)]) ⟨hx, hb, hml, hown, hts⟩ (k_X4_of l dC dI cI cQ A ad S hD 0 blk 1 (by omega)) (cwV 3 hts gX4_heads_X4_of rfl rfl rfl (by decide +kernel) ⟨Nat.le_of_ble_eq_true rfl, Nat.le_of_ble_eq_true rfl⟩) (z_preV hK hP (ci := 4) (q0 := 0) rfl rfl rfl) rfl rfl hl.1 rfl (lv_room (Nat.le_of_ble_eq_true rfl)) dX4_heads_102 ⟨Nat.zero_le _, Nat.zero_le _⟩) hS (fun _ h => h) (fun H locs hP hS _ _ => ?_)
      refine z_top (y := S 0 (5 * blk + 6)) (by rw [show (240 * 0 + 5 * blk + 1 + 5) = (5 * blk + 6 : Int) from by omega]; first | done | exact rfl) ?_
      have b7 := hB 0 (5 * blk + 6) (by omega) (by omega) (by omega) (by omega)
      refine lv_aload_n hx hb dX4_heads_105 rfl (lv_at hl 4 rfl) ?_
      refine z_iconst hx hb dX4_heads_106 ?_
      refine lv_iload_n hx hb dX4_heads_107 rfl (lv_at hl 3 rfl) ?_
      refine z_iconst hx hb dX4_heads_108 ?_
      refine z_calli (va_runV (As := [.int (zI 1), .int (zI blk), .int (zI 1)]) (rest := [.int (zI (S 0 (5 * blk + 6))), .int (zI (S 0 (8 * fw + 492))), .int (zI blk), .int (zI side), .ref (ad 0)]) ⟨hx, hb, hml, hown, hts⟩ (k_X4_of l dC dI cI cQ A ad S hD 1 blk 1 (by omega)) (cwV 3 hts gX4_heads_X4_of rfl rfl rfl (by decide +kernel) ⟨Nat.le_of_ble_eq_true rfl, Nat.le_of_ble_eq_true rfl⟩) (z_preV hK hP (ci := 4) (q0 := 0) rfl rfl rfl) rfl rfl hl.1 rfl (lv_room (Nat.le_of_ble_eq_true rfl)) dX4_heads_109 ⟨Nat.zero_le _, Nat.zero_le _⟩) hS (fun _ h => h) (fun H locs hP hS _ _ => ?_)
      refine z_top (y := S 0 (5 * blk + 246)) (by rw [show (240 * 1 + 5 * blk + 1 + 5) = (5 * blk + 246 : Int) from by omega]; first | done | exact rfl) ?_
      have b8 := hB 0 (5 * blk + 246) (by omega) (by omega) (by omega) (by omega)
      refine z_calli (va_runS (As := [.int (zI (S 0 (5 * blk + 6))), .int (zI (S 0 (5 * blk + 246)))]) (rest := [.int (zI (S 0 (8 * fw + 492))), .int (zI blk), .int (zI side), .ref (ad 0)]) ⟨hx, hb, hml, hown, hts⟩ (k_X4_most l dC dI cI cQ A (tW_X4 ad cI S) (S 0 (5 * blk + 6)) (S 0 (5 * blk + 246)) (by omega) (by omega)) (va_cwS 2 hts gX4_heads_X4_most rfl rfl rfl (by decide +kernel) ⟨Nat.le_of_ble_eq_true rfl, Nat.le_of_ble_eq_true rfl⟩) (z_preS hK hP) rfl rfl hl.1 rfl (lv_room (Nat.le_of_ble_eq_true rfl)) dX4_heads_112 ⟨Nat.zero_le _, Nat.zero_le _⟩) hS (fun _ h => h) (fun H locs hP hS _ _ => ?_)
      refine z_iconst hx hb dX4_heads_115 ?_
      refine z_iadd hx hb dX4_heads_116 ?_
      refine z_callv (va_runV (As := [.int (zI side), .int (zI blk), .int (zI (S 0 (8 * fw + 492))), .int (zI ((max (S 0 (5 * blk + 6)) (S 0 (5 * blk + 246))) + 1))]) (rest := []) ⟨hx, hb, hml, hown, hts⟩ (k_X4_writes l dC dI cI cQ A ad S hD side blk (S 0 (8 * fw + 492)) ((max (S 0 (5 * blk + 6)) (S 0 (5 * blk + 246))) + 1) (by omega) (by omega)) (cwV 4 hts gX4_heads_X4_writes rfl rfl rfl (by decide +kernel) ⟨Nat.le_of_ble_eq_true rfl, Nat.le_of_ble_eq_true rfl⟩) (z_preV hK hP (ci := 4) (q0 := 0) rfl rfl rfl) rfl rfl hl.1 rfl (lv_room (Nat.le_of_ble_eq_true rfl)) dX4_heads_117 ⟨Nat.zero_le _, Nat.zero_le _⟩) hS (fun _ h => h) (fun H locs hP hS _ _ => ?_)
      refine lv_aload_n hx hb dX4_heads_120 rfl (lv_at hl 4 rfl) ?_
      refine lv_iload_n hx hb dX4_heads_121 rfl (lv_at hl 2 rfl) ?_
      refine lv_iload_n hx hb dX4_heads_122 rfl (lv_at hl 3 rfl) ?_
      refine z_iconst hx hb dX4_heads_123 ?_
      refine z_iconst hx hb dX4_heads_124 ?_
      refine z_callv (va_runV (As := [.int (zI (-side + 1)), .int (zI blk), .int (zI 3), .int (zI 1)]) (rest := []) ⟨hx, hb, hml, hown, hts⟩ (k_X4_put l dC dI cI cQ A ad (writesM S side blk (S 0 (8 * fw + 492)) ((max (S 0 (5 * blk + 6)) (S 0 (5 * blk + 246))) + 1)) hD (-side + 1) blk 3 1 (by omega)) (cwV 4 hts gX4_heads_X4_put rfl rfl rfl (by decide +kernel) ⟨Nat.le_of_ble_eq_true rfl, Nat.le_of_ble_eq_true rfl⟩) (z_preV hK hP (ci := 4) (q0 := 0) rfl rfl rfl) rfl rfl hl.1 rfl (lv_room (Nat.le_of_ble_eq_true rfl)) dX4_heads_125 ⟨Nat.zero_le _, Nat.zero_le _⟩) hS (fun _ h => h) (fun H locs hP hS _ _ => ?_)
      refine lv_aload_n hx hb dX4_heads_128 rfl (lv_at hl 4 rfl) ?_
      refine lv_iload hx hb dX4_heads_129 (lv_at hl 1 rfl) ?_
      refine lv_iload_n hx hb dX4_heads_131 rfl (lv_at hl 5 rfl) ?_
      refine z_callv (va_runV (As := [.int (zI fw), .int (zI side)]) (rest := []) ⟨hx, hb, hml, hown, hts⟩ (k_X4_ends l dC dI cI cQ A ad (putM (writesM S side blk (S 0 (8 * fw + 492)) ((max (S 0 (5 * blk + 6)) (S 0 (5 * blk + 246))) + 1)) (-side + 1) blk 3 1) hD fw side (by omega)) (cwV 2 hts gX4_heads_X4_ends rfl rfl rfl (by decide +kernel) ⟨Nat.le_of_ble_eq_true rfl, Nat.le_of_ble_eq_true rfl⟩) (z_preV hK hP (ci := 4) (q0 := 0) rfl rfl rfl) rfl rfl hl.1 rfl (lv_room (Nat.le_of_ble_eq_true rfl)) dX4_heads_132 ⟨Nat.zero_le _, Nat.zero_le _⟩) hS (fun _ h => h) (fun H locs hP hS _ _ => ?_)
      refine lv_goto (tgt := 187) hx hb dX4_heads_135 (by decide) ?_
      exact z_vret hx hb hr hlk hP hS dX4_heads_187 (congrArg (tW_X4 ad cI) (by unfold headsM headsF; rw [show blkF (S 0) side = blk from e_blk.symm]; rw [← e_fw, ← e_fr]; unfold headsB; first | (exfalso; omega) | (rw [if_pos ⟨by omega, by omega⟩]; simp only [writesM_eq, putM_eq, tellM_eq, endsM_eq, upR_eq, upR_upR, show 240 * (-side + 1) + 5 * blk + 3 + 5 = (5 * blk - 240 * side + 248 : Int) from by omega, show 8 * fr + 7 + 485 = (8 * fr + 492 : Int) from by omega]) | (rw [if_neg (by omega), if_pos (by omega)]; simp only [writesM_eq, putM_eq, tellM_eq, endsM_eq, upR_eq, upR_upR, show 240 * (-side + 1) + 5 * blk + 3 + 5 = (5 * blk - 240 * side + 248 : Int) from by omega, show 8 * fr + 7 + 485 = (8 * fr + 492 : Int) from by omega]) | (rw [if_neg (by omega), if_neg (by omega), if_pos ⟨by omega, by omega, by omega⟩]; simp only [writesM_eq, putM_eq, tellM_eq, endsM_eq, upR_eq, upR_upR, show 240 * (-side + 1) + 5 * blk + 3 + 5 = (5 * blk - 240 * side + 248 : Int) from by omega, show 8 * fr + 7 + 485 = (8 * fr + 492 : Int) from by omega]) | (rw [if_neg (by omega), if_neg (by omega), if_neg (by omega)]; exact (upR_self S 0).symm)))
  · refine lv_aload_n hx hb dX4_heads_47 rfl (lv_at hl 4 rfl) ?_
    refine lv_iload_n hx hb dX4_heads_48 rfl (lv_at hl 2 rfl) ?_
    refine lv_iload_n hx hb dX4_heads_49 rfl (lv_at hl 3 rfl) ?_
    refine z_iconst hx hb dX4_heads_50 ?_
    refine z_calli (va_runV (As := [.int (zI (-side + 1)), .int (zI blk), .int (zI 2)]) (rest := []) ⟨hx, hb, hml, hown, hts⟩ (k_X4_of l dC dI cI cQ A ad S hD (-side + 1) blk 2 (by omega)) (cwV 3 hts gX4_heads_X4_of rfl rfl rfl (by decide +kernel) ⟨Nat.le_of_ble_eq_true rfl, Nat.le_of_ble_eq_true rfl⟩) (z_preV hK hP (ci := 4) (q0 := 0) rfl rfl rfl) rfl rfl hl.1 rfl (lv_room (Nat.le_of_ble_eq_true rfl)) dX4_heads_51 ⟨Nat.zero_le _, Nat.zero_le _⟩) hS (fun _ h => h) (fun H locs hP hS _ _ => ?_)
    refine z_top (y := S 0 (5 * blk - 240 * side + 247)) (by rw [show (240 * (-side + 1) + 5 * blk + 2 + 5) = (5 * blk - 240 * side + 247 : Int) from by omega]; first | done | exact rfl) ?_
    have b9 := hB 0 (5 * blk - 240 * side + 247) (by omega) (by omega) (by omega) (by omega)
    refine z_if_ne (tgt := 80) hx hb dX4_heads_54 (by decide) (by omega) (fun c6 => ?_) (fun c6 => ?_)
    · refine lv_iload hx hb dX4_heads_80 (lv_at hl 1 rfl) ?_
      refine z_bipush (z := (-9)) hx hb dX4_heads_82 (by decide +kernel) ?_
      refine z_icmp_eq (tgt := 138) hx hb dX4_heads_84 (by decide) (by omega) (by omega) (fun c7 => ?_) (fun c7 => ?_)
      · refine lv_iload hx hb dX4_heads_138 (lv_at hl 0 rfl) ?_
        refine z_bipush (z := (-9)) hx hb dX4_heads_140 (by decide +kernel) ?_
        refine z_icmp_eq (tgt := 187) hx hb dX4_heads_142 (by decide) (by omega) (by omega) (fun c8 => ?_) (fun c8 => ?_)
        · exact z_vret hx hb hr hlk hP hS dX4_heads_187 (congrArg (tW_X4 ad cI) (by unfold headsM headsF; rw [show blkF (S 0) side = blk from e_blk.symm]; rw [← e_fw, ← e_fr]; unfold headsB; first | (exfalso; omega) | (rw [if_pos ⟨by omega, by omega⟩]; simp only [writesM_eq, putM_eq, tellM_eq, endsM_eq, upR_eq, upR_upR, show 240 * (-side + 1) + 5 * blk + 3 + 5 = (5 * blk - 240 * side + 248 : Int) from by omega, show 8 * fr + 7 + 485 = (8 * fr + 492 : Int) from by omega]) | (rw [if_neg (by omega), if_pos (by omega)]; simp only [writesM_eq, putM_eq, tellM_eq, endsM_eq, upR_eq, upR_upR, show 240 * (-side + 1) + 5 * blk + 3 + 5 = (5 * blk - 240 * side + 248 : Int) from by omega, show 8 * fr + 7 + 485 = (8 * fr + 492 : Int) from by omega]) | (rw [if_neg (by omega), if_neg (by omega), if_pos ⟨by omega, by omega, by omega⟩]; simp only [writesM_eq, putM_eq, tellM_eq, endsM_eq, upR_eq, upR_upR, show 240 * (-side + 1) + 5 * blk + 3 + 5 = (5 * blk - 240 * side + 248 : Int) from by omega, show 8 * fr + 7 + 485 = (8 * fr + 492 : Int) from by omega]) | (rw [if_neg (by omega), if_neg (by omega), if_neg (by omega)]; exact (upR_self S 0).symm)))
        · refine lv_aload_n hx hb dX4_heads_145 rfl (lv_at hl 4 rfl) ?_
          refine lv_iload_n hx hb dX4_heads_146 rfl (lv_at hl 5 rfl) ?_
          refine lv_iload_n hx hb dX4_heads_147 rfl (lv_at hl 3 rfl) ?_
          refine z_iconst hx hb dX4_heads_148 ?_
          refine z_calli (va_runV (As := [.int (zI side), .int (zI blk), .int (zI 3)]) (rest := []) ⟨hx, hb, hml, hown, hts⟩ (k_X4_of l dC dI cI cQ A ad S hD side blk 3 (by omega)) (cwV 3 hts gX4_heads_X4_of rfl rfl rfl (by decide +kernel) ⟨Nat.le_of_ble_eq_true rfl, Nat.le_of_ble_eq_true rfl⟩) (z_preV hK hP (ci := 4) (q0 := 0) rfl rfl rfl) rfl rfl hl.1 rfl (lv_room (Nat.le_of_ble_eq_true rfl)) dX4_heads_149 ⟨Nat.zero_le _, Nat.zero_le _⟩) hS (fun _ h => h) (fun H locs hP hS _ _ => ?_)
          refine z_top (y := S 0 (240 * side + 5 * blk + 8)) (by rw [show (240 * side + 5 * blk + 3 + 5) = (240 * side + 5 * blk + 8 : Int) from by omega]; first | done | exact rfl) ?_
          have b10 := hB 0 (240 * side + 5 * blk + 8) (by omega) (by omega) (by omega) (by omega)
          refine z_if_ne (tgt := 187) hx hb dX4_heads_152 (by decide) (by omega) (fun c9 => ?_) (fun c9 => ?_)
          · exact z_vret hx hb hr hlk hP hS dX4_heads_187 (congrArg (tW_X4 ad cI) (by unfold headsM headsF; rw [show blkF (S 0) side = blk from e_blk.symm]; rw [← e_fw, ← e_fr]; unfold headsB; first | (exfalso; omega) | (rw [if_pos ⟨by omega, by omega⟩]; simp only [writesM_eq, putM_eq, tellM_eq, endsM_eq, upR_eq, upR_upR, show 240 * (-side + 1) + 5 * blk + 3 + 5 = (5 * blk - 240 * side + 248 : Int) from by omega, show 8 * fr + 7 + 485 = (8 * fr + 492 : Int) from by omega]) | (rw [if_neg (by omega), if_pos (by omega)]; simp only [writesM_eq, putM_eq, tellM_eq, endsM_eq, upR_eq, upR_upR, show 240 * (-side + 1) + 5 * blk + 3 + 5 = (5 * blk - 240 * side + 248 : Int) from by omega, show 8 * fr + 7 + 485 = (8 * fr + 492 : Int) from by omega]) | (rw [if_neg (by omega), if_neg (by omega), if_pos ⟨by omega, by omega, by omega⟩]; simp only [writesM_eq, putM_eq, tellM_eq, endsM_eq, upR_eq, upR_upR, show 240 * (-side + 1) + 5 * blk + 3 + 5 = (5 * blk - 240 * side + 248 : Int) from by omega, show 8 * fr + 7 + 485 = (8 * fr + 492 : Int) from by omega]) | (rw [if_neg (by omega), if_neg (by omega), if_neg (by omega)]; exact (upR_self S 0).symm)))
          · refine lv_aload_n hx hb dX4_heads_155 rfl (lv_at hl 4 rfl) ?_
            refine lv_iload_n hx hb dX4_heads_156 rfl (lv_at hl 5 rfl) ?_
            refine lv_iload_n hx hb dX4_heads_157 rfl (lv_at hl 3 rfl) ?_
            refine z_iconst hx hb dX4_heads_158 ?_
            refine z_calli (va_runV (As := [.int (zI side), .int (zI blk), .int (zI 2)]) (rest := []) ⟨hx, hb, hml, hown, hts⟩ (k_X4_of l dC dI cI cQ A ad S hD side blk 2 (by omega)) (cwV 3 hts gX4_heads_X4_of rfl rfl rfl (by decide +kernel) ⟨Nat.le_of_ble_eq_true rfl, Nat.le_of_ble_eq_true rfl⟩) (z_preV hK hP (ci := 4) (q0 := 0) rfl rfl rfl) rfl rfl hl.1 rfl (lv_room (Nat.le_of_ble_eq_true rfl)) dX4_heads_159 ⟨Nat.zero_le _, Nat.zero_le _⟩) hS (fun _ h => h) (fun H locs hP hS _ _ => ?_)
            refine z_top (y := S 0 (240 * side + 5 * blk + 7)) (by rw [show (240 * side + 5 * blk + 2 + 5) = (240 * side + 5 * blk + 7 : Int) from by omega]; first | done | exact rfl) ?_
            have b11 := hB 0 (240 * side + 5 * blk + 7) (by omega) (by omega) (by omega) (by omega)
            refine z_if_ne (tgt := 187) hx hb dX4_heads_162 (by decide) (by omega) (fun c10 => ?_) (fun c10 => ?_)
            · exact z_vret hx hb hr hlk hP hS dX4_heads_187 (congrArg (tW_X4 ad cI) (by unfold headsM headsF; rw [show blkF (S 0) side = blk from e_blk.symm]; rw [← e_fw, ← e_fr]; unfold headsB; first | (exfalso; omega) | (rw [if_pos ⟨by omega, by omega⟩]; simp only [writesM_eq, putM_eq, tellM_eq, endsM_eq, upR_eq, upR_upR, show 240 * (-side + 1) + 5 * blk + 3 + 5 = (5 * blk - 240 * side + 248 : Int) from by omega, show 8 * fr + 7 + 485 = (8 * fr + 492 : Int) from by omega]) | (rw [if_neg (by omega), if_pos (by omega)]; simp only [writesM_eq, putM_eq, tellM_eq, endsM_eq, upR_eq, upR_upR, show 240 * (-side + 1) + 5 * blk + 3 + 5 = (5 * blk - 240 * side + 248 : Int) from by omega, show 8 * fr + 7 + 485 = (8 * fr + 492 : Int) from by omega]) | (rw [if_neg (by omega), if_neg (by omega), if_pos ⟨by omega, by omega, by omega⟩]; simp only [writesM_eq, putM_eq, tellM_eq, endsM_eq, upR_eq, upR_upR, show 240 * (-side + 1) + 5 * blk + 3 + 5 = (5 * blk - 240 * side + 248 : Int) from by omega, show 8 * fr + 7 + 485 = (8 * fr + 492 : Int) from by omega]) | (rw [if_neg (by omega), if_neg (by omega), if_neg (by omega)]; exact (upR_self S 0).symm)))
            · refine lv_aload_n hx hb dX4_heads_165 rfl (lv_at hl 4 rfl) ?_
              refine lv_iload hx hb dX4_heads_166 (lv_at hl 0 rfl) ?_
              refine z_bipush (z := 7) hx hb dX4_heads_168 (by decide +kernel) ?_
              refine lv_aload_n hx hb dX4_heads_170 rfl (lv_at hl 4 rfl) ?_
              refine lv_iload_n hx hb dX4_heads_171 rfl (lv_at hl 5 rfl) ?_
              refine lv_iload_n hx hb dX4_heads_172 rfl (lv_at hl 3 rfl) ?_
              refine z_iconst hx hb dX4_heads_173 ?_
              refine z_calli (va_runV (As := [.int (zI side), .int (zI blk), .int (zI 0)]) (rest := [.int (zI 7), .int (zI fr), .ref (ad 0)]) ⟨hx, hb, hml, hown, hts⟩ (k_X4_of l dC dI cI cQ A ad S hD side blk 0 (by omega)) (cwV 3 hts gX4_heads_X4_of rfl rfl rfl (by decide +kernel) ⟨Nat.le_of_ble_eq_true rfl, Nat.le_of_ble_eq_true rfl⟩) (z_preV hK hP (ci := 4) (q0 := 0) rfl rfl rfl) rfl rfl hl.1 rfl (lv_room (Nat.le_of_ble_eq_true rfl)) dX4_heads_174 ⟨Nat.zero_le _, Nat.zero_le _⟩) hS (fun _ h => h) (fun H locs hP hS _ _ => ?_)
              refine z_top (y := S 0 (240 * side + 5 * blk + 5)) (by rw [show (240 * side + 5 * blk + 0 + 5) = (240 * side + 5 * blk + 5 : Int) from by omega]; first | done | exact rfl) ?_
              have b12 := hB 0 (240 * side + 5 * blk + 5) (by omega) (by omega) (by omega) (by omega)
              refine z_callv (va_runV (As := [.int (zI fr), .int (zI 7), .int (zI (S 0 (240 * side + 5 * blk + 5)))]) (rest := []) ⟨hx, hb, hml, hown, hts⟩ (k_X4_tell l dC dI cI cQ A ad S hD fr 7 (S 0 (240 * side + 5 * blk + 5)) (by omega)) (cwV 3 hts gX4_heads_X4_tell rfl rfl rfl (by decide +kernel) ⟨Nat.le_of_ble_eq_true rfl, Nat.le_of_ble_eq_true rfl⟩) (z_preV hK hP (ci := 4) (q0 := 0) rfl rfl rfl) rfl rfl hl.1 rfl (lv_room (Nat.le_of_ble_eq_true rfl)) dX4_heads_177 ⟨Nat.zero_le _, Nat.zero_le _⟩) hS (fun _ h => h) (fun H locs hP hS _ _ => ?_)
              refine lv_aload_n hx hb dX4_heads_180 rfl (lv_at hl 4 rfl) ?_
              refine lv_iload hx hb dX4_heads_181 (lv_at hl 0 rfl) ?_
              refine lv_iload_n hx hb dX4_heads_183 rfl (lv_at hl 5 rfl) ?_
              refine z_callv (va_runV (As := [.int (zI fr), .int (zI side)]) (rest := []) ⟨hx, hb, hml, hown, hts⟩ (k_X4_ends l dC dI cI cQ A ad (tellM S fr 7 (S 0 (240 * side + 5 * blk + 5))) hD fr side (by omega)) (cwV 2 hts gX4_heads_X4_ends rfl rfl rfl (by decide +kernel) ⟨Nat.le_of_ble_eq_true rfl, Nat.le_of_ble_eq_true rfl⟩) (z_preV hK hP (ci := 4) (q0 := 0) rfl rfl rfl) rfl rfl hl.1 rfl (lv_room (Nat.le_of_ble_eq_true rfl)) dX4_heads_184 ⟨Nat.zero_le _, Nat.zero_le _⟩) hS (fun _ h => h) (fun H locs hP hS _ _ => ?_)
              exact z_vret hx hb hr hlk hP hS dX4_heads_187 (congrArg (tW_X4 ad cI) (by unfold headsM headsF; rw [show blkF (S 0) side = blk from e_blk.symm]; rw [← e_fw, ← e_fr]; unfold headsB; first | (exfalso; omega) | (rw [if_pos ⟨by omega, by omega⟩]; simp only [writesM_eq, putM_eq, tellM_eq, endsM_eq, upR_eq, upR_upR, show 240 * (-side + 1) + 5 * blk + 3 + 5 = (5 * blk - 240 * side + 248 : Int) from by omega, show 8 * fr + 7 + 485 = (8 * fr + 492 : Int) from by omega]) | (rw [if_neg (by omega), if_pos (by omega)]; simp only [writesM_eq, putM_eq, tellM_eq, endsM_eq, upR_eq, upR_upR, show 240 * (-side + 1) + 5 * blk + 3 + 5 = (5 * blk - 240 * side + 248 : Int) from by omega, show 8 * fr + 7 + 485 = (8 * fr + 492 : Int) from by omega]) | (rw [if_neg (by omega), if_neg (by omega), if_pos ⟨by omega, by omega, by omega⟩]; simp only [writesM_eq, putM_eq, tellM_eq, endsM_eq, upR_eq, upR_upR, show 240 * (-side + 1) + 5 * blk + 3 + 5 = (5 * blk - 240 * side + 248 : Int) from by omega, show 8 * fr + 7 + 485 = (8 * fr + 492 : Int) from by omega]) | (rw [if_neg (by omega), if_neg (by omega), if_neg (by omega)]; exact (upR_self S 0).symm)))
      · refine lv_aload_n hx hb dX4_heads_87 rfl (lv_at hl 4 rfl) ?_
        refine lv_iload_n hx hb dX4_heads_88 rfl (lv_at hl 5 rfl) ?_
        refine lv_iload_n hx hb dX4_heads_89 rfl (lv_at hl 3 rfl) ?_
        refine lv_aload_n hx hb dX4_heads_90 rfl (lv_at hl 4 rfl) ?_
        refine lv_iload hx hb dX4_heads_91 (lv_at hl 1 rfl) ?_
        refine z_bipush (z := 7) hx hb dX4_heads_93 (by decide +kernel) ?_
        refine z_calli (va_runV (As := [.int (zI fw), .int (zI 7)]) (rest := [.int (zI blk), .int (zI side), .ref (ad 0)]) ⟨hx, hb, hml, hown, hts⟩ (k_X4_told l dC dI cI cQ A ad S hD fw 7 (by omega)) (cwV 2 hts gX4_heads_X4_told rfl rfl rfl (by decide +kernel) ⟨Nat.le_of_ble_eq_true rfl, Nat.le_of_ble_eq_true rfl⟩) (z_preV hK hP (ci := 4) (q0 := 0) rfl rfl rfl) rfl rfl hl.1 rfl (lv_room (Nat.le_of_ble_eq_true rfl)) dX4_heads_95 ⟨Nat.zero_le _, Nat.zero_le _⟩) hS (fun _ h => h) (fun H locs hP hS _ _ => ?_)
        refine z_top (y := S 0 (8 * fw + 492)) (by rw [show (8 * fw + 7 + 485) = (8 * fw + 492 : Int) from by omega]; first | done | exact rfl) ?_
        have b13 := hB 0 (8 * fw + 492) (by omega) (by omega) (by omega) (by omega)
        refine lv_aload_n hx hb dX4_heads_98 rfl (lv_at hl 4 rfl) ?_
        refine z_iconst hx hb dX4_heads_99 ?_
        refine lv_iload_n hx hb dX4_heads_100 rfl (lv_at hl 3 rfl) ?_
        refine z_iconst hx hb dX4_heads_101 ?_
        refine z_calli (va_runV (As := [.int (zI 0), .int (zI blk), .int (zI 1)]) (rest := [.int (zI (S 0 (8 * fw + 492))), .int (zI blk), .int (zI side), .ref (ad 0)]) ⟨hx, hb, hml, hown, hts⟩ (k_X4_of l dC dI cI cQ A ad S hD 0 blk 1 (by omega)) (cwV 3 hts gX4_heads_X4_of rfl rfl rfl (by decide +kernel) ⟨Nat.le_of_ble_eq_true rfl, Nat.le_of_ble_eq_true rfl⟩) (z_preV hK hP (ci := 4) (q0 := 0) rfl rfl rfl) rfl rfl hl.1 rfl (lv_room (Nat.le_of_ble_eq_true rfl)) dX4_heads_102 ⟨Nat.zero_le _, Nat.zero_le _⟩) hS (fun _ h => h) (fun H locs hP hS _ _ => ?_)
        refine z_top (y := S 0 (5 * blk + 6)) (by rw [show (240 * 0 + 5 * blk + 1 + 5) = (5 * blk + 6 : Int) from by omega]; first | done | exact rfl) ?_
        have b14 := hB 0 (5 * blk + 6) (by omega) (by omega) (by omega) (by omega)
        refine lv_aload_n hx hb dX4_heads_105 rfl (lv_at hl 4 rfl) ?_
        refine z_iconst hx hb dX4_heads_106 ?_
        refine lv_iload_n hx hb dX4_heads_107 rfl (lv_at hl 3 rfl) ?_
        refine z_iconst hx hb dX4_heads_108 ?_
        refine z_calli (va_runV (As := [.int (zI 1), .int (zI blk), .int (zI 1)]) (rest := [.int (zI (S 0 (5 * blk + 6))), .int (zI (S 0 (8 * fw + 492))), .int (zI blk), .int (zI side), .ref (ad 0)]) ⟨hx, hb, hml, hown, hts⟩ (k_X4_of l dC dI cI cQ A ad S hD 1 blk 1 (by omega)) (cwV 3 hts gX4_heads_X4_of rfl rfl rfl (by decide +kernel) ⟨Nat.le_of_ble_eq_true rfl, Nat.le_of_ble_eq_true rfl⟩) (z_preV hK hP (ci := 4) (q0 := 0) rfl rfl rfl) rfl rfl hl.1 rfl (lv_room (Nat.le_of_ble_eq_true rfl)) dX4_heads_109 ⟨Nat.zero_le _, Nat.zero_le _⟩) hS (fun _ h => h) (fun H locs hP hS _ _ => ?_)
        refine z_top (y := S 0 (5 * blk + 246)) (by rw [show (240 * 1 + 5 * blk + 1 + 5) = (5 * blk + 246 : Int) from by omega]; first | done | exact rfl) ?_
        have b15 := hB 0 (5 * blk + 246) (by omega) (by omega) (by omega) (by omega)
        refine z_calli (va_runS (As := [.int (zI (S 0 (5 * blk + 6))), .int (zI (S 0 (5 * blk + 246)))]) (rest := [.int (zI (S 0 (8 * fw + 492))), .int (zI blk), .int (zI side), .ref (ad 0)]) ⟨hx, hb, hml, hown, hts⟩ (k_X4_most l dC dI cI cQ A (tW_X4 ad cI S) (S 0 (5 * blk + 6)) (S 0 (5 * blk + 246)) (by omega) (by omega)) (va_cwS 2 hts gX4_heads_X4_most rfl rfl rfl (by decide +kernel) ⟨Nat.le_of_ble_eq_true rfl, Nat.le_of_ble_eq_true rfl⟩) (z_preS hK hP) rfl rfl hl.1 rfl (lv_room (Nat.le_of_ble_eq_true rfl)) dX4_heads_112 ⟨Nat.zero_le _, Nat.zero_le _⟩) hS (fun _ h => h) (fun H locs hP hS _ _ => ?_)
        refine z_iconst hx hb dX4_heads_115 ?_
        refine z_iadd hx hb dX4_heads_116 ?_
        refine z_callv (va_runV (As := [.int (zI side), .int (zI blk), .int (zI (S 0 (8 * fw + 492))), .int (zI ((max (S 0 (5 * blk + 6)) (S 0 (5 * blk + 246))) + 1))]) (rest := []) ⟨hx, hb, hml, hown, hts⟩ (k_X4_writes l dC dI cI cQ A ad S hD side blk (S 0 (8 * fw + 492)) ((max (S 0 (5 * blk + 6)) (S 0 (5 * blk + 246))) + 1) (by omega) (by omega)) (cwV 4 hts gX4_heads_X4_writes rfl rfl rfl (by decide +kernel) ⟨Nat.le_of_ble_eq_true rfl, Nat.le_of_ble_eq_true rfl⟩) (z_preV hK hP (ci := 4) (q0 := 0) rfl rfl rfl) rfl rfl hl.1 rfl (lv_room (Nat.le_of_ble_eq_true rfl)) dX4_heads_117 ⟨Nat.zero_le _, Nat.zero_le _⟩) hS (fun _ h => h) (fun H locs hP hS _ _ => ?_)
        refine lv_aload_n hx hb dX4_heads_120 rfl (lv_at hl 4 rfl) ?_
        refine lv_iload_n hx hb dX4_heads_121 rfl (lv_at hl 2 rfl) ?_
        refine lv_iload_n hx hb dX4_heads_122 rfl (lv_at hl 3 rfl) ?_
        refine z_iconst hx hb dX4_heads_123 ?_
        refine z_iconst hx hb dX4_heads_124 ?_
        refine z_callv (va_runV (As := [.int (zI (-side + 1)), .int (zI blk), .int (zI 3), .int (zI 1)]) (rest := []) ⟨hx, hb, hml, hown, hts⟩ (k_X4_put l dC dI cI cQ A ad (writesM S side blk (S 0 (8 * fw + 492)) ((max (S 0 (5 * blk + 6)) (S 0 (5 * blk + 246))) + 1)) hD (-side + 1) blk 3 1 (by omega)) (cwV 4 hts gX4_heads_X4_put rfl rfl rfl (by decide +kernel) ⟨Nat.le_of_ble_eq_true rfl, Nat.le_of_ble_eq_true rfl⟩) (z_preV hK hP (ci := 4) (q0 := 0) rfl rfl rfl) rfl rfl hl.1 rfl (lv_room (Nat.le_of_ble_eq_true rfl)) dX4_heads_125 ⟨Nat.zero_le _, Nat.zero_le _⟩) hS (fun _ h => h) (fun H locs hP hS _ _ => ?_)
        refine lv_aload_n hx hb dX4_heads_128 rfl (lv_at hl 4 rfl) ?_
        refine lv_iload hx hb dX4_heads_129 (lv_at hl 1 rfl) ?_
        refine lv_iload_n hx hb dX4_heads_131 rfl (lv_at hl 5 rfl) ?_
        refine z_callv (va_runV (As := [.int (zI fw), .int (zI side)]) (rest := []) ⟨hx, hb, hml, hown, hts⟩ (k_X4_ends l dC dI cI cQ A ad (putM (writesM S side blk (S 0 (8 * fw + 492)) ((max (S 0 (5 * blk + 6)) (S 0 (5 * blk + 246))) + 1)) (-side + 1) blk 3 1) hD fw side (by omega)) (cwV 2 hts gX4_heads_X4_ends rfl rfl rfl (by decide +kernel) ⟨Nat.le_of_ble_eq_true rfl, Nat.le_of_ble_eq_true rfl⟩) (z_preV hK hP (ci := 4) (q0 := 0) rfl rfl rfl) rfl rfl hl.1 rfl (lv_room (Nat.le_of_ble_eq_true rfl)) dX4_heads_132 ⟨Nat.zero_le _, Nat.zero_le _⟩) hS (fun _ h => h) (fun H locs hP hS _ _ => ?_)
        refine lv_goto (tgt := 187) hx hb dX4_heads_135 (by decide) ?_
        exact z_vret hx hb hr hlk hP hS dX4_heads_187 (congrArg (tW_X4 ad cI) (by unfold headsM headsF; rw [show blkF (S 0) side = blk from e_blk.symm]; rw [← e_fw, ← e_fr]; unfold headsB; first | (exfalso; omega) | (rw [if_pos ⟨by omega, by omega⟩]; simp only [writesM_eq, putM_eq, tellM_eq, endsM_eq, upR_eq, upR_upR, show 240 * (-side + 1) + 5 * blk + 3 + 5 = (5 * blk - 240 * side + 248 : Int) from by omega, show 8 * fr + 7 + 485 = (8 * fr + 492 : Int) from by omega]) | (rw [if_neg (by omega), if_pos (by omega)]; simp only [writesM_eq, putM_eq, tellM_eq, endsM_eq, upR_eq, upR_upR, show 240 * (-side + 1) + 5 * blk + 3 + 5 = (5 * blk - 240 * side + 248 : Int) from by omega, show 8 * fr + 7 + 485 = (8 * fr + 492 : Int) from by omega]) | (rw [if_neg (by omega), if_neg (by omega), if_pos ⟨by omega, by omega, by omega⟩]; simp only [writesM_eq, putM_eq, tellM_eq, endsM_eq, upR_eq, upR_upR, show 240 * (-side + 1) + 5 * blk + 3 + 5 = (5 * blk - 240 * side + 248 : Int) from by omega, show 8 * fr + 7 + 485 = (8 * fr + 492 : Int) from by omega]) | (rw [if_neg (by omega), if_neg (by omega), if_neg (by omega)]; exact (upR_self S 0).symm)))
    · refine lv_aload_n hx hb dX4_heads_57 rfl (lv_at hl 4 rfl) ?_
      refine lv_iload_n hx hb dX4_heads_58 rfl (lv_at hl 5 rfl) ?_
      refine lv_iload_n hx hb dX4_heads_59 rfl (lv_at hl 3 rfl) ?_
      refine lv_aload_n hx hb dX4_heads_60 rfl (lv_at hl 4 rfl) ?_
      refine lv_iload_n hx hb dX4_heads_61 rfl (lv_at hl 2 rfl) ?_
      refine lv_iload_n hx hb dX4_heads_62 rfl (lv_at hl 3 rfl) ?_
      refine z_iconst hx hb dX4_heads_63 ?_
      refine z_calli (va_runV (As := [.int (zI (-side + 1)), .int (zI blk), .int (zI 0)]) (rest := [.int (zI blk), .int (zI side), .ref (ad 0)]) ⟨hx, hb, hml, hown, hts⟩ (k_X4_of l dC dI cI cQ A ad S hD (-side + 1) blk 0 (by omega)) (cwV 3 hts gX4_heads_X4_of rfl rfl rfl (by decide +kernel) ⟨Nat.le_of_ble_eq_true rfl, Nat.le_of_ble_eq_true rfl⟩) (z_preV hK hP (ci := 4) (q0 := 0) rfl rfl rfl) rfl rfl hl.1 rfl (lv_room (Nat.le_of_ble_eq_true rfl)) dX4_heads_64 ⟨Nat.zero_le _, Nat.zero_le _⟩) hS (fun _ h => h) (fun H locs hP hS _ _ => ?_)
      refine z_top (y := S 0 (5 * blk - 240 * side + 245)) (by rw [show (240 * (-side + 1) + 5 * blk + 0 + 5) = (5 * blk - 240 * side + 245 : Int) from by omega]; first | done | exact rfl) ?_
      have b16 := hB 0 (5 * blk - 240 * side + 245) (by omega) (by omega) (by omega) (by omega)
      refine lv_aload_n hx hb dX4_heads_67 rfl (lv_at hl 4 rfl) ?_
      refine lv_iload_n hx hb dX4_heads_68 rfl (lv_at hl 2 rfl) ?_
      refine lv_iload_n hx hb dX4_heads_69 rfl (lv_at hl 3 rfl) ?_
      refine z_iconst hx hb dX4_heads_70 ?_
      refine z_calli (va_runV (As := [.int (zI (-side + 1)), .int (zI blk), .int (zI 1)]) (rest := [.int (zI (S 0 (5 * blk - 240 * side + 245))), .int (zI blk), .int (zI side), .ref (ad 0)]) ⟨hx, hb, hml, hown, hts⟩ (k_X4_of l dC dI cI cQ A ad S hD (-side + 1) blk 1 (by omega)) (cwV 3 hts gX4_heads_X4_of rfl rfl rfl (by decide +kernel) ⟨Nat.le_of_ble_eq_true rfl, Nat.le_of_ble_eq_true rfl⟩) (z_preV hK hP (ci := 4) (q0 := 0) rfl rfl rfl) rfl rfl hl.1 rfl (lv_room (Nat.le_of_ble_eq_true rfl)) dX4_heads_71 ⟨Nat.zero_le _, Nat.zero_le _⟩) hS (fun _ h => h) (fun H locs hP hS _ _ => ?_)
      refine z_top (y := S 0 (5 * blk - 240 * side + 246)) (by rw [show (240 * (-side + 1) + 5 * blk + 1 + 5) = (5 * blk - 240 * side + 246 : Int) from by omega]; first | done | exact rfl) ?_
      have b17 := hB 0 (5 * blk - 240 * side + 246) (by omega) (by omega) (by omega) (by omega)
      refine z_callv (va_runV (As := [.int (zI side), .int (zI blk), .int (zI (S 0 (5 * blk - 240 * side + 245))), .int (zI (S 0 (5 * blk - 240 * side + 246)))]) (rest := []) ⟨hx, hb, hml, hown, hts⟩ (k_X4_writes l dC dI cI cQ A ad S hD side blk (S 0 (5 * blk - 240 * side + 245)) (S 0 (5 * blk - 240 * side + 246)) (by omega) (by omega)) (cwV 4 hts gX4_heads_X4_writes rfl rfl rfl (by decide +kernel) ⟨Nat.le_of_ble_eq_true rfl, Nat.le_of_ble_eq_true rfl⟩) (z_preV hK hP (ci := 4) (q0 := 0) rfl rfl rfl) rfl rfl hl.1 rfl (lv_room (Nat.le_of_ble_eq_true rfl)) dX4_heads_74 ⟨Nat.zero_le _, Nat.zero_le _⟩) hS (fun _ h => h) (fun H locs hP hS _ _ => ?_)
      refine lv_goto (tgt := 187) hx hb dX4_heads_77 (by decide) ?_
      exact z_vret hx hb hr hlk hP hS dX4_heads_187 (congrArg (tW_X4 ad cI) (by unfold headsM headsF; rw [show blkF (S 0) side = blk from e_blk.symm]; rw [← e_fw, ← e_fr]; unfold headsB; first | (exfalso; omega) | (rw [if_pos ⟨by omega, by omega⟩]; simp only [writesM_eq, putM_eq, tellM_eq, endsM_eq, upR_eq, upR_upR, show 240 * (-side + 1) + 5 * blk + 3 + 5 = (5 * blk - 240 * side + 248 : Int) from by omega, show 8 * fr + 7 + 485 = (8 * fr + 492 : Int) from by omega]) | (rw [if_neg (by omega), if_pos (by omega)]; simp only [writesM_eq, putM_eq, tellM_eq, endsM_eq, upR_eq, upR_upR, show 240 * (-side + 1) + 5 * blk + 3 + 5 = (5 * blk - 240 * side + 248 : Int) from by omega, show 8 * fr + 7 + 485 = (8 * fr + 492 : Int) from by omega]) | (rw [if_neg (by omega), if_neg (by omega), if_pos ⟨by omega, by omega, by omega⟩]; simp only [writesM_eq, putM_eq, tellM_eq, endsM_eq, upR_eq, upR_upR, show 240 * (-side + 1) + 5 * blk + 3 + 5 = (5 * blk - 240 * side + 248 : Int) from by omega, show 8 * fr + 7 + 485 = (8 * fr + 492 : Int) from by omega]) | (rw [if_neg (by omega), if_neg (by omega), if_neg (by omega)]; exact (upR_self S 0).symm)))
theorem in_X4_passes : ∀ w ∈ wsX40, w ∈ wsX4_passes := fun w h => List.mem_cons_of_mem _ (List.mem_append_right _ h)
set_option maxHeartbeats 4000000 in
set_option maxRecDepth 100000 in
theorem k_X4_passes (l : Launch) (dC : Nat → ClassId) (dI : Nat → Nat → Nat) (cI cQ : ClassId) (A : Nat → Prop) (ad : Nat → Nat) (S : Nat → Int → Int) (hD : ∀ S, va_D A (tW_X4 ad cI S)) (hA : WFA (S 0)) (h2 : 0 < wkF (S 0) (S 0 1) → WFA (headsF (S 0) 0)) : Met l yX4_passes wsX4_passes ({ frames := 3, cells := 0, slots := 0, locals := 73 }) (zPc (dC, dI) vwCl (zT cI cQ) (tW_X4 ad cI S) [.ref (ad 0)]) (zQv (dC, dI) vwCl (tW_X4 ad cI (passesM S)) A) 0 0 A := by
  refine Met.ofW (cc := cX4_passes) (maxL := 2) (ret := none) (by decide) rfl ?_
  intro p e s m args below meth c s₁ B hml hv
  obtain ⟨rfl, hP, hK⟩ := hv
  have hx := B.exec
  have hb := B.bytes
  have hr := B.returns
  have hts := atoms_spec (ws := wsX4_passes) B.pre
  have hown : s.vm.findClass RX4 = some m.cls := findClass_of_methodNamed B.named
  have hlk := B.notSynchronized
  have hS : va_S A s.heap s.heap [] := va_S.rf
  have hl := lv_entry ([.ref (ad 0)]) (n := 2) (Nat.le_of_ble_eq_true rfl)
  rw [lg_entry_eq]
  generalize (lg_sl ([.ref (ad 0)]) ++ List.replicate (2 - (lg_sl ([.ref (ad 0)])).length) Slot.unset).toArray = ls at hl ⊢
  have hl : lv_has ls 2 [(0, .ref (ad 0))] := hl
  have hin : ∀ w ∈ wsX40, w ∈ wsX4_passes := in_X4_passes
  obtain ⟨hB0, hA0, hA1, hA2⟩ := id hA
  have hB : ∀ (k : Nat) (j : Int), 0 ≤ j → j < 965 → j ≠ 3 → j ≠ 4 → -1000000 ≤ S 0 j ∧ S 0 j ≤ 1000000 := fun _ j => hB0 j
  refine lv_aload_n hx hb dX4_passes_0 rfl (lv_at hl 0 rfl) ?_
  refine lv_aload_n hx hb dX4_passes_1 rfl (lv_at hl 0 rfl) ?_
  refine gx_X4_0 hx hb hts hin hown hK hP (hts _ (List.mem_of_getElem? (i := 1) rfl)) dX4_passes_2 ?_
  refine z_iconst hx hb dX4_passes_5 ?_
  refine ld_X4_0 (v := S 0 1) hx hb hK hP (by omega) rfl dX4_passes_6 ?_
  have b1 := hB 0 1 (by omega) (by omega) (by omega) (by omega)
  refine z_calli (va_runV (As := [.int (zI (S 0 1))]) (rest := []) ⟨hx, hb, hml, hown, hts⟩ (k_X4_hasWork l dC dI cI cQ A ad S hD (S 0 1) (by exact hA) (by omega)) (cwV 1 hts gX4_passes_X4_hasWork rfl rfl rfl (by decide +kernel) ⟨Nat.le_of_ble_eq_true rfl, Nat.le_of_ble_eq_true rfl⟩) (z_preV hK hP (ci := 4) (q0 := 0) rfl rfl rfl) rfl rfl hl.1 rfl (lv_room (Nat.le_of_ble_eq_true rfl)) dX4_passes_7 ⟨Nat.zero_le _, Nat.zero_le _⟩) hS (fun _ h => h) (fun H locs hP hS _ _ => ?_)
  refine z_ifb_eq (tgt := 26) hx hb dX4_passes_10 (by decide) (fun c1 => ?_) (fun c1 => ?_)
  · refine lv_aload_n hx hb dX4_passes_26 rfl (lv_at hl 0 rfl) ?_
    refine z_calli (va_runV (As := []) (rest := []) ⟨hx, hb, hml, hown, hts⟩ (k_X4_nearest l dC dI cI cQ A ad S hD (by exact hA)) (cwV 0 hts gX4_passes_X4_nearest rfl rfl rfl (by decide +kernel) ⟨Nat.le_of_ble_eq_true rfl, Nat.le_of_ble_eq_true rfl⟩) (z_preV hK hP (ci := 4) (q0 := 0) rfl rfl rfl) rfl rfl hl.1 rfl (lv_room (Nat.le_of_ble_eq_true rfl)) dX4_passes_27 ⟨Nat.zero_le _, Nat.zero_le _⟩) hS (fun _ h => h) (fun H locs hP hS _ _ => ?_)
    refine z_name (fun to e_to => ?_)
    refine lv_istore_n (lv' := [(1, .int (zI to)), (0, .ref (ad 0))]) hx hb dX4_passes_30 rfl hl (by decide) rfl (fun ls hl => ?_)
    have rgt := near_rng (S 0) 4
    rw [← e_to] at rgt
    refine lv_iload_n hx hb dX4_passes_31 rfl (lv_at hl 0 rfl) ?_
    refine z_bipush (z := (-9)) hx hb dX4_passes_32 (by decide +kernel) ?_
    refine z_icmp_eq (tgt := 71) hx hb dX4_passes_34 (by decide) (by omega) (by omega) (fun c2 => ?_) (fun c2 => ?_)
    · refine lv_aload_n hx hb dX4_passes_71 rfl (lv_at hl 1 rfl) ?_
      refine gx_X4_0 hx hb hts hin hown hK hP (hts _ (List.mem_of_getElem? (i := 1) rfl)) dX4_passes_72 ?_
      refine z_iconst hx hb dX4_passes_75 ?_
      refine lv_dup2_11 hx hb dX4_passes_76 rfl rfl ?_
      refine ld_X4_0 (v := S 0 0) hx hb hK hP (by omega) rfl dX4_passes_77 ?_
      have b2 := hB 0 0 (by omega) (by omega) (by omega) (by omega)
      refine z_iconst hx hb dX4_passes_78 ?_
      refine z_iadd hx hb dX4_passes_79 ?_
      refine z_top (y := S 0 0 + 1) (by omega) ?_
      refine st_X4_0 hx hb hK hP hD hS (by omega) dX4_passes_80 (fun H locs hP hS => ?_)
      exact z_vret hx hb hr hlk hP hS dX4_passes_81 (congrArg (tW_X4 ad cI) (by unfold passesM passesF passesH; first | (rw [if_pos (by omega)]; simp only [headsM, up2_def, upR_eq, upR_upR]) | (rw [if_neg (by omega)]; unfold mvF; rw [← e_to]; first | (rw [if_pos (by omega)]; rfl) | (rw [if_neg (by omega)]; (first | rw [if_pos (by omega)] | rw [if_neg (by omega)]); simp only [up2_def, upR_eq, upR_upR]; rfl))))
    · refine lv_aload_n hx hb dX4_passes_37 rfl (lv_at hl 1 rfl) ?_
      refine gx_X4_0 hx hb hts hin hown hK hP (hts _ (List.mem_of_getElem? (i := 1) rfl)) dX4_passes_38 ?_
      refine z_iconst hx hb dX4_passes_41 ?_
      refine lv_dup2_11 hx hb dX4_passes_42 rfl rfl ?_
      refine ld_X4_0 (v := S 0 1) hx hb hK hP (by omega) rfl dX4_passes_43 ?_
      have b3 := hB 0 1 (by omega) (by omega) (by omega) (by omega)
      refine lv_iload_n hx hb dX4_passes_44 rfl (lv_at hl 0 rfl) ?_
      refine lv_aload_n hx hb dX4_passes_45 rfl (lv_at hl 1 rfl) ?_
      refine gx_X4_0 hx hb hts hin hown hK hP (hts _ (List.mem_of_getElem? (i := 1) rfl)) dX4_passes_46 ?_
      refine z_iconst hx hb dX4_passes_49 ?_
      refine ld_X4_0 (v := S 0 1) hx hb hK hP (by omega) rfl dX4_passes_50 ?_
      have b4 := hB 0 1 (by omega) (by omega) (by omega) (by omega)
      refine z_icmp_le (tgt := 58) hx hb dX4_passes_51 (by decide) (by omega) (by omega) (fun c3 => ?_) (fun c3 => ?_)
      · refine z_iconst hx hb dX4_passes_58 ?_
        refine z_iadd hx hb dX4_passes_59 ?_
        refine z_top (y := S 0 1 - 1) (by omega) ?_
        refine st_X4_0 hx hb hK hP hD hS (by omega) dX4_passes_60 (fun H locs hP hS => ?_)
        refine lv_aload_n hx hb dX4_passes_61 rfl (lv_at hl 1 rfl) ?_
        refine gx_X4_0 hx hb hts hin hown hK hP (hts _ (List.mem_of_getElem? (i := 1) rfl)) dX4_passes_62 ?_
        refine z_iconst hx hb dX4_passes_65 ?_
        refine lv_dup2_11 hx hb dX4_passes_66 rfl rfl ?_
        refine ld_X4_0 (v := S 0 4) hx hb hK hP (by omega) (((up2_ne (by omega)).trans (rfl))) dX4_passes_67 ?_
        refine z_iconst hx hb dX4_passes_68 ?_
        refine z_iadd hx hb dX4_passes_69 ?_
        refine z_top (y := S 0 4 + 1) (by omega) ?_
        refine st_X4_0 hx hb hK hP hD hS (by omega) dX4_passes_70 (fun H locs hP hS => ?_)
        refine lv_aload_n hx hb dX4_passes_71 rfl (lv_at hl 1 rfl) ?_
        refine gx_X4_0 hx hb hts hin hown hK hP (hts _ (List.mem_of_getElem? (i := 1) rfl)) dX4_passes_72 ?_
        refine z_iconst hx hb dX4_passes_75 ?_
        refine lv_dup2_11 hx hb dX4_passes_76 rfl rfl ?_
        refine ld_X4_0 (v := S 0 0) hx hb hK hP (by omega) (((up2_ne (by omega)).trans (((up2_ne (by omega)).trans (rfl))))) dX4_passes_77 ?_
        have b6 := hB 0 0 (by omega) (by omega) (by omega) (by omega)
        refine z_iconst hx hb dX4_passes_78 ?_
        refine z_iadd hx hb dX4_passes_79 ?_
        refine z_top (y := S 0 0 + 1) (by omega) ?_
        refine st_X4_0 hx hb hK hP hD hS (by omega) dX4_passes_80 (fun H locs hP hS => ?_)
        exact z_vret hx hb hr hlk hP hS dX4_passes_81 (congrArg (tW_X4 ad cI) (by unfold passesM passesF passesH; first | (rw [if_pos (by omega)]; simp only [headsM, up2_def, upR_eq, upR_upR]) | (rw [if_neg (by omega)]; unfold mvF; rw [← e_to]; first | (rw [if_pos (by omega)]; rfl) | (rw [if_neg (by omega)]; (first | rw [if_pos (by omega)] | rw [if_neg (by omega)]); simp only [up2_def, upR_eq, upR_upR]; rfl))))
      · refine z_iconst hx hb dX4_passes_54 ?_
        refine lv_goto (tgt := 59) hx hb dX4_passes_55 (by decide) ?_
        refine z_iadd hx hb dX4_passes_59 ?_
        refine z_top (y := S 0 1 + 1) (by omega) ?_
        refine st_X4_0 hx hb hK hP hD hS (by omega) dX4_passes_60 (fun H locs hP hS => ?_)
        refine lv_aload_n hx hb dX4_passes_61 rfl (lv_at hl 1 rfl) ?_
        refine gx_X4_0 hx hb hts hin hown hK hP (hts _ (List.mem_of_getElem? (i := 1) rfl)) dX4_passes_62 ?_
        refine z_iconst hx hb dX4_passes_65 ?_
        refine lv_dup2_11 hx hb dX4_passes_66 rfl rfl ?_
        refine ld_X4_0 (v := S 0 4) hx hb hK hP (by omega) (((up2_ne (by omega)).trans (rfl))) dX4_passes_67 ?_
        refine z_iconst hx hb dX4_passes_68 ?_
        refine z_iadd hx hb dX4_passes_69 ?_
        refine z_top (y := S 0 4 + 1) (by omega) ?_
        refine st_X4_0 hx hb hK hP hD hS (by omega) dX4_passes_70 (fun H locs hP hS => ?_)
        refine lv_aload_n hx hb dX4_passes_71 rfl (lv_at hl 1 rfl) ?_
        refine gx_X4_0 hx hb hts hin hown hK hP (hts _ (List.mem_of_getElem? (i := 1) rfl)) dX4_passes_72 ?_
        refine z_iconst hx hb dX4_passes_75 ?_
        refine lv_dup2_11 hx hb dX4_passes_76 rfl rfl ?_
        refine ld_X4_0 (v := S 0 0) hx hb hK hP (by omega) (((up2_ne (by omega)).trans (((up2_ne (by omega)).trans (rfl))))) dX4_passes_77 ?_
        have b8 := hB 0 0 (by omega) (by omega) (by omega) (by omega)
        refine z_iconst hx hb dX4_passes_78 ?_
        refine z_iadd hx hb dX4_passes_79 ?_
        refine z_top (y := S 0 0 + 1) (by omega) ?_
        refine st_X4_0 hx hb hK hP hD hS (by omega) dX4_passes_80 (fun H locs hP hS => ?_)
        exact z_vret hx hb hr hlk hP hS dX4_passes_81 (congrArg (tW_X4 ad cI) (by unfold passesM passesF passesH; first | (rw [if_pos (by omega)]; simp only [headsM, up2_def, upR_eq, upR_upR]) | (rw [if_neg (by omega)]; unfold mvF; rw [← e_to]; first | (rw [if_pos (by omega)]; rfl) | (rw [if_neg (by omega)]; (first | rw [if_pos (by omega)] | rw [if_neg (by omega)]); simp only [up2_def, upR_eq, upR_upR]; rfl))))
  · refine lv_aload_n hx hb dX4_passes_13 rfl (lv_at hl 0 rfl) ?_
    refine z_iconst hx hb dX4_passes_14 ?_
    refine z_callv (va_runV (As := [.int (zI 0)]) (rest := []) ⟨hx, hb, hml, hown, hts⟩ (k_X4_heads l dC dI cI cQ A ad S hD 0 (by first | exact hA | exact h2 (by omega)) (by omega)) (cwV 1 hts gX4_passes_X4_heads rfl rfl rfl (by decide +kernel) ⟨Nat.le_of_ble_eq_true rfl, Nat.le_of_ble_eq_true rfl⟩) (z_preV hK hP (ci := 4) (q0 := 0) rfl rfl rfl) rfl rfl hl.1 rfl (lv_room (Nat.le_of_ble_eq_true rfl)) dX4_passes_15 ⟨Nat.zero_le _, Nat.zero_le _⟩) hS (fun _ h => h) (fun H locs hP hS _ _ => ?_)
    refine lv_aload_n hx hb dX4_passes_18 rfl (lv_at hl 0 rfl) ?_
    refine z_iconst hx hb dX4_passes_19 ?_
    refine z_callv (va_runV (As := [.int (zI 1)]) (rest := []) ⟨hx, hb, hml, hown, hts⟩ (k_X4_heads l dC dI cI cQ A ad (headsM S 0) hD 1 (by first | exact hA | exact h2 (by omega)) (by omega)) (cwV 1 hts gX4_passes_X4_heads rfl rfl rfl (by decide +kernel) ⟨Nat.le_of_ble_eq_true rfl, Nat.le_of_ble_eq_true rfl⟩) (z_preV hK hP (ci := 4) (q0 := 0) rfl rfl rfl) rfl rfl hl.1 rfl (lv_room (Nat.le_of_ble_eq_true rfl)) dX4_passes_20 ⟨Nat.zero_le _, Nat.zero_le _⟩) hS (fun _ h => h) (fun H locs hP hS _ _ => ?_)
    refine lv_goto (tgt := 71) hx hb dX4_passes_23 (by decide) ?_
    refine lv_aload_n hx hb dX4_passes_71 rfl (lv_at hl 0 rfl) ?_
    refine gx_X4_0 hx hb hts hin hown hK hP (hts _ (List.mem_of_getElem? (i := 1) rfl)) dX4_passes_72 ?_
    refine z_iconst hx hb dX4_passes_75 ?_
    refine lv_dup2_11 hx hb dX4_passes_76 rfl rfl ?_
    refine ld_X4_0 (v := (headsM (headsM S 0) 1) 0 0) hx hb hK hP (by omega) rfl dX4_passes_77 ?_
    refine z_iconst hx hb dX4_passes_78 ?_
    refine z_iadd hx hb dX4_passes_79 ?_
    refine z_top (y := (headsM (headsM S 0) 1) 0 0 + 1) (by omega) ?_
    refine st_X4_0 hx hb hK hP hD hS (by omega) dX4_passes_80 (fun H locs hP hS => ?_)
    exact z_vret hx hb hr hlk hP hS dX4_passes_81 (congrArg (tW_X4 ad cI) (by unfold passesM passesF passesH; first | (rw [if_pos (by omega)]; simp only [headsM, up2_def, upR_eq, upR_upR]) | (rw [if_neg (by omega)]; unfold mvF; rw [← e_to]; first | (rw [if_pos (by omega)]; rfl) | (rw [if_neg (by omega)]; (first | rw [if_pos (by omega)] | rw [if_neg (by omega)]); simp only [up2_def, upR_eq, upR_upR]; rfl))))
