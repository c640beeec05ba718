set_option maxHeartbeats 4000000 in
set_option maxRecDepth 100000 in
theorem k_X1_isBlock (l : Launch) (dC : Nat → ClassId) (dI : Nat → Nat → Nat) (cI cQ : ClassId) (A : Nat → Prop) (ws : va_W) (tr se : Int) (q0 : -2147483648 ≤ tr ∧ tr < 2147483648) (q1 : -2147483648 ≤ se ∧ se < 2147483648) : Met l yX1_isBlock wsX1_isBlock ({ frames := 0, cells := 0, slots := 0, locals := 0 }) (zPc (dC, dI) vwCl (zT cI cQ) ws [.int (zI tr), .int (zI se)]) (zQi (dC, dI) vwCl ws (if 0 ≤ tr ∧ tr < 4 ∧ 0 ≤ se ∧ se < 12 then 1 else 0) A) 0 0 A := by
  refine Met.ofW (cc := cX1_isBlock) (maxL := 2) (ret := (some .boolean)) (by decide) rfl ?_
  intro p e s m args below meth c s₁ B hml hv
  obtain ⟨rfl, hP, hK⟩ := hv
  have hx := B.exec
  have hb := B.bytes
  have hr := B.returns
  have hts := atoms_spec (ws := wsX1_isBlock) B.pre
  have hown : s.vm.findClass RX1 = some m.cls := findClass_of_methodNamed B.named
  have hlk := B.notSynchronized
  have hS : va_S A s.heap s.heap [] := va_S.rf
  have hl := lv_entry ([.int (zI tr), .int (zI se)]) (n := 2) (Nat.le_of_ble_eq_true rfl)
  rw [lg_entry_eq]
  generalize (lg_sl ([.int (zI tr), .int (zI se)]) ++ List.replicate (2 - (lg_sl ([.int (zI tr), .int (zI se)])).length) Slot.unset).toArray = ls at hl ⊢
  have hl : lv_has ls 2 [(0, .int (zI tr)), (1, .int (zI se))] := hl
  refine lv_iload_n hx hb dX1_isBlock_0 rfl (lv_at hl 0 rfl) ?_
  refine z_if_lt (tgt := 23) hx hb dX1_isBlock_1 (by decide) (by omega) (fun c1 => ?_) (fun c1 => ?_)
  · refine z_iconst hx hb dX1_isBlock_23 ?_
    exact z_zret hx hb hr hlk hP hS dX1_isBlock_24 (by omega) (by first | rw [if_pos (by omega)] | rw [if_neg (by omega)]) rfl
  · refine lv_iload_n hx hb dX1_isBlock_4 rfl (lv_at hl 0 rfl) ?_
    refine z_iconst hx hb dX1_isBlock_5 ?_
    refine z_icmp_ge (tgt := 23) hx hb dX1_isBlock_6 (by decide) (by omega) (by omega) (fun c2 => ?_) (fun c2 => ?_)
    · refine z_iconst hx hb dX1_isBlock_23 ?_
      exact z_zret hx hb hr hlk hP hS dX1_isBlock_24 (by omega) (by first | rw [if_pos (by omega)] | rw [if_neg (by omega)]) rfl
    · refine lv_iload_n hx hb dX1_isBlock_9 rfl (lv_at hl 1 rfl) ?_
      refine z_if_lt (tgt := 23) hx hb dX1_isBlock_10 (by decide) (by omega) (fun c3 => ?_) (fun c3 => ?_)
      · refine z_iconst hx hb dX1_isBlock_23 ?_
        exact z_zret hx hb hr hlk hP hS dX1_isBlock_24 (by omega) (by first | rw [if_pos (by omega)] | rw [if_neg (by omega)]) rfl
      · refine lv_iload_n hx hb dX1_isBlock_13 rfl (lv_at hl 1 rfl) ?_
        refine z_bipush (z := 12) hx hb dX1_isBlock_14 (by decide +kernel) ?_
        refine z_icmp_ge (tgt := 23) hx hb dX1_isBlock_16 (by decide) (by omega) (by omega) (fun c4 => ?_) (fun c4 => ?_)
        · refine z_iconst hx hb dX1_isBlock_23 ?_
          exact z_zret hx hb hr hlk hP hS dX1_isBlock_24 (by omega) (by first | rw [if_pos (by omega)] | rw [if_neg (by omega)]) rfl
        · refine z_iconst hx hb dX1_isBlock_19 ?_
          refine lv_goto (tgt := 24) hx hb dX1_isBlock_20 (by decide) ?_
          exact z_zret hx hb hr hlk hP hS dX1_isBlock_24 (by omega) (by first | rw [if_pos (by omega)] | rw [if_neg (by omega)]) rfl
set_option maxHeartbeats 4000000 in
set_option maxRecDepth 100000 in
theorem k_X1_blockAt (l : Launch) (dC : Nat → ClassId) (dI : Nat → Nat → Nat) (cI cQ : ClassId) (A : Nat → Prop) (ws : va_W) (tr se : Int) : Met l yX1_blockAt wsX1_blockAt ({ frames := 0, cells := 0, slots := 0, locals := 0 }) (zPc (dC, dI) vwCl (zT cI cQ) ws [.int (zI tr), .int (zI se)]) (zQi (dC, dI) vwCl ws (12 * tr + se) A) 0 0 A := by
  refine Met.ofW (cc := cX1_blockAt) (maxL := 2) (ret := (some .int)) (by decide) rfl ?_
  intro p e s m args below meth c s₁ B hml hv
  obtain ⟨rfl, hP, hK⟩ := hv
  have hx := B.exec
  have hb := B.bytes
  have hr := B.returns
  have hts := atoms_spec (ws := wsX1_blockAt) B.pre
  have hown : s.vm.findClass RX1 = some m.cls := findClass_of_methodNamed B.named
  have hlk := B.notSynchronized
  have hS : va_S A s.heap s.heap [] := va_S.rf
  have hl := lv_entry ([.int (zI tr), .int (zI se)]) (n := 2) (Nat.le_of_ble_eq_true rfl)
  rw [lg_entry_eq]
  generalize (lg_sl ([.int (zI tr), .int (zI se)]) ++ List.replicate (2 - (lg_sl ([.int (zI tr), .int (zI se)])).length) Slot.unset).toArray = ls at hl ⊢
  have hl : lv_has ls 2 [(0, .int (zI tr)), (1, .int (zI se))] := hl
  refine lv_iload_n hx hb dX1_blockAt_0 rfl (lv_at hl 0 rfl) ?_
  refine z_bipush (z := 12) hx hb dX1_blockAt_1 (by decide +kernel) ?_
  refine z_imul hx hb dX1_blockAt_3 ?_
  refine z_top (y := 12 * tr) (by omega) ?_
  refine lv_iload_n hx hb dX1_blockAt_4 rfl (lv_at hl 1 rfl) ?_
  refine z_iadd hx hb dX1_blockAt_5 ?_
  refine z_top (y := 12 * tr + se) (by omega) ?_
  exact z_iret hx hb hr hlk hP hS dX1_blockAt_6 rfl rfl
set_option maxHeartbeats 4000000 in
set_option maxRecDepth 100000 in
theorem k_X1_cellOf (l : Launch) (dC : Nat → ClassId) (dI : Nat → Nat → Nat) (cI cQ : ClassId) (A : Nat → Prop) (ws : va_W) (side block : Int) : Met l yX1_cellOf wsX1_cellOf ({ frames := 0, cells := 0, slots := 0, locals := 0 }) (zPc (dC, dI) vwCl (zT cI cQ) ws [.int (zI side), .int (zI block)]) (zQi (dC, dI) vwCl ws (192 * side + 4 * block) A) 0 0 A := by
  refine Met.ofW (cc := cX1_cellOf) (maxL := 2) (ret := (some .int)) (by decide) rfl ?_
  intro p e s m args below meth c s₁ B hml hv
  obtain ⟨rfl, hP, hK⟩ := hv
  have hx := B.exec
  have hb := B.bytes
  have hr := B.returns
  have hts := atoms_spec (ws := wsX1_cellOf) B.pre
  have hown : s.vm.findClass RX1 = some m.cls := findClass_of_methodNamed B.named
  have hlk := B.notSynchronized
  have hS : va_S A s.heap s.heap [] := va_S.rf
  have hl := lv_entry ([.int (zI side), .int (zI block)]) (n := 2) (Nat.le_of_ble_eq_true rfl)
  rw [lg_entry_eq]
  generalize (lg_sl ([.int (zI side), .int (zI block)]) ++ List.replicate (2 - (lg_sl ([.int (zI side), .int (zI block)])).length) Slot.unset).toArray = ls at hl ⊢
  have hl : lv_has ls 2 [(0, .int (zI side)), (1, .int (zI block))] := hl
  refine lv_iload_n hx hb dX1_cellOf_0 rfl (lv_at hl 0 rfl) ?_
  refine z_bipush (z := 48) hx hb dX1_cellOf_1 (by decide +kernel) ?_
  refine z_imul hx hb dX1_cellOf_3 ?_
  refine z_top (y := 48 * side) (by omega) ?_
  refine lv_iload_n hx hb dX1_cellOf_4 rfl (lv_at hl 1 rfl) ?_
  refine z_iadd hx hb dX1_cellOf_5 ?_
  refine z_top (y := 48 * side + block) (by omega) ?_
  refine z_iconst hx hb dX1_cellOf_6 ?_
  refine z_imul hx hb dX1_cellOf_7 ?_
  refine z_top (y := 192 * side + 4 * block) (by omega) ?_
  exact z_iret hx hb hr hlk hP hS dX1_cellOf_8 rfl rfl
theorem in_X1_tick : ∀ w ∈ wsX10, w ∈ wsX1_tick := fun w h => List.mem_cons_of_mem _ (List.mem_append_right _ h)
set_option maxHeartbeats 4000000 in
set_option maxRecDepth 100000 in
theorem k_X1_tick (l : Launch) (dC : Nat → ClassId) (dI : Nat → Nat → Nat) (cI cQ : ClassId) (A : Nat → Prop) (ad : Nat → Nat) (S : Nat → Int → Int) (hD : ∀ S, va_D A (tW_X1 ad cI S)) : Met l yX1_tick wsX1_tick ({ frames := 0, cells := 0, slots := 0, locals := 0 }) (zPc (dC, dI) vwCl (zT cI cQ) (tW_X1 ad cI S) [.ref (ad 0)]) (zQi (dC, dI) vwCl (tW_X1 ad cI S) (S 5 0) A) 0 0 A := by
  refine Met.ofW (cc := cX1_tick) (maxL := 1) (ret := (some .int)) (by decide) rfl ?_
  intro p e s m args below meth c s₁ B hml hv
  obtain ⟨rfl, hP, hK⟩ := hv
  have hx := B.exec
  have hb := B.bytes
  have hr := B.returns
  have hts := atoms_spec (ws := wsX1_tick) B.pre
  have hown : s.vm.findClass RX1 = some m.cls := findClass_of_methodNamed B.named
  have hlk := B.notSynchronized
  have hS : va_S A s.heap s.heap [] := va_S.rf
  have hl := lv_entry ([.ref (ad 0)]) (n := 1) (Nat.le_of_ble_eq_true rfl)
  rw [lg_entry_eq]
  generalize (lg_sl ([.ref (ad 0)]) ++ List.replicate (1 - (lg_sl ([.ref (ad 0)])).length) Slot.unset).toArray = ls at hl ⊢
  have hl : lv_has ls 1 [(0, .ref (ad 0))] := hl
  have hin : ∀ w ∈ wsX10, w ∈ wsX1_tick := in_X1_tick
  refine lv_aload_n hx hb dX1_tick_0 rfl (lv_at hl 0 rfl) ?_
  refine gx_X1_5 hx hb hts hin hown hK hP (hts _ (List.mem_of_getElem? (i := 1) rfl)) dX1_tick_1 ?_
  exact z_iret hx hb hr hlk hP hS dX1_tick_4 rfl rfl
theorem in_X1_arm : ∀ w ∈ wsX10, w ∈ wsX1_arm := fun w h => List.mem_cons_of_mem _ (List.mem_append_right _ h)
set_option maxHeartbeats 4000000 in
set_option maxRecDepth 100000 in
theorem k_X1_arm (l : Launch) (dC : Nat → ClassId) (dI : Nat → Nat → Nat) (cI cQ : ClassId) (A : Nat → Prop) (ad : Nat → Nat) (S : Nat → Int → Int) (hD : ∀ S, va_D A (tW_X1 ad cI S)) : Met l yX1_arm wsX1_arm ({ frames := 0, cells := 0, slots := 0, locals := 0 }) (zPc (dC, dI) vwCl (zT cI cQ) (tW_X1 ad cI S) [.ref (ad 0)]) (zQi (dC, dI) vwCl (tW_X1 ad cI S) (S 6 0) A) 0 0 A := by
  refine Met.ofW (cc := cX1_arm) (maxL := 1) (ret := (some .int)) (by decide) rfl ?_
  intro p e s m args below meth c s₁ B hml hv
  obtain ⟨rfl, hP, hK⟩ := hv
  have hx := B.exec
  have hb := B.bytes
  have hr := B.returns
  have hts := atoms_spec (ws := wsX1_arm) B.pre
  have hown : s.vm.findClass RX1 = some m.cls := findClass_of_methodNamed B.named
  have hlk := B.notSynchronized
  have hS : va_S A s.heap s.heap [] := va_S.rf
  have hl := lv_entry ([.ref (ad 0)]) (n := 1) (Nat.le_of_ble_eq_true rfl)
  rw [lg_entry_eq]
  generalize (lg_sl ([.ref (ad 0)]) ++ List.replicate (1 - (lg_sl ([.ref (ad 0)])).length) Slot.unset).toArray = ls at hl ⊢
  have hl : lv_has ls 1 [(0, .ref (ad 0))] := hl
  have hin : ∀ w ∈ wsX10, w ∈ wsX1_arm := in_X1_arm
  refine lv_aload_n hx hb dX1_arm_0 rfl (lv_at hl 0 rfl) ?_
  refine gx_X1_6 hx hb hts hin hown hK hP (hts _ (List.mem_of_getElem? (i := 1) rfl)) dX1_arm_1 ?_
  exact z_iret hx hb hr hlk hP hS dX1_arm_4 rfl rfl
theorem in_X1_taken : ∀ w ∈ wsX10, w ∈ wsX1_taken := fun w h => List.mem_cons_of_mem _ (List.mem_append_right _ h)
set_option maxHeartbeats 4000000 in
set_option maxRecDepth 100000 in
theorem k_X1_taken (l : Launch) (dC : Nat → ClassId) (dI : Nat → Nat → Nat) (cI cQ : ClassId) (A : Nat → Prop) (ad : Nat → Nat) (S : Nat → Int → Int) (hD : ∀ S, va_D A (tW_X1 ad cI S)) : Met l yX1_taken wsX1_taken ({ frames := 0, cells := 0, slots := 0, locals := 0 }) (zPc (dC, dI) vwCl (zT cI cQ) (tW_X1 ad cI S) [.ref (ad 0)]) (zQi (dC, dI) vwCl (tW_X1 ad cI S) (S 7 0) A) 0 0 A := by
  refine Met.ofW (cc := cX1_taken) (maxL := 1) (ret := (some .int)) (by decide) rfl ?_
  intro p e s m args below meth c s₁ B hml hv
  obtain ⟨rfl, hP, hK⟩ := hv
  have hx := B.exec
  have hb := B.bytes
  have hr := B.returns
  have hts := atoms_spec (ws := wsX1_taken) B.pre
  have hown : s.vm.findClass RX1 = some m.cls := findClass_of_methodNamed B.named
  have hlk := B.notSynchronized
  have hS : va_S A s.heap s.heap [] := va_S.rf
  have hl := lv_entry ([.ref (ad 0)]) (n := 1) (Nat.le_of_ble_eq_true rfl)
  rw [lg_entry_eq]
  generalize (lg_sl ([.ref (ad 0)]) ++ List.replicate (1 - (lg_sl ([.ref (ad 0)])).length) Slot.unset).toArray = ls at hl ⊢
  have hl : lv_has ls 1 [(0, .ref (ad 0))] := hl
  have hin : ∀ w ∈ wsX10, w ∈ wsX1_taken := in_X1_taken
  refine lv_aload_n hx hb dX1_taken_0 rfl (lv_at hl 0 rfl) ?_
  refine gx_X1_7 hx hb hts hin hown hK hP (hts _ (List.mem_of_getElem? (i := 1) rfl)) dX1_taken_1 ?_
  exact z_iret hx hb hr hlk hP hS dX1_taken_4 rfl rfl
theorem in_X1_wiped : ∀ w ∈ wsX10, w ∈ wsX1_wiped := fun w h => List.mem_cons_of_mem _ (List.mem_append_right _ h)
set_option maxHeartbeats 4000000 in
set_option maxRecDepth 100000 in
theorem k_X1_wiped (l : Launch) (dC : Nat → ClassId) (dI : Nat → Nat → Nat) (cI cQ : ClassId) (A : Nat → Prop) (ad : Nat → Nat) (S : Nat → Int → Int) (hD : ∀ S, va_D A (tW_X1 ad cI S)) : Met l yX1_wiped wsX1_wiped ({ frames := 0, cells := 0, slots := 0, locals := 0 }) (zPc (dC, dI) vwCl (zT cI cQ) (tW_X1 ad cI S) [.ref (ad 0)]) (zQi (dC, dI) vwCl (tW_X1 ad cI S) (S 9 0) A) 0 0 A := by
  refine Met.ofW (cc := cX1_wiped) (maxL := 1) (ret := (some .int)) (by decide) rfl ?_
  intro p e s m args below meth c s₁ B hml hv
  obtain ⟨rfl, hP, hK⟩ := hv
  have hx := B.exec
  have hb := B.bytes
  have hr := B.returns
  have hts := atoms_spec (ws := wsX1_wiped) B.pre
  have hown : s.vm.findClass RX1 = some m.cls := findClass_of_methodNamed B.named
  have hlk := B.notSynchronized
  have hS : va_S A s.heap s.heap [] := va_S.rf
  have hl := lv_entry ([.ref (ad 0)]) (n := 1) (Nat.le_of_ble_eq_true rfl)
  rw [lg_entry_eq]
  generalize (lg_sl ([.ref (ad 0)]) ++ List.replicate (1 - (lg_sl ([.ref (ad 0)])).length) Slot.unset).toArray = ls at hl ⊢
  have hl : lv_has ls 1 [(0, .ref (ad 0))] := hl
  have hin : ∀ w ∈ wsX10, w ∈ wsX1_wiped := in_X1_wiped
  refine lv_aload_n hx hb dX1_wiped_0 rfl (lv_at hl 0 rfl) ?_
  refine gx_X1_9 hx hb hts hin hown hK hP (hts _ (List.mem_of_getElem? (i := 1) rfl)) dX1_wiped_1 ?_
  exact z_iret hx hb hr hlk hP hS dX1_wiped_4 rfl rfl
theorem in_X1_moves : ∀ w ∈ wsX10, w ∈ wsX1_moves := fun w h => List.mem_cons_of_mem _ (List.mem_append_right _ h)
set_option maxHeartbeats 4000000 in
set_option maxRecDepth 100000 in
theorem k_X1_moves (l : Launch) (dC : Nat → ClassId) (dI : Nat → Nat → Nat) (cI cQ : ClassId) (A : Nat → Prop) (ad : Nat → Nat) (S : Nat → Int → Int) (hD : ∀ S, va_D A (tW_X1 ad cI S)) : Met l yX1_moves wsX1_moves ({ frames := 0, cells := 0, slots := 0, locals := 0 }) (zPc (dC, dI) vwCl (zT cI cQ) (tW_X1 ad cI S) [.ref (ad 0)]) (zQi (dC, dI) vwCl (tW_X1 ad cI S) (S 10 0) A) 0 0 A := by
  refine Met.ofW (cc := cX1_moves) (maxL := 1) (ret := (some .int)) (by decide) rfl ?_
  intro p e s m args below meth c s₁ B hml hv
  obtain ⟨rfl, hP, hK⟩ := hv
  have hx := B.exec
  have hb := B.bytes
  have hr := B.returns
  have hts := atoms_spec (ws := wsX1_moves) B.pre
  have hown : s.vm.findClass RX1 = some m.cls := findClass_of_methodNamed B.named
  have hlk := B.notSynchronized
  have hS : va_S A s.heap s.heap [] := va_S.rf
  have hl := lv_entry ([.ref (ad 0)]) (n := 1) (Nat.le_of_ble_eq_true rfl)
  rw [lg_entry_eq]
  generalize (lg_sl ([.ref (ad 0)]) ++ List.replicate (1 - (lg_sl ([.ref (ad 0)])).length) Slot.unset).toArray = ls at hl ⊢
  have hl : lv_has ls 1 [(0, .ref (ad 0))] := hl
  have hin : ∀ w ∈ wsX10, w ∈ wsX1_moves := in_X1_moves
  refine lv_aload_n hx hb dX1_moves_0 rfl (lv_at hl 0 rfl) ?_
  refine gx_X1_10 hx hb hts hin hown hK hP (hts _ (List.mem_of_getElem? (i := 1) rfl)) dX1_moves_1 ?_
  exact z_iret hx hb hr hlk hP hS dX1_moves_4 rfl rfl
theorem in_X1_ofOrder : ∀ w ∈ wsX10, w ∈ wsX1_ofOrder := fun w h => List.mem_cons_of_mem _ (List.mem_append_right _ h)
set_option maxHeartbeats 4000000 in
set_option maxRecDepth 100000 in
theorem k_X1_ofOrder (l : Launch) (dC : Nat → ClassId) (dI : Nat → Nat → Nat) (cI cQ : ClassId) (A : Nat → Prop) (ad : Nat → Nat) (S : Nat → Int → Int) (hD : ∀ S, va_D A (tW_X1 ad cI S)) (o pr : Int) (h : 0 ≤ 8 * o + pr ∧ 8 * o + pr < 480) : Met l yX1_ofOrder wsX1_ofOrder ({ frames := 0, cells := 0, slots := 0, locals := 0 }) (zPc (dC, dI) vwCl (zT cI cQ) (tW_X1 ad cI S) [.ref (ad 0), .int (zI o), .int (zI pr)]) (zQi (dC, dI) vwCl (tW_X1 ad cI S) (S 1 (8 * o + pr)) A) 0 0 A := by
  refine Met.ofW (cc := cX1_ofOrder) (maxL := 3) (ret := (some .int)) (by decide) rfl ?_
  intro p e s m args below meth c s₁ B hml hv
  obtain ⟨rfl, hP, hK⟩ := hv
  have hx := B.exec
  have hb := B.bytes
  have hr := B.returns
  have hts := atoms_spec (ws := wsX1_ofOrder) B.pre
  have hown : s.vm.findClass RX1 = some m.cls := findClass_of_methodNamed B.named
  have hlk := B.notSynchronized
  have hS : va_S A s.heap s.heap [] := va_S.rf
  have hl := lv_entry ([.ref (ad 0), .int (zI o), .int (zI pr)]) (n := 3) (Nat.le_of_ble_eq_true rfl)
  rw [lg_entry_eq]
  generalize (lg_sl ([.ref (ad 0), .int (zI o), .int (zI pr)]) ++ List.replicate (3 - (lg_sl ([.ref (ad 0), .int (zI o), .int (zI pr)])).length) Slot.unset).toArray = ls at hl ⊢
  have hl : lv_has ls 3 [(0, .ref (ad 0)), (1, .int (zI o)), (2, .int (zI pr))] := hl
  have hin : ∀ w ∈ wsX10, w ∈ wsX1_ofOrder := in_X1_ofOrder
  refine lv_aload_n hx hb dX1_ofOrder_0 rfl (lv_at hl 0 rfl) ?_
  refine gx_X1_1 hx hb hts hin hown hK hP (hts _ (List.mem_of_getElem? (i := 1) rfl)) dX1_ofOrder_1 ?_
  refine lv_iload_n hx hb dX1_ofOrder_4 rfl (lv_at hl 1 rfl) ?_
  refine z_bipush (z := 8) hx hb dX1_ofOrder_5 (by decide +kernel) ?_
  refine z_imul hx hb dX1_ofOrder_7 ?_
  refine z_top (y := 8 * o) (by omega) ?_
  refine lv_iload_n hx hb dX1_ofOrder_8 rfl (lv_at hl 2 rfl) ?_
  refine z_iadd hx hb dX1_ofOrder_9 ?_
  refine z_top (y := 8 * o + pr) (by omega) ?_
  refine ld_X1_1 (v := S 1 (8 * o + pr)) hx hb hK hP (by omega) rfl dX1_ofOrder_10 ?_
  exact z_iret hx hb hr hlk hP hS dX1_ofOrder_11 rfl rfl
theorem in_X1_statusOf : ∀ w ∈ wsX10, w ∈ wsX1_statusOf := fun w h => List.mem_cons_of_mem _ (List.mem_append_right _ h)
set_option maxHeartbeats 4000000 in
set_option maxRecDepth 100000 in
theorem k_X1_statusOf (l : Launch) (dC : Nat → ClassId) (dI : Nat → Nat → Nat) (cI cQ : ClassId) (A : Nat → Prop) (ad : Nat → Nat) (S : Nat → Int → Int) (hD : ∀ S, va_D A (tW_X1 ad cI S)) (o : Int) (h : 0 ≤ o ∧ o < 60) : Met l yX1_statusOf wsX1_statusOf ({ frames := 1, cells := 0, slots := 0, locals := 22 }) (zPc (dC, dI) vwCl (zT cI cQ) (tW_X1 ad cI S) [.ref (ad 0), .int (zI o)]) (zQi (dC, dI) vwCl (tW_X1 ad cI S) (S 1 (8 * o + 3)) A) 0 0 A := by
  refine Met.ofW (cc := cX1_statusOf) (maxL := 2) (ret := (some .int)) (by decide) rfl ?_
  intro p e s m args below meth c s₁ B hml hv
  obtain ⟨rfl, hP, hK⟩ := hv
  have hx := B.exec
  have hb := B.bytes
  have hr := B.returns
  have hts := atoms_spec (ws := wsX1_statusOf) B.pre
  have hown : s.vm.findClass RX1 = some m.cls := findClass_of_methodNamed B.named
  have hlk := B.notSynchronized
  have hS : va_S A s.heap s.heap [] := va_S.rf
  have hl := lv_entry ([.ref (ad 0), .int (zI o)]) (n := 2) (Nat.le_of_ble_eq_true rfl)
  rw [lg_entry_eq]
  generalize (lg_sl ([.ref (ad 0), .int (zI o)]) ++ List.replicate (2 - (lg_sl ([.ref (ad 0), .int (zI o)])).length) Slot.unset).toArray = ls at hl ⊢
  have hl : lv_has ls 2 [(0, .ref (ad 0)), (1, .int (zI o))] := hl
  have hin : ∀ w ∈ wsX10, w ∈ wsX1_statusOf := in_X1_statusOf
  refine lv_aload_n hx hb dX1_statusOf_0 rfl (lv_at hl 0 rfl) ?_
  refine lv_iload_n hx hb dX1_statusOf_1 rfl (lv_at hl 1 rfl) ?_
  refine z_iconst hx hb dX1_statusOf_2 ?_
  refine z_calli (va_runV (As := [.int (zI o), .int (zI 3)]) (rest := []) ⟨hx, hb, hml, hown, hts⟩ (k_X1_ofOrder l dC dI cI cQ A ad S hD o 3 (by omega)) (cwV 2 hts gX1_statusOf_X1_ofOrder rfl rfl rfl (by decide +kernel) ⟨Nat.le_of_ble_eq_true rfl, Nat.le_of_ble_eq_true rfl⟩) (z_preV hK hP (ci := 1) (q0 := 0) rfl rfl rfl) rfl rfl hl.1 rfl (lv_room (Nat.le_of_ble_eq_true rfl)) dX1_statusOf_3 ⟨Nat.zero_le _, Nat.zero_le _⟩) hS (fun _ h => h) (fun H locs hP hS _ _ => ?_)
  exact z_iret hx hb hr hlk hP hS dX1_statusOf_6 rfl rfl
theorem in_X1_ofCopy : ∀ w ∈ wsX10, w ∈ wsX1_ofCopy := fun w h => List.mem_cons_of_mem _ (List.mem_append_right _ h)
set_option maxHeartbeats 4000000 in
set_option maxRecDepth 100000 in
theorem k_X1_ofCopy (l : Launch) (dC : Nat → ClassId) (dI : Nat → Nat → Nat) (cI cQ : ClassId) (A : Nat → Prop) (ad : Nat → Nat) (S : Nat → Int → Int) (hD : ∀ S, va_D A (tW_X1 ad cI S)) (side tr se pr : Int) (h : 0 ≤ 192 * side + 48 * tr + 4 * se + pr ∧ 192 * side + 48 * tr + 4 * se + pr < 384) : Met l yX1_ofCopy wsX1_ofCopy ({ frames := 1, cells := 0, slots := 0, locals := 21 }) (zPc (dC, dI) vwCl (zT cI cQ) (tW_X1 ad cI S) [.ref (ad 0), .int (zI side), .int (zI tr), .int (zI se), .int (zI pr)]) (zQi (dC, dI) vwCl (tW_X1 ad cI S) (S 0 (192 * side + 48 * tr + 4 * se + pr)) A) 0 0 A := by
  refine Met.ofW (cc := cX1_ofCopy) (maxL := 5) (ret := (some .int)) (by decide) rfl ?_
  intro p e s m args below meth c s₁ B hml hv
  obtain ⟨rfl, hP, hK⟩ := hv
  have hx := B.exec
  have hb := B.bytes
  have hr := B.returns
  have hts := atoms_spec (ws := wsX1_ofCopy) B.pre
  have hown : s.vm.findClass RX1 = some m.cls := findClass_of_methodNamed B.named
  have hlk := B.notSynchronized
  have hS : va_S A s.heap s.heap [] := va_S.rf
  have hl := lv_entry ([.ref (ad 0), .int (zI side), .int (zI tr), .int (zI se), .int (zI pr)]) (n := 5) (Nat.le_of_ble_eq_true rfl)
  rw [lg_entry_eq]
  generalize (lg_sl ([.ref (ad 0), .int (zI side), .int (zI tr), .int (zI se), .int (zI pr)]) ++ List.replicate (5 - (lg_sl ([.ref (ad 0), .int (zI side), .int (zI tr), .int (zI se), .int (zI pr)])).length) Slot.unset).toArray = ls at hl ⊢
  have hl : lv_has ls 5 [(0, .ref (ad 0)), (1, .int (zI side)), (2, .int (zI tr)), (3, .int (zI se)), (4, .int (zI pr))] := hl
  have hin : ∀ w ∈ wsX10, w ∈ wsX1_ofCopy := in_X1_ofCopy
  refine lv_aload_n hx hb dX1_ofCopy_0 rfl (lv_at hl 0 rfl) ?_
  refine gx_X1_0 hx hb hts hin hown hK hP (hts _ (List.mem_of_getElem? (i := 1) rfl)) dX1_ofCopy_1 ?_
  refine lv_iload_n hx hb dX1_ofCopy_4 rfl (lv_at hl 1 rfl) ?_
  refine lv_iload_n hx hb dX1_ofCopy_5 rfl (lv_at hl 2 rfl) ?_
  refine lv_iload_n hx hb dX1_ofCopy_6 rfl (lv_at hl 3 rfl) ?_
  refine z_calli (va_runS (As := [.int (zI tr), .int (zI se)]) (rest := [.int (zI side), .ref (ad 1)]) ⟨hx, hb, hml, hown, hts⟩ (k_X1_blockAt l dC dI cI cQ A (tW_X1 ad cI S) tr se) (va_cwS 2 hts gX1_ofCopy_X1_blockAt rfl rfl rfl (by decide +kernel) ⟨Nat.le_of_ble_eq_true rfl, Nat.le_of_ble_eq_true rfl⟩) (z_preS hK hP) rfl rfl hl.1 rfl (lv_room (Nat.le_of_ble_eq_true rfl)) dX1_ofCopy_7 ⟨Nat.zero_le _, Nat.zero_le _⟩) hS (fun _ h => h) (fun H locs hP hS _ _ => ?_)
  refine z_calli (va_runS (As := [.int (zI side), .int (zI (12 * tr + se))]) (rest := [.ref (ad 1)]) ⟨hx, hb, hml, hown, hts⟩ (k_X1_cellOf l dC dI cI cQ A (tW_X1 ad cI S) side (12 * tr + se)) (va_cwS 2 hts gX1_ofCopy_X1_cellOf rfl rfl rfl (by decide +kernel) ⟨Nat.le_of_ble_eq_true rfl, Nat.le_of_ble_eq_true rfl⟩) (z_preS hK hP) rfl rfl hl.1 rfl (lv_room (Nat.le_of_ble_eq_true rfl)) dX1_ofCopy_10 ⟨Nat.zero_le _, Nat.zero_le _⟩) hS (fun _ h => h) (fun H locs hP hS _ _ => ?_)
  refine z_top (y := 192 * side + 48 * tr + 4 * se) (by omega) ?_
  refine lv_iload hx hb dX1_ofCopy_13 (lv_at hl 4 rfl) ?_
  refine z_iadd hx hb dX1_ofCopy_15 ?_
  refine z_top (y := 192 * side + 48 * tr + 4 * se + pr) (by omega) ?_
  refine ld_X1_0 (v := S 0 (192 * side + 48 * tr + 4 * se + pr)) hx hb hK hP (by omega) rfl dX1_ofCopy_16 ?_
  exact z_iret hx hb hr hlk hP hS dX1_ofCopy_17 rfl rfl
theorem in_X1_hasOrder : ∀ w ∈ wsX10, w ∈ wsX1_hasOrder := fun w h => List.mem_cons_of_mem _ (List.mem_append_right _ h)
set_option maxHeartbeats 4000000 in
set_option maxRecDepth 100000 in
theorem k_X1_hasOrder (l : Launch) (dC : Nat → ClassId) (dI : Nat → Nat → Nat) (cI cQ : ClassId) (A : Nat → Prop) (ad : Nat → Nat) (S : Nat → Int → Int) (hD : ∀ S, va_D A (tW_X1 ad cI S)) (o : Int) (q0 : -2147483648 ≤ o ∧ o < 2147483648) (hB : zB S) : Met l yX1_hasOrder wsX1_hasOrder ({ frames := 0, cells := 0, slots := 0, locals := 0 }) (zPc (dC, dI) vwCl (zT cI cQ) (tW_X1 ad cI S) [.ref (ad 0), .int (zI o)]) (zQi (dC, dI) vwCl (tW_X1 ad cI S) (if 0 ≤ o ∧ o < S 7 0 then 1 else 0) A) 0 0 A := by
  refine Met.ofW (cc := cX1_hasOrder) (maxL := 2) (ret := (some .boolean)) (by decide) rfl ?_
  intro p e s m args below meth c s₁ B hml hv
  obtain ⟨rfl, hP, hK⟩ := hv
  have hx := B.exec
  have hb := B.bytes
  have hr := B.returns
  have hts := atoms_spec (ws := wsX1_hasOrder) B.pre
  have hown : s.vm.findClass RX1 = some m.cls := findClass_of_methodNamed B.named
  have hlk := B.notSynchronized
  have hS : va_S A s.heap s.heap [] := va_S.rf
  have hl := lv_entry ([.ref (ad 0), .int (zI o)]) (n := 2) (Nat.le_of_ble_eq_true rfl)
  rw [lg_entry_eq]
  generalize (lg_sl ([.ref (ad 0), .int (zI o)]) ++ List.replicate (2 - (lg_sl ([.ref (ad 0), .int (zI o)])).length) Slot.unset).toArray = ls at hl ⊢
  have hl : lv_has ls 2 [(0, .ref (ad 0)), (1, .int (zI o))] := hl
  have hin : ∀ w ∈ wsX10, w ∈ wsX1_hasOrder := in_X1_hasOrder
  refine lv_iload_n hx hb dX1_hasOrder_0 rfl (lv_at hl 1 rfl) ?_
  refine z_if_lt (tgt := 16) hx hb dX1_hasOrder_1 (by decide) (by omega) (fun c1 => ?_) (fun c1 => ?_)
  · refine z_iconst hx hb dX1_hasOrder_16 ?_
    exact z_zret hx hb hr hlk hP hS dX1_hasOrder_17 (by omega) (by first | rw [if_pos (by omega)] | rw [if_neg (by omega)]) rfl
  · refine lv_iload_n hx hb dX1_hasOrder_4 rfl (lv_at hl 1 rfl) ?_
    refine lv_aload_n hx hb dX1_hasOrder_5 rfl (lv_at hl 0 rfl) ?_
    refine gx_X1_7 hx hb hts hin hown hK hP (hts _ (List.mem_of_getElem? (i := 1) rfl)) dX1_hasOrder_6 ?_
    have b1 := hB 7 0 (Or.inr ⟨by decide, rfl⟩)
    refine z_icmp_ge (tgt := 16) hx hb dX1_hasOrder_9 (by decide) (by omega) (by omega) (fun c2 => ?_) (fun c2 => ?_)
    · refine z_iconst hx hb dX1_hasOrder_16 ?_
      exact z_zret hx hb hr hlk hP hS dX1_hasOrder_17 (by omega) (by first | rw [if_pos (by omega)] | rw [if_neg (by omega)]) rfl
    · refine z_iconst hx hb dX1_hasOrder_12 ?_
      refine lv_goto (tgt := 17) hx hb dX1_hasOrder_13 (by decide) ?_
      exact z_zret hx hb hr hlk hP hS dX1_hasOrder_17 (by omega) (by first | rw [if_pos (by omega)] | rw [if_neg (by omega)]) rfl
theorem in_X1_waitOf : ∀ w ∈ wsX10, w ∈ wsX1_waitOf := fun w h => List.mem_cons_of_mem _ (List.mem_append_right _ h)
set_option maxHeartbeats 4000000 in
set_option maxRecDepth 100000 in
theorem k_X1_waitOf (l : Launch) (dC : Nat → ClassId) (dI : Nat → Nat → Nat) (cI cQ : ClassId) (A : Nat → Prop) (ad : Nat → Nat) (S : Nat → Int → Int) (hD : ∀ S, va_D A (tW_X1 ad cI S)) (o : Int) (h : 0 ≤ o ∧ o < 60) : Met l yX1_waitOf wsX1_waitOf ({ frames := 1, cells := 0, slots := 0, locals := 22 }) (zPc (dC, dI) vwCl (zT cI cQ) (tW_X1 ad cI S) [.ref (ad 0), .int (zI o)]) (zQi (dC, dI) vwCl (tW_X1 ad cI S) (S 1 (8 * o + 5) - S 1 (8 * o + 4)) A) 0 0 A := by
  refine Met.ofW (cc := cX1_waitOf) (maxL := 2) (ret := (some .int)) (by decide) rfl ?_
  intro p e s m args below meth c s₁ B hml hv
  obtain ⟨rfl, hP, hK⟩ := hv
  have hx := B.exec
  have hb := B.bytes
  have hr := B.returns
  have hts := atoms_spec (ws := wsX1_waitOf) B.pre
  have hown : s.vm.findClass RX1 = some m.cls := findClass_of_methodNamed B.named
  have hlk := B.notSynchronized
  have hS : va_S A s.heap s.heap [] := va_S.rf
  have hl := lv_entry ([.ref (ad 0), .int (zI o)]) (n := 2) (Nat.le_of_ble_eq_true rfl)
  rw [lg_entry_eq]
  generalize (lg_sl ([.ref (ad 0), .int (zI o)]) ++ List.replicate (2 - (lg_sl ([.ref (ad 0), .int (zI o)])).length) Slot.unset).toArray = ls at hl ⊢
  have hl : lv_has ls 2 [(0, .ref (ad 0)), (1, .int (zI o))] := hl
  have hin : ∀ w ∈ wsX10, w ∈ wsX1_waitOf := in_X1_waitOf
  refine lv_aload_n hx hb dX1_waitOf_0 rfl (lv_at hl 0 rfl) ?_
  refine lv_iload_n hx hb dX1_waitOf_1 rfl (lv_at hl 1 rfl) ?_
  refine z_iconst hx hb dX1_waitOf_2 ?_
  refine z_calli (va_runV (As := [.int (zI o), .int (zI 5)]) (rest := []) ⟨hx, hb, hml, hown, hts⟩ (k_X1_ofOrder l dC dI cI cQ A ad S hD o 5 (by omega)) (cwV 2 hts gX1_waitOf_X1_ofOrder rfl rfl rfl (by decide +kernel) ⟨Nat.le_of_ble_eq_true rfl, Nat.le_of_ble_eq_true rfl⟩) (z_preV hK hP (ci := 1) (q0 := 0) rfl rfl rfl) rfl rfl hl.1 rfl (lv_room (Nat.le_of_ble_eq_true rfl)) dX1_waitOf_3 ⟨Nat.zero_le _, Nat.zero_le _⟩) hS (fun _ h => h) (fun H locs hP hS _ _ => ?_)
  refine lv_aload_n hx hb dX1_waitOf_6 rfl (lv_at hl 0 rfl) ?_
  refine lv_iload_n hx hb dX1_waitOf_7 rfl (lv_at hl 1 rfl) ?_
  refine z_iconst hx hb dX1_waitOf_8 ?_
  refine z_calli (va_runV (As := [.int (zI o), .int (zI 4)]) (rest := [.int (zI (S 1 (8 * o + 5)))]) ⟨hx, hb, hml, hown, hts⟩ (k_X1_ofOrder l dC dI cI cQ A ad S hD o 4 (by omega)) (cwV 2 hts gX1_waitOf_X1_ofOrder rfl rfl rfl (by decide +kernel) ⟨Nat.le_of_ble_eq_true rfl, Nat.le_of_ble_eq_true rfl⟩) (z_preV hK hP (ci := 1) (q0 := 0) rfl rfl rfl) rfl rfl hl.1 rfl (lv_room (Nat.le_of_ble_eq_true rfl)) dX1_waitOf_9 ⟨Nat.zero_le _, Nat.zero_le _⟩) hS (fun _ h => h) (fun H locs hP hS _ _ => ?_)
  refine z_isub hx hb dX1_waitOf_12 ?_
  refine z_top (y := S 1 (8 * o + 5) - S 1 (8 * o + 4)) (by omega) ?_
  exact z_iret hx hb hr hlk hP hS dX1_waitOf_13 rfl rfl
theorem in_X1_countOrders : ∀ w ∈ wsX10, w ∈ wsX1_countOrders := fun w h => List.mem_cons_of_mem _ (List.mem_append_right _ h)
set_option maxHeartbeats 4000000 in
set_option maxRecDepth 100000 in
theorem k_X1_countOrders (l : Launch) (dC : Nat → ClassId) (dI : Nat → Nat → Nat) (cI cQ : ClassId) (A : Nat → Prop) (ad : Nat → Nat) (S : Nat → Int → Int) (hD : ∀ S, va_D A (tW_X1 ad cI S)) (st : Int) (q0 : -2147483648 ≤ st ∧ st < 2147483648) (hB : zB S) (ht : 0 ≤ S 7 0 ∧ S 7 0 ≤ 60) : Met l yX1_countOrders wsX1_countOrders ({ frames := 2, cells := 0, slots := 0, locals := 43 }) (zPc (dC, dI) vwCl (zT cI cQ) (tW_X1 ad cI S) [.ref (ad 0), .int (zI st)]) (zQi (dC, dI) vwCl (tW_X1 ad cI S) (sumZ (fun o => if S 1 (8 * o + 3) = st then 1 else 0) (S 7 0)) A) 0 0 A := by
  refine Met.ofW (cc := cX1_countOrders) (maxL := 4) (ret := (some .int)) (by decide) rfl ?_
  intro p e s m args below meth c s₁ B hml hv
  obtain ⟨rfl, hP, hK⟩ := hv
  have hx := B.exec
  have hb := B.bytes
  have hr := B.returns
  have hts := atoms_spec (ws := wsX1_countOrders) B.pre
  have hown : s.vm.findClass RX1 = some m.cls := findClass_of_methodNamed B.named
  have hlk := B.notSynchronized
  have hS : va_S A s.heap s.heap [] := va_S.rf
  have hl := lv_entry ([.ref (ad 0), .int (zI st)]) (n := 4) (Nat.le_of_ble_eq_true rfl)
  rw [lg_entry_eq]
  generalize (lg_sl ([.ref (ad 0), .int (zI st)]) ++ List.replicate (4 - (lg_sl ([.ref (ad 0), .int (zI st)])).length) Slot.unset).toArray = ls at hl ⊢
  have hl : lv_has ls 4 [(0, .ref (ad 0)), (1, .int (zI st))] := hl
  have hin : ∀ w ∈ wsX10, w ∈ wsX1_countOrders := in_X1_countOrders
  refine z_iconst hx hb dX1_countOrders_0 ?_
  refine lv_istore_n (lv' := [(2, .int (zI 0)), (0, .ref (ad 0)), (1, .int (zI st))]) hx hb dX1_countOrders_1 rfl hl (by decide) rfl (fun ls hl => ?_)
  refine z_iconst hx hb dX1_countOrders_2 ?_
  refine lv_istore_n (lv' := [(3, .int (zI 0)), (2, .int (zI 0)), (0, .ref (ad 0)), (1, .int (zI st))]) hx hb dX1_countOrders_3 rfl hl (by decide) rfl (fun ls hl => ?_)
  have hloop4 : ∀ (n : Nat) (found order : Int), (0 ≤ order ∧ order ≤ S 7 0) → (found = sumZ (fun o => if S 1 (8 * o + 3) = st then 1 else 0) order) → (S 7 0 - order < (n : Int)) → ∀ (H : Heap) (locs : List Loc), va_P (dC, dI) vwCl (tW_X1 ad cI S) H → va_S A s.heap H locs → ∀ ls : Array Slot, lv_has ls 4 [(3, .int (zI order)), (2, .int (zI found)), (0, .ref (ad 0)), (1, .int (zI st))] → W p l e (headSpec wsX1_countOrders ({ frames := 2, cells := 0, slots := 0, locals := 43 })).room s m ([.ref (ad 0), .int (zI st)] : List Value).toArray below meth c H locs 0 0 (MQ below (zQi (dC, dI) vwCl (tW_X1 ad cI S) (sumZ (fun o => if S 1 (8 * o + 3) = st then 1 else 0) (S 7 0)) A) ([.ref (ad 0), .int (zI st)] : List Value).toArray s 0 0 A) (F0 m 4 ls []) := by
    intro n
    induction n with
    | zero =>
      intro found order i0 i1 hm
      exfalso
      omega
    | succ n ih =>
      intro found order i0 i1 hm H locs hP hS ls hl
      have ih4 := ih
      clear ih
      refine lv_iload_n hx hb dX1_countOrders_4 rfl (lv_at hl 0 rfl) ?_
      refine lv_aload_n hx hb dX1_countOrders_5 rfl (lv_at hl 2 rfl) ?_
      refine gx_X1_7 hx hb hts hin hown hK hP (hts _ (List.mem_of_getElem? (i := 1) rfl)) dX1_countOrders_6 ?_
      have b1 := hB 7 0 (Or.inr ⟨by decide, rfl⟩)
      refine z_icmp_ge (tgt := 30) hx hb dX1_countOrders_9 (by decide) (by omega) (by omega) (fun c1 => ?_) (fun c1 => ?_)
      · refine lv_iload_n hx hb dX1_countOrders_30 rfl (lv_at hl 1 rfl) ?_
        exact z_iret hx hb hr hlk hP hS dX1_countOrders_31 (by rw [show S 7 0 = order from by omega]; exact i1) rfl
      · refine lv_aload_n hx hb dX1_countOrders_12 rfl (lv_at hl 2 rfl) ?_
        refine lv_iload_n hx hb dX1_countOrders_13 rfl (lv_at hl 0 rfl) ?_
        refine z_calli (va_runV (As := [.int (zI order)]) (rest := []) ⟨hx, hb, hml, hown, hts⟩ (k_X1_statusOf l dC dI cI cQ A ad S hD order (by omega)) (cwV 1 hts gX1_countOrders_X1_statusOf rfl rfl rfl (by decide +kernel) ⟨Nat.le_of_ble_eq_true rfl, Nat.le_of_ble_eq_true rfl⟩) (z_preV hK hP (ci := 1) (q0 := 0) rfl rfl rfl) rfl rfl hl.1 rfl (lv_room (Nat.le_of_ble_eq_true rfl)) dX1_countOrders_14 ⟨Nat.zero_le _, Nat.zero_le _⟩) hS (fun _ h => h) (fun H locs hP hS _ _ => ?_)
        have b2 := hB 1 (8 * order + 3) (Or.inl (by decide))
        refine lv_iload_n hx hb dX1_countOrders_17 rfl (lv_at hl 3 rfl) ?_
        refine z_icmp_ne (tgt := 24) hx hb dX1_countOrders_18 (by decide) (by omega) (by omega) (fun c2 => ?_) (fun c2 => ?_)
        · refine z_iinc (lv' := [(3, .int (zI (order + 1))), (2, .int (zI found)), (0, .ref (ad 0)), (1, .int (zI st))]) hx hb dX1_countOrders_24 hl (k := 0) rfl (by decide) (by rw [show (order : Int) + (1) = (order + 1) from by omega]; rfl) (fun ls hl => ?_)
          refine lv_goto (tgt := 4) hx hb dX1_countOrders_27 (by decide) ?_
          exact ih4 found (order + 1) (by omega) (by rw [sumZ_succ _ (by omega), ← i1]; split <;> omega) (by omega) _ _ hP hS ls (lv_sub hl [0, 1, 2, 3] rfl)
        · refine z_iinc (lv' := [(2, .int (zI (found + 1))), (3, .int (zI order)), (0, .ref (ad 0)), (1, .int (zI st))]) hx hb dX1_countOrders_21 hl (k := 1) rfl (by decide) (by rw [show (found : Int) + (1) = (found + 1) from by omega]; rfl) (fun ls hl => ?_)
          refine z_iinc (lv' := [(3, .int (zI (order + 1))), (2, .int (zI (found + 1))), (0, .ref (ad 0)), (1, .int (zI st))]) hx hb dX1_countOrders_24 hl (k := 1) rfl (by decide) (by rw [show (order : Int) + (1) = (order + 1) from by omega]; rfl) (fun ls hl => ?_)
          refine lv_goto (tgt := 4) hx hb dX1_countOrders_27 (by decide) ?_
          exact ih4 (found + 1) (order + 1) (by omega) (by rw [sumZ_succ _ (by omega), ← i1]; split <;> omega) (by omega) _ _ hP hS ls (lv_sub hl [0, 1, 2, 3] rfl)
  exact hloop4 ((S 7 0 - 0 : Int) + 1).toNat 0 0 (by omega) (by rfl) (by omega) _ _ hP hS ls (lv_sub hl [0, 1, 2, 3] rfl)
theorem in_X1_countCopies : ∀ w ∈ wsX10, w ∈ wsX1_countCopies := fun w h => List.mem_cons_of_mem _ (List.mem_append_right _ h)
set_option maxHeartbeats 4000000 in
set_option maxRecDepth 100000 in
theorem k_X1_countCopies (l : Launch) (dC : Nat → ClassId) (dI : Nat → Nat → Nat) (cI cQ : ClassId) (A : Nat → Prop) (ad : Nat → Nat) (S : Nat → Int → Int) (hD : ∀ S, va_D A (tW_X1 ad cI S)) (pr : Int) (h : 0 ≤ pr ∧ pr < 4) : Met l yX1_countCopies wsX1_countCopies ({ frames := 1, cells := 0, slots := 0, locals := 21 }) (zPc (dC, dI) vwCl (zT cI cQ) (tW_X1 ad cI S) [.ref (ad 0), .int (zI pr)]) (zQi (dC, dI) vwCl (tW_X1 ad cI S) (sumZ (fun b => S 0 (4 * b + pr) + S 0 (4 * b + pr + 192)) 48) A) 0 0 A := by
  refine Met.ofW (cc := cX1_countCopies) (maxL := 4) (ret := (some .int)) (by decide) rfl ?_
  intro p e s m args below meth c s₁ B hml hv
  obtain ⟨rfl, hP, hK⟩ := hv
  have hx := B.exec
  have hb := B.bytes
  have hr := B.returns
  have hts := atoms_spec (ws := wsX1_countCopies) B.pre
  have hown : s.vm.findClass RX1 = some m.cls := findClass_of_methodNamed B.named
  have hlk := B.notSynchronized
  have hS : va_S A s.heap s.heap [] := va_S.rf
  have hl := lv_entry ([.ref (ad 0), .int (zI pr)]) (n := 4) (Nat.le_of_ble_eq_true rfl)
  rw [lg_entry_eq]
  generalize (lg_sl ([.ref (ad 0), .int (zI pr)]) ++ List.replicate (4 - (lg_sl ([.ref (ad 0), .int (zI pr)])).length) Slot.unset).toArray = ls at hl ⊢
  have hl : lv_has ls 4 [(0, .ref (ad 0)), (1, .int (zI pr))] := hl
  have hin : ∀ w ∈ wsX10, w ∈ wsX1_countCopies := in_X1_countCopies
  refine z_iconst hx hb dX1_countCopies_0 ?_
  refine lv_istore_n (lv' := [(2, .int (zI 0)), (0, .ref (ad 0)), (1, .int (zI pr))]) hx hb dX1_countCopies_1 rfl hl (by decide) rfl (fun ls hl => ?_)
  refine z_iconst hx hb dX1_countCopies_2 ?_
  refine lv_istore_n (lv' := [(3, .int (zI 0)), (2, .int (zI 0)), (0, .ref (ad 0)), (1, .int (zI pr))]) hx hb dX1_countCopies_3 rfl hl (by decide) rfl (fun ls hl => ?_)
  have hloop4 : ∀ (n : Nat) (found block : Int), (0 ≤ block ∧ block ≤ 48) → (found = sumZ (fun b => S 0 (4 * b + pr) + S 0 (4 * b + pr + 192)) block) → (48 - block < (n : Int)) → ∀ (H : Heap) (locs : List Loc), va_P (dC, dI) vwCl (tW_X1 ad cI S) H → va_S A s.heap H locs → ∀ ls : Array Slot, lv_has ls 4 [(3, .int (zI block)), (2, .int (zI found)), (0, .ref (ad 0)), (1, .int (zI pr))] → W p l e (headSpec wsX1_countCopies ({ frames := 1, cells := 0, slots := 0, locals := 21 })).room s m ([.ref (ad 0), .int (zI pr)] : List Value).toArray below meth c H locs 0 0 (MQ below (zQi (dC, dI) vwCl (tW_X1 ad cI S) (sumZ (fun b => S 0 (4 * b + pr) + S 0 (4 * b + pr + 192)) 48) A) ([.ref (ad 0), .int (zI pr)] : List Value).toArray s 0 0 A) (F0 m 4 ls []) := by
    intro n
    induction n with
    | zero =>
      intro found block i0 i1 hm
      exfalso
      omega
    | succ n ih =>
      intro found block i0 i1 hm H locs hP hS ls hl
      have ih4 := ih
      clear ih
      refine lv_iload_n hx hb dX1_countCopies_4 rfl (lv_at hl 0 rfl) ?_
      refine z_bipush (z := 48) hx hb dX1_countCopies_5 (by decide +kernel) ?_
      refine z_icmp_ge (tgt := 44) hx hb dX1_countCopies_7 (by decide) (by omega) (by omega) (fun c1 => ?_) (fun c1 => ?_)
      · refine lv_iload_n hx hb dX1_countCopies_44 rfl (lv_at hl 1 rfl) ?_
        exact z_iret hx hb hr hlk hP hS dX1_countCopies_45 (by rw [show (48 : Int) = block from by omega]; exact i1) rfl
      · refine lv_iload_n hx hb dX1_countCopies_10 rfl (lv_at hl 1 rfl) ?_
        refine lv_aload_n hx hb dX1_countCopies_11 rfl (lv_at hl 2 rfl) ?_
        refine gx_X1_0 hx hb hts hin hown hK hP (hts _ (List.mem_of_getElem? (i := 1) rfl)) dX1_countCopies_12 ?_
        refine z_iconst hx hb dX1_countCopies_15 ?_
        refine lv_iload_n hx hb dX1_countCopies_16 rfl (lv_at hl 0 rfl) ?_
        refine z_calli (va_runS (As := [.int (zI 0), .int (zI block)]) (rest := [.ref (ad 1), .int (zI found)]) ⟨hx, hb, hml, hown, hts⟩ (k_X1_cellOf l dC dI cI cQ A (tW_X1 ad cI S) 0 block) (va_cwS 2 hts gX1_countCopies_X1_cellOf rfl rfl rfl (by decide +kernel) ⟨Nat.le_of_ble_eq_true rfl, Nat.le_of_ble_eq_true rfl⟩) (z_preS hK hP) rfl rfl hl.1 rfl (lv_room (Nat.le_of_ble_eq_true rfl)) dX1_countCopies_17 ⟨Nat.zero_le _, Nat.zero_le _⟩) hS (fun _ h => h) (fun H locs hP hS _ _ => ?_)
        refine z_top (y := 4 * block) (by omega) ?_
        refine lv_iload_n hx hb dX1_countCopies_20 rfl (lv_at hl 3 rfl) ?_
        refine z_iadd hx hb dX1_countCopies_21 ?_
        refine z_top (y := 4 * block + pr) (by omega) ?_
        refine ld_X1_0 (v := S 0 (4 * block + pr)) hx hb hK hP (by omega) rfl dX1_countCopies_22 ?_
        refine lv_aload_n hx hb dX1_countCopies_23 rfl (lv_at hl 2 rfl) ?_
        refine gx_X1_0 hx hb hts hin hown hK hP (hts _ (List.mem_of_getElem? (i := 1) rfl)) dX1_countCopies_24 ?_
        refine z_iconst hx hb dX1_countCopies_27 ?_
        refine lv_iload_n hx hb dX1_countCopies_28 rfl (lv_at hl 0 rfl) ?_
        refine z_calli (va_runS (As := [.int (zI 1), .int (zI block)]) (rest := [.ref (ad 1), .int (zI (S 0 (4 * block + pr))), .int (zI found)]) ⟨hx, hb, hml, hown, hts⟩ (k_X1_cellOf l dC dI cI cQ A (tW_X1 ad cI S) 1 block) (va_cwS 2 hts gX1_countCopies_X1_cellOf rfl rfl rfl (by decide +kernel) ⟨Nat.le_of_ble_eq_true rfl, Nat.le_of_ble_eq_true rfl⟩) (z_preS hK hP) rfl rfl hl.1 rfl (lv_room (Nat.le_of_ble_eq_true rfl)) dX1_countCopies_29 ⟨Nat.zero_le _, Nat.zero_le _⟩) hS (fun _ h => h) (fun H locs hP hS _ _ => ?_)
        refine z_top (y := 4 * block + 192) (by omega) ?_
        refine lv_iload_n hx hb dX1_countCopies_32 rfl (lv_at hl 3 rfl) ?_
        refine z_iadd hx hb dX1_countCopies_33 ?_
        refine z_top (y := 4 * block + pr + 192) (by omega) ?_
        refine ld_X1_0 (v := S 0 (4 * block + pr + 192)) hx hb hK hP (by omega) rfl dX1_countCopies_34 ?_
        refine z_iadd hx hb dX1_countCopies_35 ?_
        refine z_top (y := S 0 (4 * block + pr) + S 0 (4 * block + pr + 192)) (by omega) ?_
        refine z_iadd hx hb dX1_countCopies_36 ?_
        refine z_top (y := found + S 0 (4 * block + pr) + S 0 (4 * block + pr + 192)) (by omega) ?_
        refine lv_istore_n (lv' := [(2, .int (zI (found + S 0 (4 * block + pr) + S 0 (4 * block + pr + 192)))), (3, .int (zI block)), (0, .ref (ad 0)), (1, .int (zI pr))]) hx hb dX1_countCopies_37 rfl hl (by decide) rfl (fun ls hl => ?_)
        refine z_iinc (lv' := [(3, .int (zI (block + 1))), (2, .int (zI (found + S 0 (4 * block + pr) + S 0 (4 * block + pr + 192)))), (0, .ref (ad 0)), (1, .int (zI pr))]) hx hb dX1_countCopies_38 hl (k := 1) rfl (by decide) (by rw [show (block : Int) + (1) = (block + 1) from by omega]; rfl) (fun ls hl => ?_)
        refine lv_goto (tgt := 4) hx hb dX1_countCopies_41 (by decide) ?_
        exact ih4 (found + S 0 (4 * block + pr) + S 0 (4 * block + pr + 192)) (block + 1) (by omega) (by rw [sumZ_succ _ (by omega), ← i1]; omega) (by omega) _ _ hP hS ls (lv_sub hl [0, 1, 2, 3] rfl)
  exact hloop4 ((48 - 0 : Int) + 1).toNat 0 0 (by omega) (by rfl) (by omega) _ _ hP hS ls (lv_sub hl [0, 1, 2, 3] rfl)
theorem in_X1_countUnlikeBlocks : ∀ w ∈ wsX10, w ∈ wsX1_countUnlikeBlocks := fun w h => List.mem_cons_of_mem _ (List.mem_append_right _ h)
set_option maxHeartbeats 4000000 in
set_option maxRecDepth 100000 in
theorem k_X1_countUnlikeBlocks (l : Launch) (dC : Nat → ClassId) (dI : Nat → Nat → Nat) (cI cQ : ClassId) (A : Nat → Prop) (ad : Nat → Nat) (S : Nat → Int → Int) (hD : ∀ S, va_D A (tW_X1 ad cI S)) (hB : zB S) : Met l yX1_countUnlikeBlocks wsX1_countUnlikeBlocks ({ frames := 1, cells := 0, slots := 0, locals := 21 }) (zPc (dC, dI) vwCl (zT cI cQ) (tW_X1 ad cI S) [.ref (ad 0)]) (zQi (dC, dI) vwCl (tW_X1 ad cI S) (sumZ (fun b => if S 0 (4 * b) ≠ S 0 (4 * b + 192) ∨ S 0 (4 * b + 1) ≠ S 0 (4 * b + 193) then 1 else 0) 48) A) 0 0 A := by
  refine Met.ofW (cc := cX1_countUnlikeBlocks) (maxL := 5) (ret := (some .int)) (by decide) rfl ?_
  intro p e s m args below meth c s₁ B hml hv
  obtain ⟨rfl, hP, hK⟩ := hv
  have hx := B.exec
  have hb := B.bytes
  have hr := B.returns
  have hts := atoms_spec (ws := wsX1_countUnlikeBlocks) B.pre
  have hown : s.vm.findClass RX1 = some m.cls := findClass_of_methodNamed B.named
  have hlk := B.notSynchronized
  have hS : va_S A s.heap s.heap [] := va_S.rf
  have hl := lv_entry ([.ref (ad 0)]) (n := 5) (Nat.le_of_ble_eq_true rfl)
  rw [lg_entry_eq]
  generalize (lg_sl ([.ref (ad 0)]) ++ List.replicate (5 - (lg_sl ([.ref (ad 0)])).length) Slot.unset).toArray = ls at hl ⊢
  have hl : lv_has ls 5 [(0, .ref (ad 0))] := hl
  have hin : ∀ w ∈ wsX10, w ∈ wsX1_countUnlikeBlocks := in_X1_countUnlikeBlocks
  refine z_iconst hx hb dX1_countUnlikeBlocks_0 ?_
  refine lv_istore_n (lv' := [(1, .int (zI 0)), (0, .ref (ad 0))]) hx hb dX1_countUnlikeBlocks_1 rfl hl (by decide) rfl (fun ls hl => ?_)
  refine z_iconst hx hb dX1_countUnlikeBlocks_2 ?_
  refine lv_istore_n (lv' := [(2, .int (zI 0)), (1, .int (zI 0)), (0, .ref (ad 0))]) hx hb dX1_countUnlikeBlocks_3 rfl hl (by decide) rfl (fun ls hl => ?_)
  have hloop4 : ∀ (n : Nat) (found block : Int), (0 ≤ block ∧ block ≤ 48) → (found = sumZ (fun b => if S 0 (4 * b) ≠ S 0 (4 * b + 192) ∨ S 0 (4 * b + 1) ≠ S 0 (4 * b + 193) then 1 else 0) block) → (48 - block < (n : Int)) → ∀ (H : Heap) (locs : List Loc), va_P (dC, dI) vwCl (tW_X1 ad cI S) H → va_S A s.heap H locs → ∀ ls : Array Slot, lv_has ls 5 [(2, .int (zI block)), (1, .int (zI found)), (0, .ref (ad 0))] → W p l e (headSpec wsX1_countUnlikeBlocks ({ frames := 1, cells := 0, slots := 0, locals := 21 })).room s m ([.ref (ad 0)] : List Value).toArray below meth c H locs 0 0 (MQ below (zQi (dC, dI) vwCl (tW_X1 ad cI S) (sumZ (fun b => if S 0 (4 * b) ≠ S 0 (4 * b + 192) ∨ S 0 (4 * b + 1) ≠ S 0 (4 * b + 193) then 1 else 0) 48) A) ([.ref (ad 0)] : List Value).toArray s 0 0 A) (F0 m 4 ls []) := by
    intro n
    induction n with
    | zero =>
      intro found block i0 i1 hm
      exfalso
      omega
    | succ n ih =>
      intro found block i0 i1 hm H locs hP hS ls hl
      have ih4 := ih
      clear ih
      refine lv_iload_n hx hb dX1_countUnlikeBlocks_4 rfl (lv_at hl 0 rfl) ?_
      refine z_bipush (z := 48) hx hb dX1_countUnlikeBlocks_5 (by decide +kernel) ?_
      refine z_icmp_ge (tgt := 72) hx hb dX1_countUnlikeBlocks_7 (by decide) (by omega) (by omega) (fun c1 => ?_) (fun c1 => ?_)
      · refine lv_iload_n hx hb dX1_countUnlikeBlocks_72 rfl (lv_at hl 1 rfl) ?_
        exact z_iret hx hb hr hlk hP hS dX1_countUnlikeBlocks_73 (by rw [show (48 : Int) = block from by omega]; exact i1) rfl
      · refine z_iconst hx hb dX1_countUnlikeBlocks_10 ?_
        refine lv_iload_n hx hb dX1_countUnlikeBlocks_11 rfl (lv_at hl 0 rfl) ?_
        refine z_calli (va_runS (As := [.int (zI 0), .int (zI block)]) (rest := []) ⟨hx, hb, hml, hown, hts⟩ (k_X1_cellOf l dC dI cI cQ A (tW_X1 ad cI S) 0 block) (va_cwS 2 hts gX1_countUnlikeBlocks_X1_cellOf rfl rfl rfl (by decide +kernel) ⟨Nat.le_of_ble_eq_true rfl, Nat.le_of_ble_eq_true rfl⟩) (z_preS hK hP) rfl rfl hl.1 rfl (lv_room (Nat.le_of_ble_eq_true rfl)) dX1_countUnlikeBlocks_12 ⟨Nat.zero_le _, Nat.zero_le _⟩) hS (fun _ h => h) (fun H locs hP hS _ _ => ?_)
        refine z_top (y := 4 * block) (by omega) ?_
        refine lv_istore_n (lv' := [(3, .int (zI (4 * block))), (2, .int (zI block)), (1, .int (zI found)), (0, .ref (ad 0))]) hx hb dX1_countUnlikeBlocks_15 rfl hl (by decide) rfl (fun ls hl => ?_)
        refine z_iconst hx hb dX1_countUnlikeBlocks_16 ?_
        refine lv_iload_n hx hb dX1_countUnlikeBlocks_17 rfl (lv_at hl 1 rfl) ?_
        refine z_calli (va_runS (As := [.int (zI 1), .int (zI block)]) (rest := []) ⟨hx, hb, hml, hown, hts⟩ (k_X1_cellOf l dC dI cI cQ A (tW_X1 ad cI S) 1 block) (va_cwS 2 hts gX1_countUnlikeBlocks_X1_cellOf rfl rfl rfl (by decide +kernel) ⟨Nat.le_of_ble_eq_true rfl, Nat.le_of_ble_eq_true rfl⟩) (z_preS hK hP) rfl rfl hl.1 rfl (lv_room (Nat.le_of_ble_eq_true rfl)) dX1_countUnlikeBlocks_18 ⟨Nat.zero_le _, Nat.zero_le _⟩) hS (fun _ h => h) (fun H locs hP hS _ _ => ?_)
        refine z_top (y := 4 * block + 192) (by omega) ?_
        refine lv_istore (lv' := [(4, .int (zI (4 * block + 192))), (3, .int (zI (4 * block))), (2, .int (zI block)), (1, .int (zI found)), (0, .ref (ad 0))]) hx hb dX1_countUnlikeBlocks_21 hl (by decide) rfl (fun ls hl => ?_)
        refine lv_aload_n hx hb dX1_countUnlikeBlocks_23 rfl (lv_at hl 4 rfl) ?_
        refine gx_X1_0 hx hb hts hin hown hK hP (hts _ (List.mem_of_getElem? (i := 1) rfl)) dX1_countUnlikeBlocks_24 ?_
        refine lv_iload_n hx hb dX1_countUnlikeBlocks_27 rfl (lv_at hl 1 rfl) ?_
        refine z_iconst hx hb dX1_countUnlikeBlocks_28 ?_
        refine z_iadd hx hb dX1_countUnlikeBlocks_29 ?_
        refine z_top (y := 4 * block) (by omega) ?_
        refine ld_X1_0 (v := S 0 (4 * block)) hx hb hK hP (by omega) rfl dX1_countUnlikeBlocks_30 ?_
        have b1 := hB 0 (4 * block) (Or.inl (by decide))
        refine lv_aload_n hx hb dX1_countUnlikeBlocks_31 rfl (lv_at hl 4 rfl) ?_
        refine gx_X1_0 hx hb hts hin hown hK hP (hts _ (List.mem_of_getElem? (i := 1) rfl)) dX1_countUnlikeBlocks_32 ?_
        refine lv_iload hx hb dX1_countUnlikeBlocks_35 (lv_at hl 0 rfl) ?_
        refine z_iconst hx hb dX1_countUnlikeBlocks_37 ?_
        refine z_iadd hx hb dX1_countUnlikeBlocks_38 ?_
        refine z_top (y := 4 * block + 192) (by omega) ?_
        refine ld_X1_0 (v := S 0 (4 * block + 192)) hx hb hK hP (by omega) rfl dX1_countUnlikeBlocks_39 ?_
        have b2 := hB 0 (4 * block + 192) (Or.inl (by decide))
        refine z_icmp_ne (tgt := 63) hx hb dX1_countUnlikeBlocks_40 (by decide) (by omega) (by omega) (fun c2 => ?_) (fun c2 => ?_)
        · refine z_iinc (lv' := [(1, .int (zI (found + 1))), (4, .int (zI (4 * block + 192))), (3, .int (zI (4 * block))), (2, .int (zI block)), (0, .ref (ad 0))]) hx hb dX1_countUnlikeBlocks_63 hl (k := 3) rfl (by decide) (by rw [show (found : Int) + (1) = (found + 1) from by omega]; rfl) (fun ls hl => ?_)
          refine z_iinc (lv' := [(2, .int (zI (block + 1))), (1, .int (zI (found + 1))), (4, .int (zI (4 * block + 192))), (3, .int (zI (4 * block))), (0, .ref (ad 0))]) hx hb dX1_countUnlikeBlocks_66 hl (k := 3) rfl (by decide) (by rw [show (block : Int) + (1) = (block + 1) from by omega]; rfl) (fun ls hl => ?_)
          refine lv_goto (tgt := 4) hx hb dX1_countUnlikeBlocks_69 (by decide) ?_
          exact ih4 (found + 1) (block + 1) (by omega) (by rw [sumZ_succ _ (by omega), ← i1]; split <;> omega) (by omega) _ _ hP hS ls (lv_sub hl [0, 1, 4] rfl)
        · refine lv_aload_n hx hb dX1_countUnlikeBlocks_43 rfl (lv_at hl 4 rfl) ?_
          refine gx_X1_0 hx hb hts hin hown hK hP (hts _ (List.mem_of_getElem? (i := 1) rfl)) dX1_countUnlikeBlocks_44 ?_
          refine lv_iload_n hx hb dX1_countUnlikeBlocks_47 rfl (lv_at hl 1 rfl) ?_
          refine z_iconst hx hb dX1_countUnlikeBlocks_48 ?_
          refine z_iadd hx hb dX1_countUnlikeBlocks_49 ?_
          refine z_top (y := 4 * block + 1) (by omega) ?_
          refine ld_X1_0 (v := S 0 (4 * block + 1)) hx hb hK hP (by omega) rfl dX1_countUnlikeBlocks_50 ?_
          have b3 := hB 0 (4 * block + 1) (Or.inl (by decide))
          refine lv_aload_n hx hb dX1_countUnlikeBlocks_51 rfl (lv_at hl 4 rfl) ?_
          refine gx_X1_0 hx hb hts hin hown hK hP (hts _ (List.mem_of_getElem? (i := 1) rfl)) dX1_countUnlikeBlocks_52 ?_
          refine lv_iload hx hb dX1_countUnlikeBlocks_55 (lv_at hl 0 rfl) ?_
          refine z_iconst hx hb dX1_countUnlikeBlocks_57 ?_
          refine z_iadd hx hb dX1_countUnlikeBlocks_58 ?_
          refine z_top (y := 4 * block + 193) (by omega) ?_
          refine ld_X1_0 (v := S 0 (4 * block + 193)) hx hb hK hP (by omega) rfl dX1_countUnlikeBlocks_59 ?_
          have b4 := hB 0 (4 * block + 193) (Or.inl (by decide))
          refine z_icmp_eq (tgt := 66) hx hb dX1_countUnlikeBlocks_60 (by decide) (by omega) (by omega) (fun c3 => ?_) (fun c3 => ?_)
          · refine z_iinc (lv' := [(2, .int (zI (block + 1))), (4, .int (zI (4 * block + 192))), (3, .int (zI (4 * block))), (1, .int (zI found)), (0, .ref (ad 0))]) hx hb dX1_countUnlikeBlocks_66 hl (k := 2) rfl (by decide) (by rw [show (block : Int) + (1) = (block + 1) from by omega]; rfl) (fun ls hl => ?_)
            refine lv_goto (tgt := 4) hx hb dX1_countUnlikeBlocks_69 (by decide) ?_
            exact ih4 found (block + 1) (by omega) (by rw [sumZ_succ _ (by omega), ← i1]; split <;> omega) (by omega) _ _ hP hS ls (lv_sub hl [0, 3, 4] rfl)
          · refine z_iinc (lv' := [(1, .int (zI (found + 1))), (4, .int (zI (4 * block + 192))), (3, .int (zI (4 * block))), (2, .int (zI block)), (0, .ref (ad 0))]) hx hb dX1_countUnlikeBlocks_63 hl (k := 3) rfl (by decide) (by rw [show (found : Int) + (1) = (found + 1) from by omega]; rfl) (fun ls hl => ?_)
            refine z_iinc (lv' := [(2, .int (zI (block + 1))), (1, .int (zI (found + 1))), (4, .int (zI (4 * block + 192))), (3, .int (zI (4 * block))), (0, .ref (ad 0))]) hx hb dX1_countUnlikeBlocks_66 hl (k := 3) rfl (by decide) (by rw [show (block : Int) + (1) = (block + 1) from by omega]; rfl) (fun ls hl => ?_)
            refine lv_goto (tgt := 4) hx hb dX1_countUnlikeBlocks_69 (by decide) ?_
            exact ih4 (found + 1) (block + 1) (by omega) (by rw [sumZ_succ _ (by omega), ← i1]; split <;> omega) (by omega) _ _ hP hS ls (lv_sub hl [0, 1, 4] rfl)
  exact hloop4 ((48 - 0 : Int) + 1).toNat 0 0 (by omega) (by rfl) (by omega) _ _ hP hS ls (lv_sub hl [0, 1, 2] rfl)
theorem in_X1_sumOfWaits : ∀ w ∈ wsX10, w ∈ wsX1_sumOfWaits := fun w h => List.mem_cons_of_mem _ (List.mem_append_right _ h)
set_option maxHeartbeats 4000000 in
set_option maxRecDepth 100000 in
theorem k_X1_sumOfWaits (l : Launch) (dC : Nat → ClassId) (dI : Nat → Nat → Nat) (cI cQ : ClassId) (A : Nat → Prop) (ad : Nat → Nat) (S : Nat → Int → Int) (hD : ∀ S, va_D A (tW_X1 ad cI S)) (hB : zB S) (ht : 0 ≤ S 7 0 ∧ S 7 0 ≤ 60) : Met l yX1_sumOfWaits wsX1_sumOfWaits ({ frames := 2, cells := 0, slots := 0, locals := 43 }) (zPc (dC, dI) vwCl (zT cI cQ) (tW_X1 ad cI S) [.ref (ad 0)]) (zQi (dC, dI) vwCl (tW_X1 ad cI S) (sumZ (fun o => if S 1 (8 * o + 3) = 1 then S 1 (8 * o + 5) - S 1 (8 * o + 4) else 0) (S 7 0)) A) 0 0 A := by
  refine Met.ofW (cc := cX1_sumOfWaits) (maxL := 3) (ret := (some .int)) (by decide) rfl ?_
  intro p e s m args below meth c s₁ B hml hv
  obtain ⟨rfl, hP, hK⟩ := hv
  have hx := B.exec
  have hb := B.bytes
  have hr := B.returns
  have hts := atoms_spec (ws := wsX1_sumOfWaits) B.pre
  have hown : s.vm.findClass RX1 = some m.cls := findClass_of_methodNamed B.named
  have hlk := B.notSynchronized
  have hS : va_S A s.heap s.heap [] := va_S.rf
  have hl := lv_entry ([.ref (ad 0)]) (n := 3) (Nat.le_of_ble_eq_true rfl)
  rw [lg_entry_eq]
  generalize (lg_sl ([.ref (ad 0)]) ++ List.replicate (3 - (lg_sl ([.ref (ad 0)])).length) Slot.unset).toArray = ls at hl ⊢
  have hl : lv_has ls 3 [(0, .ref (ad 0))] := hl
  have hin : ∀ w ∈ wsX10, w ∈ wsX1_sumOfWaits := in_X1_sumOfWaits
  refine z_iconst hx hb dX1_sumOfWaits_0 ?_
  refine lv_istore_n (lv' := [(1, .int (zI 0)), (0, .ref (ad 0))]) hx hb dX1_sumOfWaits_1 rfl hl (by decide) rfl (fun ls hl => ?_)
  refine z_iconst hx hb dX1_sumOfWaits_2 ?_
  refine lv_istore_n (lv' := [(2, .int (zI 0)), (1, .int (zI 0)), (0, .ref (ad 0))]) hx hb dX1_sumOfWaits_3 rfl hl (by decide) rfl (fun ls hl => ?_)
  have hloop4 : ∀ (n : Nat) (sum order : Int), (0 ≤ order ∧ order ≤ S 7 0) → (sum = sumZ (fun o => if S 1 (8 * o + 3) = 1 then S 1 (8 * o + 5) - S 1 (8 * o + 4) else 0) order) → (S 7 0 - order < (n : Int)) → ∀ (H : Heap) (locs : List Loc), va_P (dC, dI) vwCl (tW_X1 ad cI S) H → va_S A s.heap H locs → ∀ ls : Array Slot, lv_has ls 3 [(2, .int (zI order)), (1, .int (zI sum)), (0, .ref (ad 0))] → W p l e (headSpec wsX1_sumOfWaits ({ frames := 2, cells := 0, slots := 0, locals := 43 })).room s m ([.ref (ad 0)] : List Value).toArray below meth c H locs 0 0 (MQ below (zQi (dC, dI) vwCl (tW_X1 ad cI S) (sumZ (fun o => if S 1 (8 * o + 3) = 1 then S 1 (8 * o + 5) - S 1 (8 * o + 4) else 0) (S 7 0)) A) ([.ref (ad 0)] : List Value).toArray s 0 0 A) (F0 m 4 ls []) := by
    intro n
    induction n with
    | zero =>
      intro sum order i0 i1 hm
      exfalso
      omega
    | succ n ih =>
      intro sum order i0 i1 hm H locs hP hS ls hl
      have ih4 := ih
      clear ih
      refine lv_iload_n hx hb dX1_sumOfWaits_4 rfl (lv_at hl 0 rfl) ?_
      refine lv_aload_n hx hb dX1_sumOfWaits_5 rfl (lv_at hl 2 rfl) ?_
      refine gx_X1_7 hx hb hts hin hown hK hP (hts _ (List.mem_of_getElem? (i := 1) rfl)) dX1_sumOfWaits_6 ?_
      have b1 := hB 7 0 (Or.inr ⟨by decide, rfl⟩)
      refine z_icmp_ge (tgt := 35) hx hb dX1_sumOfWaits_9 (by decide) (by omega) (by omega) (fun c1 => ?_) (fun c1 => ?_)
      · refine lv_iload_n hx hb dX1_sumOfWaits_35 rfl (lv_at hl 1 rfl) ?_
        exact z_iret hx hb hr hlk hP hS dX1_sumOfWaits_36 (by rw [show S 7 0 = order from by omega]; exact i1) rfl
      · refine lv_aload_n hx hb dX1_sumOfWaits_12 rfl (lv_at hl 2 rfl) ?_
        refine lv_iload_n hx hb dX1_sumOfWaits_13 rfl (lv_at hl 0 rfl) ?_
        refine z_calli (va_runV (As := [.int (zI order)]) (rest := []) ⟨hx, hb, hml, hown, hts⟩ (k_X1_statusOf l dC dI cI cQ A ad S hD order (by omega)) (cwV 1 hts gX1_sumOfWaits_X1_statusOf rfl rfl rfl (by decide +kernel) ⟨Nat.le_of_ble_eq_true rfl, Nat.le_of_ble_eq_true rfl⟩) (z_preV hK hP (ci := 1) (q0 := 0) rfl rfl rfl) rfl rfl hl.1 rfl (lv_room (Nat.le_of_ble_eq_true rfl)) dX1_sumOfWaits_14 ⟨Nat.zero_le _, Nat.zero_le _⟩) hS (fun _ h => h) (fun H locs hP hS _ _ => ?_)
        have b2 := hB 1 (8 * order + 3) (Or.inl (by decide))
        refine z_iconst hx hb dX1_sumOfWaits_17 ?_
        refine z_icmp_ne (tgt := 29) hx hb dX1_sumOfWaits_18 (by decide) (by omega) (by omega) (fun c2 => ?_) (fun c2 => ?_)
        · refine z_iinc (lv' := [(2, .int (zI (order + 1))), (1, .int (zI sum)), (0, .ref (ad 0))]) hx hb dX1_sumOfWaits_29 hl (k := 0) rfl (by decide) (by rw [show (order : Int) + (1) = (order + 1) from by omega]; rfl) (fun ls hl => ?_)
          refine lv_goto (tgt := 4) hx hb dX1_sumOfWaits_32 (by decide) ?_
          exact ih4 sum (order + 1) (by omega) (by rw [sumZ_succ _ (by omega), ← i1]; split <;> omega) (by omega) _ _ hP hS ls (lv_sub hl [0, 1, 2] rfl)
        · refine lv_iload_n hx hb dX1_sumOfWaits_21 rfl (lv_at hl 1 rfl) ?_
          refine lv_aload_n hx hb dX1_sumOfWaits_22 rfl (lv_at hl 2 rfl) ?_
          refine lv_iload_n hx hb dX1_sumOfWaits_23 rfl (lv_at hl 0 rfl) ?_
          refine z_calli (va_runV (As := [.int (zI order)]) (rest := [.int (zI sum)]) ⟨hx, hb, hml, hown, hts⟩ (k_X1_waitOf l dC dI cI cQ A ad S hD order (by omega)) (cwV 1 hts gX1_sumOfWaits_X1_waitOf rfl rfl rfl (by decide +kernel) ⟨Nat.le_of_ble_eq_true rfl, Nat.le_of_ble_eq_true rfl⟩) (z_preV hK hP (ci := 1) (q0 := 0) rfl rfl rfl) rfl rfl hl.1 rfl (lv_room (Nat.le_of_ble_eq_true rfl)) dX1_sumOfWaits_24 ⟨Nat.zero_le _, Nat.zero_le _⟩) hS (fun _ h => h) (fun H locs hP hS _ _ => ?_)
          refine z_iadd hx hb dX1_sumOfWaits_27 ?_
          refine lv_istore_n (lv' := [(1, .int (zI (sum + (S 1 (8 * order + 5) - S 1 (8 * order + 4))))), (2, .int (zI order)), (0, .ref (ad 0))]) hx hb dX1_sumOfWaits_28 rfl hl (by decide) rfl (fun ls hl => ?_)
          refine z_iinc (lv' := [(2, .int (zI (order + 1))), (1, .int (zI (sum + (S 1 (8 * order + 5) - S 1 (8 * order + 4))))), (0, .ref (ad 0))]) hx hb dX1_sumOfWaits_29 hl (k := 1) rfl (by decide) (by rw [show (order : Int) + (1) = (order + 1) from by omega]; rfl) (fun ls hl => ?_)
          refine lv_goto (tgt := 4) hx hb dX1_sumOfWaits_32 (by decide) ?_
          exact ih4 (sum + (S 1 (8 * order + 5) - S 1 (8 * order + 4))) (order + 1) (by omega) (by rw [sumZ_succ _ (by omega), ← i1]; split <;> omega) (by omega) _ _ hP hS ls (lv_sub hl [0, 1, 2] rfl)
  exact hloop4 ((S 7 0 - 0 : Int) + 1).toNat 0 0 (by omega) (by rfl) (by omega) _ _ hP hS ls (lv_sub hl [0, 1, 2] rfl)
theorem in_X1_longestWaiter : ∀ w ∈ wsX10, w ∈ wsX1_longestWaiter := fun w h => List.mem_cons_of_mem _ (List.mem_append_right _ h)
set_option maxHeartbeats 4000000 in
set_option maxRecDepth 100000 in
theorem k_X1_longestWaiter (l : Launch) (dC : Nat → ClassId) (dI : Nat → Nat → Nat) (cI cQ : ClassId) (A : Nat → Prop) (ad : Nat → Nat) (S : Nat → Int → Int) (hD : ∀ S, va_D A (tW_X1 ad cI S)) (hB : zB S) (ht : 0 ≤ S 7 0 ∧ S 7 0 ≤ 60) : Met l yX1_longestWaiter wsX1_longestWaiter ({ frames := 2, cells := 0, slots := 0, locals := 43 }) (zPc (dC, dI) vwCl (zT cI cQ) (tW_X1 ad cI S) [.ref (ad 0)]) (zQi (dC, dI) vwCl (tW_X1 ad cI S) (longZ S (S 7 0)) A) 0 0 A := by
  refine Met.ofW (cc := cX1_longestWaiter) (maxL := 3) (ret := (some .int)) (by decide) rfl ?_
  intro p e s m args below meth c s₁ B hml hv
  obtain ⟨rfl, hP, hK⟩ := hv
  have hx := B.exec
  have hb := B.bytes
  have hr := B.returns
  have hts := atoms_spec (ws := wsX1_longestWaiter) B.pre
  have hown : s.vm.findClass RX1 = some m.cls := findClass_of_methodNamed B.named
  have hlk := B.notSynchronized
  have hS : va_S A s.heap s.heap [] := va_S.rf
  have hl := lv_entry ([.ref (ad 0)]) (n := 3) (Nat.le_of_ble_eq_true rfl)
  rw [lg_entry_eq]
  generalize (lg_sl ([.ref (ad 0)]) ++ List.replicate (3 - (lg_sl ([.ref (ad 0)])).length) Slot.unset).toArray = ls at hl ⊢
  have hl : lv_has ls 3 [(0, .ref (ad 0))] := hl
  have hin : ∀ w ∈ wsX10, w ∈ wsX1_longestWaiter := in_X1_longestWaiter
  refine z_bipush (z := (-9)) hx hb dX1_longestWaiter_0 (by decide +kernel) ?_
  refine lv_istore_n (lv' := [(1, .int (zI (-9))), (0, .ref (ad 0))]) hx hb dX1_longestWaiter_2 rfl hl (by decide) rfl (fun ls hl => ?_)
  refine z_iconst hx hb dX1_longestWaiter_3 ?_
  refine lv_istore_n (lv' := [(2, .int (zI 0)), (1, .int (zI (-9))), (0, .ref (ad 0))]) hx hb dX1_longestWaiter_4 rfl hl (by decide) rfl (fun ls hl => ?_)
  have hloop5 : ∀ (n : Nat) (longest order : Int), (0 ≤ order ∧ order ≤ S 7 0) → (longest = longZ S order) → (longest = -9 ∨ (0 ≤ longest ∧ longest < order)) → (S 7 0 - order < (n : Int)) → ∀ (H : Heap) (locs : List Loc), va_P (dC, dI) vwCl (tW_X1 ad cI S) H → va_S A s.heap H locs → ∀ ls : Array Slot, lv_has ls 3 [(2, .int (zI order)), (1, .int (zI longest)), (0, .ref (ad 0))] → W p l e (headSpec wsX1_longestWaiter ({ frames := 2, cells := 0, slots := 0, locals := 43 })).room s m ([.ref (ad 0)] : List Value).toArray below meth c H locs 0 0 (MQ below (zQi (dC, dI) vwCl (tW_X1 ad cI S) (longZ S (S 7 0)) A) ([.ref (ad 0)] : List Value).toArray s 0 0 A) (F0 m 5 ls []) := by
    intro n
    induction n with
    | zero =>
      intro longest order i0 i1 i2 hm
      exfalso
      omega
    | succ n ih =>
      intro longest order i0 i1 i2 hm H locs hP hS ls hl
      have ih5 := ih
      clear ih
      refine lv_iload_n hx hb dX1_longestWaiter_5 rfl (lv_at hl 0 rfl) ?_
      refine lv_aload_n hx hb dX1_longestWaiter_6 rfl (lv_at hl 2 rfl) ?_
      refine gx_X1_7 hx hb hts hin hown hK hP (hts _ (List.mem_of_getElem? (i := 1) rfl)) dX1_longestWaiter_7 ?_
      have b1 := hB 7 0 (Or.inr ⟨by decide, rfl⟩)
      refine z_icmp_ge (tgt := 49) hx hb dX1_longestWaiter_10 (by decide) (by omega) (by omega) (fun c1 => ?_) (fun c1 => ?_)
      · refine lv_iload_n hx hb dX1_longestWaiter_49 rfl (lv_at hl 1 rfl) ?_
        exact z_iret hx hb hr hlk hP hS dX1_longestWaiter_50 (by rw [show S 7 0 = order from by omega]; exact i1) rfl
      · refine lv_aload_n hx hb dX1_longestWaiter_13 rfl (lv_at hl 2 rfl) ?_
        refine lv_iload_n hx hb dX1_longestWaiter_14 rfl (lv_at hl 0 rfl) ?_
        refine z_calli (va_runV (As := [.int (zI order)]) (rest := []) ⟨hx, hb, hml, hown, hts⟩ (k_X1_statusOf l dC dI cI cQ A ad S hD order (by omega)) (cwV 1 hts gX1_longestWaiter_X1_statusOf rfl rfl rfl (by decide +kernel) ⟨Nat.le_of_ble_eq_true rfl, Nat.le_of_ble_eq_true rfl⟩) (z_preV hK hP (ci := 1) (q0 := 0) rfl rfl rfl) rfl rfl hl.1 rfl (lv_room (Nat.le_of_ble_eq_true rfl)) dX1_longestWaiter_15 ⟨Nat.zero_le _, Nat.zero_le _⟩) hS (fun _ h => h) (fun H locs hP hS _ _ => ?_)
        have b2 := hB 1 (8 * order + 3) (Or.inl (by decide))
        refine z_iconst hx hb dX1_longestWaiter_18 ?_
        refine z_icmp_ne (tgt := 43) hx hb dX1_longestWaiter_19 (by decide) (by omega) (by omega) (fun c2 => ?_) (fun c2 => ?_)
        · refine z_iinc (lv' := [(2, .int (zI (order + 1))), (1, .int (zI longest)), (0, .ref (ad 0))]) hx hb dX1_longestWaiter_43 hl (k := 0) rfl (by decide) (by rw [show (order : Int) + (1) = (order + 1) from by omega]; rfl) (fun ls hl => ?_)
          refine lv_goto (tgt := 5) hx hb dX1_longestWaiter_46 (by decide) ?_
          exact ih5 longest (order + 1) (by omega) (by rw [longZ_succ _ (by omega), ← i1]; unfold waitF; split <;> omega) (by omega) (by omega) _ _ hP hS ls (lv_sub hl [0, 1, 2] rfl)
        · refine lv_iload_n hx hb dX1_longestWaiter_22 rfl (lv_at hl 1 rfl) ?_
          refine z_bipush (z := (-9)) hx hb dX1_longestWaiter_23 (by decide +kernel) ?_
          refine z_icmp_eq (tgt := 41) hx hb dX1_longestWaiter_25 (by decide) (by omega) (by omega) (fun c3 => ?_) (fun c3 => ?_)
          · refine lv_iload_n hx hb dX1_longestWaiter_41 rfl (lv_at hl 0 rfl) ?_
            refine lv_istore_n (lv' := [(1, .int (zI order)), (2, .int (zI order)), (0, .ref (ad 0))]) hx hb dX1_longestWaiter_42 rfl hl (by decide) rfl (fun ls hl => ?_)
            refine z_iinc (lv' := [(2, .int (zI (order + 1))), (1, .int (zI order)), (0, .ref (ad 0))]) hx hb dX1_longestWaiter_43 hl (k := 1) rfl (by decide) (by rw [show (order : Int) + (1) = (order + 1) from by omega]; rfl) (fun ls hl => ?_)
            refine lv_goto (tgt := 5) hx hb dX1_longestWaiter_46 (by decide) ?_
            exact ih5 order (order + 1) (by omega) (by rw [longZ_succ _ (by omega), ← i1]; unfold waitF; split <;> omega) (by omega) (by omega) _ _ hP hS ls (lv_sub hl [0, 1, 2] rfl)
          · have f1 := hB 1 (8 * order + 5) (Or.inl (by decide))
            have f2 := hB 1 (8 * order + 4) (Or.inl (by decide))
            have f3 := hB 1 (8 * longest + 5) (Or.inl (by decide))
            have f4 := hB 1 (8 * longest + 4) (Or.inl (by decide))
            refine lv_aload_n hx hb dX1_longestWaiter_28 rfl (lv_at hl 2 rfl) ?_
            refine lv_iload_n hx hb dX1_longestWaiter_29 rfl (lv_at hl 0 rfl) ?_
            refine z_calli (va_runV (As := [.int (zI order)]) (rest := []) ⟨hx, hb, hml, hown, hts⟩ (k_X1_waitOf l dC dI cI cQ A ad S hD order (by omega)) (cwV 1 hts gX1_longestWaiter_X1_waitOf rfl rfl rfl (by decide +kernel) ⟨Nat.le_of_ble_eq_true rfl, Nat.le_of_ble_eq_true rfl⟩) (z_preV hK hP (ci := 1) (q0 := 0) rfl rfl rfl) rfl rfl hl.1 rfl (lv_room (Nat.le_of_ble_eq_true rfl)) dX1_longestWaiter_30 ⟨Nat.zero_le _, Nat.zero_le _⟩) hS (fun _ h => h) (fun H locs hP hS _ _ => ?_)
            refine lv_aload_n hx hb dX1_longestWaiter_33 rfl (lv_at hl 2 rfl) ?_
            refine lv_iload_n hx hb dX1_longestWaiter_34 rfl (lv_at hl 1 rfl) ?_
            refine z_calli (va_runV (As := [.int (zI longest)]) (rest := [.int (zI (S 1 (8 * order + 5) - S 1 (8 * order + 4)))]) ⟨hx, hb, hml, hown, hts⟩ (k_X1_waitOf l dC dI cI cQ A ad S hD longest (by omega)) (cwV 1 hts gX1_longestWaiter_X1_waitOf rfl rfl rfl (by decide +kernel) ⟨Nat.le_of_ble_eq_true rfl, Nat.le_of_ble_eq_true rfl⟩) (z_preV hK hP (ci := 1) (q0 := 0) rfl rfl rfl) rfl rfl hl.1 rfl (lv_room (Nat.le_of_ble_eq_true rfl)) dX1_longestWaiter_35 ⟨Nat.zero_le _, Nat.zero_le _⟩) hS (fun _ h => h) (fun H locs hP hS _ _ => ?_)
            refine z_icmp_le (tgt := 43) hx hb dX1_longestWaiter_38 (by decide) (by omega) (by omega) (fun c4 => ?_) (fun c4 => ?_)
            · refine z_iinc (lv' := [(2, .int (zI (order + 1))), (1, .int (zI longest)), (0, .ref (ad 0))]) hx hb dX1_longestWaiter_43 hl (k := 0) rfl (by decide) (by rw [show (order : Int) + (1) = (order + 1) from by omega]; rfl) (fun ls hl => ?_)
              refine lv_goto (tgt := 5) hx hb dX1_longestWaiter_46 (by decide) ?_
              exact ih5 longest (order + 1) (by omega) (by rw [longZ_succ _ (by omega), ← i1]; unfold waitF; split <;> omega) (by omega) (by omega) _ _ hP hS ls (lv_sub hl [0, 1, 2] rfl)
            · refine lv_iload_n hx hb dX1_longestWaiter_41 rfl (lv_at hl 0 rfl) ?_
              refine lv_istore_n (lv' := [(1, .int (zI order)), (2, .int (zI order)), (0, .ref (ad 0))]) hx hb dX1_longestWaiter_42 rfl hl (by decide) rfl (fun ls hl => ?_)
              refine z_iinc (lv' := [(2, .int (zI (order + 1))), (1, .int (zI order)), (0, .ref (ad 0))]) hx hb dX1_longestWaiter_43 hl (k := 1) rfl (by decide) (by rw [show (order : Int) + (1) = (order + 1) from by omega]; rfl) (fun ls hl => ?_)
              refine lv_goto (tgt := 5) hx hb dX1_longestWaiter_46 (by decide) ?_
              exact ih5 order (order + 1) (by omega) (by rw [longZ_succ _ (by omega), ← i1]; unfold waitF; split <;> omega) (by omega) (by omega) _ _ hP hS ls (lv_sub hl [0, 1, 2] rfl)
  exact hloop5 ((S 7 0 - 0 : Int) + 1).toNat (-9) 0 (by omega) (by rfl) (by omega) (by omega) _ _ hP hS ls (lv_sub hl [0, 1, 2] rfl)
theorem in_X1_hasWork : ∀ w ∈ wsX10, w ∈ wsX1_hasWork := fun w h => List.mem_cons_of_mem _ (List.mem_append_right _ h)
set_option maxHeartbeats 4000000 in
set_option maxRecDepth 100000 in
theorem k_X1_hasWork (l : Launch) (dC : Nat → ClassId) (dI : Nat → Nat → Nat) (cI cQ : ClassId) (A : Nat → Prop) (ad : Nat → Nat) (S : Nat → Int → Int) (hD : ∀ S, va_D A (tW_X1 ad cI S)) (hB : zB S) : Met l yX1_hasWork wsX1_hasWork ({ frames := 0, cells := 0, slots := 0, locals := 0 }) (zPc (dC, dI) vwCl (zT cI cQ) (tW_X1 ad cI S) [.ref (ad 0)]) (zQi (dC, dI) vwCl (tW_X1 ad cI S) (if 0 < S 4 0 ∨ 0 < S 4 1 ∨ 0 < S 4 2 ∨ 0 < S 4 3 then 1 else 0) A) 0 0 A := by
  refine Met.ofW (cc := cX1_hasWork) (maxL := 2) (ret := (some .boolean)) (by decide) rfl ?_
  intro p e s m args below meth c s₁ B hml hv
  obtain ⟨rfl, hP, hK⟩ := hv
  have hx := B.exec
  have hb := B.bytes
  have hr := B.returns
  have hts := atoms_spec (ws := wsX1_hasWork) B.pre
  have hown : s.vm.findClass RX1 = some m.cls := findClass_of_methodNamed B.named
  have hlk := B.notSynchronized
  have hS : va_S A s.heap s.heap [] := va_S.rf
  have hl := lv_entry ([.ref (ad 0)]) (n := 2) (Nat.le_of_ble_eq_true rfl)
  rw [lg_entry_eq]
  generalize (lg_sl ([.ref (ad 0)]) ++ List.replicate (2 - (lg_sl ([.ref (ad 0)])).length) Slot.unset).toArray = ls at hl ⊢
  have hl : lv_has ls 2 [(0, .ref (ad 0))] := hl
  have hin : ∀ w ∈ wsX10, w ∈ wsX1_hasWork := in_X1_hasWork
  refine z_iconst hx hb dX1_hasWork_0 ?_
  refine lv_istore_n (lv' := [(1, .int (zI 0)), (0, .ref (ad 0))]) hx hb dX1_hasWork_1 rfl hl (by decide) rfl (fun ls hl => ?_)
  refine lv_iload_n hx hb dX1_hasWork_2 rfl (lv_at hl 0 rfl) ?_
  refine z_iconst hx hb dX1_hasWork_3 ?_
  refine z_icmp_ge (tgt := 24) hx hb dX1_hasWork_4 (by decide) (by omega) (by omega) (fun q => absurd q (by omega)) (fun _ => ?_)
  refine lv_aload_n hx hb dX1_hasWork_7 rfl (lv_at hl 1 rfl) ?_
  refine gx_X1_4 hx hb hts hin hown hK hP (hts _ (List.mem_of_getElem? (i := 1) rfl)) dX1_hasWork_8 ?_
  refine lv_iload_n hx hb dX1_hasWork_11 rfl (lv_at hl 0 rfl) ?_
  refine ld_X1_4 (v := S 4 0) hx hb hK hP (by omega) rfl dX1_hasWork_12 ?_
  have b1 := hB 4 0 (Or.inl (by decide))
  refine z_if_le (tgt := 18) hx hb dX1_hasWork_13 (by decide) (by omega) (fun c2 => ?_) (fun c2 => ?_)
  · refine z_iinc (lv' := [(1, .int (zI 1)), (0, .ref (ad 0))]) hx hb dX1_hasWork_18 hl (k := 0) rfl (by decide) (by rw [show (0 : Int) + (1) = 1 from by omega]; rfl) (fun ls hl => ?_)
    refine lv_goto (tgt := 2) hx hb dX1_hasWork_21 (by decide) ?_
    refine lv_iload_n hx hb dX1_hasWork_2 rfl (lv_at hl 0 rfl) ?_
    refine z_iconst hx hb dX1_hasWork_3 ?_
    refine z_icmp_ge (tgt := 24) hx hb dX1_hasWork_4 (by decide) (by omega) (by omega) (fun q => absurd q (by omega)) (fun _ => ?_)
    refine lv_aload_n hx hb dX1_hasWork_7 rfl (lv_at hl 1 rfl) ?_
    refine gx_X1_4 hx hb hts hin hown hK hP (hts _ (List.mem_of_getElem? (i := 1) rfl)) dX1_hasWork_8 ?_
    refine lv_iload_n hx hb dX1_hasWork_11 rfl (lv_at hl 0 rfl) ?_
    refine ld_X1_4 (v := S 4 1) hx hb hK hP (by omega) rfl dX1_hasWork_12 ?_
    have b2 := hB 4 1 (Or.inl (by decide))
    refine z_if_le (tgt := 18) hx hb dX1_hasWork_13 (by decide) (by omega) (fun c4 => ?_) (fun c4 => ?_)
    · refine z_iinc (lv' := [(1, .int (zI 2)), (0, .ref (ad 0))]) hx hb dX1_hasWork_18 hl (k := 0) rfl (by decide) (by rw [show (1 : Int) + (1) = 2 from by omega]; rfl) (fun ls hl => ?_)
      refine lv_goto (tgt := 2) hx hb dX1_hasWork_21 (by decide) ?_
      refine lv_iload_n hx hb dX1_hasWork_2 rfl (lv_at hl 0 rfl) ?_
      refine z_iconst hx hb dX1_hasWork_3 ?_
      refine z_icmp_ge (tgt := 24) hx hb dX1_hasWork_4 (by decide) (by omega) (by omega) (fun q => absurd q (by omega)) (fun _ => ?_)
      refine lv_aload_n hx hb dX1_hasWork_7 rfl (lv_at hl 1 rfl) ?_
      refine gx_X1_4 hx hb hts hin hown hK hP (hts _ (List.mem_of_getElem? (i := 1) rfl)) dX1_hasWork_8 ?_
      refine lv_iload_n hx hb dX1_hasWork_11 rfl (lv_at hl 0 rfl) ?_
      refine ld_X1_4 (v := S 4 2) hx hb hK hP (by omega) rfl dX1_hasWork_12 ?_
      have b3 := hB 4 2 (Or.inl (by decide))
      refine z_if_le (tgt := 18) hx hb dX1_hasWork_13 (by decide) (by omega) (fun c6 => ?_) (fun c6 => ?_)
      · refine z_iinc (lv' := [(1, .int (zI 3)), (0, .ref (ad 0))]) hx hb dX1_hasWork_18 hl (k := 0) rfl (by decide) (by rw [show (2 : Int) + (1) = 3 from by omega]; rfl) (fun ls hl => ?_)
        refine lv_goto (tgt := 2) hx hb dX1_hasWork_21 (by decide) ?_
        refine lv_iload_n hx hb dX1_hasWork_2 rfl (lv_at hl 0 rfl) ?_
        refine z_iconst hx hb dX1_hasWork_3 ?_
        refine z_icmp_ge (tgt := 24) hx hb dX1_hasWork_4 (by decide) (by omega) (by omega) (fun q => absurd q (by omega)) (fun _ => ?_)
        refine lv_aload_n hx hb dX1_hasWork_7 rfl (lv_at hl 1 rfl) ?_
        refine gx_X1_4 hx hb hts hin hown hK hP (hts _ (List.mem_of_getElem? (i := 1) rfl)) dX1_hasWork_8 ?_
        refine lv_iload_n hx hb dX1_hasWork_11 rfl (lv_at hl 0 rfl) ?_
        refine ld_X1_4 (v := S 4 3) hx hb hK hP (by omega) rfl dX1_hasWork_12 ?_
        have b4 := hB 4 3 (Or.inl (by decide))
        refine z_if_le (tgt := 18) hx hb dX1_hasWork_13 (by decide) (by omega) (fun c8 => ?_) (fun c8 => ?_)
        · refine z_iinc (lv' := [(1, .int (zI 4)), (0, .ref (ad 0))]) hx hb dX1_hasWork_18 hl (k := 0) rfl (by decide) (by rw [show (3 : Int) + (1) = 4 from by omega]; rfl) (fun ls hl => ?_)
          refine lv_goto (tgt := 2) hx hb dX1_hasWork_21 (by decide) ?_
          refine lv_iload_n hx hb dX1_hasWork_2 rfl (lv_at hl 0 rfl) ?_
          refine z_iconst hx hb dX1_hasWork_3 ?_
          refine z_icmp_ge (tgt := 24) hx hb dX1_hasWork_4 (by decide) (by omega) (by omega) (fun _ => ?_) (fun q => absurd (by omega) q)
          refine z_iconst hx hb dX1_hasWork_24 ?_
          exact z_zret hx hb hr hlk hP hS dX1_hasWork_25 (by omega) (by first | rw [if_pos (by omega)] | rw [if_neg (by omega)]) rfl
        · refine z_iconst hx hb dX1_hasWork_16 ?_
          exact z_zret hx hb hr hlk hP hS dX1_hasWork_17 (by omega) (by first | rw [if_pos (by omega)] | rw [if_neg (by omega)]) rfl
      · refine z_iconst hx hb dX1_hasWork_16 ?_
        exact z_zret hx hb hr hlk hP hS dX1_hasWork_17 (by omega) (by first | rw [if_pos (by omega)] | rw [if_neg (by omega)]) rfl
    · refine z_iconst hx hb dX1_hasWork_16 ?_
      exact z_zret hx hb hr hlk hP hS dX1_hasWork_17 (by omega) (by first | rw [if_pos (by omega)] | rw [if_neg (by omega)]) rfl
  · refine z_iconst hx hb dX1_hasWork_16 ?_
    exact z_zret hx hb hr hlk hP hS dX1_hasWork_17 (by omega) (by first | rw [if_pos (by omega)] | rw [if_neg (by omega)]) rfl
theorem in_X1_sectorUnder : ∀ w ∈ wsX10, w ∈ wsX1_sectorUnder := fun w h => List.mem_cons_of_mem _ (List.mem_append_right _ h)
set_option maxHeartbeats 4000000 in
set_option maxRecDepth 100000 in
theorem k_X1_sectorUnder (l : Launch) (dC : Nat → ClassId) (dI : Nat → Nat → Nat) (cI cQ : ClassId) (A : Nat → Prop) (ad : Nat → Nat) (S : Nat → Int → Int) (hD : ∀ S, va_D A (tW_X1 ad cI S)) (side : Int) (h : 0 ≤ S 5 0 + 6 * side ∧ S 5 0 + 6 * side < 1000000000) : Met l yX1_sectorUnder wsX1_sectorUnder ({ frames := 1, cells := 0, slots := 0, locals := 22 }) (zPc (dC, dI) vwCl (zT cI cQ) (tW_X1 ad cI S) [.ref (ad 0), .int (zI side)]) (zQi (dC, dI) vwCl (tW_X1 ad cI S) ((S 5 0 + 6 * side) % 12) A) 0 0 A := by
  refine Met.ofW (cc := cX1_sectorUnder) (maxL := 2) (ret := (some .int)) (by decide) rfl ?_
  intro p e s m args below meth c s₁ B hml hv
  obtain ⟨rfl, hP, hK⟩ := hv
  have hx := B.exec
  have hb := B.bytes
  have hr := B.returns
  have hts := atoms_spec (ws := wsX1_sectorUnder) B.pre
  have hown : s.vm.findClass RX1 = some m.cls := findClass_of_methodNamed B.named
  have hlk := B.notSynchronized
  have hS : va_S A s.heap s.heap [] := va_S.rf
  have hl := lv_entry ([.ref (ad 0), .int (zI side)]) (n := 2) (Nat.le_of_ble_eq_true rfl)
  rw [lg_entry_eq]
  generalize (lg_sl ([.ref (ad 0), .int (zI side)]) ++ List.replicate (2 - (lg_sl ([.ref (ad 0), .int (zI side)])).length) Slot.unset).toArray = ls at hl ⊢
  have hl : lv_has ls 2 [(0, .ref (ad 0)), (1, .int (zI side))] := hl
  have hin : ∀ w ∈ wsX10, w ∈ wsX1_sectorUnder := in_X1_sectorUnder
  refine lv_aload_n hx hb dX1_sectorUnder_0 rfl (lv_at hl 0 rfl) ?_
  refine gx_X1_5 hx hb hts hin hown hK hP (hts _ (List.mem_of_getElem? (i := 1) rfl)) dX1_sectorUnder_1 ?_
  refine lv_iload_n hx hb dX1_sectorUnder_4 rfl (lv_at hl 1 rfl) ?_
  refine z_bipush (z := 6) hx hb dX1_sectorUnder_5 (by decide +kernel) ?_
  refine z_imul hx hb dX1_sectorUnder_7 ?_
  refine z_top (y := 6 * side) (by omega) ?_
  refine z_iadd hx hb dX1_sectorUnder_8 ?_
  refine z_top (y := S 5 0 + 6 * side) (by omega) ?_
  refine z_bipush (z := 12) hx hb dX1_sectorUnder_9 (by decide +kernel) ?_
  refine z_calli (va_runS (As := [.int (zI (S 5 0 + 6 * side)), .int (zI 12)]) (rest := []) ⟨hx, hb, hml, hown, hts⟩ (k_J9_floorMod_7cf53 l dC dI cI cQ A (tW_X1 ad cI S) (S 5 0 + 6 * side) 12 (by omega) (by omega)) (va_cwS 2 hts gX1_sectorUnder_J9_floorMod_7cf53 rfl rfl rfl (by decide +kernel) ⟨Nat.le_of_ble_eq_true rfl, Nat.le_of_ble_eq_true rfl⟩) (z_preS hK hP) rfl rfl hl.1 rfl (lv_room (Nat.le_of_ble_eq_true rfl)) dX1_sectorUnder_11 ⟨Nat.zero_le _, Nat.zero_le _⟩) hS (fun _ h => h) (fun H locs hP hS _ _ => ?_)
  exact z_iret hx hb hr hlk hP hS dX1_sectorUnder_14 rfl rfl
theorem in_X1_ticksUntilOver : ∀ w ∈ wsX10, w ∈ wsX1_ticksUntilOver := fun w h => List.mem_cons_of_mem _ (List.mem_append_right _ h)
set_option maxHeartbeats 4000000 in
set_option maxRecDepth 100000 in
theorem k_X1_ticksUntilOver (l : Launch) (dC : Nat → ClassId) (dI : Nat → Nat → Nat) (cI cQ : ClassId) (A : Nat → Prop) (ad : Nat → Nat) (S : Nat → Int → Int) (hD : ∀ S, va_D A (tW_X1 ad cI S)) (side se : Int) (h : 0 ≤ S 5 0 + 6 * side ∧ S 5 0 + 6 * side < 1000000000) (h2 : -1000 ≤ se ∧ se ≤ 1000) : Met l yX1_ticksUntilOver wsX1_ticksUntilOver ({ frames := 2, cells := 0, slots := 0, locals := 43 }) (zPc (dC, dI) vwCl (zT cI cQ) (tW_X1 ad cI S) [.ref (ad 0), .int (zI side), .int (zI se)]) (zQi (dC, dI) vwCl (tW_X1 ad cI S) ((se - (S 5 0 + 6 * side) % 12) % 12) A) 0 0 A := by
  refine Met.ofW (cc := cX1_ticksUntilOver) (maxL := 3) (ret := (some .int)) (by decide) rfl ?_
  intro p e s m args below meth c s₁ B hml hv
  obtain ⟨rfl, hP, hK⟩ := hv
  have hx := B.exec
  have hb := B.bytes
  have hr := B.returns
  have hts := atoms_spec (ws := wsX1_ticksUntilOver) B.pre
  have hown : s.vm.findClass RX1 = some m.cls := findClass_of_methodNamed B.named
  have hlk := B.notSynchronized
  have hS : va_S A s.heap s.heap [] := va_S.rf
  have hl := lv_entry ([.ref (ad 0), .int (zI side), .int (zI se)]) (n := 3) (Nat.le_of_ble_eq_true rfl)
  rw [lg_entry_eq]
  generalize (lg_sl ([.ref (ad 0), .int (zI side), .int (zI se)]) ++ List.replicate (3 - (lg_sl ([.ref (ad 0), .int (zI side), .int (zI se)])).length) Slot.unset).toArray = ls at hl ⊢
  have hl : lv_has ls 3 [(0, .ref (ad 0)), (1, .int (zI side)), (2, .int (zI se))] := hl
  have hin : ∀ w ∈ wsX10, w ∈ wsX1_ticksUntilOver := in_X1_ticksUntilOver
  refine lv_iload_n hx hb dX1_ticksUntilOver_0 rfl (lv_at hl 2 rfl) ?_
  refine lv_aload_n hx hb dX1_ticksUntilOver_1 rfl (lv_at hl 0 rfl) ?_
  refine lv_iload_n hx hb dX1_ticksUntilOver_2 rfl (lv_at hl 1 rfl) ?_
  refine z_calli (va_runV (As := [.int (zI side)]) (rest := [.int (zI se)]) ⟨hx, hb, hml, hown, hts⟩ (k_X1_sectorUnder l dC dI cI cQ A ad S hD side (by omega)) (cwV 1 hts gX1_ticksUntilOver_X1_sectorUnder rfl rfl rfl (by decide +kernel) ⟨Nat.le_of_ble_eq_true rfl, Nat.le_of_ble_eq_true rfl⟩) (z_preV hK hP (ci := 1) (q0 := 0) rfl rfl rfl) rfl rfl hl.1 rfl (lv_room (Nat.le_of_ble_eq_true rfl)) dX1_ticksUntilOver_3 ⟨Nat.zero_le _, Nat.zero_le _⟩) hS (fun _ h => h) (fun H locs hP hS _ _ => ?_)
  refine z_isub hx hb dX1_ticksUntilOver_6 ?_
  refine z_bipush (z := 12) hx hb dX1_ticksUntilOver_7 (by decide +kernel) ?_
  refine z_calli (va_runS (As := [.int (zI (se - ((S 5 0 + 6 * side) % 12))), .int (zI 12)]) (rest := []) ⟨hx, hb, hml, hown, hts⟩ (k_J9_floorMod_7cf53 l dC dI cI cQ A (tW_X1 ad cI S) (se - ((S 5 0 + 6 * side) % 12)) 12 (by omega) (by omega)) (va_cwS 2 hts gX1_ticksUntilOver_J9_floorMod_7cf53 rfl rfl rfl (by decide +kernel) ⟨Nat.le_of_ble_eq_true rfl, Nat.le_of_ble_eq_true rfl⟩) (z_preS hK hP) rfl rfl hl.1 rfl (lv_room (Nat.le_of_ble_eq_true rfl)) dX1_ticksUntilOver_9 ⟨Nat.zero_le _, Nat.zero_le _⟩) hS (fun _ h => h) (fun H locs hP hS _ _ => ?_)
  exact z_iret hx hb hr hlk hP hS dX1_ticksUntilOver_12 (by omega) rfl
theorem in_X1_takeOrder : ∀ w ∈ wsX10, w ∈ wsX1_takeOrder := fun w h => List.mem_cons_of_mem _ (List.mem_append_right _ h)
set_option maxHeartbeats 4000000 in
set_option maxRecDepth 100000 in
theorem k_X1_takeOrder (l : Launch) (dC : Nat → ClassId) (dI : Nat → Nat → Nat) (cI cQ : ClassId) (A : Nat → Prop) (ad : Nat → Nat) (S : Nat → Int → Int) (hD : ∀ S, va_D A (tW_X1 ad cI S)) (kind tr se wo : Int) (hW : WF S) (h1 : 0 ≤ tr ∧ tr < 4) (h2 : 0 ≤ se ∧ se < 12) : Met l yX1_takeOrder wsX1_takeOrder ({ frames := 1, cells := 0, slots := 0, locals := 21 }) (zPc (dC, dI) vwCl (zT cI cQ) (tW_X1 ad cI S) [.ref (ad 0), .int (zI kind), .int (zI tr), .int (zI se), .int (zI wo)]) (zQi (dC, dI) vwCl (tW_X1 ad cI (tkOrd S kind tr se wo)) (tkOrdR S) A) 0 0 A := by
  refine Met.ofW (cc := cX1_takeOrder) (maxL := 6) (ret := (some .int)) (by decide) rfl ?_
  intro p e s m args below meth c s₁ B hml hv
  obtain ⟨rfl, hP, hK⟩ := hv
  have hx := B.exec
  have hb := B.bytes
  have hr := B.returns
  have hts := atoms_spec (ws := wsX1_takeOrder) B.pre
  have hown : s.vm.findClass RX1 = some m.cls := findClass_of_methodNamed B.named
  have hlk := B.notSynchronized
  have hS : va_S A s.heap s.heap [] := va_S.rf
  have hl := lv_entry ([.ref (ad 0), .int (zI kind), .int (zI tr), .int (zI se), .int (zI wo)]) (n := 6) (Nat.le_of_ble_eq_true rfl)
  rw [lg_entry_eq]
  generalize (lg_sl ([.ref (ad 0), .int (zI kind), .int (zI tr), .int (zI se), .int (zI wo)]) ++ List.replicate (6 - (lg_sl ([.ref (ad 0), .int (zI kind), .int (zI tr), .int (zI se), .int (zI wo)])).length) Slot.unset).toArray = ls at hl ⊢
  have hl : lv_has ls 6 [(0, .ref (ad 0)), (1, .int (zI kind)), (2, .int (zI tr)), (3, .int (zI se)), (4, .int (zI wo))] := hl
  have hin : ∀ w ∈ wsX10, w ∈ wsX1_takeOrder := in_X1_takeOrder
  obtain ⟨hB, w5, w6, w7, wo1, w2⟩ := hW
  refine lv_aload_n hx hb dX1_takeOrder_0 rfl (lv_at hl 0 rfl) ?_
  refine gx_X1_7 hx hb hts hin hown hK hP (hts _ (List.mem_of_getElem? (i := 1) rfl)) dX1_takeOrder_1 ?_
  have b1 := hB 7 0 (Or.inr ⟨by decide, rfl⟩)
  refine z_bipush (z := 60) hx hb dX1_takeOrder_4 (by decide +kernel) ?_
  refine z_icmp_ge (tgt := 18) hx hb dX1_takeOrder_6 (by decide) (by omega) (by omega) (fun c1 => ?_) (fun c1 => ?_)
  · refine z_bipush (z := (-3)) hx hb dX1_takeOrder_18 (by decide +kernel) ?_
    exact z_iret hx hb hr hlk hP hS dX1_takeOrder_20 (by unfold tkOrdR; first | rw [if_pos (by omega)] | rw [if_neg (by omega)]) (congrArg (tW_X1 ad cI) (by unfold tkOrd; first | rw [if_pos (by omega)] | (rw [if_neg (by omega)]; rfl)))
  · refine lv_aload_n hx hb dX1_takeOrder_9 rfl (lv_at hl 0 rfl) ?_
    refine gx_X1_8 hx hb hts hin hown hK hP (hts _ (List.mem_of_getElem? (i := 2) rfl)) dX1_takeOrder_10 ?_
    have b2 := hB 8 0 (Or.inr ⟨by decide, rfl⟩)
    refine z_bipush (z := 20) hx hb dX1_takeOrder_13 (by decide +kernel) ?_
    refine z_icmp_lt (tgt := 21) hx hb dX1_takeOrder_15 (by decide) (by omega) (by omega) (fun c2 => ?_) (fun c2 => ?_)
    · refine lv_aload_n hx hb dX1_takeOrder_21 rfl (lv_at hl 0 rfl) ?_
      refine gx_X1_7 hx hb hts hin hown hK hP (hts _ (List.mem_of_getElem? (i := 1) rfl)) dX1_takeOrder_22 ?_
      have b3 := hB 7 0 (Or.inr ⟨by decide, rfl⟩)
      refine z_bipush (z := 8) hx hb dX1_takeOrder_25 (by decide +kernel) ?_
      refine z_imul hx hb dX1_takeOrder_27 ?_
      refine z_top (y := 8 * S 7 0) (by omega) ?_
      refine lv_istore (lv' := [(5, .int (zI (8 * S 7 0))), (0, .ref (ad 0)), (1, .int (zI kind)), (2, .int (zI tr)), (3, .int (zI se)), (4, .int (zI wo))]) hx hb dX1_takeOrder_28 hl (by decide) rfl (fun ls hl => ?_)
      refine lv_aload_n hx hb dX1_takeOrder_30 rfl (lv_at hl 1 rfl) ?_
      refine gx_X1_1 hx hb hts hin hown hK hP (hts _ (List.mem_of_getElem? (i := 3) rfl)) dX1_takeOrder_31 ?_
      refine lv_iload hx hb dX1_takeOrder_34 (lv_at hl 0 rfl) ?_
      refine z_iconst hx hb dX1_takeOrder_36 ?_
      refine z_iadd hx hb dX1_takeOrder_37 ?_
      refine z_top (y := 8 * S 7 0) (by omega) ?_
      refine lv_iload_n hx hb dX1_takeOrder_38 rfl (lv_at hl 2 rfl) ?_
      refine st_X1_1 hx hb hK hP hD hS (by omega) dX1_takeOrder_39 (fun H locs hP hS => ?_)
      refine lv_aload_n hx hb dX1_takeOrder_40 rfl (lv_at hl 1 rfl) ?_
      refine gx_X1_1 hx hb hts hin hown hK hP (hts _ (List.mem_of_getElem? (i := 3) rfl)) dX1_takeOrder_41 ?_
      refine lv_iload hx hb dX1_takeOrder_44 (lv_at hl 0 rfl) ?_
      refine z_iconst hx hb dX1_takeOrder_46 ?_
      refine z_iadd hx hb dX1_takeOrder_47 ?_
      refine z_top (y := 8 * S 7 0 + 1) (by omega) ?_
      refine lv_iload_n hx hb dX1_takeOrder_48 rfl (lv_at hl 3 rfl) ?_
      refine st_X1_1 hx hb hK hP hD hS (by omega) dX1_takeOrder_49 (fun H locs hP hS => ?_)
      refine lv_aload_n hx hb dX1_takeOrder_50 rfl (lv_at hl 1 rfl) ?_
      refine gx_X1_1 hx hb hts hin hown hK hP (hts _ (List.mem_of_getElem? (i := 3) rfl)) dX1_takeOrder_51 ?_
      refine lv_iload hx hb dX1_takeOrder_54 (lv_at hl 0 rfl) ?_
      refine z_iconst hx hb dX1_takeOrder_56 ?_
      refine z_iadd hx hb dX1_takeOrder_57 ?_
      refine z_top (y := 8 * S 7 0 + 2) (by omega) ?_
      refine lv_iload_n hx hb dX1_takeOrder_58 rfl (lv_at hl 4 rfl) ?_
      refine st_X1_1 hx hb hK hP hD hS (by omega) dX1_takeOrder_59 (fun H locs hP hS => ?_)
      refine lv_aload_n hx hb dX1_takeOrder_60 rfl (lv_at hl 1 rfl) ?_
      refine gx_X1_1 hx hb hts hin hown hK hP (hts _ (List.mem_of_getElem? (i := 3) rfl)) dX1_takeOrder_61 ?_
      refine lv_iload hx hb dX1_takeOrder_64 (lv_at hl 0 rfl) ?_
      refine z_iconst hx hb dX1_takeOrder_66 ?_
      refine z_iadd hx hb dX1_takeOrder_67 ?_
      refine z_top (y := 8 * S 7 0 + 3) (by omega) ?_
      refine z_iconst hx hb dX1_takeOrder_68 ?_
      refine st_X1_1 hx hb hK hP hD hS (by omega) dX1_takeOrder_69 (fun H locs hP hS => ?_)
      refine lv_aload_n hx hb dX1_takeOrder_70 rfl (lv_at hl 1 rfl) ?_
      refine gx_X1_1 hx hb hts hin hown hK hP (hts _ (List.mem_of_getElem? (i := 3) rfl)) dX1_takeOrder_71 ?_
      refine lv_iload hx hb dX1_takeOrder_74 (lv_at hl 0 rfl) ?_
      refine z_iconst hx hb dX1_takeOrder_76 ?_
      refine z_iadd hx hb dX1_takeOrder_77 ?_
      refine z_top (y := 8 * S 7 0 + 4) (by omega) ?_
      refine lv_aload_n hx hb dX1_takeOrder_78 rfl (lv_at hl 1 rfl) ?_
      refine gx_X1_5 hx hb hts hin hown hK hP (hts _ (List.mem_of_getElem? (i := 4) rfl)) dX1_takeOrder_79 ?_
      refine z_top (y := S 5 0) (rfl) ?_
      have b4 := hB 5 0 (Or.inr ⟨by decide, rfl⟩)
      refine st_X1_1 hx hb hK hP hD hS (by omega) dX1_takeOrder_82 (fun H locs hP hS => ?_)
      refine lv_aload_n hx hb dX1_takeOrder_83 rfl (lv_at hl 1 rfl) ?_
      refine gx_X1_1 hx hb hts hin hown hK hP (hts _ (List.mem_of_getElem? (i := 3) rfl)) dX1_takeOrder_84 ?_
      refine lv_iload hx hb dX1_takeOrder_87 (lv_at hl 0 rfl) ?_
      refine z_iconst hx hb dX1_takeOrder_89 ?_
      refine z_iadd hx hb dX1_takeOrder_90 ?_
      refine z_top (y := 8 * S 7 0 + 5) (by omega) ?_
      refine z_bipush (z := (-9)) hx hb dX1_takeOrder_91 (by decide +kernel) ?_
      refine st_X1_1 hx hb hK hP hD hS (by omega) dX1_takeOrder_93 (fun H locs hP hS => ?_)
      refine lv_aload_n hx hb dX1_takeOrder_94 rfl (lv_at hl 1 rfl) ?_
      refine gx_X1_1 hx hb hts hin hown hK hP (hts _ (List.mem_of_getElem? (i := 3) rfl)) dX1_takeOrder_95 ?_
      refine lv_iload hx hb dX1_takeOrder_98 (lv_at hl 0 rfl) ?_
      refine z_bipush (z := 6) hx hb dX1_takeOrder_100 (by decide +kernel) ?_
      refine z_iadd hx hb dX1_takeOrder_102 ?_
      refine z_top (y := 8 * S 7 0 + 6) (by omega) ?_
      refine z_bipush (z := (-9)) hx hb dX1_takeOrder_103 (by decide +kernel) ?_
      refine st_X1_1 hx hb hK hP hD hS (by omega) dX1_takeOrder_105 (fun H locs hP hS => ?_)
      refine lv_aload_n hx hb dX1_takeOrder_106 rfl (lv_at hl 1 rfl) ?_
      refine gx_X1_1 hx hb hts hin hown hK hP (hts _ (List.mem_of_getElem? (i := 3) rfl)) dX1_takeOrder_107 ?_
      refine lv_iload hx hb dX1_takeOrder_110 (lv_at hl 0 rfl) ?_
      refine z_bipush (z := 7) hx hb dX1_takeOrder_112 (by decide +kernel) ?_
      refine z_iadd hx hb dX1_takeOrder_114 ?_
      refine z_top (y := 8 * S 7 0 + 7) (by omega) ?_
      refine lv_iload hx hb dX1_takeOrder_115 (lv_at hl 5 rfl) ?_
      refine st_X1_1 hx hb hK hP hD hS (by omega) dX1_takeOrder_117 (fun H locs hP hS => ?_)
      refine lv_aload_n hx hb dX1_takeOrder_118 rfl (lv_at hl 1 rfl) ?_
      refine lv_dup hx hb dX1_takeOrder_119 rfl ?_
      refine gx_X1_8 hx hb hts hin hown hK hP (hts _ (List.mem_of_getElem? (i := 2) rfl)) dX1_takeOrder_120 ?_
      refine z_top (y := S 8 0) (rfl) ?_
      have b5 := hB 8 0 (Or.inr ⟨by decide, rfl⟩)
      refine z_iconst hx hb dX1_takeOrder_123 ?_
      refine z_iadd hx hb dX1_takeOrder_124 ?_
      refine z_top (y := S 8 0 + 1) (by omega) ?_
      refine px_X1_8 hx hb hts hin hown hK hP hD hS (hts _ (List.mem_of_getElem? (i := 2) rfl)) dX1_takeOrder_125 (fun H locs hP hS => ?_)
      refine lv_aload_n hx hb dX1_takeOrder_128 rfl (lv_at hl 1 rfl) ?_
      refine gx_X1_3 hx hb hts hin hown hK hP (hts _ (List.mem_of_getElem? (i := 5) rfl)) dX1_takeOrder_129 ?_
      refine lv_iload_n hx hb dX1_takeOrder_132 rfl (lv_at hl 3 rfl) ?_
      refine lv_iload_n hx hb dX1_takeOrder_133 rfl (lv_at hl 4 rfl) ?_
      refine z_calli (va_runS (As := [.int (zI tr), .int (zI se)]) (rest := [.ref (ad 4)]) ⟨hx, hb, hml, hown, hts⟩ (k_X1_blockAt l dC dI cI cQ A (tW_X1 ad cI (up2 (up2 (up2 (up2 (up2 (up2 (up2 (up2 (up2 S 1 (8 * S 7 0) kind) 1 (8 * S 7 0 + 1) tr) 1 (8 * S 7 0 + 2) se) 1 (8 * S 7 0 + 3) 0) 1 (8 * S 7 0 + 4) (S 5 0)) 1 (8 * S 7 0 + 5) (-9)) 1 (8 * S 7 0 + 6) (-9)) 1 (8 * S 7 0 + 7) wo) 8 0 (S 8 0 + 1))) tr se) (va_cwS 2 hts gX1_takeOrder_X1_blockAt rfl rfl rfl (by decide +kernel) ⟨Nat.le_of_ble_eq_true rfl, Nat.le_of_ble_eq_true rfl⟩) (z_preS hK hP) rfl rfl hl.1 rfl (lv_room (Nat.le_of_ble_eq_true rfl)) dX1_takeOrder_134 ⟨Nat.zero_le _, Nat.zero_le _⟩) hS (fun _ h => h) (fun H locs hP hS _ _ => ?_)
      refine lv_dup2_11 hx hb dX1_takeOrder_137 rfl rfl ?_
      refine ld_X1_3 (v := S 3 (12 * tr + se)) hx hb hK hP (by omega) rfl dX1_takeOrder_138 ?_
      have b6 := hB 3 (12 * tr + se) (Or.inl (by decide))
      refine z_iconst hx hb dX1_takeOrder_139 ?_
      refine z_iadd hx hb dX1_takeOrder_140 ?_
      refine z_top (y := S 3 (12 * tr + se) + 1) (by omega) ?_
      refine st_X1_3 hx hb hK hP hD hS (by omega) dX1_takeOrder_141 (fun H locs hP hS => ?_)
      refine lv_aload_n hx hb dX1_takeOrder_142 rfl (lv_at hl 1 rfl) ?_
      refine gx_X1_4 hx hb hts hin hown hK hP (hts _ (List.mem_of_getElem? (i := 6) rfl)) dX1_takeOrder_143 ?_
      refine lv_iload_n hx hb dX1_takeOrder_146 rfl (lv_at hl 3 rfl) ?_
      refine lv_dup2_11 hx hb dX1_takeOrder_147 rfl rfl ?_
      refine ld_X1_4 (v := S 4 tr) hx hb hK hP (by omega) rfl dX1_takeOrder_148 ?_
      have b7 := hB 4 tr (Or.inl (by decide))
      refine z_iconst hx hb dX1_takeOrder_149 ?_
      refine z_iadd hx hb dX1_takeOrder_150 ?_
      refine z_top (y := S 4 tr + 1) (by omega) ?_
      refine st_X1_4 hx hb hK hP hD hS (by omega) dX1_takeOrder_151 (fun H locs hP hS => ?_)
      refine lv_aload_n hx hb dX1_takeOrder_152 rfl (lv_at hl 1 rfl) ?_
      refine lv_dup hx hb dX1_takeOrder_153 rfl ?_
      refine gx_X1_7 hx hb hts hin hown hK hP (hts _ (List.mem_of_getElem? (i := 1) rfl)) dX1_takeOrder_154 ?_
      refine z_top (y := S 7 0) (rfl) ?_
      have b8 := hB 7 0 (Or.inr ⟨by decide, rfl⟩)
      refine lv_dup_x1 hx hb dX1_takeOrder_157 rfl rfl ?_
      refine z_iconst hx hb dX1_takeOrder_158 ?_
      refine z_iadd hx hb dX1_takeOrder_159 ?_
      refine z_top (y := S 7 0 + 1) (by omega) ?_
      refine px_X1_7 hx hb hts hin hown hK hP hD hS (hts _ (List.mem_of_getElem? (i := 1) rfl)) dX1_takeOrder_160 (fun H locs hP hS => ?_)
      exact z_iret hx hb hr hlk hP hS dX1_takeOrder_163 (by unfold tkOrdR; first | rw [if_pos (by omega)] | rw [if_neg (by omega)]) (congrArg (tW_X1 ad cI) (by unfold tkOrd; first | rw [if_pos (by omega)] | (rw [if_neg (by omega)]; rfl)))
    · refine z_bipush (z := (-3)) hx hb dX1_takeOrder_18 (by decide +kernel) ?_
      exact z_iret hx hb hr hlk hP hS dX1_takeOrder_20 (by unfold tkOrdR; first | rw [if_pos (by omega)] | rw [if_neg (by omega)]) (congrArg (tW_X1 ad cI) (by unfold tkOrd; first | rw [if_pos (by omega)] | (rw [if_neg (by omega)]; rfl)))
theorem in_X1_takeRead : ∀ w ∈ wsX10, w ∈ wsX1_takeRead := fun w h => List.mem_cons_of_mem _ (List.mem_append_right _ h)
set_option maxHeartbeats 4000000 in
set_option maxRecDepth 100000 in
theorem k_X1_takeRead (l : Launch) (dC : Nat → ClassId) (dI : Nat → Nat → Nat) (cI cQ : ClassId) (A : Nat → Prop) (ad : Nat → Nat) (S : Nat → Int → Int) (hD : ∀ S, va_D A (tW_X1 ad cI S)) (tr se : Int) (hW : WF S) (q0 : -2147483648 ≤ tr ∧ tr < 2147483648) (q1 : -2147483648 ≤ se ∧ se < 2147483648) : Met l yX1_takeRead wsX1_takeRead ({ frames := 2, cells := 0, slots := 0, locals := 46 }) (zPc (dC, dI) vwCl (zT cI cQ) (tW_X1 ad cI S) [.ref (ad 0), .int (zI tr), .int (zI se)]) (zQi (dC, dI) vwCl (tW_X1 ad cI (tkReadS S tr se)) (tkReadR S tr se) A) 0 0 A := by
  refine Met.ofW (cc := cX1_takeRead) (maxL := 3) (ret := (some .int)) (by decide) rfl ?_
  intro p e s m args below meth c s₁ B hml hv
  obtain ⟨rfl, hP, hK⟩ := hv
  have hx := B.exec
  have hb := B.bytes
  have hr := B.returns
  have hts := atoms_spec (ws := wsX1_takeRead) B.pre
  have hown : s.vm.findClass RX1 = some m.cls := findClass_of_methodNamed B.named
  have hlk := B.notSynchronized
  have hS : va_S A s.heap s.heap [] := va_S.rf
  have hl := lv_entry ([.ref (ad 0), .int (zI tr), .int (zI se)]) (n := 3) (Nat.le_of_ble_eq_true rfl)
  rw [lg_entry_eq]
  generalize (lg_sl ([.ref (ad 0), .int (zI tr), .int (zI se)]) ++ List.replicate (3 - (lg_sl ([.ref (ad 0), .int (zI tr), .int (zI se)])).length) Slot.unset).toArray = ls at hl ⊢
  have hl : lv_has ls 3 [(0, .ref (ad 0)), (1, .int (zI tr)), (2, .int (zI se))] := hl
  have hin : ∀ w ∈ wsX10, w ∈ wsX1_takeRead := in_X1_takeRead
  refine lv_iload_n hx hb dX1_takeRead_0 rfl (lv_at hl 1 rfl) ?_
  refine lv_iload_n hx hb dX1_takeRead_1 rfl (lv_at hl 2 rfl) ?_
  refine z_calli (va_runS (As := [.int (zI tr), .int (zI se)]) (rest := []) ⟨hx, hb, hml, hown, hts⟩ (k_X1_isBlock l dC dI cI cQ A (tW_X1 ad cI S) tr se (by omega) (by omega)) (va_cwS 2 hts gX1_takeRead_X1_isBlock rfl rfl rfl (by decide +kernel) ⟨Nat.le_of_ble_eq_true rfl, Nat.le_of_ble_eq_true rfl⟩) (z_preS hK hP) rfl rfl hl.1 rfl (lv_room (Nat.le_of_ble_eq_true rfl)) dX1_takeRead_2 ⟨Nat.zero_le _, Nat.zero_le _⟩) hS (fun _ h => h) (fun H locs hP hS _ _ => ?_)
  refine z_ifb_ne (tgt := 10) hx hb dX1_takeRead_5 (by decide) (fun c1 => ?_) (fun c1 => ?_)
  · refine lv_aload_n hx hb dX1_takeRead_10 rfl (lv_at hl 0 rfl) ?_
    refine z_iconst hx hb dX1_takeRead_11 ?_
    refine lv_iload_n hx hb dX1_takeRead_12 rfl (lv_at hl 1 rfl) ?_
    refine lv_iload_n hx hb dX1_takeRead_13 rfl (lv_at hl 2 rfl) ?_
    refine z_bipush (z := (-9)) hx hb dX1_takeRead_14 (by decide +kernel) ?_
    refine z_calli (va_runV (As := [.int (zI 0), .int (zI tr), .int (zI se), .int (zI (-9))]) (rest := []) ⟨hx, hb, hml, hown, hts⟩ (k_X1_takeOrder l dC dI cI cQ A ad S hD 0 tr se (-9) (by exact hW) (by omega) (by omega)) (cwV 4 hts gX1_takeRead_X1_takeOrder rfl rfl rfl (by decide +kernel) ⟨Nat.le_of_ble_eq_true rfl, Nat.le_of_ble_eq_true rfl⟩) (z_preV hK hP (ci := 1) (q0 := 0) rfl rfl rfl) rfl rfl hl.1 rfl (lv_room (Nat.le_of_ble_eq_true rfl)) dX1_takeRead_16 ⟨Nat.zero_le _, Nat.zero_le _⟩) hS (fun _ h => h) (fun H locs hP hS _ _ => ?_)
    exact z_iret hx hb hr hlk hP hS dX1_takeRead_19 (by unfold tkReadR; first | rw [if_pos (by omega)] | rw [if_neg (by omega)]) (congrArg (tW_X1 ad cI) (by unfold tkReadS; first | rw [if_pos (by omega)] | rw [if_neg (by omega)]))
  · refine z_iconst hx hb dX1_takeRead_8 ?_
    exact z_iret hx hb hr hlk hP hS dX1_takeRead_9 (by unfold tkReadR; first | rw [if_pos (by omega)] | rw [if_neg (by omega)]) (congrArg (tW_X1 ad cI) (by unfold tkReadS; first | rw [if_pos (by omega)] | rw [if_neg (by omega)]))
theorem in_X1_takeWrite : ∀ w ∈ wsX10, w ∈ wsX1_takeWrite := fun w h => List.mem_cons_of_mem _ (List.mem_append_right _ h)
set_option maxHeartbeats 4000000 in
set_option maxRecDepth 100000 in
theorem k_X1_takeWrite (l : Launch) (dC : Nat → ClassId) (dI : Nat → Nat → Nat) (cI cQ : ClassId) (A : Nat → Prop) (ad : Nat → Nat) (S : Nat → Int → Int) (hD : ∀ S, va_D A (tW_X1 ad cI S)) (tr se v : Int) (hW : WF S) (q0 : -2147483648 ≤ tr ∧ tr < 2147483648) (q1 : -2147483648 ≤ se ∧ se < 2147483648) (q2 : -2147483648 ≤ v ∧ v < 2147483648) : Met l yX1_takeWrite wsX1_takeWrite ({ frames := 2, cells := 0, slots := 0, locals := 46 }) (zPc (dC, dI) vwCl (zT cI cQ) (tW_X1 ad cI S) [.ref (ad 0), .int (zI tr), .int (zI se), .int (zI v)]) (zQi (dC, dI) vwCl (tW_X1 ad cI (tkWriteS S tr se v)) (tkWriteR S tr se v) A) 0 0 A := by
  refine Met.ofW (cc := cX1_takeWrite) (maxL := 4) (ret := (some .int)) (by decide) rfl ?_
  intro p e s m args below meth c s₁ B hml hv
  obtain ⟨rfl, hP, hK⟩ := hv
  have hx := B.exec
  have hb := B.bytes
  have hr := B.returns
  have hts := atoms_spec (ws := wsX1_takeWrite) B.pre
  have hown : s.vm.findClass RX1 = some m.cls := findClass_of_methodNamed B.named
  have hlk := B.notSynchronized
  have hS : va_S A s.heap s.heap [] := va_S.rf
  have hl := lv_entry ([.ref (ad 0), .int (zI tr), .int (zI se), .int (zI v)]) (n := 4) (Nat.le_of_ble_eq_true rfl)
  rw [lg_entry_eq]
  generalize (lg_sl ([.ref (ad 0), .int (zI tr), .int (zI se), .int (zI v)]) ++ List.replicate (4 - (lg_sl ([.ref (ad 0), .int (zI tr), .int (zI se), .int (zI v)])).length) Slot.unset).toArray = ls at hl ⊢
  have hl : lv_has ls 4 [(0, .ref (ad 0)), (1, .int (zI tr)), (2, .int (zI se)), (3, .int (zI v))] := hl
  have hin : ∀ w ∈ wsX10, w ∈ wsX1_takeWrite := in_X1_takeWrite
  refine lv_iload_n hx hb dX1_takeWrite_0 rfl (lv_at hl 1 rfl) ?_
  refine lv_iload_n hx hb dX1_takeWrite_1 rfl (lv_at hl 2 rfl) ?_
  refine z_calli (va_runS (As := [.int (zI tr), .int (zI se)]) (rest := []) ⟨hx, hb, hml, hown, hts⟩ (k_X1_isBlock l dC dI cI cQ A (tW_X1 ad cI S) tr se (by omega) (by omega)) (va_cwS 2 hts gX1_takeWrite_X1_isBlock rfl rfl rfl (by decide +kernel) ⟨Nat.le_of_ble_eq_true rfl, Nat.le_of_ble_eq_true rfl⟩) (z_preS hK hP) rfl rfl hl.1 rfl (lv_room (Nat.le_of_ble_eq_true rfl)) dX1_takeWrite_2 ⟨Nat.zero_le _, Nat.zero_le _⟩) hS (fun _ h => h) (fun H locs hP hS _ _ => ?_)
  refine z_ifb_eq (tgt := 19) hx hb dX1_takeWrite_5 (by decide) (fun c1 => ?_) (fun c1 => ?_)
  · refine z_iconst hx hb dX1_takeWrite_19 ?_
    exact z_iret hx hb hr hlk hP hS dX1_takeWrite_20 (by unfold tkWriteR; first | rw [if_pos (by omega)] | rw [if_neg (by omega)]) (congrArg (tW_X1 ad cI) (by unfold tkWriteS; first | rw [if_pos (by omega)] | rw [if_neg (by omega)]))
  · refine lv_iload_n hx hb dX1_takeWrite_8 rfl (lv_at hl 3 rfl) ?_
    refine z_if_lt (tgt := 19) hx hb dX1_takeWrite_9 (by decide) (by omega) (fun c2 => ?_) (fun c2 => ?_)
    · refine z_iconst hx hb dX1_takeWrite_19 ?_
      exact z_iret hx hb hr hlk hP hS dX1_takeWrite_20 (by unfold tkWriteR; first | rw [if_pos (by omega)] | rw [if_neg (by omega)]) (congrArg (tW_X1 ad cI) (by unfold tkWriteS; first | rw [if_pos (by omega)] | rw [if_neg (by omega)]))
    · refine lv_iload_n hx hb dX1_takeWrite_12 rfl (lv_at hl 3 rfl) ?_
      refine z_sipush (z := 999) hx hb dX1_takeWrite_13 (by decide +kernel) ?_
      refine z_icmp_le (tgt := 21) hx hb dX1_takeWrite_16 (by decide) (by omega) (by omega) (fun c3 => ?_) (fun c3 => ?_)
      · refine lv_aload_n hx hb dX1_takeWrite_21 rfl (lv_at hl 0 rfl) ?_
        refine z_iconst hx hb dX1_takeWrite_22 ?_
        refine lv_iload_n hx hb dX1_takeWrite_23 rfl (lv_at hl 1 rfl) ?_
        refine lv_iload_n hx hb dX1_takeWrite_24 rfl (lv_at hl 2 rfl) ?_
        refine lv_iload_n hx hb dX1_takeWrite_25 rfl (lv_at hl 3 rfl) ?_
        refine z_calli (va_runV (As := [.int (zI 1), .int (zI tr), .int (zI se), .int (zI v)]) (rest := []) ⟨hx, hb, hml, hown, hts⟩ (k_X1_takeOrder l dC dI cI cQ A ad S hD 1 tr se v (by exact hW) (by omega) (by omega)) (cwV 4 hts gX1_takeWrite_X1_takeOrder rfl rfl rfl (by decide +kernel) ⟨Nat.le_of_ble_eq_true rfl, Nat.le_of_ble_eq_true rfl⟩) (z_preV hK hP (ci := 1) (q0 := 0) rfl rfl rfl) rfl rfl hl.1 rfl (lv_room (Nat.le_of_ble_eq_true rfl)) dX1_takeWrite_26 ⟨Nat.zero_le _, Nat.zero_le _⟩) hS (fun _ h => h) (fun H locs hP hS _ _ => ?_)
        exact z_iret hx hb hr hlk hP hS dX1_takeWrite_29 (by unfold tkWriteR; first | rw [if_pos (by omega)] | rw [if_neg (by omega)]) (congrArg (tW_X1 ad cI) (by unfold tkWriteS; first | rw [if_pos (by omega)] | rw [if_neg (by omega)]))
      · refine z_iconst hx hb dX1_takeWrite_19 ?_
        exact z_iret hx hb hr hlk hP hS dX1_takeWrite_20 (by unfold tkWriteR; first | rw [if_pos (by omega)] | rw [if_neg (by omega)]) (congrArg (tW_X1 ad cI) (by unfold tkWriteS; first | rw [if_pos (by omega)] | rw [if_neg (by omega)]))
theorem in_X1_finish : ∀ w ∈ wsX10, w ∈ wsX1_finish := fun w h => List.mem_cons_of_mem _ (List.mem_append_right _ h)
set_option maxHeartbeats 4000000 in
set_option maxRecDepth 100000 in
theorem k_X1_finish (l : Launch) (dC : Nat → ClassId) (dI : Nat → Nat → Nat) (cI cQ : ClassId) (A : Nat → Prop) (ad : Nat → Nat) (S : Nat → Int → Int) (hD : ∀ S, va_D A (tW_X1 ad cI S)) (o side wo : Int) (h : 0 ≤ o ∧ o < 60) (h1 : 0 ≤ S 1 (8 * o + 1) ∧ S 1 (8 * o + 1) < 4) (h2 : 0 ≤ S 1 (8 * o + 2) ∧ S 1 (8 * o + 2) < 12) : Met l yX1_finish wsX1_finish ({ frames := 0, cells := 0, slots := 0, locals := 0 }) (zPc (dC, dI) vwCl (zT cI cQ) (tW_X1 ad cI S) [.ref (ad 0), .int (zI o), .int (zI side), .int (zI wo)]) (zQv (dC, dI) vwCl (tW_X1 ad cI (finS S o side wo)) A) 0 0 A := by
  refine Met.ofW (cc := cX1_finish) (maxL := 5) (ret := none) (by decide) rfl ?_
  intro p e s m args below meth c s₁ B hml hv
  obtain ⟨rfl, hP, hK⟩ := hv
  have hx := B.exec
  have hb := B.bytes
  have hr := B.returns
  have hts := atoms_spec (ws := wsX1_finish) B.pre
  have hown : s.vm.findClass RX1 = some m.cls := findClass_of_methodNamed B.named
  have hlk := B.notSynchronized
  have hS : va_S A s.heap s.heap [] := va_S.rf
  have hl := lv_entry ([.ref (ad 0), .int (zI o), .int (zI side), .int (zI wo)]) (n := 5) (Nat.le_of_ble_eq_true rfl)
  rw [lg_entry_eq]
  generalize (lg_sl ([.ref (ad 0), .int (zI o), .int (zI side), .int (zI wo)]) ++ List.replicate (5 - (lg_sl ([.ref (ad 0), .int (zI o), .int (zI side), .int (zI wo)])).length) Slot.unset).toArray = ls at hl ⊢
  have hl : lv_has ls 5 [(0, .ref (ad 0)), (1, .int (zI o)), (2, .int (zI side)), (3, .int (zI wo))] := hl
  have hin : ∀ w ∈ wsX10, w ∈ wsX1_finish := in_X1_finish
  refine lv_iload_n hx hb dX1_finish_0 rfl (lv_at hl 1 rfl) ?_
  refine z_bipush (z := 8) hx hb dX1_finish_1 (by decide +kernel) ?_
  refine z_imul hx hb dX1_finish_3 ?_
  refine z_top (y := 8 * o) (by omega) ?_
  refine lv_istore (lv' := [(4, .int (zI (8 * o))), (0, .ref (ad 0)), (1, .int (zI o)), (2, .int (zI side)), (3, .int (zI wo))]) hx hb dX1_finish_4 hl (by decide) rfl (fun ls hl => ?_)
  refine lv_aload_n hx hb dX1_finish_6 rfl (lv_at hl 1 rfl) ?_
  refine gx_X1_1 hx hb hts hin hown hK hP (hts _ (List.mem_of_getElem? (i := 1) rfl)) dX1_finish_7 ?_
  refine lv_iload hx hb dX1_finish_10 (lv_at hl 0 rfl) ?_
  refine z_iconst hx hb dX1_finish_12 ?_
  refine z_iadd hx hb dX1_finish_13 ?_
  refine z_top (y := 8 * o + 3) (by omega) ?_
  refine z_iconst hx hb dX1_finish_14 ?_
  refine st_X1_1 hx hb hK hP hD hS (by omega) dX1_finish_15 (fun H locs hP hS => ?_)
  refine lv_aload_n hx hb dX1_finish_16 rfl (lv_at hl 1 rfl) ?_
  refine gx_X1_1 hx hb hts hin hown hK hP (hts _ (List.mem_of_getElem? (i := 1) rfl)) dX1_finish_17 ?_
  refine lv_iload hx hb dX1_finish_20 (lv_at hl 0 rfl) ?_
  refine z_iconst hx hb dX1_finish_22 ?_
  refine z_iadd hx hb dX1_finish_23 ?_
  refine z_top (y := 8 * o + 5) (by omega) ?_
  refine lv_aload_n hx hb dX1_finish_24 rfl (lv_at hl 1 rfl) ?_
  refine gx_X1_5 hx hb hts hin hown hK hP (hts _ (List.mem_of_getElem? (i := 2) rfl)) dX1_finish_25 ?_
  refine z_top (y := S 5 0) (rfl) ?_
  refine st_X1_1 hx hb hK hP hD hS (by omega) dX1_finish_28 (fun H locs hP hS => ?_)
  refine lv_aload_n hx hb dX1_finish_29 rfl (lv_at hl 1 rfl) ?_
  refine gx_X1_1 hx hb hts hin hown hK hP (hts _ (List.mem_of_getElem? (i := 1) rfl)) dX1_finish_30 ?_
  refine lv_iload hx hb dX1_finish_33 (lv_at hl 0 rfl) ?_
  refine z_bipush (z := 6) hx hb dX1_finish_35 (by decide +kernel) ?_
  refine z_iadd hx hb dX1_finish_37 ?_
  refine z_top (y := 8 * o + 6) (by omega) ?_
  refine lv_iload_n hx hb dX1_finish_38 rfl (lv_at hl 3 rfl) ?_
  refine st_X1_1 hx hb hK hP hD hS (by omega) dX1_finish_39 (fun H locs hP hS => ?_)
  refine lv_aload_n hx hb dX1_finish_40 rfl (lv_at hl 1 rfl) ?_
  refine gx_X1_1 hx hb hts hin hown hK hP (hts _ (List.mem_of_getElem? (i := 1) rfl)) dX1_finish_41 ?_
  refine lv_iload hx hb dX1_finish_44 (lv_at hl 0 rfl) ?_
  refine z_bipush (z := 7) hx hb dX1_finish_46 (by decide +kernel) ?_
  refine z_iadd hx hb dX1_finish_48 ?_
  refine z_top (y := 8 * o + 7) (by omega) ?_
  refine lv_iload_n hx hb dX1_finish_49 rfl (lv_at hl 4 rfl) ?_
  refine st_X1_1 hx hb hK hP hD hS (by omega) dX1_finish_50 (fun H locs hP hS => ?_)
  refine lv_aload_n hx hb dX1_finish_51 rfl (lv_at hl 1 rfl) ?_
  refine lv_dup hx hb dX1_finish_52 rfl ?_
  refine gx_X1_8 hx hb hts hin hown hK hP (hts _ (List.mem_of_getElem? (i := 3) rfl)) dX1_finish_53 ?_
  refine z_top (y := S 8 0) (rfl) ?_
  refine z_iconst hx hb dX1_finish_56 ?_
  refine z_isub hx hb dX1_finish_57 ?_
  refine z_top (y := S 8 0 - 1) (by omega) ?_
  refine px_X1_8 hx hb hts hin hown hK hP hD hS (hts _ (List.mem_of_getElem? (i := 3) rfl)) dX1_finish_58 (fun H locs hP hS => ?_)
  refine lv_aload_n hx hb dX1_finish_61 rfl (lv_at hl 1 rfl) ?_
  refine gx_X1_3 hx hb hts hin hown hK hP (hts _ (List.mem_of_getElem? (i := 4) rfl)) dX1_finish_62 ?_
  refine lv_aload_n hx hb dX1_finish_65 rfl (lv_at hl 1 rfl) ?_
  refine gx_X1_1 hx hb hts hin hown hK hP (hts _ (List.mem_of_getElem? (i := 1) rfl)) dX1_finish_66 ?_
  refine lv_iload hx hb dX1_finish_69 (lv_at hl 0 rfl) ?_
  refine z_iconst hx hb dX1_finish_71 ?_
  refine z_iadd hx hb dX1_finish_72 ?_
  refine z_top (y := 8 * o + 1) (by omega) ?_
  refine ld_X1_1 (v := S 1 (8 * o + 1)) hx hb hK hP (by omega) (((congrFun (up2_nr (by decide)) _).trans (((up2_ne (by omega)).trans (((up2_ne (by omega)).trans (((up2_ne (by omega)).trans (((up2_ne (by omega)).trans (rfl))))))))))) dX1_finish_73 ?_
  refine z_bipush (z := 12) hx hb dX1_finish_74 (by decide +kernel) ?_
  refine z_imul hx hb dX1_finish_76 ?_
  refine z_top (y := 12 * S 1 (8 * o + 1)) (by omega) ?_
  refine lv_aload_n hx hb dX1_finish_77 rfl (lv_at hl 1 rfl) ?_
  refine gx_X1_1 hx hb hts hin hown hK hP (hts _ (List.mem_of_getElem? (i := 1) rfl)) dX1_finish_78 ?_
  refine lv_iload hx hb dX1_finish_81 (lv_at hl 0 rfl) ?_
  refine z_iconst hx hb dX1_finish_83 ?_
  refine z_iadd hx hb dX1_finish_84 ?_
  refine z_top (y := 8 * o + 2) (by omega) ?_
  refine ld_X1_1 (v := S 1 (8 * o + 2)) hx hb hK hP (by omega) (((congrFun (up2_nr (by decide)) _).trans (((up2_ne (by omega)).trans (((up2_ne (by omega)).trans (((up2_ne (by omega)).trans (((up2_ne (by omega)).trans (rfl))))))))))) dX1_finish_85 ?_
  refine z_iadd hx hb dX1_finish_86 ?_
  refine z_top (y := 12 * S 1 (8 * o + 1) + S 1 (8 * o + 2)) (by omega) ?_
  refine lv_dup2_11 hx hb dX1_finish_87 rfl rfl ?_
  refine ld_X1_3 (v := S 3 (12 * S 1 (8 * o + 1) + S 1 (8 * o + 2))) hx hb hK hP (by omega) rfl dX1_finish_88 ?_
  refine z_iconst hx hb dX1_finish_89 ?_
  refine z_isub hx hb dX1_finish_90 ?_
  refine z_top (y := S 3 (12 * S 1 (8 * o + 1) + S 1 (8 * o + 2)) - 1) (by omega) ?_
  refine st_X1_3 hx hb hK hP hD hS (by omega) dX1_finish_91 (fun H locs hP hS => ?_)
  refine lv_aload_n hx hb dX1_finish_92 rfl (lv_at hl 1 rfl) ?_
  refine gx_X1_4 hx hb hts hin hown hK hP (hts _ (List.mem_of_getElem? (i := 5) rfl)) dX1_finish_93 ?_
  refine lv_aload_n hx hb dX1_finish_96 rfl (lv_at hl 1 rfl) ?_
  refine gx_X1_1 hx hb hts hin hown hK hP (hts _ (List.mem_of_getElem? (i := 1) rfl)) dX1_finish_97 ?_
  refine lv_iload hx hb dX1_finish_100 (lv_at hl 0 rfl) ?_
  refine z_iconst hx hb dX1_finish_102 ?_
  refine z_iadd hx hb dX1_finish_103 ?_
  refine z_top (y := 8 * o + 1) (by omega) ?_
  refine ld_X1_1 (v := S 1 (8 * o + 1)) hx hb hK hP (by omega) (((congrFun (up2_nr (by decide)) _).trans (((congrFun (up2_nr (by decide)) _).trans (((up2_ne (by omega)).trans (((up2_ne (by omega)).trans (((up2_ne (by omega)).trans (((up2_ne (by omega)).trans (rfl))))))))))))) dX1_finish_104 ?_
  refine lv_dup2_11 hx hb dX1_finish_105 rfl rfl ?_
  refine ld_X1_4 (v := S 4 (S 1 (8 * o + 1))) hx hb hK hP (by omega) rfl dX1_finish_106 ?_
  refine z_iconst hx hb dX1_finish_107 ?_
  refine z_isub hx hb dX1_finish_108 ?_
  refine z_top (y := S 4 (S 1 (8 * o + 1)) - 1) (by omega) ?_
  refine st_X1_4 hx hb hK hP hD hS (by omega) dX1_finish_109 (fun H locs hP hS => ?_)
  exact z_vret hx hb hr hlk hP hS dX1_finish_110 (congrArg (tW_X1 ad cI) (by rfl))
theorem in_X1_setWhole : ∀ w ∈ wsX10, w ∈ wsX1_setWhole := fun w h => List.mem_cons_of_mem _ (List.mem_append_right _ h)
set_option maxHeartbeats 4000000 in
set_option maxRecDepth 100000 in
theorem k_X1_setWhole (l : Launch) (dC : Nat → ClassId) (dI : Nat → Nat → Nat) (cI cQ : ClassId) (A : Nat → Prop) (ad : Nat → Nat) (S : Nat → Int → Int) (hD : ∀ S, va_D A (tW_X1 ad cI S)) (cell v w : Int) (h : 0 ≤ cell ∧ cell ≤ 380) : Met l yX1_setWhole wsX1_setWhole ({ frames := 0, cells := 0, slots := 0, locals := 0 }) (zPc (dC, dI) vwCl (zT cI cQ) (tW_X1 ad cI S) [.ref (ad 0), .int (zI cell), .int (zI v), .int (zI w)]) (zQv (dC, dI) vwCl (tW_X1 ad cI (setWS S cell v w)) A) 0 0 A := by
  refine Met.ofW (cc := cX1_setWhole) (maxL := 4) (ret := none) (by decide) rfl ?_
  intro p e s m args below meth c s₁ B hml hv
  obtain ⟨rfl, hP, hK⟩ := hv
  have hx := B.exec
  have hb := B.bytes
  have hr := B.returns
  have hts := atoms_spec (ws := wsX1_setWhole) B.pre
  have hown : s.vm.findClass RX1 = some m.cls := findClass_of_methodNamed B.named
  have hlk := B.notSynchronized
  have hS : va_S A s.heap s.heap [] := va_S.rf
  have hl := lv_entry ([.ref (ad 0), .int (zI cell), .int (zI v), .int (zI w)]) (n := 4) (Nat.le_of_ble_eq_true rfl)
  rw [lg_entry_eq]
  generalize (lg_sl ([.ref (ad 0), .int (zI cell), .int (zI v), .int (zI w)]) ++ List.replicate (4 - (lg_sl ([.ref (ad 0), .int (zI cell), .int (zI v), .int (zI w)])).length) Slot.unset).toArray = ls at hl ⊢
  have hl : lv_has ls 4 [(0, .ref (ad 0)), (1, .int (zI cell)), (2, .int (zI v)), (3, .int (zI w))] := hl
  have hin : ∀ w ∈ wsX10, w ∈ wsX1_setWhole := in_X1_setWhole
  refine lv_aload_n hx hb dX1_setWhole_0 rfl (lv_at hl 0 rfl) ?_
  refine gx_X1_0 hx hb hts hin hown hK hP (hts _ (List.mem_of_getElem? (i := 1) rfl)) dX1_setWhole_1 ?_
  refine lv_iload_n hx hb dX1_setWhole_4 rfl (lv_at hl 1 rfl) ?_
  refine z_iconst hx hb dX1_setWhole_5 ?_
  refine z_iadd hx hb dX1_setWhole_6 ?_
  refine z_top (y := cell) (by omega) ?_
  refine lv_iload_n hx hb dX1_setWhole_7 rfl (lv_at hl 2 rfl) ?_
  refine st_X1_0 hx hb hK hP hD hS (by omega) dX1_setWhole_8 (fun H locs hP hS => ?_)
  refine lv_aload_n hx hb dX1_setWhole_9 rfl (lv_at hl 0 rfl) ?_
  refine gx_X1_0 hx hb hts hin hown hK hP (hts _ (List.mem_of_getElem? (i := 1) rfl)) dX1_setWhole_10 ?_
  refine lv_iload_n hx hb dX1_setWhole_13 rfl (lv_at hl 1 rfl) ?_
  refine z_iconst hx hb dX1_setWhole_14 ?_
  refine z_iadd hx hb dX1_setWhole_15 ?_
  refine lv_iload_n hx hb dX1_setWhole_16 rfl (lv_at hl 3 rfl) ?_
  refine st_X1_0 hx hb hK hP hD hS (by omega) dX1_setWhole_17 (fun H locs hP hS => ?_)
  refine lv_aload_n hx hb dX1_setWhole_18 rfl (lv_at hl 0 rfl) ?_
  refine gx_X1_0 hx hb hts hin hown hK hP (hts _ (List.mem_of_getElem? (i := 1) rfl)) dX1_setWhole_19 ?_
  refine lv_iload_n hx hb dX1_setWhole_22 rfl (lv_at hl 1 rfl) ?_
  refine z_iconst hx hb dX1_setWhole_23 ?_
  refine z_iadd hx hb dX1_setWhole_24 ?_
  refine z_iconst hx hb dX1_setWhole_25 ?_
  refine st_X1_0 hx hb hK hP hD hS (by omega) dX1_setWhole_26 (fun H locs hP hS => ?_)
  exact z_vret hx hb hr hlk hP hS dX1_setWhole_27 (congrArg (tW_X1 ad cI) (by rfl))
theorem in_X1_takeOver : ∀ w ∈ wsX10, w ∈ wsX1_takeOver := fun w h => List.mem_cons_of_mem _ (List.mem_append_right _ h)
set_option maxHeartbeats 4000000 in
set_option maxRecDepth 100000 in
theorem k_X1_takeOver (l : Launch) (dC : Nat → ClassId) (dI : Nat → Nat → Nat) (cI cQ : ClassId) (A : Nat → Prop) (ad : Nat → Nat) (S : Nat → Int → Int) (hD : ∀ S, va_D A (tW_X1 ad cI S)) (cell other : Int) (h : 0 ≤ cell ∧ cell ≤ 380) (h2 : 0 ≤ other ∧ other ≤ 380) : Met l yX1_takeOver wsX1_takeOver ({ frames := 1, cells := 0, slots := 0, locals := 23 }) (zPc (dC, dI) vwCl (zT cI cQ) (tW_X1 ad cI S) [.ref (ad 0), .int (zI cell), .int (zI other)]) (zQv (dC, dI) vwCl (tW_X1 ad cI (takeOS S cell other)) A) 0 0 A := by
  refine Met.ofW (cc := cX1_takeOver) (maxL := 3) (ret := none) (by decide) rfl ?_
  intro p e s m args below meth c s₁ B hml hv
  obtain ⟨rfl, hP, hK⟩ := hv
  have hx := B.exec
  have hb := B.bytes
  have hr := B.returns
  have hts := atoms_spec (ws := wsX1_takeOver) B.pre
  have hown : s.vm.findClass RX1 = some m.cls := findClass_of_methodNamed B.named
  have hlk := B.notSynchronized
  have hS : va_S A s.heap s.heap [] := va_S.rf
  have hl := lv_entry ([.ref (ad 0), .int (zI cell), .int (zI other)]) (n := 3) (Nat.le_of_ble_eq_true rfl)
  rw [lg_entry_eq]
  generalize (lg_sl ([.ref (ad 0), .int (zI cell), .int (zI other)]) ++ List.replicate (3 - (lg_sl ([.ref (ad 0), .int (zI cell), .int (zI other)])).length) Slot.unset).toArray = ls at hl ⊢
  have hl : lv_has ls 3 [(0, .ref (ad 0)), (1, .int (zI cell)), (2, .int (zI other))] := hl
  have hin : ∀ w ∈ wsX10, w ∈ wsX1_takeOver := in_X1_takeOver
  refine lv_aload_n hx hb dX1_takeOver_0 rfl (lv_at hl 0 rfl) ?_
  refine lv_iload_n hx hb dX1_takeOver_1 rfl (lv_at hl 1 rfl) ?_
  refine lv_aload_n hx hb dX1_takeOver_2 rfl (lv_at hl 0 rfl) ?_
  refine gx_X1_0 hx hb hts hin hown hK hP (hts _ (List.mem_of_getElem? (i := 1) rfl)) dX1_takeOver_3 ?_
  refine lv_iload_n hx hb dX1_takeOver_6 rfl (lv_at hl 2 rfl) ?_
  refine z_iconst hx hb dX1_takeOver_7 ?_
  refine z_iadd hx hb dX1_takeOver_8 ?_
  refine z_top (y := other) (by omega) ?_
  refine ld_X1_0 (v := S 0 other) hx hb hK hP (by omega) rfl dX1_takeOver_9 ?_
  refine lv_aload_n hx hb dX1_takeOver_10 rfl (lv_at hl 0 rfl) ?_
  refine gx_X1_0 hx hb hts hin hown hK hP (hts _ (List.mem_of_getElem? (i := 1) rfl)) dX1_takeOver_11 ?_
  refine lv_iload_n hx hb dX1_takeOver_14 rfl (lv_at hl 2 rfl) ?_
  refine z_iconst hx hb dX1_takeOver_15 ?_
  refine z_iadd hx hb dX1_takeOver_16 ?_
  refine ld_X1_0 (v := S 0 (other + 1)) hx hb hK hP (by omega) rfl dX1_takeOver_17 ?_
  refine z_callv (va_runV (As := [.int (zI cell), .int (zI (S 0 other)), .int (zI (S 0 (other + 1)))]) (rest := []) ⟨hx, hb, hml, hown, hts⟩ (k_X1_setWhole l dC dI cI cQ A ad S hD cell (S 0 other) (S 0 (other + 1)) (by omega)) (cwV 3 hts gX1_takeOver_X1_setWhole rfl rfl rfl (by decide +kernel) ⟨Nat.le_of_ble_eq_true rfl, Nat.le_of_ble_eq_true rfl⟩) (z_preV hK hP (ci := 1) (q0 := 0) rfl rfl rfl) rfl rfl hl.1 rfl (lv_room (Nat.le_of_ble_eq_true rfl)) dX1_takeOver_18 ⟨Nat.zero_le _, Nat.zero_le _⟩) hS (fun _ h => h) (fun H locs hP hS _ _ => ?_)
  exact z_vret hx hb hr hlk hP hS dX1_takeOver_21 (congrArg (tW_X1 ad cI) (by rfl))
theorem in_X1_setLate : ∀ w ∈ wsX10, w ∈ wsX1_setLate := fun w h => List.mem_cons_of_mem _ (List.mem_append_right _ h)
set_option maxHeartbeats 4000000 in
set_option maxRecDepth 100000 in
theorem k_X1_setLate (l : Launch) (dC : Nat → ClassId) (dI : Nat → Nat → Nat) (cI cQ : ClassId) (A : Nat → Prop) (ad : Nat → Nat) (S : Nat → Int → Int) (hD : ∀ S, va_D A (tW_X1 ad cI S)) (cell late : Int) (h : 0 ≤ cell ∧ cell ≤ 380) (h2 : 0 ≤ S 6 0 ∧ S 6 0 < 4) : Met l yX1_setLate wsX1_setLate ({ frames := 0, cells := 0, slots := 0, locals := 0 }) (zPc (dC, dI) vwCl (zT cI cQ) (tW_X1 ad cI S) [.ref (ad 0), .int (zI cell), .int (zI late)]) (zQv (dC, dI) vwCl (tW_X1 ad cI (setLS S cell late)) A) 0 0 A := by
  refine Met.ofW (cc := cX1_setLate) (maxL := 3) (ret := none) (by decide) rfl ?_
  intro p e s m args below meth c s₁ B hml hv
  obtain ⟨rfl, hP, hK⟩ := hv
  have hx := B.exec
  have hb := B.bytes
  have hr := B.returns
  have hts := atoms_spec (ws := wsX1_setLate) B.pre
  have hown : s.vm.findClass RX1 = some m.cls := findClass_of_methodNamed B.named
  have hlk := B.notSynchronized
  have hS : va_S A s.heap s.heap [] := va_S.rf
  have hl := lv_entry ([.ref (ad 0), .int (zI cell), .int (zI late)]) (n := 3) (Nat.le_of_ble_eq_true rfl)
  rw [lg_entry_eq]
  generalize (lg_sl ([.ref (ad 0), .int (zI cell), .int (zI late)]) ++ List.replicate (3 - (lg_sl ([.ref (ad 0), .int (zI cell), .int (zI late)])).length) Slot.unset).toArray = ls at hl ⊢
  have hl : lv_has ls 3 [(0, .ref (ad 0)), (1, .int (zI cell)), (2, .int (zI late))] := hl
  have hin : ∀ w ∈ wsX10, w ∈ wsX1_setLate := in_X1_setLate
  refine lv_aload_n hx hb dX1_setLate_0 rfl (lv_at hl 0 rfl) ?_
  refine gx_X1_4 hx hb hts hin hown hK hP (hts _ (List.mem_of_getElem? (i := 1) rfl)) dX1_setLate_1 ?_
  refine lv_aload_n hx hb dX1_setLate_4 rfl (lv_at hl 0 rfl) ?_
  refine gx_X1_6 hx hb hts hin hown hK hP (hts _ (List.mem_of_getElem? (i := 2) rfl)) dX1_setLate_5 ?_
  refine lv_dup2_11 hx hb dX1_setLate_8 rfl rfl ?_
  refine ld_X1_4 (v := S 4 (S 6 0)) hx hb hK hP (by omega) rfl dX1_setLate_9 ?_
  refine lv_iload_n hx hb dX1_setLate_10 rfl (lv_at hl 2 rfl) ?_
  refine lv_aload_n hx hb dX1_setLate_11 rfl (lv_at hl 0 rfl) ?_
  refine gx_X1_0 hx hb hts hin hown hK hP (hts _ (List.mem_of_getElem? (i := 3) rfl)) dX1_setLate_12 ?_
  refine lv_iload_n hx hb dX1_setLate_15 rfl (lv_at hl 1 rfl) ?_
  refine z_iconst hx hb dX1_setLate_16 ?_
  refine z_iadd hx hb dX1_setLate_17 ?_
  refine ld_X1_0 (v := S 0 (cell + 3)) hx hb hK hP (by omega) rfl dX1_setLate_18 ?_
  refine z_isub hx hb dX1_setLate_19 ?_
  refine z_top (y := late - S 0 (cell + 3)) (by omega) ?_
  refine z_iadd hx hb dX1_setLate_20 ?_
  refine z_top (y := S 4 (S 6 0) + late - S 0 (cell + 3)) (by omega) ?_
  refine st_X1_4 hx hb hK hP hD hS (by omega) dX1_setLate_21 (fun H locs hP hS => ?_)
  refine lv_aload_n hx hb dX1_setLate_22 rfl (lv_at hl 0 rfl) ?_
  refine gx_X1_0 hx hb hts hin hown hK hP (hts _ (List.mem_of_getElem? (i := 3) rfl)) dX1_setLate_23 ?_
  refine lv_iload_n hx hb dX1_setLate_26 rfl (lv_at hl 1 rfl) ?_
  refine z_iconst hx hb dX1_setLate_27 ?_
  refine z_iadd hx hb dX1_setLate_28 ?_
  refine lv_iload_n hx hb dX1_setLate_29 rfl (lv_at hl 2 rfl) ?_
  refine st_X1_0 hx hb hK hP hD hS (by omega) dX1_setLate_30 (fun H locs hP hS => ?_)
  exact z_vret hx hb hr hlk hP hS dX1_setLate_31 (congrArg (tW_X1 ad cI) (by rfl))
theorem in_X1_forgetWritten : ∀ w ∈ wsX10, w ∈ wsX1_forgetWritten := fun w h => List.mem_cons_of_mem _ (List.mem_append_right _ h)
set_option maxHeartbeats 4000000 in
set_option maxRecDepth 100000 in
theorem k_X1_forgetWritten (l : Launch) (dC : Nat → ClassId) (dI : Nat → Nat → Nat) (cI cQ : ClassId) (A : Nat → Prop) (ad : Nat → Nat) (S : Nat → Int → Int) (hD : ∀ S, va_D A (tW_X1 ad cI S)) : Met l yX1_forgetWritten wsX1_forgetWritten ({ frames := 0, cells := 0, slots := 0, locals := 0 }) (zPc (dC, dI) vwCl (zT cI cQ) (tW_X1 ad cI S) [.ref (ad 0)]) (zQv (dC, dI) vwCl (tW_X1 ad cI (forgS S)) A) 0 0 A := by
  refine Met.ofW (cc := cX1_forgetWritten) (maxL := 2) (ret := none) (by decide) rfl ?_
  intro p e s m args below meth c s₁ B hml hv
  obtain ⟨rfl, hP, hK⟩ := hv
  have hx := B.exec
  have hb := B.bytes
  have hr := B.returns
  have hts := atoms_spec (ws := wsX1_forgetWritten) B.pre
  have hown : s.vm.findClass RX1 = some m.cls := findClass_of_methodNamed B.named
  have hlk := B.notSynchronized
  have hS : va_S A s.heap s.heap [] := va_S.rf
  have hl := lv_entry ([.ref (ad 0)]) (n := 2) (Nat.le_of_ble_eq_true rfl)
  rw [lg_entry_eq]
  generalize (lg_sl ([.ref (ad 0)]) ++ List.replicate (2 - (lg_sl ([.ref (ad 0)])).length) Slot.unset).toArray = ls at hl ⊢
  have hl : lv_has ls 2 [(0, .ref (ad 0))] := hl
  have hin : ∀ w ∈ wsX10, w ∈ wsX1_forgetWritten := in_X1_forgetWritten
  refine z_iconst hx hb dX1_forgetWritten_0 ?_
  refine lv_istore_n (lv' := [(1, .int (zI 0)), (0, .ref (ad 0))]) hx hb dX1_forgetWritten_1 rfl hl (by decide) rfl (fun ls hl => ?_)
  refine lv_iload_n hx hb dX1_forgetWritten_2 rfl (lv_at hl 0 rfl) ?_
  refine z_iconst hx hb dX1_forgetWritten_3 ?_
  refine z_icmp_ge (tgt := 20) hx hb dX1_forgetWritten_4 (by decide) (by omega) (by omega) (fun q => absurd q (by omega)) (fun _ => ?_)
  refine lv_aload_n hx hb dX1_forgetWritten_7 rfl (lv_at hl 1 rfl) ?_
  refine gx_X1_2 hx hb hts hin hown hK hP (hts _ (List.mem_of_getElem? (i := 1) rfl)) dX1_forgetWritten_8 ?_
  refine lv_iload_n hx hb dX1_forgetWritten_11 rfl (lv_at hl 0 rfl) ?_
  refine z_iconst hx hb dX1_forgetWritten_12 ?_
  refine st_X1_2 hx hb hK hP hD hS (by omega) dX1_forgetWritten_13 (fun H locs hP hS => ?_)
  refine z_iinc (lv' := [(1, .int (zI 1)), (0, .ref (ad 0))]) hx hb dX1_forgetWritten_14 hl (k := 0) rfl (by decide) (by rw [show (0 : Int) + (1) = 1 from by omega]; rfl) (fun ls hl => ?_)
  refine lv_goto (tgt := 2) hx hb dX1_forgetWritten_17 (by decide) ?_
  refine lv_iload_n hx hb dX1_forgetWritten_2 rfl (lv_at hl 0 rfl) ?_
  refine z_iconst hx hb dX1_forgetWritten_3 ?_
  refine z_icmp_ge (tgt := 20) hx hb dX1_forgetWritten_4 (by decide) (by omega) (by omega) (fun q => absurd q (by omega)) (fun _ => ?_)
  refine lv_aload_n hx hb dX1_forgetWritten_7 rfl (lv_at hl 1 rfl) ?_
  refine gx_X1_2 hx hb hts hin hown hK hP (hts _ (List.mem_of_getElem? (i := 1) rfl)) dX1_forgetWritten_8 ?_
  refine lv_iload_n hx hb dX1_forgetWritten_11 rfl (lv_at hl 0 rfl) ?_
  refine z_iconst hx hb dX1_forgetWritten_12 ?_
  refine st_X1_2 hx hb hK hP hD hS (by omega) dX1_forgetWritten_13 (fun H locs hP hS => ?_)
  refine z_iinc (lv' := [(1, .int (zI 2)), (0, .ref (ad 0))]) hx hb dX1_forgetWritten_14 hl (k := 0) rfl (by decide) (by rw [show (1 : Int) + (1) = 2 from by omega]; rfl) (fun ls hl => ?_)
  refine lv_goto (tgt := 2) hx hb dX1_forgetWritten_17 (by decide) ?_
  refine lv_iload_n hx hb dX1_forgetWritten_2 rfl (lv_at hl 0 rfl) ?_
  refine z_iconst hx hb dX1_forgetWritten_3 ?_
  refine z_icmp_ge (tgt := 20) hx hb dX1_forgetWritten_4 (by decide) (by omega) (by omega) (fun _ => ?_) (fun q => absurd (by omega) q)
  exact z_vret hx hb hr hlk hP hS dX1_forgetWritten_20 (congrArg (tW_X1 ad cI) (by rfl))
theorem in_X1_firstWaiting : ∀ w ∈ wsX10, w ∈ wsX1_firstWaiting := fun w h => List.mem_cons_of_mem _ (List.mem_append_right _ h)
set_option maxHeartbeats 4000000 in
set_option maxRecDepth 100000 in
theorem k_X1_firstWaiting (l : Launch) (dC : Nat → ClassId) (dI : Nat → Nat → Nat) (cI cQ : ClassId) (A : Nat → Prop) (ad : Nat → Nat) (S : Nat → Int → Int) (hD : ∀ S, va_D A (tW_X1 ad cI S)) (kind tr se : Int) (hB : zB S) (ht : 0 ≤ S 7 0 ∧ S 7 0 ≤ 60) (q0 : -2147483648 ≤ kind ∧ kind < 2147483648) (q1 : -2147483648 ≤ tr ∧ tr < 2147483648) (q2 : -2147483648 ≤ se ∧ se < 2147483648) : Met l yX1_firstWaiting wsX1_firstWaiting ({ frames := 0, cells := 0, slots := 0, locals := 0 }) (zPc (dC, dI) vwCl (zT cI cQ) (tW_X1 ad cI S) [.ref (ad 0), .int (zI kind), .int (zI tr), .int (zI se)]) (zQi (dC, dI) vwCl (tW_X1 ad cI S) (firstWF S kind tr se) A) 0 0 A := by
  refine Met.ofW (cc := cX1_firstWaiting) (maxL := 6) (ret := (some .int)) (by decide) rfl ?_
  intro p e s m args below meth c s₁ B hml hv
  obtain ⟨rfl, hP, hK⟩ := hv
  have hx := B.exec
  have hb := B.bytes
  have hr := B.returns
  have hts := atoms_spec (ws := wsX1_firstWaiting) B.pre
  have hown : s.vm.findClass RX1 = some m.cls := findClass_of_methodNamed B.named
  have hlk := B.notSynchronized
  have hS : va_S A s.heap s.heap [] := va_S.rf
  have hl := lv_entry ([.ref (ad 0), .int (zI kind), .int (zI tr), .int (zI se)]) (n := 6) (Nat.le_of_ble_eq_true rfl)
  rw [lg_entry_eq]
  generalize (lg_sl ([.ref (ad 0), .int (zI kind), .int (zI tr), .int (zI se)]) ++ List.replicate (6 - (lg_sl ([.ref (ad 0), .int (zI kind), .int (zI tr), .int (zI se)])).length) Slot.unset).toArray = ls at hl ⊢
  have hl : lv_has ls 6 [(0, .ref (ad 0)), (1, .int (zI kind)), (2, .int (zI tr)), (3, .int (zI se))] := hl
  have hin : ∀ w ∈ wsX10, w ∈ wsX1_firstWaiting := in_X1_firstWaiting
  refine z_iconst hx hb dX1_firstWaiting_0 ?_
  refine lv_istore (lv' := [(4, .int (zI 0)), (0, .ref (ad 0)), (1, .int (zI kind)), (2, .int (zI tr)), (3, .int (zI se))]) hx hb dX1_firstWaiting_1 hl (by decide) rfl (fun ls hl => ?_)
  have hloop3 : ∀ (n : Nat) (order : Int), (0 ≤ order ∧ order ≤ S 7 0) → (fstN (fun o => S 1 (8 * o + 3) = 0 ∧ S 1 (8 * o) = kind ∧ S 1 (8 * o + 1) = tr ∧ S 1 (8 * o + 2) = se) (S 7 0 - order).toNat order = fstN (fun o => S 1 (8 * o + 3) = 0 ∧ S 1 (8 * o) = kind ∧ S 1 (8 * o + 1) = tr ∧ S 1 (8 * o + 2) = se) (S 7 0).toNat 0) → (S 7 0 - order < (n : Int)) → ∀ (H : Heap) (locs : List Loc), va_P (dC, dI) vwCl (tW_X1 ad cI S) H → va_S A s.heap H locs → ∀ ls : Array Slot, lv_has ls 6 [(4, .int (zI order)), (0, .ref (ad 0)), (1, .int (zI kind)), (2, .int (zI tr)), (3, .int (zI se))] → W p l e (headSpec wsX1_firstWaiting ({ frames := 0, cells := 0, slots := 0, locals := 0 })).room s m ([.ref (ad 0), .int (zI kind), .int (zI tr), .int (zI se)] : List Value).toArray below meth c H locs 0 0 (MQ below (zQi (dC, dI) vwCl (tW_X1 ad cI S) (firstWF S kind tr se) A) ([.ref (ad 0), .int (zI kind), .int (zI tr), .int (zI se)] : List Value).toArray s 0 0 A) (F0 m 3 ls []) := by
    intro n
    induction n with
    | zero =>
      intro order i0 i1 hm
      exfalso
      omega
    | succ n ih =>
      intro order i0 i1 hm H locs hP hS ls hl
      have ih3 := ih
      clear ih
      refine lv_iload hx hb dX1_firstWaiting_3 (lv_at hl 0 rfl) ?_
      refine lv_aload_n hx hb dX1_firstWaiting_5 rfl (lv_at hl 1 rfl) ?_
      refine gx_X1_7 hx hb hts hin hown hK hP (hts _ (List.mem_of_getElem? (i := 1) rfl)) dX1_firstWaiting_6 ?_
      have b1 := hB 7 0 (Or.inr ⟨by decide, rfl⟩)
      refine z_icmp_ge (tgt := 79) hx hb dX1_firstWaiting_9 (by decide) (by omega) (by omega) (fun c1 => ?_) (fun c1 => ?_)
      · refine z_bipush (z := (-9)) hx hb dX1_firstWaiting_79 (by decide +kernel) ?_
        exact z_iret hx hb hr hlk hP hS dX1_firstWaiting_81 (by unfold firstWF fstZ; rw [← i1, fstN_0 _ _ (by omega)]) rfl
      · refine lv_iload hx hb dX1_firstWaiting_12 (lv_at hl 0 rfl) ?_
        refine z_bipush (z := 8) hx hb dX1_firstWaiting_14 (by decide +kernel) ?_
        refine z_imul hx hb dX1_firstWaiting_16 ?_
        refine z_top (y := 8 * order) (by omega) ?_
        refine lv_istore (lv' := [(5, .int (zI (8 * order))), (4, .int (zI order)), (0, .ref (ad 0)), (1, .int (zI kind)), (2, .int (zI tr)), (3, .int (zI se))]) hx hb dX1_firstWaiting_17 hl (by decide) rfl (fun ls hl => ?_)
        refine lv_aload_n hx hb dX1_firstWaiting_19 rfl (lv_at hl 2 rfl) ?_
        refine gx_X1_1 hx hb hts hin hown hK hP (hts _ (List.mem_of_getElem? (i := 2) rfl)) dX1_firstWaiting_20 ?_
        refine lv_iload hx hb dX1_firstWaiting_23 (lv_at hl 0 rfl) ?_
        refine z_iconst hx hb dX1_firstWaiting_25 ?_
        refine z_iadd hx hb dX1_firstWaiting_26 ?_
        refine z_top (y := 8 * order + 3) (by omega) ?_
        refine ld_X1_1 (v := S 1 (8 * order + 3)) hx hb hK hP (by omega) rfl dX1_firstWaiting_27 ?_
        have b2 := hB 1 (8 * order + 3) (Or.inl (by decide))
        refine z_if_ne (tgt := 73) hx hb dX1_firstWaiting_28 (by decide) (by omega) (fun c2 => ?_) (fun c2 => ?_)
        · refine z_iinc (lv' := [(4, .int (zI (order + 1))), (5, .int (zI (8 * order))), (0, .ref (ad 0)), (1, .int (zI kind)), (2, .int (zI tr)), (3, .int (zI se))]) hx hb dX1_firstWaiting_73 hl (k := 1) rfl (by decide) (by rw [show (order : Int) + (1) = (order + 1) from by omega]; rfl) (fun ls hl => ?_)
          refine lv_goto (tgt := 3) hx hb dX1_firstWaiting_76 (by decide) ?_
          exact ih3 (order + 1) (by omega) (by rw [← i1, fstN_pos _ order (by omega), if_neg (by omega), show S 7 0 - (order + 1) = S 7 0 - order - 1 from by omega]) (by omega) _ _ hP hS ls (lv_sub hl [0, 2, 3, 4, 5] rfl)
        · refine lv_aload_n hx hb dX1_firstWaiting_31 rfl (lv_at hl 2 rfl) ?_
          refine gx_X1_1 hx hb hts hin hown hK hP (hts _ (List.mem_of_getElem? (i := 2) rfl)) dX1_firstWaiting_32 ?_
          refine lv_iload hx hb dX1_firstWaiting_35 (lv_at hl 0 rfl) ?_
          refine z_iconst hx hb dX1_firstWaiting_37 ?_
          refine z_iadd hx hb dX1_firstWaiting_38 ?_
          refine z_top (y := 8 * order) (by omega) ?_
          refine ld_X1_1 (v := S 1 (8 * order)) hx hb hK hP (by omega) rfl dX1_firstWaiting_39 ?_
          have b3 := hB 1 (8 * order) (Or.inl (by decide))
          refine lv_iload_n hx hb dX1_firstWaiting_40 rfl (lv_at hl 3 rfl) ?_
          refine z_icmp_ne (tgt := 73) hx hb dX1_firstWaiting_41 (by decide) (by omega) (by omega) (fun c3 => ?_) (fun c3 => ?_)
          · refine z_iinc (lv' := [(4, .int (zI (order + 1))), (5, .int (zI (8 * order))), (0, .ref (ad 0)), (1, .int (zI kind)), (2, .int (zI tr)), (3, .int (zI se))]) hx hb dX1_firstWaiting_73 hl (k := 1) rfl (by decide) (by rw [show (order : Int) + (1) = (order + 1) from by omega]; rfl) (fun ls hl => ?_)
            refine lv_goto (tgt := 3) hx hb dX1_firstWaiting_76 (by decide) ?_
            exact ih3 (order + 1) (by omega) (by rw [← i1, fstN_pos _ order (by omega), if_neg (by omega), show S 7 0 - (order + 1) = S 7 0 - order - 1 from by omega]) (by omega) _ _ hP hS ls (lv_sub hl [0, 2, 3, 4, 5] rfl)
          · refine lv_aload_n hx hb dX1_firstWaiting_44 rfl (lv_at hl 2 rfl) ?_
            refine gx_X1_1 hx hb hts hin hown hK hP (hts _ (List.mem_of_getElem? (i := 2) rfl)) dX1_firstWaiting_45 ?_
            refine lv_iload hx hb dX1_firstWaiting_48 (lv_at hl 0 rfl) ?_
            refine z_iconst hx hb dX1_firstWaiting_50 ?_
            refine z_iadd hx hb dX1_firstWaiting_51 ?_
            refine z_top (y := 8 * order + 1) (by omega) ?_
            refine ld_X1_1 (v := S 1 (8 * order + 1)) hx hb hK hP (by omega) rfl dX1_firstWaiting_52 ?_
            have b4 := hB 1 (8 * order + 1) (Or.inl (by decide))
            refine lv_iload_n hx hb dX1_firstWaiting_53 rfl (lv_at hl 4 rfl) ?_
            refine z_icmp_ne (tgt := 73) hx hb dX1_firstWaiting_54 (by decide) (by omega) (by omega) (fun c4 => ?_) (fun c4 => ?_)
            · refine z_iinc (lv' := [(4, .int (zI (order + 1))), (5, .int (zI (8 * order))), (0, .ref (ad 0)), (1, .int (zI kind)), (2, .int (zI tr)), (3, .int (zI se))]) hx hb dX1_firstWaiting_73 hl (k := 1) rfl (by decide) (by rw [show (order : Int) + (1) = (order + 1) from by omega]; rfl) (fun ls hl => ?_)
              refine lv_goto (tgt := 3) hx hb dX1_firstWaiting_76 (by decide) ?_
              exact ih3 (order + 1) (by omega) (by rw [← i1, fstN_pos _ order (by omega), if_neg (by omega), show S 7 0 - (order + 1) = S 7 0 - order - 1 from by omega]) (by omega) _ _ hP hS ls (lv_sub hl [0, 2, 3, 4, 5] rfl)
            · refine lv_aload_n hx hb dX1_firstWaiting_57 rfl (lv_at hl 2 rfl) ?_
              refine gx_X1_1 hx hb hts hin hown hK hP (hts _ (List.mem_of_getElem? (i := 2) rfl)) dX1_firstWaiting_58 ?_
              refine lv_iload hx hb dX1_firstWaiting_61 (lv_at hl 0 rfl) ?_
              refine z_iconst hx hb dX1_firstWaiting_63 ?_
              refine z_iadd hx hb dX1_firstWaiting_64 ?_
              refine z_top (y := 8 * order + 2) (by omega) ?_
              refine ld_X1_1 (v := S 1 (8 * order + 2)) hx hb hK hP (by omega) rfl dX1_firstWaiting_65 ?_
              have b5 := hB 1 (8 * order + 2) (Or.inl (by decide))
              refine lv_iload_n hx hb dX1_firstWaiting_66 rfl (lv_at hl 5 rfl) ?_
              refine z_icmp_ne (tgt := 73) hx hb dX1_firstWaiting_67 (by decide) (by omega) (by omega) (fun c5 => ?_) (fun c5 => ?_)
              · refine z_iinc (lv' := [(4, .int (zI (order + 1))), (5, .int (zI (8 * order))), (0, .ref (ad 0)), (1, .int (zI kind)), (2, .int (zI tr)), (3, .int (zI se))]) hx hb dX1_firstWaiting_73 hl (k := 1) rfl (by decide) (by rw [show (order : Int) + (1) = (order + 1) from by omega]; rfl) (fun ls hl => ?_)
                refine lv_goto (tgt := 3) hx hb dX1_firstWaiting_76 (by decide) ?_
                exact ih3 (order + 1) (by omega) (by rw [← i1, fstN_pos _ order (by omega), if_neg (by omega), show S 7 0 - (order + 1) = S 7 0 - order - 1 from by omega]) (by omega) _ _ hP hS ls (lv_sub hl [0, 2, 3, 4, 5] rfl)
              · refine lv_iload hx hb dX1_firstWaiting_70 (lv_at hl 1 rfl) ?_
                exact z_iret hx hb hr hlk hP hS dX1_firstWaiting_72 (by unfold firstWF fstZ; rw [← i1, fstN_pos _ _ (by omega), if_pos ⟨by omega, by omega, by omega, by omega⟩]) rfl
  exact hloop3 ((S 7 0 - 0 : Int) + 1).toNat 0 (by omega) (by rw [show S 7 0 - 0 = S 7 0 from by omega]) (by omega) _ _ hP hS ls (lv_sub hl [0, 1, 2, 3, 4] rfl)
