/-! a history's constructor -/
def hW (h : Nat) (cI : ClassId) : Nat → va_W
  | 0 => []
  | i + 1 => tW_X1 (fun j => h + 2 + 6 * i + j) cI (forgS (fun _ _ => 0)) ++ hW h cI i
def hf (h i : Nat) : Nat → Option Nat := fun j => if j < i then some (h + 2 + 6 * j + 0) else none
def hB (h : Nat) (cQ : ClassId) (i : Nat) : va_W := [(h, .inr (0, [.ref (h + 1), .int (zI 0), .int (zI 0)])), (h + 1, .inl (cQ, 6, .inr (.inr (.inr (.inr (hf h i))))))]
theorem hW_a (h : Nat) (cI : ClassId) : ∀ (i k : Nat) (q : Nat × va_E), (hW h cI i)[k]? = some q → rg (h + 2) (h + 2 + 6 * i) q.1
  | 0, k, q, hq => by cases hq
  | i + 1, k, q, hq => by
    rcases List.mem_append.mp (List.mem_of_getElem? hq) with z | z
    · obtain ⟨k2, z⟩ := List.getElem?_of_mem z
      exact rg_sub (rng_X1 z).1 (by omega) (by omega)
    · obtain ⟨k2, z⟩ := List.getElem?_of_mem z
      exact rg_sub (hW_a h cI i k2 q z) (by omega) (by omega)
theorem hW_D (h : Nat) (cI : ClassId) : ∀ i : Nat, va_D (rg (h + 2) (h + 2 + 6 * i)) (hW h cI i)
  | 0 => ⟨fun i j p q hi _ _ => (by cases hi), fun k q hk => (by cases hk)⟩
  | i + 1 => by
    have t := D_app (D_X1 (h + 2 + 6 * i) cI (forgS (fun _ _ => 0))) (hW_D h cI i) (fun q z y => by have := z.1; have := y.2; omega)
    exact ⟨t.1, hW_a h cI (i + 1)⟩
theorem hB_D (h : Nat) (cQ : ClassId) (i : Nat) : va_D (rg h (h + 2)) (hB h cQ i) := by
  have t := z_Dlay (A := fun q => h ≤ q) (ws := hB h cQ i) (h := h) (n := 2) (fun q z => z) rfl
  exact ⟨t.1, fun k q hk => by have a1 := z_adr (ws := hB h cQ i) (h := h) (n := 2) rfl hk; exact ⟨by omega, by omega⟩⟩
theorem hB_a (h : Nat) (cQ : ClassId) (i k : Nat) (q : Nat × va_E) (hq : (hB h cQ i)[k]? = some q) : rg h (h + 2) q.1 := (hB_D h cQ i).2 k q hq
theorem hf_up (h i : Nat) : va_up (hf h i) i (some (h + 2 + 6 * i)) = hf h (i + 1) := by
  funext j
  unfold va_up hf
  by_cases e : j = i
  · subst e; rw [if_pos rfl, if_pos (by omega)]; rfl
  · rw [if_neg e]
    by_cases e2 : j < i
    · rw [if_pos e2, if_pos (by omega)]
    · rw [if_neg e2, if_neg (by omega)]
theorem z_d11 : ∀ j, j < 11 → defaultValue (tyX1 j) = vp_V [.null, .null, .null, .null, .null, .int (zI 0), .int (zI 0), .int (zI 0), .int (zI 0), .int (zI 0), .int (zI 0)] j := by
  intro j hj
  rcases (show j = 0 ∨ j = 1 ∨ j = 2 ∨ j = 3 ∨ j = 4 ∨ j = 5 ∨ j = 6 ∨ j = 7 ∨ j = 8 ∨ j = 9 ∨ j = 10 by omega) with rfl | rfl | rfl | rfl | rfl | rfl | rfl | rfl | rfl | rfl | rfl <;> rfl
theorem in_X0_init : ∀ w ∈ wsX00, w ∈ wsX0_init := fun w h => List.mem_cons_of_mem _ (List.mem_append_left _ (List.mem_append_right _ h))
theorem in1_X0_init : ∀ w ∈ wsX10, w ∈ wsX0_init := fun w h => List.mem_cons_of_mem _ (List.mem_append_right _ h)
set_option maxHeartbeats 4000000 in
set_option maxRecDepth 100000 in
theorem k_X0_init (l : Launch) (dC : Nat → ClassId) (dI : Nat → Nat → Nat) (cI cQ : ClassId) (A : Nat → Prop) (h : Nat) (hA9 : ∀ q, h ≤ q → A q) : Met l yX0_init wsX0_init ({ frames := 5, cells := 37, slots := 5580, locals := 140 }) (va_Pc [.ref h] (fun U => (U.heap.size = h + 1 ∧ va_P (dC, dI) vwCl [(h, .inr (0, [.null, .int (zI 0), .int (zI 0)]))] U.heap ∧ va_K (dC, dI) vwCl (zT cI cQ) U) ∧ va_AO "TwinPlates$Plates" U)) (zQb (dC, dI) vwCl (hB h cQ 6 ++ hW h cI 6) (h + 38) A) 37 5580 A := by
  refine Met.ofW (cc := cX0_init) (maxL := 2) (ret := none) (by decide) rfl ?_
  intro p e s m args below meth c s₁ B hml hv
  obtain ⟨rfl, ⟨hsz, hP, hK⟩, hAO⟩ := hv
  have hx := B.exec
  have hb := B.bytes
  have hr := B.returns
  have hts := atoms_spec (ws := wsX0_init) B.pre
  have hown : s.vm.findClass RX0 = some m.cls := findClass_of_methodNamed B.named
  have hlk := B.notSynchronized
  have hini : meth.name = "<init>" := (name_of_methodNamed B.named B.method).1
  have hS : va_S A s.heap s.heap [] := va_S.rf
  have hP : va_P (dC, dI) vwCl [(h, .inr (0, [.null, .int (zI 0), .int (zI 0)]))] s.heap := hP
  have hl := lv_entry ([.ref h]) (n := 2) (Nat.le_of_ble_eq_true rfl)
  rw [lg_entry_eq]
  generalize (lg_sl ([.ref h]) ++ List.replicate (2 - (lg_sl ([.ref h])).length) Slot.unset).toArray = ls at hl ⊢
  have hl : lv_has ls 2 [(0, .ref h)] := hl
  have hin := in_X0_init
  have hin1 := in1_X0_init
  refine lv_aload_n hx hb dX0_init_0 rfl (lv_at hl 0 rfl) ?_
  refine W.objInit hx hb hown (hts _ (List.mem_cons_of_mem _ (List.mem_append_left _ (List.mem_append_left _ (List.mem_of_getElem? (i := 0) rfl))))) (hts _ (List.mem_cons_of_mem _ (List.mem_append_left _ (List.mem_append_left _ (List.mem_of_getElem? (i := 1) rfl))))) (hts _ (List.mem_cons_of_mem _ (List.mem_append_left _ (List.mem_append_left _ (List.mem_of_getElem? (i := 2) rfl))))) rfl (by rw [hml]; exact hl.1) rfl dX0_init_1 (Nat.le_of_ble_eq_true rfl) (Nat.le_of_ble_eq_true rfl) ?_
  refine W.eq (g2 := F0 m 4 ls []) rfl ?_
  refine lv_aload_n hx hb dX0_init_4 rfl (lv_at hl 0 rfl) ?_
  refine z_bipush (z := ((6 : Nat) : Int)) hx hb dX0_init_5 (by decide +kernel) ?_
  refine z_newqo (n := 6) (h := h + 1) hx hb hown (hts _ (List.mem_cons_of_mem _ (List.mem_append_left _ (List.mem_append_left _ (List.mem_of_getElem? (i := 3) rfl))))) hAO hK hP hS 1 rfl (Nat.le_of_ble_eq_true rfl) (Nat.le_of_ble_eq_true rfl) (Nat.le_of_ble_eq_true rfl) hsz dX0_init_7 (fun H hP hS hsz9 => ?_)
  have hP : va_P (dC, dI) vwCl [(h, .inr (0, [.null, .int (zI 0), .int (zI 0)])), (h + 1, .inl (cQ, 6, .inr (.inr (.inr (.inr (fun _ => none))))))] H := hP
  refine va_putF (D := (dC, dI)) (ci := 0) (v := .ref (h + 1)) (ty := tyX0 0) (C := RX0) (T := TX0) (N := 3) hx hb hts hin tyX0 tyX0_ok nmX0 hown hK hP (z_Dlay (h := h) (n := 2) hA9 rfl) hS 0 rfl rfl 0 (by decide) (hts _ (List.mem_cons_of_mem _ (List.mem_append_left _ (List.mem_append_left _ (List.mem_of_getElem? (i := 4) rfl))))) (fun _ h9 => h9) rfl hini rfl (by decide +kernel) rfl rfl (Nat.le_of_ble_eq_true rfl) dX0_init_10 (fun H1 locs hP9 _ hS => ?_)
  have hP : va_P (dC, dI) vwCl (hB h cQ 0 ++ hW h cI 0) H1 := hP9
  refine z_iconst hx hb dX0_init_13 ?_
  refine lv_istore_n (lv' := [(1, .int (zI 0)), (0, .ref h)]) hx hb dX0_init_14 rfl hl (by decide) rfl (fun ls hl => ?_)
  have hloop : ∀ (n i : Nat), i ≤ 6 → 6 < n + i → ∀ (H : Heap) (locs : List Loc), va_P (dC, dI) vwCl (hB h cQ i ++ hW h cI i) H → h + 1 + 6 * i < H.size → va_S A s.heap H locs → ∀ ls : Array Slot, lv_has ls 2 [(1, .int (zI (i : Int))), (0, .ref h)] → W p l e (headSpec wsX0_init ({ frames := 5, cells := 37, slots := 5580, locals := 140 })).room s m ([.ref h] : List Value).toArray below meth c H locs (1 + 6 * i) (6 + 929 * i) (MQ below (zQb (dC, dI) vwCl (hB h cQ 6 ++ hW h cI 6) (h + 38) A) ([.ref h] : List Value).toArray s 37 5580 A) (F0 m 15 ls []) := by
    intro n
    induction n with
    | zero => intro i i0 hm; exfalso; omega
    | succ n ih =>
      intro i i0 hm H locs hP l9 hS ls hl
      refine lv_iload_n hx hb dX0_init_15 rfl (lv_at hl 0 rfl) ?_
      refine z_bipush (z := 6) hx hb dX0_init_16 (by decide +kernel) ?_
      refine z_icmp_ge (tgt := 40) hx hb dX0_init_18 (by decide) (by omega) (by omega) (fun c1 => ?_) (fun c1 => ?_)
      · obtain rfl : i = 6 := by omega
        refine z_size (fun hz9 => ?_)
        exact z_vretb hx hb hr hlk hP (by omega) hS dX0_init_40 rfl
      · refine lv_aload_n hx hb dX0_init_21 rfl (lv_at hl 1 rfl) ?_
        refine va_get (D := (dC, dI)) (ci := 0) (v := .ref (h + 1)) (C := RX0) (T := TX0) (N := 3) hx hb hts hin hown hK (z_appL hP) 0 rfl rfl 0 (by decide) (hts _ (List.mem_cons_of_mem _ (List.mem_append_left _ (List.mem_append_left _ (List.mem_of_getElem? (i := 4) rfl))))) (fun _ h9 => h9) rfl dX0_init_22 ?_
        refine lv_iload_n hx hb dX0_init_25 rfl (lv_at hl 0 rfl) ?_
        refine z_size (fun hz9 => ?_)
        refine z_newo (ci := 1) (fs := [.null, .null, .null, .null, .null, .int (zI 0), .int (zI 0), .int (zI 0), .int (zI 0), .int (zI 0), .int (zI 0)]) (h := (h + 2 + 6 * i)) (C := RX1) (T := TX1) (N := 11) hx hb hts hin1 tyX1 tyX1_ok hown (hts _ (List.mem_cons_of_mem _ (List.mem_append_left _ (List.mem_append_left _ (List.mem_of_getElem? (i := 3) rfl))))) (hts _ (List.mem_cons_of_mem _ (List.mem_append_left _ (List.mem_append_left _ (List.mem_of_getElem? (i := 5) rfl))))) (hts _ (List.mem_cons_of_mem _ (List.mem_append_left _ (List.mem_append_left _ (List.mem_of_getElem? (i := 6) rfl))))) hK hP hS rfl z_d11 (show _ ≤ _ from by show _ ≤ (37 : Nat); omega) (show _ ≤ _ from by show _ ≤ (5580 : Nat); omega) (by omega) dX0_init_26 (fun H hP hS hsz => ?_)
        refine lv_dup hx hb dX0_init_29 rfl ?_
        refine z_callb (va_runI (As := []) (rest := [.ref (h + 2 + 6 * i), .int (zI (i : Int)), .ref (h + 1)]) ⟨hx, hb, hml, hown, hts⟩ (k_X1_init l dC dI cI cQ (fun q => (h + 2 + 6 * i) ≤ q) (h + 2 + 6 * i) (fun q z => z)) (cwI 0 hts gX0_init_X1_init rfl rfl rfl (hts _ (List.mem_cons_of_mem _ (List.mem_append_left _ (List.mem_append_left _ (List.mem_of_getElem? (i := 6) rfl))))) (hts _ (List.mem_cons_of_mem _ (List.mem_append_left _ (List.mem_append_left _ (List.mem_of_getElem? (i := 7) rfl))))) (hts _ (List.mem_cons_of_mem _ (List.mem_append_left _ (List.mem_append_left _ (List.mem_of_getElem? (i := 8) rfl))))) rfl (by decide +kernel) ⟨Nat.le_of_ble_eq_true rfl, Nat.le_of_ble_eq_true rfl⟩) (z_preb hsz hK (z_appR hP)) rfl rfl hl.1 rfl (lv_room (Nat.le_of_ble_eq_true rfl)) dX0_init_30 ⟨(show _ ≤ _ from by show _ ≤ (37 : Nat); omega), (show _ ≤ _ from by show _ ≤ (5580 : Nat); omega)⟩) hS (fun q z => hA9 q (by omega)) (fun H locs hsz hQ hS hk => ?_)
        have hp1 : va_P (dC, dI) vwCl (hB h cQ i) H := z_kept (z_appL (z_appL hP)) hk (fun k q hq z => by have a1 := (hB_a h cQ i k q hq).2; omega)
        have hp2 : va_P (dC, dI) vwCl (hW h cI i) H := z_kept (z_appR (z_appL hP)) hk (fun k q hq z => by have a1 := (hW_a h cI i k q hq).2; omega)
        have hP : va_P (dC, dI) vwCl (hB h cQ i ++ hW h cI (i + 1)) H := va_P.app hp1 (va_P.app hQ hp2)
        have hD : va_D A (hB h cQ i ++ hW h cI (i + 1)) := by
          have t := D_app (hB_D h cQ i) (hW_D h cI (i + 1)) (fun q z y => by have := z.2; have := y.1; omega)
          exact ⟨t.1, fun k q hk => (t.2 k q hk).elim (fun z => hA9 _ z.1) (fun z => hA9 _ (Nat.le_trans (Nat.le_add_right _ _) z.1))⟩
        refine va_astq (D := (dC, dI)) (q0 := 1) (t0 := 1) (qk := 2) (ci := 1) hx hb hK hP hD hS rfl rfl rfl rfl (zI_in (by omega) (by omega) (by decide)) dX0_init_33 (fun H1 locs hP1 _ hS => ?_)
        rw [show (zI (i : Int)).toNatClampNeg = i from by rw [zI_clamp (by omega) (by omega)]; omega] at hP1
        have hP1 : va_P (dC, dI) vwCl (hB h cQ (i + 1) ++ hW h cI (i + 1)) H1 := by
          unfold hB
          rw [← hf_up]
          exact hP1
        have l8 : h + 2 + 6 * i + 5 < H1.size := (z_appL (z_appR hP1) 5 _ rfl).lt
        refine z_iinc (lv' := [(1, .int (zI ((i + 1 : Nat) : Int))), (0, .ref h)]) hx hb dX0_init_34 hl (k := 0) rfl (by decide) rfl (fun ls hl => ?_)
        refine lv_goto (tgt := 15) hx hb dX0_init_37 (by decide) ?_
        have t := ih (i + 1) (by omega) (by omega) H1 locs hP1 (by omega) hS ls hl
        rw [show 1 + 6 * (i + 1) = 1 + 6 * i + 1 + 5 from by omega, show 6 + 929 * (i + 1) = 6 + 929 * i + 11 + 918 from by omega] at t
        exact t
  have l8 : h + 1 < H1.size := (hP 1 _ rfl).lt
  exact hloop 7 0 (by omega) (by omega) _ _ hP l8 hS ls hl
