/-! THE CLAIM OUT OF ONE WALK OF THE LAW'S BODY. Your part is whole_start (and what it stands on); all else here is the same for every law, but numbers. -/
def R_law : String := "TwinPlatesLaw"
def lw_P (b : Addr) (xs : List Int32) (args : Array Value) (s : State) : Prop := args = #[.ref b] ∧ s.IntsAt b xs ∧ xs.length ≤ 2560 ∧ (Jvm.Cond.and given_1 narrow_1).before args s = true
def lw_Q (_ : Array Value) (s : State) (o : Outcome) (t : State) : Prop := o = .returned (some (.int 1)) ∧ Framed s o t [] 600000 7302250
def lw_Z (below : List Frame) (a : Array Value) (s : State) : State → Prop := fun t => ∃ o, t.status = .running ∧ Ended t below o ∧ lw_Q a s o t
/-- the law's own end, with 1 on the stack, nothing written that was there before, its room as the claim has it -/
theorem lw_ret {p : Program} {l : Launch} {e : Env} {s : State} {m : MethodId} {below : List Frame} {meth : Method} {c : Code} {b : Nat} (hx : p.tables.exec = Jvm.exec) (hb : c.code = code) (hr : meth.sig.returnType = ret) (hlocks : meth.locks = false) {pc : Nat} {H : Heap} {ls : Array Slot} (hdg : decode code pc = .ok (.ireturn, 1)) : W p l e room_1 s m #[Value.ref b] below meth c H [] 600000 7302250 (lw_Z below #[Value.ref b] s) (F0 m pc ls [.int 1]) := by
  intro T hT X
  obtain ⟨fs, hret, hrun, hended, hW, hframe⟩ := X.leave (v := some (.int 1)) (hlocks := hlocks) (fun h => by rw [hr] at h; cases h)
  have hmeth' : T.vm.method? m = some meth := X.method'
  refine ⟨T.setFrames fs, ?_, .returned (some (.int 1)), hrun, hended, rfl, ⟨_, rfl⟩, hW, hframe⟩
  jvm_step X.here [X.here.top, hx, hb, hdg, hmeth', hr, ret, narrow_b1]
  (try refine ⟨rfl, ?_⟩); (try refine ⟨rfl, ?_⟩)
  first | (intro acts; rw [hret _ acts rfl rfl rfl]) | rw [hret _ _ rfl rfl rfl]
  exact Steps.refl _
/-- what holds at the law's entry: the machine, the code, the tables' words (any of lw_tbl by 'hts w (by decide +kernel)'), the script of L ints xs at the cell b, what the Statement gives of the start (any of its parts by flat_of_before) -/
def lw_At (p : Program) (s : State) (m : MethodId) (meth : Method) (c : Code) (b L : Nat) (xs : Nat → Int32) : Prop :=
  p.tables.exec = Jvm.exec ∧ c.code = code ∧ meth.sig.returnType = ret ∧ c.maxLocals = 4 ∧ s.vm.findClass R_law = some m.cls ∧ (∀ w ∈ lw_tbl, w.before #[Value.ref b] s = true) ∧ va_X b L xs s s.heap ∧ b < s.heap.size ∧ meth.locks = false ∧ (Jvm.Cond.and given_1 narrow_1).before #[Value.ref b] s = true
set_option maxHeartbeats 4000000 in
set_option maxRecDepth 100000 in
/-- the law's loop, from its head on -/
theorem law_loop {p : Program} {l : Launch} {e : Env} {s : State} {m : MethodId} {b : Nat} {below : List Frame} {meth : Method} {c : Code} {L : Nat} {xs : Nat → Int32} {dC : Nat → ClassId} {dI : Nat → Nat → Nat} {cI cQ : ClassId} {o : Nat} (C : lC p s m c b L xs dC dI cI cQ o) (hr : meth.sig.returnType = ret) (hlocks : meth.locks = false) :
    ∀ (n : Nat) (i : Int), 0 ≤ i → i ≤ (L : Int) → (L : Int) + 1 ≤ i + (n : Int) → ∀ ls : Array Slot, lv_has ls 4 [(0, .ref b), (1, .ref o), (2, .ref (o + 57)), (3, .int (zI i))] → lG p l e s m b below meth c dC dI cI cQ o (lw_Z below #[Value.ref b] s) (F0 m 18 ls [])
  | 0, i, i0, i1, i2, ls, hl => by omega
  | n + 1, i, i0, i1, i2, ls, hl => by
    intro U Sh Sn Sf Sp R H locs T hP3 hP4 hS
    obtain ⟨hx, hb, hml, hown, hts, hX, hbl, hK, ho, hL⟩ := id C
    have hbA : ¬ lA s b := Nat.not_le.mpr hbl
    refine lv_iload_n hx hb dL_law_18 rfl (lv_at hl 3 rfl) ?_
    refine lv_aload_n hx hb dL_law_19 rfl (lv_at hl 0 rfl) ?_
    refine z_slen hx hb hX hbl hbA hS dL_law_20 ?_
    refine z_iconst hx hb dL_law_21 ?_
    refine z_isub hx hb dL_law_22 ?_
    refine z_icmp_gt (tgt := 523) hx hb dL_law_23 (by decide) (by omega) (by omega) (fun c1 => ?_) (fun c1 => ?_)
    · refine lv_iconst (v := 1) hx hb dL_law_523 (by decide) ?_
      refine va_forget (fun q hq => hS.2.2 q hq) ?_
      exact lw_ret hx hb hr hlocks dL_law_524
    · have hi : 0 ≤ i ∧ i + 4 < (L : Int) := by omega
      have K : lG p l e s m b below meth c dC dI cI cQ o (lw_Z below #[Value.ref b] s) (F0 m 517 ls []) := by
        intro U Sh Sn Sf Sp R H locs T hP3 hP4 hS
        refine z_iinc (i := 3) (n := 5) (k := 3) (lv' := [(3, .int (zI (i + 5))), (0, .ref b), (1, .ref o), (2, .ref (o + 57))]) hx hb dL_law_517 hl rfl (by decide) rfl (fun ls hl => ?_)
        refine lv_goto (tgt := 18) hx hb dL_law_520 (by decide) ?_
        exact law_loop C hr hlocks n (i + 5) (by omega) (by omega) (by omega) ls (lv_sub hl [1, 2, 3, 0] rfl) U Sh Sn Sf Sp R H locs T hP3 hP4 hS
      refine lv_aload_n hx hb dL_law_26 rfl (lv_at hl 0 rfl) ?_
      refine lv_iload_n hx hb dL_law_27 rfl (lv_at hl 3 rfl) ?_
      refine z_sld hx hb hX hbl hbA hS hL (by omega) dL_law_28 ?_
      refine z_bipush (z := 31) hx hb dL_law_29 (by decide +kernel) ?_
      refine lv_iand hx hb dL_law_31 ?_
      have v31 := and31 (zI (sx xs i))
      rw [show zI (sx xs i) &&& zI 31 = zI (zI (sx xs i) &&& zI 31).toInt from (zI_self _).symm]
      generalize (zI (sx xs i) &&& zI 31).toInt = v at v31 ⊢
      rcases (show v = 0 ∨ v = 1 ∨ v = 2 ∨ v = 3 ∨ v = 4 ∨ v = 5 ∨ v = 6 ∨ v = 7 ∨ v = 8 ∨ v = 9 ∨ v = 10 ∨ v = 11 ∨ v = 12 ∨ v = 13 ∨ v = 14 ∨ v = 15 ∨ v = 16 ∨ 16 < v by omega) with z | z | z | z | z | z | z | z | z | z | z | z | z | z | z | z | z | z
      · refine z_tabIn (tgt := 116) hx hb 0 dL_law_32 (by omega) (by omega) (by omega) (by omega) rfl (by decide) ?_
        exact lc_read C hi hl K U Sh Sn Sf Sp R H locs T hP3 hP4 hS
      · refine z_tabIn (tgt := 149) hx hb 1 dL_law_32 (by omega) (by omega) (by omega) (by omega) rfl (by decide) ?_
        exact lc_write C hi hl K U Sh Sn Sf Sp R H locs T hP3 hP4 hS
      · refine z_tabIn (tgt := 192) hx hb 2 dL_law_32 (by omega) (by omega) (by omega) (by omega) rfl (by decide) ?_
        exact lc_pass C hi hl K U Sh Sn Sf Sp R H locs T hP3 hP4 hS
      · refine z_tabIn (tgt := 215) hx hb 3 dL_law_32 (by omega) (by omega) (by omega) (by omega) rfl (by decide) ?_
        exact lc_cut C hi hl K U Sh Sn Sf Sp R H locs T hP3 hP4 hS
      · refine z_tabIn (tgt := 228) hx hb 4 dL_law_32 (by omega) (by omega) (by omega) (by omega) rfl (by decide) ?_
        exact lc_sweep C hi hl K U Sh Sn Sf Sp R H locs T hP3 hP4 hS
      · refine z_tabIn (tgt := 241) hx hb 5 dL_law_32 (by omega) (by omega) (by omega) (by omega) rfl (by decide) ?_
        exact lc_undo C hi hl K U Sh Sn Sf Sp R H locs T hP3 hP4 hS
      · refine z_tabIn (tgt := 254) hx hb 6 dL_law_32 (by omega) (by omega) (by omega) (by omega) rfl (by decide) ?_
        exact lc_append C hi hl K U Sh Sn Sf Sp R H locs T hP3 hP4 hS
      · refine z_tabIn (tgt := 277) hx hb 7 dL_law_32 (by omega) (by omega) (by omega) (by omega) rfl (by decide) ?_
        exact lc_clearText C hi hl K U Sh Sn Sf Sp R H locs T hP3 hP4 hS
      · refine z_tabIn (tgt := 290) hx hb 8 dL_law_32 (by omega) (by omega) (by omega) (by omega) rfl (by decide) ?_
        exact lc_run C hi hl K U Sh Sn Sf Sp R H locs T hP3 hP4 hS
      · refine z_tabIn (tgt := 303) hx hb 9 dL_law_32 (by omega) (by omega) (by omega) (by omega) rfl (by decide) ?_
        exact lc_count C hi hl K U Sh Sn Sf Sp R H locs T hP3 hP4 hS
      · refine z_tabIn (tgt := 326) hx hb 10 dL_law_32 (by omega) (by omega) (by omega) (by omega) rfl (by decide) ?_
        exact lc_copy C hi hl K U Sh Sn Sf Sp R H locs T hP3 hP4 hS
      · refine z_tabIn (tgt := 379) hx hb 11 dL_law_32 (by omega) (by omega) (by omega) (by omega) rfl (by decide) ?_
        exact lc_order C hi hl K U Sh Sn Sf Sp R H locs T hP3 hP4 hS
      · refine z_tabIn (tgt := 412) hx hb 12 dL_law_32 (by omega) (by omega) (by omega) (by omega) rfl (by decide) ?_
        exact lc_waits C hi hl K U Sh Sn Sf Sp R H locs T hP3 hP4 hS
      · refine z_tabIn (tgt := 435) hx hb 13 dL_law_32 (by omega) (by omega) (by omega) (by omega) rfl (by decide) ?_
        exact lc_nearer C hi hl K U Sh Sn Sf Sp R H locs T hP3 hP4 hS
      · refine z_tabIn (tgt := 468) hx hb 14 dL_law_32 (by omega) (by omega) (by omega) (by omega) rfl (by decide) ?_
        exact lc_doneIn C hi hl K U Sh Sn Sf Sp R H locs T hP3 hP4 hS
      · refine z_tabIn (tgt := 491) hx hb 15 dL_law_32 (by omega) (by omega) (by omega) (by omega) rfl (by decide) ?_
        exact lc_idleIn C hi hl K U Sh Sn Sf Sp R H locs T hP3 hP4 hS
      · refine z_tabIn (tgt := 504) hx hb 16 dL_law_32 (by omega) (by omega) (by omega) (by omega) rfl (by decide) ?_
        exact lc_wouldWipe C hi hl K U Sh Sn Sf Sp R H locs T hP3 hP4 hS
      · refine z_tabOut (tgt := 517) hx hb dL_law_32 (by omega) (Or.inr z) (by decide) ?_
        exact K U Sh Sn Sf Sp R H locs T hP3 hP4 hS
set_option maxHeartbeats 4000000 in
set_option maxRecDepth 100000 in
theorem whole_start {p : Program} {e : Env} {s : State} {m : MethodId} {below : List Frame} {meth : Method} {c : Code} (l : Launch) (hflags : l.flags = flags0) {b L : Nat} {xs : Nat → Int32} (hL : L ≤ 2560) (C0 : lw_At p s m meth c b L xs) : W p l e room_1 s m #[Value.ref b] below meth c s.heap [] 0 0 (lw_Z below #[Value.ref b] s) (entryFrame m ([Value.ref b] : List Value).toArray 4) := by
  obtain ⟨hx, hb, hr, hml, hown, hts0, hX, hbl, hlocks, hgv⟩ := id C0
  have hb : c.code = cL_law := hb
  have hown : s.vm.findClass RL = some m.cls := hown
  have hts : ∀ w ∈ wsL_law, w.before #[Value.ref b] s = true := fun w h => hts0 w (wsL_law_in w h)
  have hao : (Cond.arrayOver (.object "TwinPlates$Plates")).before #[Value.ref b] s = true := hts0 _ (lw_ao _ List.mem_cons_self)
  have hnw : (Cond.methodLinkNest RX3 28 yX2_init RX3).before #[Value.ref b] s = true := hts0 _ (lw_nw _ List.mem_cons_self)
  obtain ⟨dC, dI, cI, cQ, hK⟩ := law_K hts hao
  have hAO : va_AO "TwinPlates$Plates" s := va_AO.of hao
  have hNw : va_Nw (.methodLinkNest RX3 28 yX2_init RX3) s := va_Nw.of rfl hnw
  obtain ⟨o, ho⟩ : ∃ o, o = s.heap.size := ⟨_, rfl⟩
  have hS : va_S (lA s) s.heap s.heap [] := va_S.rf
  have hP : va_P (dC, dI) vwCl [] s.heap := fun k q h => by cases h
  have hl := lv_entry ([.ref b]) (n := 4) (Nat.le_of_ble_eq_true rfl)
  rw [lg_entry_eq]
  generalize (lg_sl ([.ref b]) ++ List.replicate (4 - (lg_sl ([.ref b])).length) Slot.unset).toArray = ls at hl ⊢
  have hl : lv_has ls 4 [(0, .ref b)] := hl
  refine z_newo (ci := 3) (fs := [.null, .null, .null, .null]) (h := o) (C := RX3) (T := TX3) (N := 4) hx hb hts inlX3 tyX3 tyX3_ok hown (hts _ (inlr1 _ (List.mem_of_getElem? (i := 0) rfl))) (hts _ (inlr1 _ (List.mem_of_getElem? (i := 1) rfl))) (hts _ (inlr1 _ (List.mem_of_getElem? (i := 2) rfl))) hK hP hS rfl z_d4 (Nat.le_of_ble_eq_true rfl) (Nat.le_of_ble_eq_true rfl) ho.symm dL_law_0 (fun H hP hS hsz => ?_)
  refine lv_dup hx hb dL_law_3 rfl ?_
  refine z_callb (va_runI (As := []) (rest := [.ref o]) ⟨hx, hb, hml, hown, hts⟩ (k_X3_init l dC dI cI cQ (fun q => o ≤ q) o (fun q z => z)) (cwI 0 hts gL_law_X3_init rfl rfl rfl (hts _ (inlr1 _ (List.mem_of_getElem? (i := 2) rfl))) (hts _ (inlr1 _ (List.mem_of_getElem? (i := 6) rfl))) (hts _ (inlr1 _ (List.mem_of_getElem? (i := 7) rfl))) rfl (by decide +kernel) ⟨Nat.le_of_ble_eq_true rfl, Nat.le_of_ble_eq_true rfl⟩) ⟨fun a U g mk q => ⟨q.1, ⟨q.2.1.1, q.2.1.2.1, va_K.moved (u := U) (U := U.calling g mk a) (Vm.Alike.refl U.vm) q.2.1.2.2⟩, va_AO.moved (u := U) (U := U.calling g mk a) (Vm.Alike.refl U.vm) q.2.2.1, va_Nw.same (u := U) (U := U.calling g mk a) rfl rfl q.2.2.2⟩, fun U hU hW => ⟨rfl, ⟨by rw [hU]; exact hsz, by rw [hU]; exact hP, va_K.moved hW.alike hK⟩, va_AO.moved hW.alike hAO, va_Nw.warmM hW hNw⟩⟩ rfl rfl hl.1 rfl (lv_room (Nat.le_of_ble_eq_true rfl)) dL_law_4 ⟨Nat.le_of_ble_eq_true rfl, Nat.le_of_ble_eq_true rfl⟩) hS (fun q z => by show s.heap.size ≤ q; rw [← ho]; exact z) (fun H locs hsz hP3 hS _ => ?_)
  refine lv_astore_n (lv' := [(1, .ref o), (0, .ref b)]) hx hb dL_law_7 rfl hl (by decide) rfl (fun ls hl => ?_)
  refine z_newo (ci := 4) (fs := [.null, .null, .int (zI 0), .null, .null, .int (zI 0), .int (zI 0), .int (zI 0), .null, .null, .null]) (h := o + 57) (C := RX4) (T := TX4) (N := 11) hx hb hts inlX4 tyX4 tyX4_ok hown (hts _ (inlr1 _ (List.mem_of_getElem? (i := 3) rfl))) (hts _ (inlr1 _ (List.mem_of_getElem? (i := 4) rfl))) (hts _ (inlr1 _ (List.mem_of_getElem? (i := 5) rfl))) hK hP3 hS rfl z_dR (Nat.le_of_ble_eq_true rfl) (Nat.le_of_ble_eq_true rfl) hsz dL_law_8 (fun H hP hS hsz => ?_)
  refine lv_dup hx hb dL_law_11 rfl ?_
  refine z_callb (va_runI (As := []) (rest := [.ref (o + 57)]) ⟨hx, hb, hml, hown, hts⟩ (k_X4_init l dC dI cI cQ (fun q => o + 57 ≤ q) (o + 57) (fun q z => z)) (cwI 0 hts gL_law_X4_init rfl rfl rfl (hts _ (inlr1 _ (List.mem_of_getElem? (i := 5) rfl))) (hts _ (inlr3 _ (List.mem_of_getElem? (i := 6) rfl))) (hts _ (inlr3 _ (List.mem_of_getElem? (i := 7) rfl))) rfl (by decide +kernel) ⟨Nat.le_of_ble_eq_true rfl, Nat.le_of_ble_eq_true rfl⟩) (z_preb hsz hK (z_appR hP)) rfl rfl hl.1 rfl (lv_room (Nat.le_of_ble_eq_true rfl)) dL_law_12 ⟨Nat.le_of_ble_eq_true rfl, Nat.le_of_ble_eq_true rfl⟩) hS (fun q z => by show s.heap.size ≤ q; rw [← ho]; omega) (fun H1 locs1 hsz hP4 hS hk => ?_)
  have hP3 := z_kept (z_appL hP) hk (fun k q hq z => by have a := ((D_3 o cI cQ _ _ _ _ _).2 k q hq).2; omega)
  refine lv_astore_n (lv' := [(2, .ref (o + 57)), (1, .ref o), (0, .ref b)]) hx hb dL_law_15 rfl hl (by decide) rfl (fun ls hl => ?_)
  refine z_iconst hx hb dL_law_16 ?_
  refine lv_istore_n (lv' := [(3, .int (zI 0)), (2, .ref (o + 57)), (1, .ref o), (0, .ref b)]) hx hb dL_law_17 rfl hl (by decide) rfl (fun ls hl => ?_)
  refine W.widen (k := 600000) (n := 7302250) (Nat.le_of_ble_eq_true rfl) (Nat.le_of_ble_eq_true rfl) ?_
  exact law_loop ⟨hx, hb, hml, hown, hts, hX, hbl, hK, ho, hL⟩ hr hlocks (L + 1) 0 (by omega) (by omega) (by omega) ls (lv_sub hl [3, 2, 1, 0] rfl) _ _ _ _ _ _ H1 locs1 Top_0 hP3 hP4 hS
