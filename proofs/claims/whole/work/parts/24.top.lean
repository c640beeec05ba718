/-! the object's methods -/
def setH (S : Nat → Int → Int) (a : Int) : Nat → Int → Int := if a < 0 then S else keepH S
def apR (S : Nat → Int → Int) (ch : Int) : Int := if 1 ≤ ch ∧ ch ≤ 255 then (if 80 ≤ S 1 0 then -3 else adC S ch 1 0) else -1
def apP (S : Nat → Int → Int) (ch : Int) : Nat → Int → Int := if 1 ≤ ch ∧ ch ≤ 255 then adC S ch else S
def cpR (S : Nat → Int → Int) (sd tr se wh : Int) : Int := if (0 ≤ sd ∧ sd < 2) ∧ (0 ≤ tr ∧ tr < 4) ∧ (0 ≤ se ∧ se < 12) ∧ 0 ≤ wh ∧ wh < 4 then S 0 (192 * sd + 48 * tr + 4 * se + wh) else -1
def odR (S : Nat → Int → Int) (od wh : Int) : Int := if (0 ≤ od ∧ od < S 7 0) ∧ 0 ≤ wh ∧ wh < 8 then S 1 (8 * od + wh) else -1
def waR (S : Nat → Int → Int) (wh : Int) : Int := if 0 ≤ wh ∧ wh ≤ 2 then (if wh = 0 then sumZ (fun o => if S 1 (8 * o + 3) = 1 then S 1 (8 * o + 5) - S 1 (8 * o + 4) else 0) (S 7 0) else if wh = 2 ∨ longZ S (S 7 0) = -9 then longZ S (S 7 0) else S 1 (8 * longZ S (S 7 0) + 5) - S 1 (8 * longZ S (S 7 0) + 4)) else -1
def neR (S : Nat → Int → Int) (se wh : Int) : Int := if (0 ≤ se ∧ se < 12) ∧ 0 ≤ wh ∧ wh ≤ 1 then (if wh = 0 then (if (se - S 5 0 % 12) % 12 < (se - (S 5 0 + 6) % 12) % 12 then 0 else 1) else min ((se - S 5 0 % 12) % 12) ((se - (S 5 0 + 6) % 12) % 12)) else -1
theorem drop_rng {S : Nat → Int → Int} (h1 : 0 ≤ S 1 0 ∧ S 1 0 < 6) (h2 : 0 ≤ S 2 0 ∧ S 2 0 ≤ 5) : (0 ≤ dropH S 1 0 ∧ dropH S 1 0 < 6) ∧ (0 ≤ dropH S 2 0 ∧ dropH S 2 0 ≤ 5) := by
  unfold dropH
  split
  · rw [up2_nr (by decide), up2_eq]; omega
  · exact ⟨h1, h2⟩
def unR (S : Nat → Int → Int) : Int := if S 2 0 = 0 then -2 else S 2 0 - 1
def unN (U : Nat → Nat → Int → Int) (S Sn : Nat → Int → Int) : Nat → Int → Int := if S 2 0 = 0 then Sn else U (((dropH S 1 0 + dropH S 2 0) % 6).toNat)
def peR (S Sp : Nat → Int → Int) (le : Int) : Int := if sgF (Sp 0) (Sp 1 0) le = 114 then tkReadR S (Sp 2 (3 * le)) (Sp 2 (3 * le + 1)) else if sgF (Sp 0) (Sp 1 0) le = 119 then tkWriteR S (Sp 2 (3 * le)) (Sp 2 (3 * le + 1)) (Sp 2 (3 * le + 2)) else if sgF (Sp 0) (Sp 1 0) le = 116 then letPassR S (Sp 2 (3 * le)) else cutR S
def peS (S Sp : Nat → Int → Int) (le : Int) : Nat → Int → Int := if sgF (Sp 0) (Sp 1 0) le = 114 then tkReadS S (Sp 2 (3 * le)) (Sp 2 (3 * le + 1)) else if sgF (Sp 0) (Sp 1 0) le = 119 then tkWriteS S (Sp 2 (3 * le)) (Sp 2 (3 * le + 1)) (Sp 2 (3 * le + 2)) else if sgF (Sp 0) (Sp 1 0) le = 116 then letPassS S (Sp 2 (3 * le)) else cutS S
section ZG
variable {p : Program} {l : Launch} {e : Env} {R : Room} {s : State} {m : MethodId} {args : Array Value} {below : List Frame} {meth : Method} {c : Code} {H : Heap} {locs : List Loc} {cells slots : Nat} {Q : State → Prop}
variable {cc : ByteArray} {pc : Nat} {ls : Array Slot} {rest : List Value} {dC : Nat → ClassId} {dI : Nat → Nat → Nat} {cI cQ : ClassId} {o : Nat} {U : Nat → Nat → Int → Int} {Sh Sn Sf Sp : Nat → Int → Int} {Ts : List Cond} {index : Nat}
theorem gx_X3_0 (hx : p.tables.exec = Jvm.exec) (hb : c.code = cc) (hts : ∀ w ∈ Ts, w.before args s = true) (hin : ∀ w ∈ wsX30, w ∈ Ts) (hown : s.vm.findClass RX3 = some m.cls) (hK : va_K (dC, dI) vwCl (zT cI cQ) s) (hP : va_P (dC, dI) vwCl (W3 o cI cQ U Sh Sn Sf Sp) H) (hlink : (Cond.fieldLink RX3 index "TwinPlates" "now" "LTwinPlates$Plates;").before args s = true) (hdg : decode cc pc = .ok (.getfield index, 3)) (kk : W p l e R s m args below meth c H locs cells slots Q (F0 m (pc + 3) ls (.ref (o + 1) :: rest))) : W p l e R s m args below meth c H locs cells slots Q (F0 m pc ls (.ref o :: rest)) :=
  va_get (D := (dC, dI)) (ci := 3) (v := .ref (o + 1)) (C := RX3) (T := TX3) (N := 4) hx hb hts hin hown hK (s_o hP) 0 rfl rfl 0 (by decide) hlink (fun _ h9 => h9) rfl hdg kk
theorem gx_X3_1 (hx : p.tables.exec = Jvm.exec) (hb : c.code = cc) (hts : ∀ w ∈ Ts, w.before args s = true) (hin : ∀ w ∈ wsX30, w ∈ Ts) (hown : s.vm.findClass RX3 = some m.cls) (hK : va_K (dC, dI) vwCl (zT cI cQ) s) (hP : va_P (dC, dI) vwCl (W3 o cI cQ U Sh Sn Sf Sp) H) (hlink : (Cond.fieldLink RX3 index "TwinPlates" "forecast" "LTwinPlates$Plates;").before args s = true) (hdg : decode cc pc = .ok (.getfield index, 3)) (kk : W p l e R s m args below meth c H locs cells slots Q (F0 m (pc + 3) ls (.ref (o + 7) :: rest))) : W p l e R s m args below meth c H locs cells slots Q (F0 m pc ls (.ref o :: rest)) :=
  va_get (D := (dC, dI)) (ci := 3) (v := .ref (o + 7)) (C := RX3) (T := TX3) (N := 4) hx hb hts hin hown hK (s_o hP) 0 rfl rfl 1 (by decide) hlink (fun _ h9 => h9) rfl hdg kk
theorem gx_X3_2 (hx : p.tables.exec = Jvm.exec) (hb : c.code = cc) (hts : ∀ w ∈ Ts, w.before args s = true) (hin : ∀ w ∈ wsX30, w ∈ Ts) (hown : s.vm.findClass RX3 = some m.cls) (hK : va_K (dC, dI) vwCl (zT cI cQ) s) (hP : va_P (dC, dI) vwCl (W3 o cI cQ U Sh Sn Sf Sp) H) (hlink : (Cond.fieldLink RX3 index "TwinPlates" "history" "LTwinPlates$History;").before args s = true) (hdg : decode cc pc = .ok (.getfield index, 3)) (kk : W p l e R s m args below meth c H locs cells slots Q (F0 m (pc + 3) ls (.ref (o + 13) :: rest))) : W p l e R s m args below meth c H locs cells slots Q (F0 m pc ls (.ref o :: rest)) :=
  va_get (D := (dC, dI)) (ci := 3) (v := .ref (o + 13)) (C := RX3) (T := TX3) (N := 4) hx hb hts hin hown hK (s_o hP) 0 rfl rfl 2 (by decide) hlink (fun _ h9 => h9) rfl hdg kk
theorem gx_X3_3 (hx : p.tables.exec = Jvm.exec) (hb : c.code = cc) (hts : ∀ w ∈ Ts, w.before args s = true) (hin : ∀ w ∈ wsX30, w ∈ Ts) (hown : s.vm.findClass RX3 = some m.cls) (hK : va_K (dC, dI) vwCl (zT cI cQ) s) (hP : va_P (dC, dI) vwCl (W3 o cI cQ U Sh Sn Sf Sp) H) (hlink : (Cond.fieldLink RX3 index "TwinPlates" "program" "LTwinPlates$Program;").before args s = true) (hdg : decode cc pc = .ok (.getfield index, 3)) (kk : W p l e R s m args below meth c H locs cells slots Q (F0 m (pc + 3) ls (.ref (o + 51) :: rest))) : W p l e R s m args below meth c H locs cells slots Q (F0 m pc ls (.ref o :: rest)) :=
  va_get (D := (dC, dI)) (ci := 3) (v := .ref (o + 51)) (C := RX3) (T := TX3) (N := 4) hx hb hts hin hown hK (s_o hP) 0 rfl rfl 3 (by decide) hlink (fun _ h9 => h9) rfl hdg kk
end ZG

theorem in_X3_settle : ∀ w ∈ wsX30, w ∈ wsX3_settle := fun w h => List.mem_cons_of_mem _ (List.mem_append_left _ (List.mem_append_right _ h))
set_option maxHeartbeats 4000000 in
set_option maxRecDepth 100000 in
theorem k_X3_settle (l : Launch) (dC : Nat → ClassId) (dI : Nat → Nat → Nat) (cI cQ : ClassId) (A : Nat → Prop) (o : Nat) (U : Nat → Nat → Int → Int) (Sh Sn Sf Sp : Nat → Int → Int) (hA57 : ∀ q, rg o (o + 57) q → A q) (a : Int) (h1 : 0 ≤ Sh 1 0 ∧ Sh 1 0 < 6) (h2 : 0 ≤ Sh 2 0 ∧ Sh 2 0 ≤ 5) (q0 : -2147483648 ≤ a ∧ a < 2147483648) : Met l yX3_settle wsX3_settle ({ frames := 2, cells := 0, slots := 0, locals := 50 }) (zPc (dC, dI) vwCl (zT cI cQ) (W3 o cI cQ U Sh Sn Sf Sp) [.ref o, .int (zI a)]) (zQi (dC, dI) vwCl (W3 o cI cQ U (setH Sh a) Sn Sf Sp) (a) A) 0 0 A := by
  refine Met.ofW (cc := cX3_settle) (maxL := 2) (ret := (some .int)) (by decide) rfl ?_
  intro p e s m args below meth c s₁ B hml hv
  obtain ⟨rfl, hP, hK⟩ := hv
  have hx := B.exec
  have hb := B.bytes
  have hr := B.returns
  have hts := atoms_spec (ws := wsX3_settle) B.pre
  have hown : s.vm.findClass RX3 = some m.cls := findClass_of_methodNamed B.named
  have hlk := B.notSynchronized
  have hS : va_S A s.heap s.heap [] := va_S.rf
  have hl := lv_entry ([.ref o, .int (zI a)]) (n := 2) (Nat.le_of_ble_eq_true rfl)
  rw [lg_entry_eq]
  generalize (lg_sl ([.ref o, .int (zI a)]) ++ List.replicate (2 - (lg_sl ([.ref o, .int (zI a)])).length) Slot.unset).toArray = ls at hl ⊢
  have hl : lv_has ls 2 [(0, .ref o), (1, .int (zI a))] := hl
  have hin : ∀ w ∈ wsX30, w ∈ wsX3_settle := in_X3_settle
  refine lv_iload_n hx hb dX3_settle_0 rfl (lv_at hl 1 rfl) ?_
  refine z_if_lt (tgt := 11) hx hb dX3_settle_1 (by decide) (by omega) (fun c1 => ?_) (fun c1 => ?_)
  · refine lv_iload_n hx hb dX3_settle_11 rfl (lv_at hl 1 rfl) ?_
    exact z_iret hx hb hr hlk hP hS dX3_settle_12 rfl (by unfold setH; first | rw [if_pos (by omega)] | rw [if_neg (by omega)])
  · refine lv_aload_n hx hb dX3_settle_4 rfl (lv_at hl 0 rfl) ?_
    refine gx_X3_2 hx hb hts hin hown hK hP (hts _ (List.mem_of_getElem? (i := 1) rfl)) dX3_settle_5 ?_
    refine z_callv (va_runV (As := []) (rest := []) ⟨hx, hb, hml, hown, hts⟩ (k_X0_keepNoted l dC dI cI cQ (rg (o + 13) (o + 15)) (rH o) (rS o) [] Sh (D_X0 (o + 13) (rS o) cQ) (by omega) (by omega)) (cwV 0 hts gX3_settle_X0_keepNoted rfl rfl rfl (by decide +kernel) ⟨Nat.le_of_ble_eq_true rfl, Nat.le_of_ble_eq_true rfl⟩) (z_preV hK (s_h hP) (ci := 0) (q0 := 0) rfl rfl rfl) rfl rfl hl.1 rfl (lv_room (Nat.le_of_ble_eq_true rfl)) dX3_settle_8 ⟨Nat.zero_le _, Nat.zero_le _⟩) hS (fun q h => hA57 q (rg_sub h (by omega) (by omega))) (fun H locs hQ9 hS _ hk9 => ?_)
    have hP : va_P (dC, dI) vwCl (W3 o cI cQ U (keepH Sh) Sn Sf Sp) H := b_h hP hk9 hQ9
    refine lv_iload_n hx hb dX3_settle_11 rfl (lv_at hl 1 rfl) ?_
    exact z_iret hx hb hr hlk hP hS dX3_settle_12 rfl (by unfold setH; first | rw [if_pos (by omega)] | rw [if_neg (by omega)])
theorem in_X3_read : ∀ w ∈ wsX30, w ∈ wsX3_read := fun w h => List.mem_cons_of_mem _ (List.mem_append_left _ (List.mem_append_left _ (List.mem_append_right _ h)))
set_option maxHeartbeats 4000000 in
set_option maxRecDepth 100000 in
theorem k_X3_read (l : Launch) (dC : Nat → ClassId) (dI : Nat → Nat → Nat) (cI cQ : ClassId) (A : Nat → Prop) (o : Nat) (U : Nat → Nat → Int → Int) (Sh Sn Sf Sp : Nat → Int → Int) (hA57 : ∀ q, rg o (o + 57) q → A q) (tr se : Int) (h1 : 0 ≤ Sh 1 0 ∧ Sh 1 0 < 6) (h2 : 0 ≤ Sh 2 0 ∧ Sh 2 0 ≤ 5) (hW : WF Sn) (q0 : -2147483648 ≤ tr ∧ tr < 2147483648) (q1 : -2147483648 ≤ se ∧ se < 2147483648) (hr : -2147483648 ≤ tkReadR Sn tr se ∧ tkReadR Sn tr se < 2147483648) : Met l yX3_read wsX3_read ({ frames := 3, cells := 0, slots := 0, locals := 129 }) (zPc (dC, dI) vwCl (zT cI cQ) (W3 o cI cQ U Sh Sn Sf Sp) [.ref o, .int (zI tr), .int (zI se)]) (zQi (dC, dI) vwCl (W3 o cI cQ (uset U (((Sh 1 0 + Sh 2 0) % 6).toNat) Sn) (setH Sh (tkReadR Sn tr se)) (tkReadS Sn tr se) Sf Sp) (tkReadR Sn tr se) A) 0 0 A := by
  refine Met.ofW (cc := cX3_read) (maxL := 3) (ret := (some .int)) (by decide) rfl ?_
  intro p e s m args below meth c s₁ B hml hv
  obtain ⟨rfl, hP, hK⟩ := hv
  have hx := B.exec
  have hb := B.bytes
  have hr := B.returns
  have hts := atoms_spec (ws := wsX3_read) B.pre
  have hown : s.vm.findClass RX3 = some m.cls := findClass_of_methodNamed B.named
  have hlk := B.notSynchronized
  have hS : va_S A s.heap s.heap [] := va_S.rf
  have hl := lv_entry ([.ref o, .int (zI tr), .int (zI se)]) (n := 3) (Nat.le_of_ble_eq_true rfl)
  rw [lg_entry_eq]
  generalize (lg_sl ([.ref o, .int (zI tr), .int (zI se)]) ++ List.replicate (3 - (lg_sl ([.ref o, .int (zI tr), .int (zI se)])).length) Slot.unset).toArray = ls at hl ⊢
  have hl : lv_has ls 3 [(0, .ref o), (1, .int (zI tr)), (2, .int (zI se))] := hl
  have hin : ∀ w ∈ wsX30, w ∈ wsX3_read := in_X3_read
  refine lv_aload_n hx hb dX3_read_0 rfl (lv_at hl 0 rfl) ?_
  refine gx_X3_2 hx hb hts hin hown hK hP (hts _ (List.mem_of_getElem? (i := 1) rfl)) dX3_read_1 ?_
  refine lv_aload_n hx hb dX3_read_4 rfl (lv_at hl 0 rfl) ?_
  refine gx_X3_0 hx hb hts hin hown hK hP (hts _ (List.mem_of_getElem? (i := 2) rfl)) dX3_read_5 ?_
  refine z_callv (va_runV (As := [.ref (o + 1)]) (rest := []) ⟨hx, hb, hml, hown, hts⟩ (k_X0_note l dC dI cI cQ (aK o (((Sh 1 0 + Sh 2 0) % 6).toNat)) (rH o) (rS o) (rN o) Sh (U (((Sh 1 0 + Sh 2 0) % 6).toNat)) Sn (fun T1 T2 => D_hk hk_lt _ T1 T2) (by omega) (by omega)) (cwV 1 hts gX3_read_X0_note rfl rfl rfl (by decide +kernel) ⟨Nat.le_of_ble_eq_true rfl, Nat.le_of_ble_eq_true rfl⟩) (z_preV hK (e_hk (hk_lt (Sh := Sh)) hP) (ci := 0) (q0 := 0) rfl rfl rfl) rfl rfl hl.1 rfl (lv_room (Nat.le_of_ble_eq_true rfl)) dX3_read_8 ⟨Nat.zero_le _, Nat.zero_le _⟩) hS (fun q h => hA57 q (aK_in hk_lt q h)) (fun H locs hQ9 hS _ hk9 => ?_)
  have hP : va_P (dC, dI) vwCl (W3 o cI cQ (uset U (((Sh 1 0 + Sh 2 0) % 6).toNat) Sn) Sh Sn Sf Sp) H := b_hk (hk_lt (Sh := Sh)) hP hk9 hQ9
  refine lv_aload_n hx hb dX3_read_11 rfl (lv_at hl 0 rfl) ?_
  refine lv_aload_n hx hb dX3_read_12 rfl (lv_at hl 0 rfl) ?_
  refine gx_X3_0 hx hb hts hin hown hK hP (hts _ (List.mem_of_getElem? (i := 2) rfl)) dX3_read_13 ?_
  refine lv_iload_n hx hb dX3_read_16 rfl (lv_at hl 1 rfl) ?_
  refine lv_iload_n hx hb dX3_read_17 rfl (lv_at hl 2 rfl) ?_
  refine z_calli (va_runV (As := [.int (zI tr), .int (zI se)]) (rest := [.ref o]) ⟨hx, hb, hml, hown, hts⟩ (k_X1_takeRead l dC dI cI cQ (rg (o + 1) (o + 7)) (rN o) Sn (D_X1 (o + 1) cI) tr se (by exact hW) (by omega) (by omega)) (cwV 2 hts gX3_read_X1_takeRead rfl rfl rfl (by decide +kernel) ⟨Nat.le_of_ble_eq_true rfl, Nat.le_of_ble_eq_true rfl⟩) (z_preV hK (s_n hP) (ci := 1) (q0 := 0) rfl rfl rfl) rfl rfl hl.1 rfl (lv_room (Nat.le_of_ble_eq_true rfl)) dX3_read_18 ⟨Nat.zero_le _, Nat.zero_le _⟩) hS (fun q h => hA57 q (rg_sub h (by omega) (by omega))) (fun H locs hQ9 hS _ hk9 => ?_)
  have hP : va_P (dC, dI) vwCl (W3 o cI cQ (uset U (((Sh 1 0 + Sh 2 0) % 6).toNat) Sn) Sh (tkReadS Sn tr se) Sf Sp) H := b_n hP hk9 hQ9
  refine z_calli (va_runV (As := [.int (zI (tkReadR Sn tr se))]) (rest := []) ⟨hx, hb, hml, hown, hts⟩ (k_X3_settle l dC dI cI cQ A o (uset U (((Sh 1 0 + Sh 2 0) % 6).toNat) Sn) Sh (tkReadS Sn tr se) Sf Sp hA57 (tkReadR Sn tr se) (by omega) (by omega) (by omega)) (cwV 1 hts gX3_read_X3_settle rfl rfl rfl (by decide +kernel) ⟨Nat.le_of_ble_eq_true rfl, Nat.le_of_ble_eq_true rfl⟩) (z_preV hK hP (ci := 3) (q0 := 0) rfl rfl rfl) rfl rfl hl.1 rfl (lv_room (Nat.le_of_ble_eq_true rfl)) dX3_read_21 ⟨Nat.zero_le _, Nat.zero_le _⟩) hS (fun _ h => h) (fun H locs hP hS _ hk9 => ?_)
  exact z_iret hx hb hr hlk hP hS dX3_read_24 (by omega) rfl
theorem in_X3_write : ∀ w ∈ wsX30, w ∈ wsX3_write := fun w h => List.mem_cons_of_mem _ (List.mem_append_left _ (List.mem_append_left _ (List.mem_append_right _ h)))
set_option maxHeartbeats 4000000 in
set_option maxRecDepth 100000 in
theorem k_X3_write (l : Launch) (dC : Nat → ClassId) (dI : Nat → Nat → Nat) (cI cQ : ClassId) (A : Nat → Prop) (o : Nat) (U : Nat → Nat → Int → Int) (Sh Sn Sf Sp : Nat → Int → Int) (hA57 : ∀ q, rg o (o + 57) q → A q) (tr se v : Int) (h1 : 0 ≤ Sh 1 0 ∧ Sh 1 0 < 6) (h2 : 0 ≤ Sh 2 0 ∧ Sh 2 0 ≤ 5) (hW : WF Sn) (q0 : -2147483648 ≤ tr ∧ tr < 2147483648) (q1 : -2147483648 ≤ se ∧ se < 2147483648) (q2 : -2147483648 ≤ v ∧ v < 2147483648) (hr : -2147483648 ≤ tkWriteR Sn tr se v ∧ tkWriteR Sn tr se v < 2147483648) : Met l yX3_write wsX3_write ({ frames := 3, cells := 0, slots := 0, locals := 129 }) (zPc (dC, dI) vwCl (zT cI cQ) (W3 o cI cQ U Sh Sn Sf Sp) [.ref o, .int (zI tr), .int (zI se), .int (zI v)]) (zQi (dC, dI) vwCl (W3 o cI cQ (uset U (((Sh 1 0 + Sh 2 0) % 6).toNat) Sn) (setH Sh (tkWriteR Sn tr se v)) (tkWriteS Sn tr se v) Sf Sp) (tkWriteR Sn tr se v) A) 0 0 A := by
  refine Met.ofW (cc := cX3_write) (maxL := 4) (ret := (some .int)) (by decide) rfl ?_
  intro p e s m args below meth c s₁ B hml hv
  obtain ⟨rfl, hP, hK⟩ := hv
  have hx := B.exec
  have hb := B.bytes
  have hr := B.returns
  have hts := atoms_spec (ws := wsX3_write) B.pre
  have hown : s.vm.findClass RX3 = some m.cls := findClass_of_methodNamed B.named
  have hlk := B.notSynchronized
  have hS : va_S A s.heap s.heap [] := va_S.rf
  have hl := lv_entry ([.ref o, .int (zI tr), .int (zI se), .int (zI v)]) (n := 4) (Nat.le_of_ble_eq_true rfl)
  rw [lg_entry_eq]
  generalize (lg_sl ([.ref o, .int (zI tr), .int (zI se), .int (zI v)]) ++ List.replicate (4 - (lg_sl ([.ref o, .int (zI tr), .int (zI se), .int (zI v)])).length) Slot.unset).toArray = ls at hl ⊢
  have hl : lv_has ls 4 [(0, .ref o), (1, .int (zI tr)), (2, .int (zI se)), (3, .int (zI v))] := hl
  have hin : ∀ w ∈ wsX30, w ∈ wsX3_write := in_X3_write
  refine lv_aload_n hx hb dX3_write_0 rfl (lv_at hl 0 rfl) ?_
  refine gx_X3_2 hx hb hts hin hown hK hP (hts _ (List.mem_of_getElem? (i := 1) rfl)) dX3_write_1 ?_
  refine lv_aload_n hx hb dX3_write_4 rfl (lv_at hl 0 rfl) ?_
  refine gx_X3_0 hx hb hts hin hown hK hP (hts _ (List.mem_of_getElem? (i := 2) rfl)) dX3_write_5 ?_
  refine z_callv (va_runV (As := [.ref (o + 1)]) (rest := []) ⟨hx, hb, hml, hown, hts⟩ (k_X0_note l dC dI cI cQ (aK o (((Sh 1 0 + Sh 2 0) % 6).toNat)) (rH o) (rS o) (rN o) Sh (U (((Sh 1 0 + Sh 2 0) % 6).toNat)) Sn (fun T1 T2 => D_hk hk_lt _ T1 T2) (by omega) (by omega)) (cwV 1 hts gX3_write_X0_note rfl rfl rfl (by decide +kernel) ⟨Nat.le_of_ble_eq_true rfl, Nat.le_of_ble_eq_true rfl⟩) (z_preV hK (e_hk (hk_lt (Sh := Sh)) hP) (ci := 0) (q0 := 0) rfl rfl rfl) rfl rfl hl.1 rfl (lv_room (Nat.le_of_ble_eq_true rfl)) dX3_write_8 ⟨Nat.zero_le _, Nat.zero_le _⟩) hS (fun q h => hA57 q (aK_in hk_lt q h)) (fun H locs hQ9 hS _ hk9 => ?_)
  have hP : va_P (dC, dI) vwCl (W3 o cI cQ (uset U (((Sh 1 0 + Sh 2 0) % 6).toNat) Sn) Sh Sn Sf Sp) H := b_hk (hk_lt (Sh := Sh)) hP hk9 hQ9
  refine lv_aload_n hx hb dX3_write_11 rfl (lv_at hl 0 rfl) ?_
  refine lv_aload_n hx hb dX3_write_12 rfl (lv_at hl 0 rfl) ?_
  refine gx_X3_0 hx hb hts hin hown hK hP (hts _ (List.mem_of_getElem? (i := 2) rfl)) dX3_write_13 ?_
  refine lv_iload_n hx hb dX3_write_16 rfl (lv_at hl 1 rfl) ?_
  refine lv_iload_n hx hb dX3_write_17 rfl (lv_at hl 2 rfl) ?_
  refine lv_iload_n hx hb dX3_write_18 rfl (lv_at hl 3 rfl) ?_
  refine z_calli (va_runV (As := [.int (zI tr), .int (zI se), .int (zI v)]) (rest := [.ref o]) ⟨hx, hb, hml, hown, hts⟩ (k_X1_takeWrite l dC dI cI cQ (rg (o + 1) (o + 7)) (rN o) Sn (D_X1 (o + 1) cI) tr se v (by exact hW) (by omega) (by omega) (by omega)) (cwV 3 hts gX3_write_X1_takeWrite rfl rfl rfl (by decide +kernel) ⟨Nat.le_of_ble_eq_true rfl, Nat.le_of_ble_eq_true rfl⟩) (z_preV hK (s_n hP) (ci := 1) (q0 := 0) rfl rfl rfl) rfl rfl hl.1 rfl (lv_room (Nat.le_of_ble_eq_true rfl)) dX3_write_19 ⟨Nat.zero_le _, Nat.zero_le _⟩) hS (fun q h => hA57 q (rg_sub h (by omega) (by omega))) (fun H locs hQ9 hS _ hk9 => ?_)
  have hP : va_P (dC, dI) vwCl (W3 o cI cQ (uset U (((Sh 1 0 + Sh 2 0) % 6).toNat) Sn) Sh (tkWriteS Sn tr se v) Sf Sp) H := b_n hP hk9 hQ9
  refine z_calli (va_runV (As := [.int (zI (tkWriteR Sn tr se v))]) (rest := []) ⟨hx, hb, hml, hown, hts⟩ (k_X3_settle l dC dI cI cQ A o (uset U (((Sh 1 0 + Sh 2 0) % 6).toNat) Sn) Sh (tkWriteS Sn tr se v) Sf Sp hA57 (tkWriteR Sn tr se v) (by omega) (by omega) (by omega)) (cwV 1 hts gX3_write_X3_settle rfl rfl rfl (by decide +kernel) ⟨Nat.le_of_ble_eq_true rfl, Nat.le_of_ble_eq_true rfl⟩) (z_preV hK hP (ci := 3) (q0 := 0) rfl rfl rfl) rfl rfl hl.1 rfl (lv_room (Nat.le_of_ble_eq_true rfl)) dX3_write_22 ⟨Nat.zero_le _, Nat.zero_le _⟩) hS (fun _ h => h) (fun H locs hP hS _ hk9 => ?_)
  exact z_iret hx hb hr hlk hP hS dX3_write_25 (by omega) rfl
theorem in_X3_pass : ∀ w ∈ wsX30, w ∈ wsX3_pass := fun w h => List.mem_cons_of_mem _ (List.mem_append_left _ (List.mem_append_left _ (List.mem_append_right _ h)))
set_option maxHeartbeats 4000000 in
set_option maxRecDepth 100000 in
theorem k_X3_pass (l : Launch) (dC : Nat → ClassId) (dI : Nat → Nat → Nat) (cI cQ : ClassId) (A : Nat → Prop) (o : Nat) (U : Nat → Nat → Int → Int) (Sh Sn Sf Sp : Nat → Int → Int) (hA57 : ∀ q, rg o (o + 57) q → A q) (ticks : Int) (h1 : 0 ≤ Sh 1 0 ∧ Sh 1 0 < 6) (h2 : 0 ≤ Sh 2 0 ∧ Sh 2 0 ≤ 5) (hW : WF Sn) (hall : (1 ≤ ticks ∧ ticks ≤ 200) ∧ Sn 5 0 + ticks ≤ 20000 → ∀ k : Int, 0 ≤ k → k < ticks → WF (itZ doTickS k Sn) ∧ WF (forgS (itZ doTickS k Sn)) ∧ (0 < itZ doTickS k Sn 4 (itZ doTickS k Sn 6 0) → WF (useHdS (forgS (itZ doTickS k Sn)) 0))) (q0 : -2147483648 ≤ ticks ∧ ticks < 2147483648) (hr : -2147483648 ≤ letPassR Sn ticks ∧ letPassR Sn ticks < 2147483648) : Met l yX3_pass wsX3_pass ({ frames := 5, cells := 0, slots := 0, locals := 129 }) (zPc (dC, dI) vwCl (zT cI cQ) (W3 o cI cQ U Sh Sn Sf Sp) [.ref o, .int (zI ticks)]) (zQi (dC, dI) vwCl (W3 o cI cQ (uset U (((Sh 1 0 + Sh 2 0) % 6).toNat) Sn) (setH Sh (letPassR Sn ticks)) (letPassS Sn ticks) Sf Sp) (letPassR Sn ticks) A) 0 0 A := by
  refine Met.ofW (cc := cX3_pass) (maxL := 2) (ret := (some .int)) (by decide) rfl ?_
  intro p e s m args below meth c s₁ B hml hv
  obtain ⟨rfl, hP, hK⟩ := hv
  have hx := B.exec
  have hb := B.bytes
  have hr := B.returns
  have hts := atoms_spec (ws := wsX3_pass) B.pre
  have hown : s.vm.findClass RX3 = some m.cls := findClass_of_methodNamed B.named
  have hlk := B.notSynchronized
  have hS : va_S A s.heap s.heap [] := va_S.rf
  have hl := lv_entry ([.ref o, .int (zI ticks)]) (n := 2) (Nat.le_of_ble_eq_true rfl)
  rw [lg_entry_eq]
  generalize (lg_sl ([.ref o, .int (zI ticks)]) ++ List.replicate (2 - (lg_sl ([.ref o, .int (zI ticks)])).length) Slot.unset).toArray = ls at hl ⊢
  have hl : lv_has ls 2 [(0, .ref o), (1, .int (zI ticks))] := hl
  have hin : ∀ w ∈ wsX30, w ∈ wsX3_pass := in_X3_pass
  refine lv_aload_n hx hb dX3_pass_0 rfl (lv_at hl 0 rfl) ?_
  refine gx_X3_2 hx hb hts hin hown hK hP (hts _ (List.mem_of_getElem? (i := 1) rfl)) dX3_pass_1 ?_
  refine lv_aload_n hx hb dX3_pass_4 rfl (lv_at hl 0 rfl) ?_
  refine gx_X3_0 hx hb hts hin hown hK hP (hts _ (List.mem_of_getElem? (i := 2) rfl)) dX3_pass_5 ?_
  refine z_callv (va_runV (As := [.ref (o + 1)]) (rest := []) ⟨hx, hb, hml, hown, hts⟩ (k_X0_note l dC dI cI cQ (aK o (((Sh 1 0 + Sh 2 0) % 6).toNat)) (rH o) (rS o) (rN o) Sh (U (((Sh 1 0 + Sh 2 0) % 6).toNat)) Sn (fun T1 T2 => D_hk hk_lt _ T1 T2) (by omega) (by omega)) (cwV 1 hts gX3_pass_X0_note rfl rfl rfl (by decide +kernel) ⟨Nat.le_of_ble_eq_true rfl, Nat.le_of_ble_eq_true rfl⟩) (z_preV hK (e_hk (hk_lt (Sh := Sh)) hP) (ci := 0) (q0 := 0) rfl rfl rfl) rfl rfl hl.1 rfl (lv_room (Nat.le_of_ble_eq_true rfl)) dX3_pass_8 ⟨Nat.zero_le _, Nat.zero_le _⟩) hS (fun q h => hA57 q (aK_in hk_lt q h)) (fun H locs hQ9 hS _ hk9 => ?_)
  have hP : va_P (dC, dI) vwCl (W3 o cI cQ (uset U (((Sh 1 0 + Sh 2 0) % 6).toNat) Sn) Sh Sn Sf Sp) H := b_hk (hk_lt (Sh := Sh)) hP hk9 hQ9
  refine lv_aload_n hx hb dX3_pass_11 rfl (lv_at hl 0 rfl) ?_
  refine lv_aload_n hx hb dX3_pass_12 rfl (lv_at hl 0 rfl) ?_
  refine gx_X3_0 hx hb hts hin hown hK hP (hts _ (List.mem_of_getElem? (i := 2) rfl)) dX3_pass_13 ?_
  refine lv_iload_n hx hb dX3_pass_16 rfl (lv_at hl 1 rfl) ?_
  refine z_calli (va_runV (As := [.int (zI ticks)]) (rest := [.ref o]) ⟨hx, hb, hml, hown, hts⟩ (k_X1_letPass l dC dI cI cQ (rg (o + 1) (o + 7)) (rN o) Sn (D_X1 (o + 1) cI) ticks (by exact hW) (by omega) (by exact hall)) (cwV 1 hts gX3_pass_X1_letPass rfl rfl rfl (by decide +kernel) ⟨Nat.le_of_ble_eq_true rfl, Nat.le_of_ble_eq_true rfl⟩) (z_preV hK (s_n hP) (ci := 1) (q0 := 0) rfl rfl rfl) rfl rfl hl.1 rfl (lv_room (Nat.le_of_ble_eq_true rfl)) dX3_pass_17 ⟨Nat.zero_le _, Nat.zero_le _⟩) hS (fun q h => hA57 q (rg_sub h (by omega) (by omega))) (fun H locs hQ9 hS _ hk9 => ?_)
  have hP : va_P (dC, dI) vwCl (W3 o cI cQ (uset U (((Sh 1 0 + Sh 2 0) % 6).toNat) Sn) Sh (letPassS Sn ticks) Sf Sp) H := b_n hP hk9 hQ9
  refine z_calli (va_runV (As := [.int (zI (letPassR Sn ticks))]) (rest := []) ⟨hx, hb, hml, hown, hts⟩ (k_X3_settle l dC dI cI cQ A o (uset U (((Sh 1 0 + Sh 2 0) % 6).toNat) Sn) Sh (letPassS Sn ticks) Sf Sp hA57 (letPassR Sn ticks) (by omega) (by omega) (by omega)) (cwV 1 hts gX3_pass_X3_settle rfl rfl rfl (by decide +kernel) ⟨Nat.le_of_ble_eq_true rfl, Nat.le_of_ble_eq_true rfl⟩) (z_preV hK hP (ci := 3) (q0 := 0) rfl rfl rfl) rfl rfl hl.1 rfl (lv_room (Nat.le_of_ble_eq_true rfl)) dX3_pass_20 ⟨Nat.zero_le _, Nat.zero_le _⟩) hS (fun _ h => h) (fun H locs hP hS _ hk9 => ?_)
  exact z_iret hx hb hr hlk hP hS dX3_pass_23 (by omega) rfl
theorem in_X3_cut : ∀ w ∈ wsX30, w ∈ wsX3_cut := fun w h => List.mem_cons_of_mem _ (List.mem_append_left _ (List.mem_append_left _ (List.mem_append_right _ h)))
set_option maxHeartbeats 4000000 in
set_option maxRecDepth 100000 in
theorem k_X3_cut (l : Launch) (dC : Nat → ClassId) (dI : Nat → Nat → Nat) (cI cQ : ClassId) (A : Nat → Prop) (o : Nat) (U : Nat → Nat → Int → Int) (Sh Sn Sf Sp : Nat → Int → Int) (hA57 : ∀ q, rg o (o + 57) q → A q) (h1 : 0 ≤ Sh 1 0 ∧ Sh 1 0 < 6) (h2 : 0 ≤ Sh 2 0 ∧ Sh 2 0 ≤ 5) (hW : WF Sn) (hW2 : ∀ k : Int, 0 ≤ k → k ≤ 2 → WF (ixZ tearS k Sn)) (hr : -2147483648 ≤ cutR Sn ∧ cutR Sn < 2147483648) : Met l yX3_cut wsX3_cut ({ frames := 4, cells := 0, slots := 0, locals := 129 }) (zPc (dC, dI) vwCl (zT cI cQ) (W3 o cI cQ U Sh Sn Sf Sp) [.ref o]) (zQi (dC, dI) vwCl (W3 o cI cQ (uset U (((Sh 1 0 + Sh 2 0) % 6).toNat) Sn) (setH Sh (cutR Sn)) (cutS Sn) Sf Sp) (cutR Sn) A) 0 0 A := by
  refine Met.ofW (cc := cX3_cut) (maxL := 1) (ret := (some .int)) (by decide) rfl ?_
  intro p e s m args below meth c s₁ B hml hv
  obtain ⟨rfl, hP, hK⟩ := hv
  have hx := B.exec
  have hb := B.bytes
  have hr := B.returns
  have hts := atoms_spec (ws := wsX3_cut) B.pre
  have hown : s.vm.findClass RX3 = some m.cls := findClass_of_methodNamed B.named
  have hlk := B.notSynchronized
  have hS : va_S A s.heap s.heap [] := va_S.rf
  have hl := lv_entry ([.ref o]) (n := 1) (Nat.le_of_ble_eq_true rfl)
  rw [lg_entry_eq]
  generalize (lg_sl ([.ref o]) ++ List.replicate (1 - (lg_sl ([.ref o])).length) Slot.unset).toArray = ls at hl ⊢
  have hl : lv_has ls 1 [(0, .ref o)] := hl
  have hin : ∀ w ∈ wsX30, w ∈ wsX3_cut := in_X3_cut
  refine lv_aload_n hx hb dX3_cut_0 rfl (lv_at hl 0 rfl) ?_
  refine gx_X3_2 hx hb hts hin hown hK hP (hts _ (List.mem_of_getElem? (i := 1) rfl)) dX3_cut_1 ?_
  refine lv_aload_n hx hb dX3_cut_4 rfl (lv_at hl 0 rfl) ?_
  refine gx_X3_0 hx hb hts hin hown hK hP (hts _ (List.mem_of_getElem? (i := 2) rfl)) dX3_cut_5 ?_
  refine z_callv (va_runV (As := [.ref (o + 1)]) (rest := []) ⟨hx, hb, hml, hown, hts⟩ (k_X0_note l dC dI cI cQ (aK o (((Sh 1 0 + Sh 2 0) % 6).toNat)) (rH o) (rS o) (rN o) Sh (U (((Sh 1 0 + Sh 2 0) % 6).toNat)) Sn (fun T1 T2 => D_hk hk_lt _ T1 T2) (by omega) (by omega)) (cwV 1 hts gX3_cut_X0_note rfl rfl rfl (by decide +kernel) ⟨Nat.le_of_ble_eq_true rfl, Nat.le_of_ble_eq_true rfl⟩) (z_preV hK (e_hk (hk_lt (Sh := Sh)) hP) (ci := 0) (q0 := 0) rfl rfl rfl) rfl rfl hl.1 rfl (lv_room (Nat.le_of_ble_eq_true rfl)) dX3_cut_8 ⟨Nat.zero_le _, Nat.zero_le _⟩) hS (fun q h => hA57 q (aK_in hk_lt q h)) (fun H locs hQ9 hS _ hk9 => ?_)
  have hP : va_P (dC, dI) vwCl (W3 o cI cQ (uset U (((Sh 1 0 + Sh 2 0) % 6).toNat) Sn) Sh Sn Sf Sp) H := b_hk (hk_lt (Sh := Sh)) hP hk9 hQ9
  refine lv_aload_n hx hb dX3_cut_11 rfl (lv_at hl 0 rfl) ?_
  refine lv_aload_n hx hb dX3_cut_12 rfl (lv_at hl 0 rfl) ?_
  refine gx_X3_0 hx hb hts hin hown hK hP (hts _ (List.mem_of_getElem? (i := 2) rfl)) dX3_cut_13 ?_
  refine z_calli (va_runV (As := []) (rest := [.ref o]) ⟨hx, hb, hml, hown, hts⟩ (k_X1_cutPower l dC dI cI cQ (rg (o + 1) (o + 7)) (rN o) Sn (D_X1 (o + 1) cI) (by exact hW) (by exact hW2)) (cwV 0 hts gX3_cut_X1_cutPower rfl rfl rfl (by decide +kernel) ⟨Nat.le_of_ble_eq_true rfl, Nat.le_of_ble_eq_true rfl⟩) (z_preV hK (s_n hP) (ci := 1) (q0 := 0) rfl rfl rfl) rfl rfl hl.1 rfl (lv_room (Nat.le_of_ble_eq_true rfl)) dX3_cut_16 ⟨Nat.zero_le _, Nat.zero_le _⟩) hS (fun q h => hA57 q (rg_sub h (by omega) (by omega))) (fun H locs hQ9 hS _ hk9 => ?_)
  have hP : va_P (dC, dI) vwCl (W3 o cI cQ (uset U (((Sh 1 0 + Sh 2 0) % 6).toNat) Sn) Sh (cutS Sn) Sf Sp) H := b_n hP hk9 hQ9
  refine z_calli (va_runV (As := [.int (zI (cutR Sn))]) (rest := []) ⟨hx, hb, hml, hown, hts⟩ (k_X3_settle l dC dI cI cQ A o (uset U (((Sh 1 0 + Sh 2 0) % 6).toNat) Sn) Sh (cutS Sn) Sf Sp hA57 (cutR Sn) (by omega) (by omega) (by omega)) (cwV 1 hts gX3_cut_X3_settle rfl rfl rfl (by decide +kernel) ⟨Nat.le_of_ble_eq_true rfl, Nat.le_of_ble_eq_true rfl⟩) (z_preV hK hP (ci := 3) (q0 := 0) rfl rfl rfl) rfl rfl hl.1 rfl (lv_room (Nat.le_of_ble_eq_true rfl)) dX3_cut_19 ⟨Nat.zero_le _, Nat.zero_le _⟩) hS (fun _ h => h) (fun H locs hP hS _ hk9 => ?_)
  exact z_iret hx hb hr hlk hP hS dX3_cut_22 (by omega) rfl
theorem in_X3_sweep : ∀ w ∈ wsX30, w ∈ wsX3_sweep := fun w h => List.mem_cons_of_mem _ (List.mem_append_left _ (List.mem_append_left _ (List.mem_append_right _ h)))
set_option maxHeartbeats 4000000 in
set_option maxRecDepth 100000 in
theorem k_X3_sweep (l : Launch) (dC : Nat → ClassId) (dI : Nat → Nat → Nat) (cI cQ : ClassId) (A : Nat → Prop) (o : Nat) (U : Nat → Nat → Int → Int) (Sh Sn Sf Sp : Nat → Int → Int) (hA57 : ∀ q, rg o (o + 57) q → A q) (h1 : 0 ≤ Sh 1 0 ∧ Sh 1 0 < 6) (h2 : 0 ≤ Sh 2 0 ∧ Sh 2 0 ≤ 5) (hW : WF Sn) (hall : ∀ b : Int, 0 ≤ b → b < 48 → zB (ixZ (fun b U => repS U (4 * b) (4 * b + 192)) b Sn)) (hr : -2147483648 ≤ sweepBR Sn ∧ sweepBR Sn < 2147483648) : Met l yX3_sweep wsX3_sweep ({ frames := 5, cells := 0, slots := 0, locals := 129 }) (zPc (dC, dI) vwCl (zT cI cQ) (W3 o cI cQ U Sh Sn Sf Sp) [.ref o]) (zQi (dC, dI) vwCl (W3 o cI cQ (uset U (((Sh 1 0 + Sh 2 0) % 6).toNat) Sn) (setH Sh (sweepBR Sn)) (sweepS Sn) Sf Sp) (sweepBR Sn) A) 0 0 A := by
  refine Met.ofW (cc := cX3_sweep) (maxL := 1) (ret := (some .int)) (by decide) rfl ?_
  intro p e s m args below meth c s₁ B hml hv
  obtain ⟨rfl, hP, hK⟩ := hv
  have hx := B.exec
  have hb := B.bytes
  have hr := B.returns
  have hts := atoms_spec (ws := wsX3_sweep) B.pre
  have hown : s.vm.findClass RX3 = some m.cls := findClass_of_methodNamed B.named
  have hlk := B.notSynchronized
  have hS : va_S A s.heap s.heap [] := va_S.rf
  have hl := lv_entry ([.ref o]) (n := 1) (Nat.le_of_ble_eq_true rfl)
  rw [lg_entry_eq]
  generalize (lg_sl ([.ref o]) ++ List.replicate (1 - (lg_sl ([.ref o])).length) Slot.unset).toArray = ls at hl ⊢
  have hl : lv_has ls 1 [(0, .ref o)] := hl
  have hin : ∀ w ∈ wsX30, w ∈ wsX3_sweep := in_X3_sweep
  refine lv_aload_n hx hb dX3_sweep_0 rfl (lv_at hl 0 rfl) ?_
  refine gx_X3_2 hx hb hts hin hown hK hP (hts _ (List.mem_of_getElem? (i := 1) rfl)) dX3_sweep_1 ?_
  refine lv_aload_n hx hb dX3_sweep_4 rfl (lv_at hl 0 rfl) ?_
  refine gx_X3_0 hx hb hts hin hown hK hP (hts _ (List.mem_of_getElem? (i := 2) rfl)) dX3_sweep_5 ?_
  refine z_callv (va_runV (As := [.ref (o + 1)]) (rest := []) ⟨hx, hb, hml, hown, hts⟩ (k_X0_note l dC dI cI cQ (aK o (((Sh 1 0 + Sh 2 0) % 6).toNat)) (rH o) (rS o) (rN o) Sh (U (((Sh 1 0 + Sh 2 0) % 6).toNat)) Sn (fun T1 T2 => D_hk hk_lt _ T1 T2) (by omega) (by omega)) (cwV 1 hts gX3_sweep_X0_note rfl rfl rfl (by decide +kernel) ⟨Nat.le_of_ble_eq_true rfl, Nat.le_of_ble_eq_true rfl⟩) (z_preV hK (e_hk (hk_lt (Sh := Sh)) hP) (ci := 0) (q0 := 0) rfl rfl rfl) rfl rfl hl.1 rfl (lv_room (Nat.le_of_ble_eq_true rfl)) dX3_sweep_8 ⟨Nat.zero_le _, Nat.zero_le _⟩) hS (fun q h => hA57 q (aK_in hk_lt q h)) (fun H locs hQ9 hS _ hk9 => ?_)
  have hP : va_P (dC, dI) vwCl (W3 o cI cQ (uset U (((Sh 1 0 + Sh 2 0) % 6).toNat) Sn) Sh Sn Sf Sp) H := b_hk (hk_lt (Sh := Sh)) hP hk9 hQ9
  refine lv_aload_n hx hb dX3_sweep_11 rfl (lv_at hl 0 rfl) ?_
  refine lv_aload_n hx hb dX3_sweep_12 rfl (lv_at hl 0 rfl) ?_
  refine gx_X3_0 hx hb hts hin hown hK hP (hts _ (List.mem_of_getElem? (i := 2) rfl)) dX3_sweep_13 ?_
  refine z_calli (va_runV (As := []) (rest := [.ref o]) ⟨hx, hb, hml, hown, hts⟩ (k_X1_sweepBlocks l dC dI cI cQ (rg (o + 1) (o + 7)) (rN o) Sn (D_X1 (o + 1) cI) (by exact hW) (by exact hall)) (cwV 0 hts gX3_sweep_X1_sweepBlocks rfl rfl rfl (by decide +kernel) ⟨Nat.le_of_ble_eq_true rfl, Nat.le_of_ble_eq_true rfl⟩) (z_preV hK (s_n hP) (ci := 1) (q0 := 0) rfl rfl rfl) rfl rfl hl.1 rfl (lv_room (Nat.le_of_ble_eq_true rfl)) dX3_sweep_16 ⟨Nat.zero_le _, Nat.zero_le _⟩) hS (fun q h => hA57 q (rg_sub h (by omega) (by omega))) (fun H locs hQ9 hS _ hk9 => ?_)
  have hP : va_P (dC, dI) vwCl (W3 o cI cQ (uset U (((Sh 1 0 + Sh 2 0) % 6).toNat) Sn) Sh (sweepS Sn) Sf Sp) H := b_n hP hk9 hQ9
  refine z_calli (va_runV (As := [.int (zI (sweepBR Sn))]) (rest := []) ⟨hx, hb, hml, hown, hts⟩ (k_X3_settle l dC dI cI cQ A o (uset U (((Sh 1 0 + Sh 2 0) % 6).toNat) Sn) Sh (sweepS Sn) Sf Sp hA57 (sweepBR Sn) (by omega) (by omega) (by omega)) (cwV 1 hts gX3_sweep_X3_settle rfl rfl rfl (by decide +kernel) ⟨Nat.le_of_ble_eq_true rfl, Nat.le_of_ble_eq_true rfl⟩) (z_preV hK hP (ci := 3) (q0 := 0) rfl rfl rfl) rfl rfl hl.1 rfl (lv_room (Nat.le_of_ble_eq_true rfl)) dX3_sweep_19 ⟨Nat.zero_le _, Nat.zero_le _⟩) hS (fun _ h => h) (fun H locs hP hS _ hk9 => ?_)
  exact z_iret hx hb hr hlk hP hS dX3_sweep_22 (by omega) rfl
theorem in_X3_append : ∀ w ∈ wsX30, w ∈ wsX3_append := fun w h => List.mem_cons_of_mem _ (List.mem_append_left _ (List.mem_append_right _ h))
set_option maxHeartbeats 4000000 in
set_option maxRecDepth 100000 in
theorem k_X3_append (l : Launch) (dC : Nat → ClassId) (dI : Nat → Nat → Nat) (cI cQ : ClassId) (A : Nat → Prop) (o : Nat) (U : Nat → Nat → Int → Int) (Sh Sn Sf Sp : Nat → Int → Int) (hA57 : ∀ q, rg o (o + 57) q → A q) (ch : Int) (q0 : -2147483648 ≤ ch ∧ ch < 2147483648) (h1 : 0 ≤ Sp 1 0 ∧ Sp 1 0 ≤ 80) : Met l yX3_append wsX3_append ({ frames := 2, cells := 0, slots := 0, locals := 49 }) (zPc (dC, dI) vwCl (zT cI cQ) (W3 o cI cQ U Sh Sn Sf Sp) [.ref o, .int (zI ch)]) (zQi (dC, dI) vwCl (W3 o cI cQ U Sh Sn Sf (apP Sp ch)) (apR Sp ch) A) 0 0 A := by
  refine Met.ofW (cc := cX3_append) (maxL := 2) (ret := (some .int)) (by decide) rfl ?_
  intro p e s m args below meth c s₁ B hml hv
  obtain ⟨rfl, hP, hK⟩ := hv
  have hx := B.exec
  have hb := B.bytes
  have hr := B.returns
  have hts := atoms_spec (ws := wsX3_append) B.pre
  have hown : s.vm.findClass RX3 = some m.cls := findClass_of_methodNamed B.named
  have hlk := B.notSynchronized
  have hS : va_S A s.heap s.heap [] := va_S.rf
  have hl := lv_entry ([.ref o, .int (zI ch)]) (n := 2) (Nat.le_of_ble_eq_true rfl)
  rw [lg_entry_eq]
  generalize (lg_sl ([.ref o, .int (zI ch)]) ++ List.replicate (2 - (lg_sl ([.ref o, .int (zI ch)])).length) Slot.unset).toArray = ls at hl ⊢
  have hl : lv_has ls 2 [(0, .ref o), (1, .int (zI ch))] := hl
  have hin : ∀ w ∈ wsX30, w ∈ wsX3_append := in_X3_append
  refine lv_iload_n hx hb dX3_append_0 rfl (lv_at hl 1 rfl) ?_
  refine z_iconst hx hb dX3_append_1 ?_
  refine z_icmp_lt (tgt := 12) hx hb dX3_append_2 (by decide) (by omega) (by omega) (fun c1 => ?_) (fun c1 => ?_)
  · refine z_iconst hx hb dX3_append_12 ?_
    exact z_iret hx hb hr hlk hP hS dX3_append_13 (by unfold apR; first | (rw [if_neg (by omega)]; done) | (rw [if_pos (by omega), if_pos (by omega)]; done) | (rw [if_pos (by omega), if_neg (by omega)])) (by unfold apP; first | (rw [if_neg (by omega)]; done) | (rw [if_pos (by omega)]; unfold adC; rw [if_neg (by omega)]; done) | rw [if_pos (by omega)])
  · refine lv_iload_n hx hb dX3_append_5 rfl (lv_at hl 1 rfl) ?_
    refine z_sipush (z := 255) hx hb dX3_append_6 (by decide +kernel) ?_
    refine z_icmp_le (tgt := 14) hx hb dX3_append_9 (by decide) (by omega) (by omega) (fun c2 => ?_) (fun c2 => ?_)
    · refine lv_aload_n hx hb dX3_append_14 rfl (lv_at hl 0 rfl) ?_
      refine gx_X3_3 hx hb hts hin hown hK hP (hts _ (List.mem_of_getElem? (i := 1) rfl)) dX3_append_15 ?_
      refine z_calli (va_runV (As := []) (rest := []) ⟨hx, hb, hml, hown, hts⟩ (k_X2_isFull l dC dI cI cQ (rg (o + 51) (o + 57)) (rP o) Sp (D_X2 (o + 51) cI) (by exact h1)) (cwV 0 hts gX3_append_X2_isFull rfl rfl rfl (by decide +kernel) ⟨Nat.le_of_ble_eq_true rfl, Nat.le_of_ble_eq_true rfl⟩) (z_preV hK (s_p hP) (ci := 2) (q0 := 0) rfl rfl rfl) rfl rfl hl.1 rfl (lv_room (Nat.le_of_ble_eq_true rfl)) dX3_append_18 ⟨Nat.zero_le _, Nat.zero_le _⟩) hS (fun q h => hA57 q (rg_sub h (by omega) (by omega))) (fun H locs hQ9 hS _ hk9 => ?_)
      have hP : va_P (dC, dI) vwCl (W3 o cI cQ U Sh Sn Sf Sp) H := b_p hP hk9 hQ9
      refine z_ifb_eq (tgt := 27) hx hb dX3_append_21 (by decide) (fun c3 => ?_) (fun c3 => ?_)
      · refine lv_aload_n hx hb dX3_append_27 rfl (lv_at hl 0 rfl) ?_
        refine gx_X3_3 hx hb hts hin hown hK hP (hts _ (List.mem_of_getElem? (i := 1) rfl)) dX3_append_28 ?_
        refine lv_iload_n hx hb dX3_append_31 rfl (lv_at hl 1 rfl) ?_
        refine z_callv (va_runV (As := [.int (zI ch)]) (rest := []) ⟨hx, hb, hml, hown, hts⟩ (k_X2_addSign l dC dI cI cQ (rg (o + 51) (o + 57)) (rP o) Sp (D_X2 (o + 51) cI) ch (by exact h1)) (cwV 1 hts gX3_append_X2_addSign rfl rfl rfl (by decide +kernel) ⟨Nat.le_of_ble_eq_true rfl, Nat.le_of_ble_eq_true rfl⟩) (z_preV hK (s_p hP) (ci := 2) (q0 := 0) rfl rfl rfl) rfl rfl hl.1 rfl (lv_room (Nat.le_of_ble_eq_true rfl)) dX3_append_32 ⟨Nat.zero_le _, Nat.zero_le _⟩) hS (fun q h => hA57 q (rg_sub h (by omega) (by omega))) (fun H locs hQ9 hS _ hk9 => ?_)
        have hP : va_P (dC, dI) vwCl (W3 o cI cQ U Sh Sn Sf (adC Sp ch)) H := b_p hP hk9 hQ9
        refine lv_aload_n hx hb dX3_append_35 rfl (lv_at hl 0 rfl) ?_
        refine gx_X3_3 hx hb hts hin hown hK hP (hts _ (List.mem_of_getElem? (i := 1) rfl)) dX3_append_36 ?_
        refine z_calli (va_runV (As := []) (rest := []) ⟨hx, hb, hml, hown, hts⟩ (k_X2_length l dC dI cI cQ (rg (o + 51) (o + 57)) (rP o) (adC Sp ch) (D_X2 (o + 51) cI)) (cwV 0 hts gX3_append_X2_length rfl rfl rfl (by decide +kernel) ⟨Nat.le_of_ble_eq_true rfl, Nat.le_of_ble_eq_true rfl⟩) (z_preV hK (s_p hP) (ci := 2) (q0 := 0) rfl rfl rfl) rfl rfl hl.1 rfl (lv_room (Nat.le_of_ble_eq_true rfl)) dX3_append_39 ⟨Nat.zero_le _, Nat.zero_le _⟩) hS (fun q h => hA57 q (rg_sub h (by omega) (by omega))) (fun H locs hQ9 hS _ hk9 => ?_)
        have hP : va_P (dC, dI) vwCl (W3 o cI cQ U Sh Sn Sf (adC Sp ch)) H := b_p hP hk9 hQ9
        exact z_iret hx hb hr hlk hP hS dX3_append_42 (by unfold apR; first | (rw [if_neg (by omega)]; done) | (rw [if_pos (by omega), if_pos (by omega)]; done) | (rw [if_pos (by omega), if_neg (by omega)])) (by unfold apP; first | (rw [if_neg (by omega)]; done) | (rw [if_pos (by omega)]; unfold adC; rw [if_neg (by omega)]; done) | rw [if_pos (by omega)])
      · refine z_bipush (z := (-3)) hx hb dX3_append_24 (by decide +kernel) ?_
        exact z_iret hx hb hr hlk hP hS dX3_append_26 (by unfold apR; first | (rw [if_neg (by omega)]; done) | (rw [if_pos (by omega), if_pos (by omega)]; done) | (rw [if_pos (by omega), if_neg (by omega)])) (by unfold apP; first | (rw [if_neg (by omega)]; done) | (rw [if_pos (by omega)]; unfold adC; rw [if_neg (by omega)]; done) | rw [if_pos (by omega)])
    · refine z_iconst hx hb dX3_append_12 ?_
      exact z_iret hx hb hr hlk hP hS dX3_append_13 (by unfold apR; first | (rw [if_neg (by omega)]; done) | (rw [if_pos (by omega), if_pos (by omega)]; done) | (rw [if_pos (by omega), if_neg (by omega)])) (by unfold apP; first | (rw [if_neg (by omega)]; done) | (rw [if_pos (by omega)]; unfold adC; rw [if_neg (by omega)]; done) | rw [if_pos (by omega)])
theorem in_X3_clearText : ∀ w ∈ wsX30, w ∈ wsX3_clearText := fun w h => List.mem_cons_of_mem _ (List.mem_append_left _ (List.mem_append_right _ h))
set_option maxHeartbeats 4000000 in
set_option maxRecDepth 100000 in
theorem k_X3_clearText (l : Launch) (dC : Nat → ClassId) (dI : Nat → Nat → Nat) (cI cQ : ClassId) (A : Nat → Prop) (o : Nat) (U : Nat → Nat → Int → Int) (Sh Sn Sf Sp : Nat → Int → Int) (hA57 : ∀ q, rg o (o + 57) q → A q) : Met l yX3_clearText wsX3_clearText ({ frames := 1, cells := 0, slots := 0, locals := 28 }) (zPc (dC, dI) vwCl (zT cI cQ) (W3 o cI cQ U Sh Sn Sf Sp) [.ref o]) (zQi (dC, dI) vwCl (W3 o cI cQ U Sh Sn Sf (mkC Sp)) (Sp 1 0) A) 0 0 A := by
  refine Met.ofW (cc := cX3_clearText) (maxL := 2) (ret := (some .int)) (by decide) rfl ?_
  intro p e s m args below meth c s₁ B hml hv
  obtain ⟨rfl, hP, hK⟩ := hv
  have hx := B.exec
  have hb := B.bytes
  have hr := B.returns
  have hts := atoms_spec (ws := wsX3_clearText) B.pre
  have hown : s.vm.findClass RX3 = some m.cls := findClass_of_methodNamed B.named
  have hlk := B.notSynchronized
  have hS : va_S A s.heap s.heap [] := va_S.rf
  have hl := lv_entry ([.ref o]) (n := 2) (Nat.le_of_ble_eq_true rfl)
  rw [lg_entry_eq]
  generalize (lg_sl ([.ref o]) ++ List.replicate (2 - (lg_sl ([.ref o])).length) Slot.unset).toArray = ls at hl ⊢
  have hl : lv_has ls 2 [(0, .ref o)] := hl
  have hin : ∀ w ∈ wsX30, w ∈ wsX3_clearText := in_X3_clearText
  refine lv_aload_n hx hb dX3_clearText_0 rfl (lv_at hl 0 rfl) ?_
  refine gx_X3_3 hx hb hts hin hown hK hP (hts _ (List.mem_of_getElem? (i := 1) rfl)) dX3_clearText_1 ?_
  refine z_calli (va_runV (As := []) (rest := []) ⟨hx, hb, hml, hown, hts⟩ (k_X2_length l dC dI cI cQ (rg (o + 51) (o + 57)) (rP o) Sp (D_X2 (o + 51) cI)) (cwV 0 hts gX3_clearText_X2_length rfl rfl rfl (by decide +kernel) ⟨Nat.le_of_ble_eq_true rfl, Nat.le_of_ble_eq_true rfl⟩) (z_preV hK (s_p hP) (ci := 2) (q0 := 0) rfl rfl rfl) rfl rfl hl.1 rfl (lv_room (Nat.le_of_ble_eq_true rfl)) dX3_clearText_4 ⟨Nat.zero_le _, Nat.zero_le _⟩) hS (fun q h => hA57 q (rg_sub h (by omega) (by omega))) (fun H locs hQ9 hS _ hk9 => ?_)
  have hP : va_P (dC, dI) vwCl (W3 o cI cQ U Sh Sn Sf Sp) H := b_p hP hk9 hQ9
  refine lv_istore_n (lv' := [(1, .int (zI (Sp 1 0))), (0, .ref o)]) hx hb dX3_clearText_7 rfl hl (by decide) rfl (fun ls hl => ?_)
  refine lv_aload_n hx hb dX3_clearText_8 rfl (lv_at hl 1 rfl) ?_
  refine gx_X3_3 hx hb hts hin hown hK hP (hts _ (List.mem_of_getElem? (i := 1) rfl)) dX3_clearText_9 ?_
  refine z_callv (va_runV (As := []) (rest := []) ⟨hx, hb, hml, hown, hts⟩ (k_X2_makeEmpty l dC dI cI cQ (rg (o + 51) (o + 57)) (rP o) Sp (D_X2 (o + 51) cI)) (cwV 0 hts gX3_clearText_X2_makeEmpty rfl rfl rfl (by decide +kernel) ⟨Nat.le_of_ble_eq_true rfl, Nat.le_of_ble_eq_true rfl⟩) (z_preV hK (s_p hP) (ci := 2) (q0 := 0) rfl rfl rfl) rfl rfl hl.1 rfl (lv_room (Nat.le_of_ble_eq_true rfl)) dX3_clearText_12 ⟨Nat.zero_le _, Nat.zero_le _⟩) hS (fun q h => hA57 q (rg_sub h (by omega) (by omega))) (fun H locs hQ9 hS _ hk9 => ?_)
  have hP : va_P (dC, dI) vwCl (W3 o cI cQ U Sh Sn Sf (mkC Sp)) H := b_p hP hk9 hQ9
  refine lv_iload_n hx hb dX3_clearText_15 rfl (lv_at hl 0 rfl) ?_
  exact z_iret hx hb hr hlk hP hS dX3_clearText_16 rfl rfl
theorem in_X3_copy : ∀ w ∈ wsX30, w ∈ wsX3_copy := fun w h => List.mem_cons_of_mem _ (List.mem_append_left _ (List.mem_append_right _ h))
set_option maxHeartbeats 4000000 in
set_option maxRecDepth 100000 in
theorem k_X3_copy (l : Launch) (dC : Nat → ClassId) (dI : Nat → Nat → Nat) (cI cQ : ClassId) (A : Nat → Prop) (o : Nat) (U : Nat → Nat → Int → Int) (Sh Sn Sf Sp : Nat → Int → Int) (hA57 : ∀ q, rg o (o + 57) q → A q) (sd tr se wh : Int) (q0 : -2147483648 ≤ sd ∧ sd < 2147483648) (q1 : -2147483648 ≤ tr ∧ tr < 2147483648) (q2 : -2147483648 ≤ se ∧ se < 2147483648) (q3 : -2147483648 ≤ wh ∧ wh < 2147483648) : Met l yX3_copy wsX3_copy ({ frames := 2, cells := 0, slots := 0, locals := 53 }) (zPc (dC, dI) vwCl (zT cI cQ) (W3 o cI cQ U Sh Sn Sf Sp) [.ref o, .int (zI sd), .int (zI tr), .int (zI se), .int (zI wh)]) (zQi (dC, dI) vwCl (W3 o cI cQ U Sh Sn Sf Sp) (cpR Sn sd tr se wh) A) 0 0 A := by
  refine Met.ofW (cc := cX3_copy) (maxL := 5) (ret := (some .int)) (by decide) rfl ?_
  intro p e s m args below meth c s₁ B hml hv
  obtain ⟨rfl, hP, hK⟩ := hv
  have hx := B.exec
  have hb := B.bytes
  have hr := B.returns
  have hts := atoms_spec (ws := wsX3_copy) B.pre
  have hown : s.vm.findClass RX3 = some m.cls := findClass_of_methodNamed B.named
  have hlk := B.notSynchronized
  have hS : va_S A s.heap s.heap [] := va_S.rf
  have hl := lv_entry ([.ref o, .int (zI sd), .int (zI tr), .int (zI se), .int (zI wh)]) (n := 5) (Nat.le_of_ble_eq_true rfl)
  rw [lg_entry_eq]
  generalize (lg_sl ([.ref o, .int (zI sd), .int (zI tr), .int (zI se), .int (zI wh)]) ++ List.replicate (5 - (lg_sl ([.ref o, .int (zI sd), .int (zI tr), .int (zI se), .int (zI wh)])).length) Slot.unset).toArray = ls at hl ⊢
  have hl : lv_has ls 5 [(0, .ref o), (1, .int (zI sd)), (2, .int (zI tr)), (3, .int (zI se)), (4, .int (zI wh))] := hl
  have hin : ∀ w ∈ wsX30, w ∈ wsX3_copy := in_X3_copy
  refine lv_iload_n hx hb dX3_copy_0 rfl (lv_at hl 1 rfl) ?_
  refine z_if_lt (tgt := 28) hx hb dX3_copy_1 (by decide) (by omega) (fun c1 => ?_) (fun c1 => ?_)
  · refine z_iconst hx hb dX3_copy_28 ?_
    exact z_iret hx hb hr hlk hP hS dX3_copy_29 (by unfold cpR; first | (rw [if_neg (by omega)]; done) | (rw [if_pos (by omega)])) rfl
  · refine lv_iload_n hx hb dX3_copy_4 rfl (lv_at hl 1 rfl) ?_
    refine z_iconst hx hb dX3_copy_5 ?_
    refine z_icmp_ge (tgt := 28) hx hb dX3_copy_6 (by decide) (by omega) (by omega) (fun c2 => ?_) (fun c2 => ?_)
    · refine z_iconst hx hb dX3_copy_28 ?_
      exact z_iret hx hb hr hlk hP hS dX3_copy_29 (by unfold cpR; first | (rw [if_neg (by omega)]; done) | (rw [if_pos (by omega)])) rfl
    · refine lv_iload_n hx hb dX3_copy_9 rfl (lv_at hl 2 rfl) ?_
      refine lv_iload_n hx hb dX3_copy_10 rfl (lv_at hl 3 rfl) ?_
      refine z_calli (va_runS (As := [.int (zI tr), .int (zI se)]) (rest := []) ⟨hx, hb, hml, hown, hts⟩ (k_X1_isBlock l dC dI cI cQ A (W3 o cI cQ U Sh Sn Sf Sp) tr se (by omega) (by omega)) (va_cwS 2 hts gX3_copy_X1_isBlock rfl rfl rfl (by decide +kernel) ⟨Nat.le_of_ble_eq_true rfl, Nat.le_of_ble_eq_true rfl⟩) (z_preS hK hP) rfl rfl hl.1 rfl (lv_room (Nat.le_of_ble_eq_true rfl)) dX3_copy_11 ⟨Nat.zero_le _, Nat.zero_le _⟩) hS (fun _ h => h) (fun H locs hP hS _ _ => ?_)
      refine z_ifb_eq (tgt := 28) hx hb dX3_copy_14 (by decide) (fun c3 => ?_) (fun c3 => ?_)
      · refine z_iconst hx hb dX3_copy_28 ?_
        exact z_iret hx hb hr hlk hP hS dX3_copy_29 (by unfold cpR; first | (rw [if_neg (by omega)]; done) | (rw [if_pos (by omega)])) rfl
      · refine lv_iload hx hb dX3_copy_17 (lv_at hl 4 rfl) ?_
        refine z_if_lt (tgt := 28) hx hb dX3_copy_19 (by decide) (by omega) (fun c4 => ?_) (fun c4 => ?_)
        · refine z_iconst hx hb dX3_copy_28 ?_
          exact z_iret hx hb hr hlk hP hS dX3_copy_29 (by unfold cpR; first | (rw [if_neg (by omega)]; done) | (rw [if_pos (by omega)])) rfl
        · refine lv_iload hx hb dX3_copy_22 (lv_at hl 4 rfl) ?_
          refine z_iconst hx hb dX3_copy_24 ?_
          refine z_icmp_lt (tgt := 30) hx hb dX3_copy_25 (by decide) (by omega) (by omega) (fun c5 => ?_) (fun c5 => ?_)
          · refine lv_aload_n hx hb dX3_copy_30 rfl (lv_at hl 0 rfl) ?_
            refine gx_X3_0 hx hb hts hin hown hK hP (hts _ (List.mem_of_getElem? (i := 1) rfl)) dX3_copy_31 ?_
            refine lv_iload_n hx hb dX3_copy_34 rfl (lv_at hl 1 rfl) ?_
            refine lv_iload_n hx hb dX3_copy_35 rfl (lv_at hl 2 rfl) ?_
            refine lv_iload_n hx hb dX3_copy_36 rfl (lv_at hl 3 rfl) ?_
            refine lv_iload hx hb dX3_copy_37 (lv_at hl 4 rfl) ?_
            refine z_calli (va_runV (As := [.int (zI sd), .int (zI tr), .int (zI se), .int (zI wh)]) (rest := []) ⟨hx, hb, hml, hown, hts⟩ (k_X1_ofCopy l dC dI cI cQ (rg (o + 1) (o + 7)) (rN o) Sn (D_X1 (o + 1) cI) sd tr se wh (by omega)) (cwV 4 hts gX3_copy_X1_ofCopy rfl rfl rfl (by decide +kernel) ⟨Nat.le_of_ble_eq_true rfl, Nat.le_of_ble_eq_true rfl⟩) (z_preV hK (s_n hP) (ci := 1) (q0 := 0) rfl rfl rfl) rfl rfl hl.1 rfl (lv_room (Nat.le_of_ble_eq_true rfl)) dX3_copy_39 ⟨Nat.zero_le _, Nat.zero_le _⟩) hS (fun q h => hA57 q (rg_sub h (by omega) (by omega))) (fun H locs hQ9 hS _ hk9 => ?_)
            have hP : va_P (dC, dI) vwCl (W3 o cI cQ U Sh Sn Sf Sp) H := b_n hP hk9 hQ9
            exact z_iret hx hb hr hlk hP hS dX3_copy_42 (by unfold cpR; first | (rw [if_neg (by omega)]; done) | (rw [if_pos (by omega)])) rfl
          · refine z_iconst hx hb dX3_copy_28 ?_
            exact z_iret hx hb hr hlk hP hS dX3_copy_29 (by unfold cpR; first | (rw [if_neg (by omega)]; done) | (rw [if_pos (by omega)])) rfl
theorem in_X3_order : ∀ w ∈ wsX30, w ∈ wsX3_order := fun w h => List.mem_cons_of_mem _ (List.mem_append_left _ (List.mem_append_right _ h))
set_option maxHeartbeats 4000000 in
set_option maxRecDepth 100000 in
theorem k_X3_order (l : Launch) (dC : Nat → ClassId) (dI : Nat → Nat → Nat) (cI cQ : ClassId) (A : Nat → Prop) (o : Nat) (U : Nat → Nat → Int → Int) (Sh Sn Sf Sp : Nat → Int → Int) (hA57 : ∀ q, rg o (o + 57) q → A q) (od wh : Int) (q0 : -2147483648 ≤ od ∧ od < 2147483648) (q1 : -2147483648 ≤ wh ∧ wh < 2147483648) (hB : zB Sn) (ht : 0 ≤ Sn 7 0 ∧ Sn 7 0 ≤ 60) : Met l yX3_order wsX3_order ({ frames := 1, cells := 0, slots := 0, locals := 30 }) (zPc (dC, dI) vwCl (zT cI cQ) (W3 o cI cQ U Sh Sn Sf Sp) [.ref o, .int (zI od), .int (zI wh)]) (zQi (dC, dI) vwCl (W3 o cI cQ U Sh Sn Sf Sp) (odR Sn od wh) A) 0 0 A := by
  refine Met.ofW (cc := cX3_order) (maxL := 3) (ret := (some .int)) (by decide) rfl ?_
  intro p e s m args below meth c s₁ B hml hv
  obtain ⟨rfl, hP, hK⟩ := hv
  have hx := B.exec
  have hb := B.bytes
  have hr := B.returns
  have hts := atoms_spec (ws := wsX3_order) B.pre
  have hown : s.vm.findClass RX3 = some m.cls := findClass_of_methodNamed B.named
  have hlk := B.notSynchronized
  have hS : va_S A s.heap s.heap [] := va_S.rf
  have hl := lv_entry ([.ref o, .int (zI od), .int (zI wh)]) (n := 3) (Nat.le_of_ble_eq_true rfl)
  rw [lg_entry_eq]
  generalize (lg_sl ([.ref o, .int (zI od), .int (zI wh)]) ++ List.replicate (3 - (lg_sl ([.ref o, .int (zI od), .int (zI wh)])).length) Slot.unset).toArray = ls at hl ⊢
  have hl : lv_has ls 3 [(0, .ref o), (1, .int (zI od)), (2, .int (zI wh))] := hl
  have hin : ∀ w ∈ wsX30, w ∈ wsX3_order := in_X3_order
  refine lv_aload_n hx hb dX3_order_0 rfl (lv_at hl 0 rfl) ?_
  refine gx_X3_0 hx hb hts hin hown hK hP (hts _ (List.mem_of_getElem? (i := 1) rfl)) dX3_order_1 ?_
  refine lv_iload_n hx hb dX3_order_4 rfl (lv_at hl 1 rfl) ?_
  refine z_calli (va_runV (As := [.int (zI od)]) (rest := []) ⟨hx, hb, hml, hown, hts⟩ (k_X1_hasOrder l dC dI cI cQ (rg (o + 1) (o + 7)) (rN o) Sn (D_X1 (o + 1) cI) od (by omega) (by exact hB)) (cwV 1 hts gX3_order_X1_hasOrder rfl rfl rfl (by decide +kernel) ⟨Nat.le_of_ble_eq_true rfl, Nat.le_of_ble_eq_true rfl⟩) (z_preV hK (s_n hP) (ci := 1) (q0 := 0) rfl rfl rfl) rfl rfl hl.1 rfl (lv_room (Nat.le_of_ble_eq_true rfl)) dX3_order_5 ⟨Nat.zero_le _, Nat.zero_le _⟩) hS (fun q h => hA57 q (rg_sub h (by omega) (by omega))) (fun H locs hQ9 hS _ hk9 => ?_)
  have hP : va_P (dC, dI) vwCl (W3 o cI cQ U Sh Sn Sf Sp) H := b_n hP hk9 hQ9
  refine z_ifb_eq (tgt := 21) hx hb dX3_order_8 (by decide) (fun c1 => ?_) (fun c1 => ?_)
  · refine z_iconst hx hb dX3_order_21 ?_
    exact z_iret hx hb hr hlk hP hS dX3_order_22 (by unfold odR; first | (rw [if_neg (by omega)]; done) | (rw [if_pos (by omega)])) rfl
  · refine lv_iload_n hx hb dX3_order_11 rfl (lv_at hl 2 rfl) ?_
    refine z_if_lt (tgt := 21) hx hb dX3_order_12 (by decide) (by omega) (fun c2 => ?_) (fun c2 => ?_)
    · refine z_iconst hx hb dX3_order_21 ?_
      exact z_iret hx hb hr hlk hP hS dX3_order_22 (by unfold odR; first | (rw [if_neg (by omega)]; done) | (rw [if_pos (by omega)])) rfl
    · refine lv_iload_n hx hb dX3_order_15 rfl (lv_at hl 2 rfl) ?_
      refine z_bipush (z := 8) hx hb dX3_order_16 (by decide +kernel) ?_
      refine z_icmp_lt (tgt := 23) hx hb dX3_order_18 (by decide) (by omega) (by omega) (fun c3 => ?_) (fun c3 => ?_)
      · refine lv_aload_n hx hb dX3_order_23 rfl (lv_at hl 0 rfl) ?_
        refine gx_X3_0 hx hb hts hin hown hK hP (hts _ (List.mem_of_getElem? (i := 1) rfl)) dX3_order_24 ?_
        refine lv_iload_n hx hb dX3_order_27 rfl (lv_at hl 1 rfl) ?_
        refine lv_iload_n hx hb dX3_order_28 rfl (lv_at hl 2 rfl) ?_
        refine z_calli (va_runV (As := [.int (zI od), .int (zI wh)]) (rest := []) ⟨hx, hb, hml, hown, hts⟩ (k_X1_ofOrder l dC dI cI cQ (rg (o + 1) (o + 7)) (rN o) Sn (D_X1 (o + 1) cI) od wh (by omega)) (cwV 2 hts gX3_order_X1_ofOrder rfl rfl rfl (by decide +kernel) ⟨Nat.le_of_ble_eq_true rfl, Nat.le_of_ble_eq_true rfl⟩) (z_preV hK (s_n hP) (ci := 1) (q0 := 0) rfl rfl rfl) rfl rfl hl.1 rfl (lv_room (Nat.le_of_ble_eq_true rfl)) dX3_order_29 ⟨Nat.zero_le _, Nat.zero_le _⟩) hS (fun q h => hA57 q (rg_sub h (by omega) (by omega))) (fun H locs hQ9 hS _ hk9 => ?_)
        have hP : va_P (dC, dI) vwCl (W3 o cI cQ U Sh Sn Sf Sp) H := b_n hP hk9 hQ9
        exact z_iret hx hb hr hlk hP hS dX3_order_32 (by unfold odR; first | (rw [if_neg (by omega)]; done) | (rw [if_pos (by omega)])) rfl
      · refine z_iconst hx hb dX3_order_21 ?_
        exact z_iret hx hb hr hlk hP hS dX3_order_22 (by unfold odR; first | (rw [if_neg (by omega)]; done) | (rw [if_pos (by omega)])) rfl
theorem in_X3_waits : ∀ w ∈ wsX30, w ∈ wsX3_waits := fun w h => List.mem_cons_of_mem _ (List.mem_append_left _ (List.mem_append_right _ h))
set_option maxHeartbeats 4000000 in
set_option maxRecDepth 100000 in
theorem k_X3_waits (l : Launch) (dC : Nat → ClassId) (dI : Nat → Nat → Nat) (cI cQ : ClassId) (A : Nat → Prop) (o : Nat) (U : Nat → Nat → Int → Int) (Sh Sn Sf Sp : Nat → Int → Int) (hA57 : ∀ q, rg o (o + 57) q → A q) (wh : Int) (q0 : -2147483648 ≤ wh ∧ wh < 2147483648) (hB : zB Sn) (ht : 0 ≤ Sn 7 0 ∧ Sn 7 0 ≤ 60) (hlz : longZ Sn (Sn 7 0) = -9 ∨ (0 ≤ longZ Sn (Sn 7 0) ∧ longZ Sn (Sn 7 0) < 60)) : Met l yX3_waits wsX3_waits ({ frames := 3, cells := 0, slots := 0, locals := 73 }) (zPc (dC, dI) vwCl (zT cI cQ) (W3 o cI cQ U Sh Sn Sf Sp) [.ref o, .int (zI wh)]) (zQi (dC, dI) vwCl (W3 o cI cQ U Sh Sn Sf Sp) (waR Sn wh) A) 0 0 A := by
  refine Met.ofW (cc := cX3_waits) (maxL := 3) (ret := (some .int)) (by decide) rfl ?_
  intro p e s m args below meth c s₁ B hml hv
  obtain ⟨rfl, hP, hK⟩ := hv
  have hx := B.exec
  have hb := B.bytes
  have hr := B.returns
  have hts := atoms_spec (ws := wsX3_waits) B.pre
  have hown : s.vm.findClass RX3 = some m.cls := findClass_of_methodNamed B.named
  have hlk := B.notSynchronized
  have hS : va_S A s.heap s.heap [] := va_S.rf
  have hl := lv_entry ([.ref o, .int (zI wh)]) (n := 3) (Nat.le_of_ble_eq_true rfl)
  rw [lg_entry_eq]
  generalize (lg_sl ([.ref o, .int (zI wh)]) ++ List.replicate (3 - (lg_sl ([.ref o, .int (zI wh)])).length) Slot.unset).toArray = ls at hl ⊢
  have hl : lv_has ls 3 [(0, .ref o), (1, .int (zI wh))] := hl
  have hin : ∀ w ∈ wsX30, w ∈ wsX3_waits := in_X3_waits
  refine lv_iload_n hx hb dX3_waits_0 rfl (lv_at hl 1 rfl) ?_
  refine z_if_lt (tgt := 9) hx hb dX3_waits_1 (by decide) (by omega) (fun c1 => ?_) (fun c1 => ?_)
  · refine z_iconst hx hb dX3_waits_9 ?_
    exact z_iret hx hb hr hlk hP hS dX3_waits_10 (by unfold waR; first | (rw [if_neg (by omega)]; done) | (rw [if_pos (by omega), if_pos (by omega)]; done) | (rw [if_pos (by omega), if_neg (by omega), if_pos (by omega)]; omega) | (rw [if_pos (by omega), if_neg (by omega), if_neg (by omega), e_lg])) rfl
  · refine lv_iload_n hx hb dX3_waits_4 rfl (lv_at hl 1 rfl) ?_
    refine z_iconst hx hb dX3_waits_5 ?_
    refine z_icmp_le (tgt := 11) hx hb dX3_waits_6 (by decide) (by omega) (by omega) (fun c2 => ?_) (fun c2 => ?_)
    · refine lv_iload_n hx hb dX3_waits_11 rfl (lv_at hl 1 rfl) ?_
      refine z_if_ne (tgt := 23) hx hb dX3_waits_12 (by decide) (by omega) (fun c3 => ?_) (fun c3 => ?_)
      · refine lv_aload_n hx hb dX3_waits_23 rfl (lv_at hl 0 rfl) ?_
        refine gx_X3_0 hx hb hts hin hown hK hP (hts _ (List.mem_of_getElem? (i := 1) rfl)) dX3_waits_24 ?_
        refine z_calli (va_runV (As := []) (rest := []) ⟨hx, hb, hml, hown, hts⟩ (k_X1_longestWaiter l dC dI cI cQ (rg (o + 1) (o + 7)) (rN o) Sn (D_X1 (o + 1) cI) (by exact hB) (by omega)) (cwV 0 hts gX3_waits_X1_longestWaiter rfl rfl rfl (by decide +kernel) ⟨Nat.le_of_ble_eq_true rfl, Nat.le_of_ble_eq_true rfl⟩) (z_preV hK (s_n hP) (ci := 1) (q0 := 0) rfl rfl rfl) rfl rfl hl.1 rfl (lv_room (Nat.le_of_ble_eq_true rfl)) dX3_waits_27 ⟨Nat.zero_le _, Nat.zero_le _⟩) hS (fun q h => hA57 q (rg_sub h (by omega) (by omega))) (fun H locs hQ9 hS _ hk9 => ?_)
        have hP : va_P (dC, dI) vwCl (W3 o cI cQ U Sh Sn Sf Sp) H := b_n hP hk9 hQ9
        refine z_name (fun lg e_lg => ?_)
        refine lv_istore_n (lv' := [(2, .int (zI lg)), (0, .ref o), (1, .int (zI wh))]) hx hb dX3_waits_30 rfl hl (by decide) rfl (fun ls hl => ?_)
        refine lv_iload_n hx hb dX3_waits_31 rfl (lv_at hl 2 rfl) ?_
        refine z_iconst hx hb dX3_waits_32 ?_
        refine z_icmp_eq (tgt := 42) hx hb dX3_waits_33 (by decide) (by omega) (by omega) (fun c4 => ?_) (fun c4 => ?_)
        · refine lv_iload_n hx hb dX3_waits_42 rfl (lv_at hl 0 rfl) ?_
          exact z_iret hx hb hr hlk hP hS dX3_waits_43 (by unfold waR; first | (rw [if_neg (by omega)]; done) | (rw [if_pos (by omega), if_pos (by omega)]; done) | (rw [if_pos (by omega), if_neg (by omega), if_pos (by omega)]; omega) | (rw [if_pos (by omega), if_neg (by omega), if_neg (by omega), e_lg])) rfl
        · refine lv_iload_n hx hb dX3_waits_36 rfl (lv_at hl 0 rfl) ?_
          refine z_bipush (z := (-9)) hx hb dX3_waits_37 (by decide +kernel) ?_
          refine z_icmp_ne (tgt := 44) hx hb dX3_waits_39 (by decide) (by omega) (by omega) (fun c5 => ?_) (fun c5 => ?_)
          · refine lv_aload_n hx hb dX3_waits_44 rfl (lv_at hl 1 rfl) ?_
            refine gx_X3_0 hx hb hts hin hown hK hP (hts _ (List.mem_of_getElem? (i := 1) rfl)) dX3_waits_45 ?_
            refine lv_iload_n hx hb dX3_waits_48 rfl (lv_at hl 0 rfl) ?_
            refine z_calli (va_runV (As := [.int (zI lg)]) (rest := []) ⟨hx, hb, hml, hown, hts⟩ (k_X1_waitOf l dC dI cI cQ (rg (o + 1) (o + 7)) (rN o) Sn (D_X1 (o + 1) cI) lg (by omega)) (cwV 1 hts gX3_waits_X1_waitOf rfl rfl rfl (by decide +kernel) ⟨Nat.le_of_ble_eq_true rfl, Nat.le_of_ble_eq_true rfl⟩) (z_preV hK (s_n hP) (ci := 1) (q0 := 0) rfl rfl rfl) rfl rfl hl.1 rfl (lv_room (Nat.le_of_ble_eq_true rfl)) dX3_waits_49 ⟨Nat.zero_le _, Nat.zero_le _⟩) hS (fun q h => hA57 q (rg_sub h (by omega) (by omega))) (fun H locs hQ9 hS _ hk9 => ?_)
            have hP : va_P (dC, dI) vwCl (W3 o cI cQ U Sh Sn Sf Sp) H := b_n hP hk9 hQ9
            exact z_iret hx hb hr hlk hP hS dX3_waits_52 (by unfold waR; first | (rw [if_neg (by omega)]; done) | (rw [if_pos (by omega), if_pos (by omega)]; done) | (rw [if_pos (by omega), if_neg (by omega), if_pos (by omega)]; omega) | (rw [if_pos (by omega), if_neg (by omega), if_neg (by omega), e_lg])) rfl
          · refine lv_iload_n hx hb dX3_waits_42 rfl (lv_at hl 0 rfl) ?_
            exact z_iret hx hb hr hlk hP hS dX3_waits_43 (by unfold waR; first | (rw [if_neg (by omega)]; done) | (rw [if_pos (by omega), if_pos (by omega)]; done) | (rw [if_pos (by omega), if_neg (by omega), if_pos (by omega)]; omega) | (rw [if_pos (by omega), if_neg (by omega), if_neg (by omega), e_lg])) rfl
      · refine lv_aload_n hx hb dX3_waits_15 rfl (lv_at hl 0 rfl) ?_
        refine gx_X3_0 hx hb hts hin hown hK hP (hts _ (List.mem_of_getElem? (i := 1) rfl)) dX3_waits_16 ?_
        refine z_calli (va_runV (As := []) (rest := []) ⟨hx, hb, hml, hown, hts⟩ (k_X1_sumOfWaits l dC dI cI cQ (rg (o + 1) (o + 7)) (rN o) Sn (D_X1 (o + 1) cI) (by exact hB) (by omega)) (cwV 0 hts gX3_waits_X1_sumOfWaits rfl rfl rfl (by decide +kernel) ⟨Nat.le_of_ble_eq_true rfl, Nat.le_of_ble_eq_true rfl⟩) (z_preV hK (s_n hP) (ci := 1) (q0 := 0) rfl rfl rfl) rfl rfl hl.1 rfl (lv_room (Nat.le_of_ble_eq_true rfl)) dX3_waits_19 ⟨Nat.zero_le _, Nat.zero_le _⟩) hS (fun q h => hA57 q (rg_sub h (by omega) (by omega))) (fun H locs hQ9 hS _ hk9 => ?_)
        have hP : va_P (dC, dI) vwCl (W3 o cI cQ U Sh Sn Sf Sp) H := b_n hP hk9 hQ9
        exact z_iret hx hb hr hlk hP hS dX3_waits_22 (by unfold waR; first | (rw [if_neg (by omega)]; done) | (rw [if_pos (by omega), if_pos (by omega)]; done) | (rw [if_pos (by omega), if_neg (by omega), if_pos (by omega)]; omega) | (rw [if_pos (by omega), if_neg (by omega), if_neg (by omega), e_lg])) rfl
    · refine z_iconst hx hb dX3_waits_9 ?_
      exact z_iret hx hb hr hlk hP hS dX3_waits_10 (by unfold waR; first | (rw [if_neg (by omega)]; done) | (rw [if_pos (by omega), if_pos (by omega)]; done) | (rw [if_pos (by omega), if_neg (by omega), if_pos (by omega)]; omega) | (rw [if_pos (by omega), if_neg (by omega), if_neg (by omega), e_lg])) rfl
theorem in_X3_nearer : ∀ w ∈ wsX30, w ∈ wsX3_nearer := fun w h => List.mem_cons_of_mem _ (List.mem_append_left _ (List.mem_append_right _ h))
set_option maxHeartbeats 4000000 in
set_option maxRecDepth 100000 in
theorem k_X3_nearer (l : Launch) (dC : Nat → ClassId) (dI : Nat → Nat → Nat) (cI cQ : ClassId) (A : Nat → Prop) (o : Nat) (U : Nat → Nat → Int → Int) (Sh Sn Sf Sp : Nat → Int → Int) (hA57 : ∀ q, rg o (o + 57) q → A q) (se wh : Int) (q0 : -2147483648 ≤ se ∧ se < 2147483648) (q1 : -2147483648 ≤ wh ∧ wh < 2147483648) (ht : 0 ≤ Sn 5 0 ∧ Sn 5 0 ≤ 1000000) : Met l yX3_nearer wsX3_nearer ({ frames := 3, cells := 0, slots := 0, locals := 73 }) (zPc (dC, dI) vwCl (zT cI cQ) (W3 o cI cQ U Sh Sn Sf Sp) [.ref o, .int (zI se), .int (zI wh)]) (zQi (dC, dI) vwCl (W3 o cI cQ U Sh Sn Sf Sp) (neR Sn se wh) A) 0 0 A := by
  refine Met.ofW (cc := cX3_nearer) (maxL := 5) (ret := (some .int)) (by decide) rfl ?_
  intro p e s m args below meth c s₁ B hml hv
  obtain ⟨rfl, hP, hK⟩ := hv
  have hx := B.exec
  have hb := B.bytes
  have hr := B.returns
  have hts := atoms_spec (ws := wsX3_nearer) B.pre
  have hown : s.vm.findClass RX3 = some m.cls := findClass_of_methodNamed B.named
  have hlk := B.notSynchronized
  have hS : va_S A s.heap s.heap [] := va_S.rf
  have hl := lv_entry ([.ref o, .int (zI se), .int (zI wh)]) (n := 5) (Nat.le_of_ble_eq_true rfl)
  rw [lg_entry_eq]
  generalize (lg_sl ([.ref o, .int (zI se), .int (zI wh)]) ++ List.replicate (5 - (lg_sl ([.ref o, .int (zI se), .int (zI wh)])).length) Slot.unset).toArray = ls at hl ⊢
  have hl : lv_has ls 5 [(0, .ref o), (1, .int (zI se)), (2, .int (zI wh))] := hl
  have hin : ∀ w ∈ wsX30, w ∈ wsX3_nearer := in_X3_nearer
  refine lv_iload_n hx hb dX3_nearer_0 rfl (lv_at hl 1 rfl) ?_
  refine z_if_lt (tgt := 19) hx hb dX3_nearer_1 (by decide) (by omega) (fun c1 => ?_) (fun c1 => ?_)
  · refine z_iconst hx hb dX3_nearer_19 ?_
    exact z_iret hx hb hr hlk hP hS dX3_nearer_20 (by unfold neR; first | (rw [if_neg (by omega)]; done) | (rw [if_pos (by omega)]; (repeat' split) <;> omega)) rfl
  · refine lv_iload_n hx hb dX3_nearer_4 rfl (lv_at hl 1 rfl) ?_
    refine z_bipush (z := 12) hx hb dX3_nearer_5 (by decide +kernel) ?_
    refine z_icmp_ge (tgt := 19) hx hb dX3_nearer_7 (by decide) (by omega) (by omega) (fun c2 => ?_) (fun c2 => ?_)
    · refine z_iconst hx hb dX3_nearer_19 ?_
      exact z_iret hx hb hr hlk hP hS dX3_nearer_20 (by unfold neR; first | (rw [if_neg (by omega)]; done) | (rw [if_pos (by omega)]; (repeat' split) <;> omega)) rfl
    · refine lv_iload_n hx hb dX3_nearer_10 rfl (lv_at hl 2 rfl) ?_
      refine z_if_lt (tgt := 19) hx hb dX3_nearer_11 (by decide) (by omega) (fun c3 => ?_) (fun c3 => ?_)
      · refine z_iconst hx hb dX3_nearer_19 ?_
        exact z_iret hx hb hr hlk hP hS dX3_nearer_20 (by unfold neR; first | (rw [if_neg (by omega)]; done) | (rw [if_pos (by omega)]; (repeat' split) <;> omega)) rfl
      · refine lv_iload_n hx hb dX3_nearer_14 rfl (lv_at hl 2 rfl) ?_
        refine z_iconst hx hb dX3_nearer_15 ?_
        refine z_icmp_le (tgt := 21) hx hb dX3_nearer_16 (by decide) (by omega) (by omega) (fun c4 => ?_) (fun c4 => ?_)
        · refine lv_aload_n hx hb dX3_nearer_21 rfl (lv_at hl 0 rfl) ?_
          refine gx_X3_0 hx hb hts hin hown hK hP (hts _ (List.mem_of_getElem? (i := 1) rfl)) dX3_nearer_22 ?_
          refine z_iconst hx hb dX3_nearer_25 ?_
          refine lv_iload_n hx hb dX3_nearer_26 rfl (lv_at hl 1 rfl) ?_
          refine z_calli (va_runV (As := [.int (zI 0), .int (zI se)]) (rest := []) ⟨hx, hb, hml, hown, hts⟩ (k_X1_ticksUntilOver l dC dI cI cQ (rg (o + 1) (o + 7)) (rN o) Sn (D_X1 (o + 1) cI) 0 se (by omega) (by omega)) (cwV 2 hts gX3_nearer_X1_ticksUntilOver rfl rfl rfl (by decide +kernel) ⟨Nat.le_of_ble_eq_true rfl, Nat.le_of_ble_eq_true rfl⟩) (z_preV hK (s_n hP) (ci := 1) (q0 := 0) rfl rfl rfl) rfl rfl hl.1 rfl (lv_room (Nat.le_of_ble_eq_true rfl)) dX3_nearer_27 ⟨Nat.zero_le _, Nat.zero_le _⟩) hS (fun q h => hA57 q (rg_sub h (by omega) (by omega))) (fun H locs hQ9 hS _ hk9 => ?_)
          have hP : va_P (dC, dI) vwCl (W3 o cI cQ U Sh Sn Sf Sp) H := b_n hP hk9 hQ9
          refine lv_istore_n (lv' := [(3, .int (zI ((se - (Sn 5 0 + 6 * 0) % 12) % 12))), (0, .ref o), (1, .int (zI se)), (2, .int (zI wh))]) hx hb dX3_nearer_30 rfl hl (by decide) rfl (fun ls hl => ?_)
          refine lv_aload_n hx hb dX3_nearer_31 rfl (lv_at hl 1 rfl) ?_
          refine gx_X3_0 hx hb hts hin hown hK hP (hts _ (List.mem_of_getElem? (i := 1) rfl)) dX3_nearer_32 ?_
          refine z_iconst hx hb dX3_nearer_35 ?_
          refine lv_iload_n hx hb dX3_nearer_36 rfl (lv_at hl 2 rfl) ?_
          refine z_calli (va_runV (As := [.int (zI 1), .int (zI se)]) (rest := []) ⟨hx, hb, hml, hown, hts⟩ (k_X1_ticksUntilOver l dC dI cI cQ (rg (o + 1) (o + 7)) (rN o) Sn (D_X1 (o + 1) cI) 1 se (by omega) (by omega)) (cwV 2 hts gX3_nearer_X1_ticksUntilOver rfl rfl rfl (by decide +kernel) ⟨Nat.le_of_ble_eq_true rfl, Nat.le_of_ble_eq_true rfl⟩) (z_preV hK (s_n hP) (ci := 1) (q0 := 0) rfl rfl rfl) rfl rfl hl.1 rfl (lv_room (Nat.le_of_ble_eq_true rfl)) dX3_nearer_37 ⟨Nat.zero_le _, Nat.zero_le _⟩) hS (fun q h => hA57 q (rg_sub h (by omega) (by omega))) (fun H locs hQ9 hS _ hk9 => ?_)
          have hP : va_P (dC, dI) vwCl (W3 o cI cQ U Sh Sn Sf Sp) H := b_n hP hk9 hQ9
          refine lv_istore (lv' := [(4, .int (zI ((se - (Sn 5 0 + 6 * 1) % 12) % 12))), (3, .int (zI ((se - (Sn 5 0 + 6 * 0) % 12) % 12))), (0, .ref o), (1, .int (zI se)), (2, .int (zI wh))]) hx hb dX3_nearer_40 hl (by decide) rfl (fun ls hl => ?_)
          refine lv_iload_n hx hb dX3_nearer_42 rfl (lv_at hl 4 rfl) ?_
          refine z_if_ne (tgt := 58) hx hb dX3_nearer_43 (by decide) (by omega) (fun c5 => ?_) (fun c5 => ?_)
          · refine lv_iload_n hx hb dX3_nearer_58 rfl (lv_at hl 1 rfl) ?_
            refine lv_iload hx hb dX3_nearer_59 (lv_at hl 0 rfl) ?_
            refine z_mmin hx hb (hml.trans hl.1.symm) hown (hts _ (List.mem_of_getElem? (i := 2) rfl)) (hts _ (List.mem_of_getElem? (i := 3) rfl)) (hts _ (List.mem_of_getElem? (i := 4) rfl)) (hts _ (List.mem_of_getElem? (i := 5) rfl)) (Nat.le_of_ble_eq_true rfl) (Nat.le_of_ble_eq_true rfl) (Nat.zero_le _) (Nat.zero_le _) (by omega) (by omega) dX3_nearer_61 ?_
            exact z_iret hx hb hr hlk hP hS dX3_nearer_64 (by unfold neR; first | (rw [if_neg (by omega)]; done) | (rw [if_pos (by omega)]; (repeat' split) <;> omega)) rfl
          · refine lv_iload_n hx hb dX3_nearer_46 rfl (lv_at hl 1 rfl) ?_
            refine lv_iload hx hb dX3_nearer_47 (lv_at hl 0 rfl) ?_
            refine z_icmp_ge (tgt := 56) hx hb dX3_nearer_49 (by decide) (by omega) (by omega) (fun c6 => ?_) (fun c6 => ?_)
            · refine z_iconst hx hb dX3_nearer_56 ?_
              exact z_iret hx hb hr hlk hP hS dX3_nearer_57 (by unfold neR; first | (rw [if_neg (by omega)]; done) | (rw [if_pos (by omega)]; (repeat' split) <;> omega)) rfl
            · refine z_iconst hx hb dX3_nearer_52 ?_
              refine lv_goto (tgt := 57) hx hb dX3_nearer_53 (by decide) ?_
              exact z_iret hx hb hr hlk hP hS dX3_nearer_57 (by unfold neR; first | (rw [if_neg (by omega)]; done) | (rw [if_pos (by omega)]; (repeat' split) <;> omega)) rfl
        · refine z_iconst hx hb dX3_nearer_19 ?_
          exact z_iret hx hb hr hlk hP hS dX3_nearer_20 (by unfold neR; first | (rw [if_neg (by omega)]; done) | (rw [if_pos (by omega)]; (repeat' split) <;> omega)) rfl
theorem in_X3_undo : ∀ w ∈ wsX30, w ∈ wsX3_undo := fun w h => List.mem_cons_of_mem _ (List.mem_append_left _ (List.mem_append_left _ (List.mem_append_right _ h)))
set_option maxHeartbeats 4000000 in
set_option maxRecDepth 100000 in
theorem k_X3_undo (l : Launch) (dC : Nat → ClassId) (dI : Nat → Nat → Nat) (cI cQ : ClassId) (A : Nat → Prop) (o : Nat) (U : Nat → Nat → Int → Int) (Sh Sn Sf Sp : Nat → Int → Int) (hA57 : ∀ q, rg o (o + 57) q → A q) (h1 : 0 ≤ Sh 1 0 ∧ Sh 1 0 < 6) (h2 : 0 ≤ Sh 2 0 ∧ Sh 2 0 ≤ 5) : Met l yX3_undo wsX3_undo ({ frames := 3, cells := 0, slots := 0, locals := 129 }) (zPc (dC, dI) vwCl (zT cI cQ) (W3 o cI cQ U Sh Sn Sf Sp) [.ref o]) (zQi (dC, dI) vwCl (W3 o cI cQ U (dropH Sh) (unN U Sh Sn) Sf Sp) (unR Sh) A) 0 0 A := by
  refine Met.ofW (cc := cX3_undo) (maxL := 1) (ret := (some .int)) (by decide) rfl ?_
  intro p e s m args below meth c s₁ B hml hv
  obtain ⟨rfl, hP, hK⟩ := hv
  have hx := B.exec
  have hb := B.bytes
  have hr := B.returns
  have hts := atoms_spec (ws := wsX3_undo) B.pre
  have hown : s.vm.findClass RX3 = some m.cls := findClass_of_methodNamed B.named
  have hlk := B.notSynchronized
  have hS : va_S A s.heap s.heap [] := va_S.rf
  have hl := lv_entry ([.ref o]) (n := 1) (Nat.le_of_ble_eq_true rfl)
  rw [lg_entry_eq]
  generalize (lg_sl ([.ref o]) ++ List.replicate (1 - (lg_sl ([.ref o])).length) Slot.unset).toArray = ls at hl ⊢
  have hl : lv_has ls 1 [(0, .ref o)] := hl
  have hin : ∀ w ∈ wsX30, w ∈ wsX3_undo := in_X3_undo
  refine lv_aload_n hx hb dX3_undo_0 rfl (lv_at hl 0 rfl) ?_
  refine gx_X3_2 hx hb hts hin hown hK hP (hts _ (List.mem_of_getElem? (i := 1) rfl)) dX3_undo_1 ?_
  refine z_calli (va_runV (As := []) (rest := []) ⟨hx, hb, hml, hown, hts⟩ (k_X0_size l dC dI cI cQ (rg (o + 13) (o + 15)) (rH o) (rS o) [] Sh (D_X0 (o + 13) (rS o) cQ)) (cwV 0 hts gX3_undo_X0_size rfl rfl rfl (by decide +kernel) ⟨Nat.le_of_ble_eq_true rfl, Nat.le_of_ble_eq_true rfl⟩) (z_preV hK (s_h hP) (ci := 0) (q0 := 0) rfl rfl rfl) rfl rfl hl.1 rfl (lv_room (Nat.le_of_ble_eq_true rfl)) dX3_undo_4 ⟨Nat.zero_le _, Nat.zero_le _⟩) hS (fun q h => hA57 q (rg_sub h (by omega) (by omega))) (fun H locs hQ9 hS _ hk9 => ?_)
  have hP : va_P (dC, dI) vwCl (W3 o cI cQ U Sh Sn Sf Sp) H := b_h hP hk9 hQ9
  refine z_if_ne (tgt := 13) hx hb dX3_undo_7 (by decide) (by omega) (fun c1 => ?_) (fun c1 => ?_)
  · refine lv_aload_n hx hb dX3_undo_13 rfl (lv_at hl 0 rfl) ?_
    refine gx_X3_2 hx hb hts hin hown hK hP (hts _ (List.mem_of_getElem? (i := 1) rfl)) dX3_undo_14 ?_
    refine z_callv (va_runV (As := []) (rest := []) ⟨hx, hb, hml, hown, hts⟩ (k_X0_dropLatest l dC dI cI cQ (rg (o + 13) (o + 15)) (rH o) (rS o) [] Sh (D_X0 (o + 13) (rS o) cQ) (by omega) (by omega)) (cwV 0 hts gX3_undo_X0_dropLatest rfl rfl rfl (by decide +kernel) ⟨Nat.le_of_ble_eq_true rfl, Nat.le_of_ble_eq_true rfl⟩) (z_preV hK (s_h hP) (ci := 0) (q0 := 0) rfl rfl rfl) rfl rfl hl.1 rfl (lv_room (Nat.le_of_ble_eq_true rfl)) dX3_undo_17 ⟨Nat.zero_le _, Nat.zero_le _⟩) hS (fun q h => hA57 q (rg_sub h (by omega) (by omega))) (fun H locs hQ9 hS _ hk9 => ?_)
    have hP : va_P (dC, dI) vwCl (W3 o cI cQ U (dropH Sh) Sn Sf Sp) H := b_h hP hk9 hQ9
    refine lv_aload_n hx hb dX3_undo_20 rfl (lv_at hl 0 rfl) ?_
    refine gx_X3_2 hx hb hts hin hown hK hP (hts _ (List.mem_of_getElem? (i := 1) rfl)) dX3_undo_21 ?_
    refine lv_aload_n hx hb dX3_undo_24 rfl (lv_at hl 0 rfl) ?_
    refine gx_X3_0 hx hb hts hin hown hK hP (hts _ (List.mem_of_getElem? (i := 2) rfl)) dX3_undo_25 ?_
    refine z_callv (va_runV (As := [.ref (o + 1)]) (rest := []) ⟨hx, hb, hml, hown, hts⟩ (k_X0_restoreNoted l dC dI cI cQ (aK o ((((dropH Sh) 1 0 + (dropH Sh) 2 0) % 6).toNat)) (rH o) (rS o) (rN o) (dropH Sh) (U ((((dropH Sh) 1 0 + (dropH Sh) 2 0) % 6).toNat)) Sn (fun T1 T2 => D_hk2 hk_lt _ T1 T2) (by have := drop_rng h1 h2; exact this.1) (by have := drop_rng h1 h2; exact this.2)) (cwV 1 hts gX3_undo_X0_restoreNoted rfl rfl rfl (by decide +kernel) ⟨Nat.le_of_ble_eq_true rfl, Nat.le_of_ble_eq_true rfl⟩) (z_preV hK (e_hk2 (hk_lt (Sh := (dropH Sh))) hP) (ci := 0) (q0 := 0) rfl rfl rfl) rfl rfl hl.1 rfl (lv_room (Nat.le_of_ble_eq_true rfl)) dX3_undo_28 ⟨Nat.zero_le _, Nat.zero_le _⟩) hS (fun q h => hA57 q (aK_in hk_lt q h)) (fun H locs hQ9 hS _ hk9 => ?_)
    have hP : va_P (dC, dI) vwCl (W3 o cI cQ U (dropH Sh) (U ((((dropH Sh) 1 0 + (dropH Sh) 2 0) % 6).toNat)) Sf Sp) H := b_hk2 (hk_lt (Sh := (dropH Sh))) hP hk9 hQ9
    refine lv_aload_n hx hb dX3_undo_31 rfl (lv_at hl 0 rfl) ?_
    refine gx_X3_2 hx hb hts hin hown hK hP (hts _ (List.mem_of_getElem? (i := 1) rfl)) dX3_undo_32 ?_
    refine z_calli (va_runV (As := []) (rest := []) ⟨hx, hb, hml, hown, hts⟩ (k_X0_size l dC dI cI cQ (rg (o + 13) (o + 15)) (rH o) (rS o) [] (dropH Sh) (D_X0 (o + 13) (rS o) cQ)) (cwV 0 hts gX3_undo_X0_size rfl rfl rfl (by decide +kernel) ⟨Nat.le_of_ble_eq_true rfl, Nat.le_of_ble_eq_true rfl⟩) (z_preV hK (s_h hP) (ci := 0) (q0 := 0) rfl rfl rfl) rfl rfl hl.1 rfl (lv_room (Nat.le_of_ble_eq_true rfl)) dX3_undo_35 ⟨Nat.zero_le _, Nat.zero_le _⟩) hS (fun q h => hA57 q (rg_sub h (by omega) (by omega))) (fun H locs hQ9 hS _ hk9 => ?_)
    have hP : va_P (dC, dI) vwCl (W3 o cI cQ U (dropH Sh) (U ((((dropH Sh) 1 0 + (dropH Sh) 2 0) % 6).toNat)) Sf Sp) H := b_h hP hk9 hQ9
    exact z_iret hx hb hr hlk hP hS dX3_undo_38 (by unfold unR dropH; rw [if_neg (show ¬ Sh 2 0 = 0 by omega), if_pos (show 0 < Sh 2 0 by omega), up2_eq]) (by unfold unN; rw [if_neg (show ¬ Sh 2 0 = 0 by omega)])
  · refine z_bipush (z := (-2)) hx hb dX3_undo_10 (by decide +kernel) ?_
    exact z_iret hx hb hr hlk hP hS dX3_undo_12 (by unfold unR; rw [if_pos (show Sh 2 0 = 0 by omega)]) (by unfold unN dropH; rw [if_neg (show ¬ 0 < Sh 2 0 by omega), if_pos (show Sh 2 0 = 0 by omega)])
theorem in_X3_perform : ∀ w ∈ wsX30, w ∈ wsX3_perform := fun w h => List.mem_cons_of_mem _ (List.mem_append_left _ (List.mem_append_left _ (List.mem_append_right _ h)))
set_option maxHeartbeats 4000000 in
set_option maxRecDepth 100000 in
theorem k_X3_perform (l : Launch) (dC : Nat → ClassId) (dI : Nat → Nat → Nat) (cI cQ : ClassId) (A : Nat → Prop) (o : Nat) (U : Nat → Nat → Int → Int) (Sh Sn Sf Sp : Nat → Int → Int) (hA57 : ∀ q, rg o (o + 57) q → A q) (le : Int) (q : 0 ≤ le ∧ le < 80) (hp1 : 0 ≤ Sp 1 0 ∧ Sp 1 0 ≤ 80) (hW : WF Sn) (hT : ∀ j : Int, 0 ≤ Sp 0 j ∧ Sp 0 j ≤ 255) (n0 : -1000 ≤ Sp 2 (3 * le) ∧ Sp 2 (3 * le) ≤ 1000) (n1 : -1000 ≤ Sp 2 (3 * le + 1) ∧ Sp 2 (3 * le + 1) ≤ 1000) (n2 : -1000 ≤ Sp 2 (3 * le + 2) ∧ Sp 2 (3 * le + 2) ≤ 1000) (hall : (1 ≤ (Sp 2 (3 * le)) ∧ (Sp 2 (3 * le)) ≤ 200) ∧ Sn 5 0 + (Sp 2 (3 * le)) ≤ 20000 → ∀ k : Int, 0 ≤ k → k < (Sp 2 (3 * le)) → WF (itZ doTickS k Sn) ∧ WF (forgS (itZ doTickS k Sn)) ∧ (0 < itZ doTickS k Sn 4 (itZ doTickS k Sn 6 0) → WF (useHdS (forgS (itZ doTickS k Sn)) 0))) (hW2 : ∀ k : Int, 0 ≤ k → k ≤ 2 → WF (ixZ tearS k Sn)) : Met l yX3_perform wsX3_perform ({ frames := 5, cells := 0, slots := 0, locals := 128 }) (zPc (dC, dI) vwCl (zT cI cQ) (W3 o cI cQ U Sh Sn Sf Sp) [.ref o, .int (zI le)]) (zQi (dC, dI) vwCl (W3 o cI cQ U Sh (peS Sn Sp le) Sf Sp) (peR Sn Sp le) A) 0 0 A := by
  refine Met.ofW (cc := cX3_perform) (maxL := 5) (ret := (some .int)) (by decide) rfl ?_
  intro p e s m args below meth c s₁ B hml hv
  obtain ⟨rfl, hP, hK⟩ := hv
  have hx := B.exec
  have hb := B.bytes
  have hr := B.returns
  have hts := atoms_spec (ws := wsX3_perform) B.pre
  have hown : s.vm.findClass RX3 = some m.cls := findClass_of_methodNamed B.named
  have hlk := B.notSynchronized
  have hS : va_S A s.heap s.heap [] := va_S.rf
  have hl := lv_entry ([.ref o, .int (zI le)]) (n := 5) (Nat.le_of_ble_eq_true rfl)
  rw [lg_entry_eq]
  generalize (lg_sl ([.ref o, .int (zI le)]) ++ List.replicate (5 - (lg_sl ([.ref o, .int (zI le)])).length) Slot.unset).toArray = ls at hl ⊢
  have hl : lv_has ls 5 [(0, .ref o), (1, .int (zI le))] := hl
  have hin : ∀ w ∈ wsX30, w ∈ wsX3_perform := in_X3_perform
  have g9 := sgF_rng hT (Sp 1 0) le
  refine lv_aload_n hx hb dX3_perform_0 rfl (lv_at hl 0 rfl) ?_
  refine gx_X3_3 hx hb hts hin hown hK hP (hts _ (List.mem_of_getElem? (i := 1) rfl)) dX3_perform_1 ?_
  refine lv_iload_n hx hb dX3_perform_4 rfl (lv_at hl 1 rfl) ?_
  refine z_iconst hx hb dX3_perform_5 ?_
  refine z_calli (va_runV (As := [.int (zI le), .int (zI 0)]) (rest := []) ⟨hx, hb, hml, hown, hts⟩ (k_X2_numberBehind l dC dI cI cQ (rg (o + 51) (o + 57)) (rP o) Sp (D_X2 (o + 51) cI) le 0 (by omega) (by omega)) (cwV 2 hts gX3_perform_X2_numberBehind rfl rfl rfl (by decide +kernel) ⟨Nat.le_of_ble_eq_true rfl, Nat.le_of_ble_eq_true rfl⟩) (z_preV hK (s_p hP) (ci := 2) (q0 := 0) rfl rfl rfl) rfl rfl hl.1 rfl (lv_room (Nat.le_of_ble_eq_true rfl)) dX3_perform_6 ⟨Nat.zero_le _, Nat.zero_le _⟩) hS (fun q h => hA57 q (rg_sub h (by omega) (by omega))) (fun H locs hQ9 hS _ hk9 => ?_)
  have hP : va_P (dC, dI) vwCl (W3 o cI cQ U Sh Sn Sf Sp) H := b_p hP hk9 hQ9
  refine z_top (y := (Sp 2 (3 * le))) (by exact congrArg (Sp 2) (by omega)) ?_
  refine lv_istore_n (lv' := [(2, .int (zI (Sp 2 (3 * le)))), (0, .ref o), (1, .int (zI le))]) hx hb dX3_perform_9 rfl hl (by decide) rfl (fun ls hl => ?_)
  refine lv_aload_n hx hb dX3_perform_10 rfl (lv_at hl 1 rfl) ?_
  refine gx_X3_3 hx hb hts hin hown hK hP (hts _ (List.mem_of_getElem? (i := 1) rfl)) dX3_perform_11 ?_
  refine lv_iload_n hx hb dX3_perform_14 rfl (lv_at hl 2 rfl) ?_
  refine z_iconst hx hb dX3_perform_15 ?_
  refine z_calli (va_runV (As := [.int (zI le), .int (zI 1)]) (rest := []) ⟨hx, hb, hml, hown, hts⟩ (k_X2_numberBehind l dC dI cI cQ (rg (o + 51) (o + 57)) (rP o) Sp (D_X2 (o + 51) cI) le 1 (by omega) (by omega)) (cwV 2 hts gX3_perform_X2_numberBehind rfl rfl rfl (by decide +kernel) ⟨Nat.le_of_ble_eq_true rfl, Nat.le_of_ble_eq_true rfl⟩) (z_preV hK (s_p hP) (ci := 2) (q0 := 0) rfl rfl rfl) rfl rfl hl.1 rfl (lv_room (Nat.le_of_ble_eq_true rfl)) dX3_perform_16 ⟨Nat.zero_le _, Nat.zero_le _⟩) hS (fun q h => hA57 q (rg_sub h (by omega) (by omega))) (fun H locs hQ9 hS _ hk9 => ?_)
  have hP : va_P (dC, dI) vwCl (W3 o cI cQ U Sh Sn Sf Sp) H := b_p hP hk9 hQ9
  refine z_top (y := (Sp 2 (3 * le + 1))) (by exact congrArg (Sp 2) (by omega)) ?_
  refine lv_istore_n (lv' := [(3, .int (zI (Sp 2 (3 * le + 1)))), (2, .int (zI (Sp 2 (3 * le)))), (0, .ref o), (1, .int (zI le))]) hx hb dX3_perform_19 rfl hl (by decide) rfl (fun ls hl => ?_)
  refine lv_aload_n hx hb dX3_perform_20 rfl (lv_at hl 2 rfl) ?_
  refine gx_X3_3 hx hb hts hin hown hK hP (hts _ (List.mem_of_getElem? (i := 1) rfl)) dX3_perform_21 ?_
  refine lv_iload_n hx hb dX3_perform_24 rfl (lv_at hl 3 rfl) ?_
  refine z_iconst hx hb dX3_perform_25 ?_
  refine z_calli (va_runV (As := [.int (zI le), .int (zI 2)]) (rest := []) ⟨hx, hb, hml, hown, hts⟩ (k_X2_numberBehind l dC dI cI cQ (rg (o + 51) (o + 57)) (rP o) Sp (D_X2 (o + 51) cI) le 2 (by omega) (by omega)) (cwV 2 hts gX3_perform_X2_numberBehind rfl rfl rfl (by decide +kernel) ⟨Nat.le_of_ble_eq_true rfl, Nat.le_of_ble_eq_true rfl⟩) (z_preV hK (s_p hP) (ci := 2) (q0 := 0) rfl rfl rfl) rfl rfl hl.1 rfl (lv_room (Nat.le_of_ble_eq_true rfl)) dX3_perform_26 ⟨Nat.zero_le _, Nat.zero_le _⟩) hS (fun q h => hA57 q (rg_sub h (by omega) (by omega))) (fun H locs hQ9 hS _ hk9 => ?_)
  have hP : va_P (dC, dI) vwCl (W3 o cI cQ U Sh Sn Sf Sp) H := b_p hP hk9 hQ9
  refine z_top (y := (Sp 2 (3 * le + 2))) (by exact congrArg (Sp 2) (by omega)) ?_
  refine lv_istore (lv' := [(4, .int (zI (Sp 2 (3 * le + 2)))), (3, .int (zI (Sp 2 (3 * le + 1)))), (2, .int (zI (Sp 2 (3 * le)))), (0, .ref o), (1, .int (zI le))]) hx hb dX3_perform_29 hl (by decide) rfl (fun ls hl => ?_)
  refine lv_aload_n hx hb dX3_perform_31 rfl (lv_at hl 3 rfl) ?_
  refine gx_X3_3 hx hb hts hin hown hK hP (hts _ (List.mem_of_getElem? (i := 1) rfl)) dX3_perform_32 ?_
  refine lv_iload_n hx hb dX3_perform_35 rfl (lv_at hl 4 rfl) ?_
  refine z_calli (va_runV (As := [.int (zI le)]) (rest := []) ⟨hx, hb, hml, hown, hts⟩ (k_X2_signAt l dC dI cI cQ (rg (o + 51) (o + 57)) (rP o) Sp (D_X2 (o + 51) cI) le (by omega) (by omega)) (cwV 1 hts gX3_perform_X2_signAt rfl rfl rfl (by decide +kernel) ⟨Nat.le_of_ble_eq_true rfl, Nat.le_of_ble_eq_true rfl⟩) (z_preV hK (s_p hP) (ci := 2) (q0 := 0) rfl rfl rfl) rfl rfl hl.1 rfl (lv_room (Nat.le_of_ble_eq_true rfl)) dX3_perform_36 ⟨Nat.zero_le _, Nat.zero_le _⟩) hS (fun q h => hA57 q (rg_sub h (by omega) (by omega))) (fun H locs hQ9 hS _ hk9 => ?_)
  have hP : va_P (dC, dI) vwCl (W3 o cI cQ U Sh Sn Sf Sp) H := b_p hP hk9 hQ9
  refine z_top (y := (sgF (Sp 0) (Sp 1 0) le)) (by rfl) ?_
  rcases (show (sgF (Sp 0) (Sp 1 0) le) = 114 ∨ (sgF (Sp 0) (Sp 1 0) le) = 116 ∨ (sgF (Sp 0) (Sp 1 0) le) = 119 ∨ ((sgF (Sp 0) (Sp 1 0) le) ≠ 114 ∧ (sgF (Sp 0) (Sp 1 0) le) ≠ 116 ∧ (sgF (Sp 0) (Sp 1 0) le) ≠ 119) from by omega) with c1 | c1 | c1 | c1
  · refine z_lookup (tgt := 72) (off := 33) hx hb dX3_perform_39 (by decide +kernel) (by omega) (by rw [show (sgF (Sp 0) (Sp 1 0) le) = 114 from c1]; decide +kernel) (by decide) ?_
    refine lv_aload_n hx hb dX3_perform_72 rfl (lv_at hl 3 rfl) ?_
    refine gx_X3_0 hx hb hts hin hown hK hP (hts _ (List.mem_of_getElem? (i := 2) rfl)) dX3_perform_73 ?_
    refine lv_iload_n hx hb dX3_perform_76 rfl (lv_at hl 2 rfl) ?_
    refine lv_iload_n hx hb dX3_perform_77 rfl (lv_at hl 1 rfl) ?_
    refine z_calli (va_runV (As := [.int (zI (Sp 2 (3 * le))), .int (zI (Sp 2 (3 * le + 1)))]) (rest := []) ⟨hx, hb, hml, hown, hts⟩ (k_X1_takeRead l dC dI cI cQ (rg (o + 1) (o + 7)) (rN o) Sn (D_X1 (o + 1) cI) (Sp 2 (3 * le)) (Sp 2 (3 * le + 1)) (by exact hW) (by omega) (by omega)) (cwV 2 hts gX3_perform_X1_takeRead rfl rfl rfl (by decide +kernel) ⟨Nat.le_of_ble_eq_true rfl, Nat.le_of_ble_eq_true rfl⟩) (z_preV hK (s_n hP) (ci := 1) (q0 := 0) rfl rfl rfl) rfl rfl hl.1 rfl (lv_room (Nat.le_of_ble_eq_true rfl)) dX3_perform_78 ⟨Nat.zero_le _, Nat.zero_le _⟩) hS (fun q h => hA57 q (rg_sub h (by omega) (by omega))) (fun H locs hQ9 hS _ hk9 => ?_)
    have hP : va_P (dC, dI) vwCl (W3 o cI cQ U Sh (tkReadS Sn (Sp 2 (3 * le)) (Sp 2 (3 * le + 1))) Sf Sp) H := b_n hP hk9 hQ9
    exact z_iret hx hb hr hlk hP hS dX3_perform_81 (by unfold peR; first | (rw [if_pos (by omega)]; done) | (rw [if_neg (by omega), if_pos (by omega)]; done) | (rw [if_neg (by omega), if_neg (by omega), if_pos (by omega)]; done) | (rw [if_neg (by omega), if_neg (by omega), if_neg (by omega)])) (by unfold peS; first | (rw [if_pos (by omega)]; done) | (rw [if_neg (by omega), if_pos (by omega)]; done) | (rw [if_neg (by omega), if_neg (by omega), if_pos (by omega)]; done) | (rw [if_neg (by omega), if_neg (by omega), if_neg (by omega)]))
  · refine z_lookup (tgt := 94) (off := 55) hx hb dX3_perform_39 (by decide +kernel) (by omega) (by rw [show (sgF (Sp 0) (Sp 1 0) le) = 116 from c1]; decide +kernel) (by decide) ?_
    refine lv_aload_n hx hb dX3_perform_94 rfl (lv_at hl 3 rfl) ?_
    refine gx_X3_0 hx hb hts hin hown hK hP (hts _ (List.mem_of_getElem? (i := 2) rfl)) dX3_perform_95 ?_
    refine lv_iload_n hx hb dX3_perform_98 rfl (lv_at hl 2 rfl) ?_
    refine z_calli (va_runV (As := [.int (zI (Sp 2 (3 * le)))]) (rest := []) ⟨hx, hb, hml, hown, hts⟩ (k_X1_letPass l dC dI cI cQ (rg (o + 1) (o + 7)) (rN o) Sn (D_X1 (o + 1) cI) (Sp 2 (3 * le)) (by exact hW) (by omega) (by exact hall)) (cwV 1 hts gX3_perform_X1_letPass rfl rfl rfl (by decide +kernel) ⟨Nat.le_of_ble_eq_true rfl, Nat.le_of_ble_eq_true rfl⟩) (z_preV hK (s_n hP) (ci := 1) (q0 := 0) rfl rfl rfl) rfl rfl hl.1 rfl (lv_room (Nat.le_of_ble_eq_true rfl)) dX3_perform_99 ⟨Nat.zero_le _, Nat.zero_le _⟩) hS (fun q h => hA57 q (rg_sub h (by omega) (by omega))) (fun H locs hQ9 hS _ hk9 => ?_)
    have hP : va_P (dC, dI) vwCl (W3 o cI cQ U Sh (letPassS Sn (Sp 2 (3 * le))) Sf Sp) H := b_n hP hk9 hQ9
    exact z_iret hx hb hr hlk hP hS dX3_perform_102 (by unfold peR; first | (rw [if_pos (by omega)]; done) | (rw [if_neg (by omega), if_pos (by omega)]; done) | (rw [if_neg (by omega), if_neg (by omega), if_pos (by omega)]; done) | (rw [if_neg (by omega), if_neg (by omega), if_neg (by omega)])) (by unfold peS; first | (rw [if_pos (by omega)]; done) | (rw [if_neg (by omega), if_pos (by omega)]; done) | (rw [if_neg (by omega), if_neg (by omega), if_pos (by omega)]; done) | (rw [if_neg (by omega), if_neg (by omega), if_neg (by omega)]))
  · refine z_lookup (tgt := 82) (off := 43) hx hb dX3_perform_39 (by decide +kernel) (by omega) (by rw [show (sgF (Sp 0) (Sp 1 0) le) = 119 from c1]; decide +kernel) (by decide) ?_
    refine lv_aload_n hx hb dX3_perform_82 rfl (lv_at hl 3 rfl) ?_
    refine gx_X3_0 hx hb hts hin hown hK hP (hts _ (List.mem_of_getElem? (i := 2) rfl)) dX3_perform_83 ?_
    refine lv_iload_n hx hb dX3_perform_86 rfl (lv_at hl 2 rfl) ?_
    refine lv_iload_n hx hb dX3_perform_87 rfl (lv_at hl 1 rfl) ?_
    refine lv_iload hx hb dX3_perform_88 (lv_at hl 0 rfl) ?_
    refine z_calli (va_runV (As := [.int (zI (Sp 2 (3 * le))), .int (zI (Sp 2 (3 * le + 1))), .int (zI (Sp 2 (3 * le + 2)))]) (rest := []) ⟨hx, hb, hml, hown, hts⟩ (k_X1_takeWrite l dC dI cI cQ (rg (o + 1) (o + 7)) (rN o) Sn (D_X1 (o + 1) cI) (Sp 2 (3 * le)) (Sp 2 (3 * le + 1)) (Sp 2 (3 * le + 2)) (by exact hW) (by omega) (by omega) (by omega)) (cwV 3 hts gX3_perform_X1_takeWrite rfl rfl rfl (by decide +kernel) ⟨Nat.le_of_ble_eq_true rfl, Nat.le_of_ble_eq_true rfl⟩) (z_preV hK (s_n hP) (ci := 1) (q0 := 0) rfl rfl rfl) rfl rfl hl.1 rfl (lv_room (Nat.le_of_ble_eq_true rfl)) dX3_perform_90 ⟨Nat.zero_le _, Nat.zero_le _⟩) hS (fun q h => hA57 q (rg_sub h (by omega) (by omega))) (fun H locs hQ9 hS _ hk9 => ?_)
    have hP : va_P (dC, dI) vwCl (W3 o cI cQ U Sh (tkWriteS Sn (Sp 2 (3 * le)) (Sp 2 (3 * le + 1)) (Sp 2 (3 * le + 2))) Sf Sp) H := b_n hP hk9 hQ9
    exact z_iret hx hb hr hlk hP hS dX3_perform_93 (by unfold peR; first | (rw [if_pos (by omega)]; done) | (rw [if_neg (by omega), if_pos (by omega)]; done) | (rw [if_neg (by omega), if_neg (by omega), if_pos (by omega)]; done) | (rw [if_neg (by omega), if_neg (by omega), if_neg (by omega)])) (by unfold peS; first | (rw [if_pos (by omega)]; done) | (rw [if_neg (by omega), if_pos (by omega)]; done) | (rw [if_neg (by omega), if_neg (by omega), if_pos (by omega)]; done) | (rw [if_neg (by omega), if_neg (by omega), if_neg (by omega)]))
  · refine z_lookup (tgt := 103) (off := 64) hx hb dX3_perform_39 (by decide +kernel) (by omega) (by simp [Op.lookupswitch.offset] <;> (repeat' split) <;> omega) (by decide) ?_
    refine lv_aload_n hx hb dX3_perform_103 rfl (lv_at hl 3 rfl) ?_
    refine gx_X3_0 hx hb hts hin hown hK hP (hts _ (List.mem_of_getElem? (i := 2) rfl)) dX3_perform_104 ?_
    refine z_calli (va_runV (As := []) (rest := []) ⟨hx, hb, hml, hown, hts⟩ (k_X1_cutPower l dC dI cI cQ (rg (o + 1) (o + 7)) (rN o) Sn (D_X1 (o + 1) cI) (by exact hW) (by exact hW2)) (cwV 0 hts gX3_perform_X1_cutPower rfl rfl rfl (by decide +kernel) ⟨Nat.le_of_ble_eq_true rfl, Nat.le_of_ble_eq_true rfl⟩) (z_preV hK (s_n hP) (ci := 1) (q0 := 0) rfl rfl rfl) rfl rfl hl.1 rfl (lv_room (Nat.le_of_ble_eq_true rfl)) dX3_perform_107 ⟨Nat.zero_le _, Nat.zero_le _⟩) hS (fun q h => hA57 q (rg_sub h (by omega) (by omega))) (fun H locs hQ9 hS _ hk9 => ?_)
    have hP : va_P (dC, dI) vwCl (W3 o cI cQ U Sh (cutS Sn) Sf Sp) H := b_n hP hk9 hQ9
    exact z_iret hx hb hr hlk hP hS dX3_perform_110 (by unfold peR; first | (rw [if_pos (by omega)]; done) | (rw [if_neg (by omega), if_pos (by omega)]; done) | (rw [if_neg (by omega), if_neg (by omega), if_pos (by omega)]; done) | (rw [if_neg (by omega), if_neg (by omega), if_neg (by omega)])) (by unfold peS; first | (rw [if_pos (by omega)]; done) | (rw [if_neg (by omega), if_pos (by omega)]; done) | (rw [if_neg (by omega), if_neg (by omega), if_pos (by omega)]; done) | (rw [if_neg (by omega), if_neg (by omega), if_neg (by omega)]))
