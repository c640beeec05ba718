section
-- ===== PART A: goes FIRST, ahead of the names: the tables' words, and 'selects' of the private methods out of them =====
/-- a private method of a class that the tables say can be made, by its rows of tables_1 -/
def lw_okq (q : MethodName × Nat) : Prop := (q.1.cls ≠ "java/lang/invoke/MethodHandle" ∧ q.1.cls ≠ "java/lang/invoke/VarHandle") ∧ Cond.instantiable q.1.cls q.2 ∈ tables_1 ∧ Cond.privateMethod q.1 ∈ tables_1 ∧ Cond.instanceMethod q.1 ∈ tables_1
theorem lw_p0 : lw_okq (⟨"TwinPlates$Plates", "forgetWritten", "()V"⟩, 11) := ⟨⟨by decide +kernel, by decide +kernel⟩, List.mem_of_getElem? (i := 17) (by decide +kernel), List.mem_of_getElem? (i := 23) (by decide +kernel), List.mem_of_getElem? (i := 24) (by decide +kernel)⟩
theorem lw_p1 : lw_okq (⟨"TwinPlates$History", "noted", "()LTwinPlates$Plates;"⟩, 3) := ⟨⟨by decide +kernel, by decide +kernel⟩, List.mem_of_getElem? (i := 62) (by decide +kernel), List.mem_of_getElem? (i := 136) (by decide +kernel), List.mem_of_getElem? (i := 137) (by decide +kernel)⟩
theorem lw_p2 : lw_okq (⟨"TwinPlates$Plates", "takeOrder", "(IIII)I"⟩, 11) := ⟨⟨by decide +kernel, by decide +kernel⟩, List.mem_of_getElem? (i := 17) (by decide +kernel), List.mem_of_getElem? (i := 157) (by decide +kernel), List.mem_of_getElem? (i := 158) (by decide +kernel)⟩
theorem lw_p3 : lw_okq (⟨"TwinPlates", "settle", "(I)I"⟩, 4) := ⟨⟨by decide +kernel, by decide +kernel⟩, List.mem_of_getElem? (i := 9) (by decide +kernel), List.mem_of_getElem? (i := 164) (by decide +kernel), List.mem_of_getElem? (i := 165) (by decide +kernel)⟩
theorem lw_p4 : lw_okq (⟨"TwinPlates$Plates", "useHead", "(I)V"⟩, 11) := ⟨⟨by decide +kernel, by decide +kernel⟩, List.mem_of_getElem? (i := 17) (by decide +kernel), List.mem_of_getElem? (i := 192) (by decide +kernel), List.mem_of_getElem? (i := 193) (by decide +kernel)⟩
theorem lw_p5 : lw_okq (⟨"TwinPlates$Plates", "takeOver", "(II)V"⟩, 11) := ⟨⟨by decide +kernel, by decide +kernel⟩, List.mem_of_getElem? (i := 17) (by decide +kernel), List.mem_of_getElem? (i := 204) (by decide +kernel), List.mem_of_getElem? (i := 205) (by decide +kernel)⟩
theorem lw_p6 : lw_okq (⟨"TwinPlates$Plates", "setWhole", "(III)V"⟩, 11) := ⟨⟨by decide +kernel, by decide +kernel⟩, List.mem_of_getElem? (i := 17) (by decide +kernel), List.mem_of_getElem? (i := 208) (by decide +kernel), List.mem_of_getElem? (i := 209) (by decide +kernel)⟩
theorem lw_p7 : lw_okq (⟨"TwinPlates$Plates", "setLate", "(II)V"⟩, 11) := ⟨⟨by decide +kernel, by decide +kernel⟩, List.mem_of_getElem? (i := 17) (by decide +kernel), List.mem_of_getElem? (i := 212) (by decide +kernel), List.mem_of_getElem? (i := 213) (by decide +kernel)⟩
theorem lw_p8 : lw_okq (⟨"TwinPlates$Plates", "firstWaiting", "(III)I"⟩, 11) := ⟨⟨by decide +kernel, by decide +kernel⟩, List.mem_of_getElem? (i := 17) (by decide +kernel), List.mem_of_getElem? (i := 216) (by decide +kernel), List.mem_of_getElem? (i := 217) (by decide +kernel)⟩
theorem lw_p9 : lw_okq (⟨"TwinPlates$Plates", "doWrite", "(IIII)V"⟩, 11) := ⟨⟨by decide +kernel, by decide +kernel⟩, List.mem_of_getElem? (i := 17) (by decide +kernel), List.mem_of_getElem? (i := 220) (by decide +kernel), List.mem_of_getElem? (i := 221) (by decide +kernel)⟩
theorem lw_p10 : lw_okq (⟨"TwinPlates$Plates", "finish", "(III)V"⟩, 11) := ⟨⟨by decide +kernel, by decide +kernel⟩, List.mem_of_getElem? (i := 17) (by decide +kernel), List.mem_of_getElem? (i := 231) (by decide +kernel), List.mem_of_getElem? (i := 232) (by decide +kernel)⟩
theorem lw_p11 : lw_okq (⟨"TwinPlates$Plates", "moveArm", "()V"⟩, 11) := ⟨⟨by decide +kernel, by decide +kernel⟩, List.mem_of_getElem? (i := 17) (by decide +kernel), List.mem_of_getElem? (i := 235) (by decide +kernel), List.mem_of_getElem? (i := 236) (by decide +kernel)⟩
theorem lw_p12 : lw_okq (⟨"TwinPlates$Plates", "dropWork", "()V"⟩, 11) := ⟨⟨by decide +kernel, by decide +kernel⟩, List.mem_of_getElem? (i := 17) (by decide +kernel), List.mem_of_getElem? (i := 247) (by decide +kernel), List.mem_of_getElem? (i := 248) (by decide +kernel)⟩
theorem lw_p13 : lw_okq (⟨"TwinPlates$Plates", "repair", "(II)I"⟩, 11) := ⟨⟨by decide +kernel, by decide +kernel⟩, List.mem_of_getElem? (i := 17) (by decide +kernel), List.mem_of_getElem? (i := 271) (by decide +kernel), List.mem_of_getElem? (i := 272) (by decide +kernel)⟩
theorem lw_p14 : lw_okq (⟨"TwinPlates$Program", "readPiece", "()Z"⟩, 9) := ⟨⟨by decide +kernel, by decide +kernel⟩, List.mem_of_getElem? (i := 81) (by decide +kernel), List.mem_of_getElem? (i := 324) (by decide +kernel), List.mem_of_getElem? (i := 325) (by decide +kernel)⟩
theorem lw_p15 : lw_okq (⟨"TwinPlates$Program", "openGroup", "()Z"⟩, 9) := ⟨⟨by decide +kernel, by decide +kernel⟩, List.mem_of_getElem? (i := 81) (by decide +kernel), List.mem_of_getElem? (i := 332) (by decide +kernel), List.mem_of_getElem? (i := 333) (by decide +kernel)⟩
def lw_privs_1 : List (MethodName × Nat) := [(⟨"TwinPlates$Plates", "forgetWritten", "()V"⟩, 11), (⟨"TwinPlates$History", "noted", "()LTwinPlates$Plates;"⟩, 3), (⟨"TwinPlates$Plates", "takeOrder", "(IIII)I"⟩, 11), (⟨"TwinPlates", "settle", "(I)I"⟩, 4), (⟨"TwinPlates$Plates", "useHead", "(I)V"⟩, 11), (⟨"TwinPlates$Plates", "takeOver", "(II)V"⟩, 11), (⟨"TwinPlates$Plates", "setWhole", "(III)V"⟩, 11), (⟨"TwinPlates$Plates", "setLate", "(II)V"⟩, 11), (⟨"TwinPlates$Plates", "firstWaiting", "(III)I"⟩, 11), (⟨"TwinPlates$Plates", "doWrite", "(IIII)V"⟩, 11), (⟨"TwinPlates$Plates", "finish", "(III)V"⟩, 11), (⟨"TwinPlates$Plates", "moveArm", "()V"⟩, 11), (⟨"TwinPlates$Plates", "dropWork", "()V"⟩, 11), (⟨"TwinPlates$Plates", "repair", "(II)I"⟩, 11), (⟨"TwinPlates$Program", "readPiece", "()Z"⟩, 9), (⟨"TwinPlates$Program", "openGroup", "()Z"⟩, 9)]
theorem lw_r1 : ∀ q ∈ lw_privs_1, lw_okq q := List.forall_mem_cons.mpr ⟨lw_p0, List.forall_mem_cons.mpr ⟨lw_p1, List.forall_mem_cons.mpr ⟨lw_p2, List.forall_mem_cons.mpr ⟨lw_p3, List.forall_mem_cons.mpr ⟨lw_p4, List.forall_mem_cons.mpr ⟨lw_p5, List.forall_mem_cons.mpr ⟨lw_p6, List.forall_mem_cons.mpr ⟨lw_p7, List.forall_mem_cons.mpr ⟨lw_p8, List.forall_mem_cons.mpr ⟨lw_p9, List.forall_mem_cons.mpr ⟨lw_p10, List.forall_mem_cons.mpr ⟨lw_p11, List.forall_mem_cons.mpr ⟨lw_p12, List.forall_mem_cons.mpr ⟨lw_p13, List.forall_mem_cons.mpr ⟨lw_p14, List.forall_mem_cons.mpr ⟨lw_p15, fun _ h => absurd h List.not_mem_nil⟩⟩⟩⟩⟩⟩⟩⟩⟩⟩⟩⟩⟩⟩⟩⟩
theorem lw_p16 : lw_okq (⟨"TwinPlates$Program", "closeGroup", "()Z"⟩, 9) := ⟨⟨by decide +kernel, by decide +kernel⟩, List.mem_of_getElem? (i := 81) (by decide +kernel), List.mem_of_getElem? (i := 336) (by decide +kernel), List.mem_of_getElem? (i := 337) (by decide +kernel)⟩
theorem lw_p17 : lw_okq (⟨"TwinPlates$Program", "addStep", "(I)V"⟩, 9) := ⟨⟨by decide +kernel, by decide +kernel⟩, List.mem_of_getElem? (i := 81) (by decide +kernel), List.mem_of_getElem? (i := 340) (by decide +kernel), List.mem_of_getElem? (i := 341) (by decide +kernel)⟩
theorem lw_p18 : lw_okq (⟨"TwinPlates$Program", "readAct", "()Z"⟩, 9) := ⟨⟨by decide +kernel, by decide +kernel⟩, List.mem_of_getElem? (i := 81) (by decide +kernel), List.mem_of_getElem? (i := 344) (by decide +kernel), List.mem_of_getElem? (i := 345) (by decide +kernel)⟩
theorem lw_p19 : lw_okq (⟨"TwinPlates$Program", "readNumber", "(III)Z"⟩, 9) := ⟨⟨by decide +kernel, by decide +kernel⟩, List.mem_of_getElem? (i := 81) (by decide +kernel), List.mem_of_getElem? (i := 348) (by decide +kernel), List.mem_of_getElem? (i := 349) (by decide +kernel)⟩
theorem lw_p20 : lw_okq (⟨"TwinPlates$Program", "readSign", "(I)Z"⟩, 9) := ⟨⟨by decide +kernel, by decide +kernel⟩, List.mem_of_getElem? (i := 81) (by decide +kernel), List.mem_of_getElem? (i := 355) (by decide +kernel), List.mem_of_getElem? (i := 356) (by decide +kernel)⟩
theorem lw_p21 : lw_okq (⟨"TwinPlates", "perform", "(I)I"⟩, 4) := ⟨⟨by decide +kernel, by decide +kernel⟩, List.mem_of_getElem? (i := 9) (by decide +kernel), List.mem_of_getElem? (i := 375) (by decide +kernel), List.mem_of_getElem? (i := 376) (by decide +kernel)⟩
theorem lw_p22 : lw_okq (⟨"TwinPlatesModel", "takes", "(IIII)I"⟩, 11) := ⟨⟨by decide +kernel, by decide +kernel⟩, List.mem_of_getElem? (i := 484) (by decide +kernel), List.mem_of_getElem? (i := 538) (by decide +kernel), List.mem_of_getElem? (i := 539) (by decide +kernel)⟩
theorem lw_p23 : lw_okq (⟨"TwinPlatesModel", "inState", "(I)I"⟩, 11) := ⟨⟨by decide +kernel, by decide +kernel⟩, List.mem_of_getElem? (i := 484) (by decide +kernel), List.mem_of_getElem? (i := 542) (by decide +kernel), List.mem_of_getElem? (i := 543) (by decide +kernel)⟩
theorem lw_p24 : lw_okq (⟨"TwinPlatesModel", "told", "(II)I"⟩, 11) := ⟨⟨by decide +kernel, by decide +kernel⟩, List.mem_of_getElem? (i := 484) (by decide +kernel), List.mem_of_getElem? (i := 546) (by decide +kernel), List.mem_of_getElem? (i := 547) (by decide +kernel)⟩
theorem lw_p25 : lw_okq (⟨"TwinPlatesModel", "saves", "()V"⟩, 11) := ⟨⟨by decide +kernel, by decide +kernel⟩, List.mem_of_getElem? (i := 484) (by decide +kernel), List.mem_of_getElem? (i := 550) (by decide +kernel), List.mem_of_getElem? (i := 551) (by decide +kernel)⟩
theorem lw_p26 : lw_okq (⟨"TwinPlatesModel", "tell", "(III)V"⟩, 11) := ⟨⟨by decide +kernel, by decide +kernel⟩, List.mem_of_getElem? (i := 484) (by decide +kernel), List.mem_of_getElem? (i := 554) (by decide +kernel), List.mem_of_getElem? (i := 555) (by decide +kernel)⟩
theorem lw_p27 : lw_okq (⟨"TwinPlatesModel", "passes", "()V"⟩, 11) := ⟨⟨by decide +kernel, by decide +kernel⟩, List.mem_of_getElem? (i := 484) (by decide +kernel), List.mem_of_getElem? (i := 566) (by decide +kernel), List.mem_of_getElem? (i := 567) (by decide +kernel)⟩
theorem lw_p28 : lw_okq (⟨"TwinPlatesModel", "hasWork", "(I)Z"⟩, 11) := ⟨⟨by decide +kernel, by decide +kernel⟩, List.mem_of_getElem? (i := 484) (by decide +kernel), List.mem_of_getElem? (i := 570) (by decide +kernel), List.mem_of_getElem? (i := 571) (by decide +kernel)⟩
theorem lw_p29 : lw_okq (⟨"TwinPlatesModel", "of", "(III)I"⟩, 11) := ⟨⟨by decide +kernel, by decide +kernel⟩, List.mem_of_getElem? (i := 484) (by decide +kernel), List.mem_of_getElem? (i := 574) (by decide +kernel), List.mem_of_getElem? (i := 575) (by decide +kernel)⟩
theorem lw_p30 : lw_okq (⟨"TwinPlatesModel", "heads", "(I)V"⟩, 11) := ⟨⟨by decide +kernel, by decide +kernel⟩, List.mem_of_getElem? (i := 484) (by decide +kernel), List.mem_of_getElem? (i := 578) (by decide +kernel), List.mem_of_getElem? (i := 579) (by decide +kernel)⟩
theorem lw_p31 : lw_okq (⟨"TwinPlatesModel", "sectorUnder", "(I)I"⟩, 11) := ⟨⟨by decide +kernel, by decide +kernel⟩, List.mem_of_getElem? (i := 484) (by decide +kernel), List.mem_of_getElem? (i := 582) (by decide +kernel), List.mem_of_getElem? (i := 583) (by decide +kernel)⟩
def lw_privs_2 : List (MethodName × Nat) := [(⟨"TwinPlates$Program", "closeGroup", "()Z"⟩, 9), (⟨"TwinPlates$Program", "addStep", "(I)V"⟩, 9), (⟨"TwinPlates$Program", "readAct", "()Z"⟩, 9), (⟨"TwinPlates$Program", "readNumber", "(III)Z"⟩, 9), (⟨"TwinPlates$Program", "readSign", "(I)Z"⟩, 9), (⟨"TwinPlates", "perform", "(I)I"⟩, 4), (⟨"TwinPlatesModel", "takes", "(IIII)I"⟩, 11), (⟨"TwinPlatesModel", "inState", "(I)I"⟩, 11), (⟨"TwinPlatesModel", "told", "(II)I"⟩, 11), (⟨"TwinPlatesModel", "saves", "()V"⟩, 11), (⟨"TwinPlatesModel", "tell", "(III)V"⟩, 11), (⟨"TwinPlatesModel", "passes", "()V"⟩, 11), (⟨"TwinPlatesModel", "hasWork", "(I)Z"⟩, 11), (⟨"TwinPlatesModel", "of", "(III)I"⟩, 11), (⟨"TwinPlatesModel", "heads", "(I)V"⟩, 11), (⟨"TwinPlatesModel", "sectorUnder", "(I)I"⟩, 11)]
theorem lw_r2 : ∀ q ∈ lw_privs_2, lw_okq q := List.forall_mem_cons.mpr ⟨lw_p16, List.forall_mem_cons.mpr ⟨lw_p17, List.forall_mem_cons.mpr ⟨lw_p18, List.forall_mem_cons.mpr ⟨lw_p19, List.forall_mem_cons.mpr ⟨lw_p20, List.forall_mem_cons.mpr ⟨lw_p21, List.forall_mem_cons.mpr ⟨lw_p22, List.forall_mem_cons.mpr ⟨lw_p23, List.forall_mem_cons.mpr ⟨lw_p24, List.forall_mem_cons.mpr ⟨lw_p25, List.forall_mem_cons.mpr ⟨lw_p26, List.forall_mem_cons.mpr ⟨lw_p27, List.forall_mem_cons.mpr ⟨lw_p28, List.forall_mem_cons.mpr ⟨lw_p29, List.forall_mem_cons.mpr ⟨lw_p30, List.forall_mem_cons.mpr ⟨lw_p31, fun _ h => absurd h List.not_mem_nil⟩⟩⟩⟩⟩⟩⟩⟩⟩⟩⟩⟩⟩⟩⟩⟩
theorem lw_p32 : lw_okq (⟨"TwinPlatesModel", "firstFor", "(II)I"⟩, 11) := ⟨⟨by decide +kernel, by decide +kernel⟩, List.mem_of_getElem? (i := 484) (by decide +kernel), List.mem_of_getElem? (i := 586) (by decide +kernel), List.mem_of_getElem? (i := 587) (by decide +kernel)⟩
theorem lw_p33 : lw_okq (⟨"TwinPlatesModel", "writes", "(IIII)V"⟩, 11) := ⟨⟨by decide +kernel, by decide +kernel⟩, List.mem_of_getElem? (i := 484) (by decide +kernel), List.mem_of_getElem? (i := 590) (by decide +kernel), List.mem_of_getElem? (i := 591) (by decide +kernel)⟩
theorem lw_p34 : lw_okq (⟨"TwinPlatesModel", "put", "(IIII)V"⟩, 11) := ⟨⟨by decide +kernel, by decide +kernel⟩, List.mem_of_getElem? (i := 484) (by decide +kernel), List.mem_of_getElem? (i := 594) (by decide +kernel), List.mem_of_getElem? (i := 595) (by decide +kernel)⟩
theorem lw_p35 : lw_okq (⟨"TwinPlatesModel", "ends", "(II)V"⟩, 11) := ⟨⟨by decide +kernel, by decide +kernel⟩, List.mem_of_getElem? (i := 484) (by decide +kernel), List.mem_of_getElem? (i := 601) (by decide +kernel), List.mem_of_getElem? (i := 602) (by decide +kernel)⟩
theorem lw_p36 : lw_okq (⟨"TwinPlatesModel", "nearest", "()I"⟩, 11) := ⟨⟨by decide +kernel, by decide +kernel⟩, List.mem_of_getElem? (i := 484) (by decide +kernel), List.mem_of_getElem? (i := 605) (by decide +kernel), List.mem_of_getElem? (i := 606) (by decide +kernel)⟩
theorem lw_p37 : lw_okq (⟨"TwinPlatesModel", "cuts", "()I"⟩, 11) := ⟨⟨by decide +kernel, by decide +kernel⟩, List.mem_of_getElem? (i := 484) (by decide +kernel), List.mem_of_getElem? (i := 616) (by decide +kernel), List.mem_of_getElem? (i := 617) (by decide +kernel)⟩
theorem lw_p38 : lw_okq (⟨"TwinPlatesModel", "copiesThat", "(I)I"⟩, 11) := ⟨⟨by decide +kernel, by decide +kernel⟩, List.mem_of_getElem? (i := 484) (by decide +kernel), List.mem_of_getElem? (i := 624) (by decide +kernel), List.mem_of_getElem? (i := 625) (by decide +kernel)⟩
theorem lw_p39 : lw_okq (⟨"TwinPlatesModel", "sweeps", "()I"⟩, 11) := ⟨⟨by decide +kernel, by decide +kernel⟩, List.mem_of_getElem? (i := 484) (by decide +kernel), List.mem_of_getElem? (i := 628) (by decide +kernel), List.mem_of_getElem? (i := 629) (by decide +kernel)⟩
theorem lw_p40 : lw_okq (⟨"TwinPlatesModel", "torn", "(I)I"⟩, 11) := ⟨⟨by decide +kernel, by decide +kernel⟩, List.mem_of_getElem? (i := 484) (by decide +kernel), List.mem_of_getElem? (i := 632) (by decide +kernel), List.mem_of_getElem? (i := 633) (by decide +kernel)⟩
theorem lw_p41 : lw_okq (⟨"TwinPlatesModel", "behind", "(I)I"⟩, 11) := ⟨⟨by decide +kernel, by decide +kernel⟩, List.mem_of_getElem? (i := 484) (by decide +kernel), List.mem_of_getElem? (i := 636) (by decide +kernel), List.mem_of_getElem? (i := 637) (by decide +kernel)⟩
theorem lw_p42 : lw_okq (⟨"TwinPlatesModel", "readsAll", "()Z"⟩, 11) := ⟨⟨by decide +kernel, by decide +kernel⟩, List.mem_of_getElem? (i := 484) (by decide +kernel), List.mem_of_getElem? (i := 652) (by decide +kernel), List.mem_of_getElem? (i := 653) (by decide +kernel)⟩
theorem lw_p43 : lw_okq (⟨"TwinPlatesModel", "here", "()I"⟩, 11) := ⟨⟨by decide +kernel, by decide +kernel⟩, List.mem_of_getElem? (i := 484) (by decide +kernel), List.mem_of_getElem? (i := 656) (by decide +kernel), List.mem_of_getElem? (i := 657) (by decide +kernel)⟩
theorem lw_p44 : lw_okq (⟨"TwinPlatesModel", "readsAct", "(I)Z"⟩, 11) := ⟨⟨by decide +kernel, by decide +kernel⟩, List.mem_of_getElem? (i := 484) (by decide +kernel), List.mem_of_getElem? (i := 663) (by decide +kernel), List.mem_of_getElem? (i := 664) (by decide +kernel)⟩
theorem lw_p45 : lw_okq (⟨"TwinPlatesModel", "passesSign", "(I)Z"⟩, 11) := ⟨⟨by decide +kernel, by decide +kernel⟩, List.mem_of_getElem? (i := 484) (by decide +kernel), List.mem_of_getElem? (i := 667) (by decide +kernel), List.mem_of_getElem? (i := 668) (by decide +kernel)⟩
theorem lw_p46 : lw_okq (⟨"TwinPlatesModel", "number", "(I)Z"⟩, 11) := ⟨⟨by decide +kernel, by decide +kernel⟩, List.mem_of_getElem? (i := 484) (by decide +kernel), List.mem_of_getElem? (i := 671) (by decide +kernel), List.mem_of_getElem? (i := 672) (by decide +kernel)⟩
theorem lw_p47 : lw_okq (⟨"TwinPlatesModel", "goes", "(Z)I"⟩, 11) := ⟨⟨by decide +kernel, by decide +kernel⟩, List.mem_of_getElem? (i := 484) (by decide +kernel), List.mem_of_getElem? (i := 675) (by decide +kernel), List.mem_of_getElem? (i := 676) (by decide +kernel)⟩
def lw_privs_3 : List (MethodName × Nat) := [(⟨"TwinPlatesModel", "firstFor", "(II)I"⟩, 11), (⟨"TwinPlatesModel", "writes", "(IIII)V"⟩, 11), (⟨"TwinPlatesModel", "put", "(IIII)V"⟩, 11), (⟨"TwinPlatesModel", "ends", "(II)V"⟩, 11), (⟨"TwinPlatesModel", "nearest", "()I"⟩, 11), (⟨"TwinPlatesModel", "cuts", "()I"⟩, 11), (⟨"TwinPlatesModel", "copiesThat", "(I)I"⟩, 11), (⟨"TwinPlatesModel", "sweeps", "()I"⟩, 11), (⟨"TwinPlatesModel", "torn", "(I)I"⟩, 11), (⟨"TwinPlatesModel", "behind", "(I)I"⟩, 11), (⟨"TwinPlatesModel", "readsAll", "()Z"⟩, 11), (⟨"TwinPlatesModel", "here", "()I"⟩, 11), (⟨"TwinPlatesModel", "readsAct", "(I)Z"⟩, 11), (⟨"TwinPlatesModel", "passesSign", "(I)Z"⟩, 11), (⟨"TwinPlatesModel", "number", "(I)Z"⟩, 11), (⟨"TwinPlatesModel", "goes", "(Z)I"⟩, 11)]
theorem lw_r3 : ∀ q ∈ lw_privs_3, lw_okq q := List.forall_mem_cons.mpr ⟨lw_p32, List.forall_mem_cons.mpr ⟨lw_p33, List.forall_mem_cons.mpr ⟨lw_p34, List.forall_mem_cons.mpr ⟨lw_p35, List.forall_mem_cons.mpr ⟨lw_p36, List.forall_mem_cons.mpr ⟨lw_p37, List.forall_mem_cons.mpr ⟨lw_p38, List.forall_mem_cons.mpr ⟨lw_p39, List.forall_mem_cons.mpr ⟨lw_p40, List.forall_mem_cons.mpr ⟨lw_p41, List.forall_mem_cons.mpr ⟨lw_p42, List.forall_mem_cons.mpr ⟨lw_p43, List.forall_mem_cons.mpr ⟨lw_p44, List.forall_mem_cons.mpr ⟨lw_p45, List.forall_mem_cons.mpr ⟨lw_p46, List.forall_mem_cons.mpr ⟨lw_p47, fun _ h => absurd h List.not_mem_nil⟩⟩⟩⟩⟩⟩⟩⟩⟩⟩⟩⟩⟩⟩⟩⟩
theorem lw_p48 : lw_okq (⟨"TwinPlatesModel", "does", "(I)I"⟩, 11) := ⟨⟨by decide +kernel, by decide +kernel⟩, List.mem_of_getElem? (i := 484) (by decide +kernel), List.mem_of_getElem? (i := 679) (by decide +kernel), List.mem_of_getElem? (i := 680) (by decide +kernel)⟩
theorem lw_p49 : lw_okq (⟨"TwinPlatesModel", "puts", "()V"⟩, 11) := ⟨⟨by decide +kernel, by decide +kernel⟩, List.mem_of_getElem? (i := 484) (by decide +kernel), List.mem_of_getElem? (i := 687) (by decide +kernel), List.mem_of_getElem? (i := 688) (by decide +kernel)⟩
theorem lw_p50 : lw_okq (⟨"TwinPlatesModel", "back", "()V"⟩, 11) := ⟨⟨by decide +kernel, by decide +kernel⟩, List.mem_of_getElem? (i := 484) (by decide +kernel), List.mem_of_getElem? (i := 691) (by decide +kernel), List.mem_of_getElem? (i := 692) (by decide +kernel)⟩
theorem lw_p51 : lw_okq (⟨"TwinPlatesModel", "unlike", "()I"⟩, 11) := ⟨⟨by decide +kernel, by decide +kernel⟩, List.mem_of_getElem? (i := 484) (by decide +kernel), List.mem_of_getElem? (i := 699) (by decide +kernel), List.mem_of_getElem? (i := 700) (by decide +kernel)⟩
theorem lw_p52 : lw_okq (⟨"TwinPlatesModel", "isOrder", "(I)Z"⟩, 11) := ⟨⟨by decide +kernel, by decide +kernel⟩, List.mem_of_getElem? (i := 484) (by decide +kernel), List.mem_of_getElem? (i := 711) (by decide +kernel), List.mem_of_getElem? (i := 712) (by decide +kernel)⟩
theorem lw_p53 : lw_okq (⟨"TwinPlatesModel", "waitOf", "(I)I"⟩, 11) := ⟨⟨by decide +kernel, by decide +kernel⟩, List.mem_of_getElem? (i := 484) (by decide +kernel), List.mem_of_getElem? (i := 719) (by decide +kernel), List.mem_of_getElem? (i := 720) (by decide +kernel)⟩
theorem lw_p54 : lw_okq (⟨"TwinPlatesModel", "ticksTo", "(II)I"⟩, 11) := ⟨⟨by decide +kernel, by decide +kernel⟩, List.mem_of_getElem? (i := 484) (by decide +kernel), List.mem_of_getElem? (i := 727) (by decide +kernel), List.mem_of_getElem? (i := 728) (by decide +kernel)⟩
def lw_privs_4 : List (MethodName × Nat) := [(⟨"TwinPlatesModel", "does", "(I)I"⟩, 11), (⟨"TwinPlatesModel", "puts", "()V"⟩, 11), (⟨"TwinPlatesModel", "back", "()V"⟩, 11), (⟨"TwinPlatesModel", "unlike", "()I"⟩, 11), (⟨"TwinPlatesModel", "isOrder", "(I)Z"⟩, 11), (⟨"TwinPlatesModel", "waitOf", "(I)I"⟩, 11), (⟨"TwinPlatesModel", "ticksTo", "(II)I"⟩, 11)]
theorem lw_r4 : ∀ q ∈ lw_privs_4, lw_okq q := List.forall_mem_cons.mpr ⟨lw_p48, List.forall_mem_cons.mpr ⟨lw_p49, List.forall_mem_cons.mpr ⟨lw_p50, List.forall_mem_cons.mpr ⟨lw_p51, List.forall_mem_cons.mpr ⟨lw_p52, List.forall_mem_cons.mpr ⟨lw_p53, List.forall_mem_cons.mpr ⟨lw_p54, fun _ h => absurd h List.not_mem_nil⟩⟩⟩⟩⟩⟩⟩
def lw_privs : List (MethodName × Nat) := lw_privs_1 ++ (lw_privs_2 ++ (lw_privs_3 ++ (lw_privs_4)))
def lw_tbl : List Cond := k2_sels lw_privs ++ tables_1
theorem lw_privs_ok : ∀ q ∈ lw_privs, lw_okq q := by
  show ∀ q ∈ lw_privs_1 ++ (lw_privs_2 ++ (lw_privs_3 ++ (lw_privs_4))), lw_okq q
  exact List.forall_mem_append.mpr ⟨lw_r1, List.forall_mem_append.mpr ⟨lw_r2, List.forall_mem_append.mpr ⟨lw_r3, lw_r4⟩⟩⟩
end
section
/-! ===== BEGIN words of one list among another's, by their places ===== -/
theorem goodIn_r {big : List Cond} (ws : List Cond) (ps : List Nat) (hp : ws = ps.filterMap (fun i => big[i]?)) (h : ws.all goodWord = true) : GoodIn big ws := by
  intro w hw
  have h1 := List.all_eq_true.mp h w hw
  rw [hp] at hw
  obtain ⟨i, -, hi⟩ := List.mem_filterMap.mp hw
  have hm : w ∈ big := by first | exact List.mem_of_getElem? hi | exact List.getElem?_mem hi
  exact ⟨hm, good_of_word h1⟩
theorem goodIn_app {big a b : List Cond} (ha : GoodIn big a) (hb : GoodIn big b) : GoodIn big (a ++ b) := fun w h => (List.mem_append.mp h).elim (ha w) (hb w)
theorem goodIn_ca {big a b : List Cond} {c : Cond} (ha : GoodIn big (c :: a)) (hb : GoodIn big b) : GoodIn big (c :: (a ++ b)) := fun w h => (List.mem_cons.mp h).elim (fun e => ha w (List.mem_cons.mpr (Or.inl e))) (fun h => (List.mem_append.mp h).elim (fun h => ha w (List.mem_cons.mpr (Or.inr h))) (hb w))
theorem goodIn_sub {big ws : List Cond} (hm : ∀ w ∈ ws, w ∈ big) (h : ws.all goodWord = true) : GoodIn big ws := fun w hw => ⟨hm w hw, good_of_word (List.all_eq_true.mp h w hw)⟩
/-! ===== END ===== -/

/-! ===== BEGIN printed: names, fields, word lists, decode rows ===== -/
def RX0 : String := "TwinPlates$History"
def TX0 : u_T := fun k => match k with
  | 0 => ("TwinPlates$History", "slots", "[LTwinPlates$Plates;", true)
  | 1 => ("TwinPlates$History", "oldest", "I", false)
  | _ => ("TwinPlates$History", "size", "I", false)
def tyX0 : Nat → FieldType := fun k => match k with
  | 0 => .array (.object "TwinPlates$Plates")
  | 1 => .int
  | _ => .int
abbrev wsX00 : List Cond := u_ws RX0 TX0 3
theorem nmX0 : ∀ a, a < 3 → ∀ b, b < 3 → a ≠ b → (TX0 a).2.1 ≠ (TX0 b).2.1 := by decide +kernel
theorem tyX0_ok : ∀ k, k < 3 → parseFieldDescriptor (TX0 k).2.2.1 = some (tyX0 k) := by decide +kernel
abbrev cX0_init : ByteArray := prog_2_method_1_code
def yX0_init : MethodName := ⟨RX0, "<init>", "()V"⟩
abbrev cX0_size : ByteArray := prog_2_method_2_code
def yX0_size : MethodName := ⟨RX0, "size", "()I"⟩
abbrev cX0_note : ByteArray := prog_2_method_3_code
def yX0_note : MethodName := ⟨RX0, "note", "(LTwinPlates$Plates;)V"⟩
abbrev cX0_keepNoted : ByteArray := prog_2_method_4_code
def yX0_keepNoted : MethodName := ⟨RX0, "keepNoted", "()V"⟩
abbrev cX0_restoreNoted : ByteArray := prog_2_method_5_code
def yX0_restoreNoted : MethodName := ⟨RX0, "restoreNoted", "(LTwinPlates$Plates;)V"⟩
abbrev cX0_dropLatest : ByteArray := prog_2_method_6_code
def yX0_dropLatest : MethodName := ⟨RX0, "dropLatest", "()V"⟩
abbrev cX0_noted : ByteArray := prog_2_method_7_code
def yX0_noted : MethodName := ⟨RX0, "noted", "()LTwinPlates$Plates;"⟩
def RX1 : String := "TwinPlates$Plates"
def TX1 : u_T := fun k => match k with
  | 0 => ("TwinPlates$Plates", "copies", "[I", true)
  | 1 => ("TwinPlates$Plates", "orders", "[I", true)
  | 2 => ("TwinPlates$Plates", "written", "[I", true)
  | 3 => ("TwinPlates$Plates", "waitingForBlock", "[I", true)
  | 4 => ("TwinPlates$Plates", "workOnTrack", "[I", true)
  | 5 => ("TwinPlates$Plates", "tick", "I", false)
  | 6 => ("TwinPlates$Plates", "arm", "I", false)
  | 7 => ("TwinPlates$Plates", "taken", "I", false)
  | 8 => ("TwinPlates$Plates", "waiting", "I", false)
  | 9 => ("TwinPlates$Plates", "wiped", "I", false)
  | _ => ("TwinPlates$Plates", "moves", "I", false)
def tyX1 : Nat → FieldType := fun k => match k with
  | 0 => .array .int
  | 1 => .array .int
  | 2 => .array .int
  | 3 => .array .int
  | 4 => .array .int
  | 5 => .int
  | 6 => .int
  | 7 => .int
  | 8 => .int
  | 9 => .int
  | _ => .int
abbrev wsX10 : List Cond := u_ws RX1 TX1 11
theorem nmX1 : ∀ a, a < 11 → ∀ b, b < 11 → a ≠ b → (TX1 a).2.1 ≠ (TX1 b).2.1 := by decide +kernel
theorem tyX1_ok : ∀ k, k < 11 → parseFieldDescriptor (TX1 k).2.2.1 = some (tyX1 k) := by decide +kernel
abbrev cX1_init : ByteArray := prog_3_method_1_code
def yX1_init : MethodName := ⟨RX1, "<init>", "()V"⟩
abbrev cX1_become : ByteArray := prog_3_method_2_code
def yX1_become : MethodName := ⟨RX1, "become", "(LTwinPlates$Plates;)V"⟩
abbrev cX1_isBlock : ByteArray := prog_3_method_3_code
def yX1_isBlock : MethodName := ⟨RX1, "isBlock", "(II)Z"⟩
abbrev cX1_blockAt : ByteArray := prog_3_method_4_code
def yX1_blockAt : MethodName := ⟨RX1, "blockAt", "(II)I"⟩
abbrev cX1_tick : ByteArray := prog_3_method_5_code
def yX1_tick : MethodName := ⟨RX1, "tick", "()I"⟩
abbrev cX1_arm : ByteArray := prog_3_method_6_code
def yX1_arm : MethodName := ⟨RX1, "arm", "()I"⟩
abbrev cX1_taken : ByteArray := prog_3_method_7_code
def yX1_taken : MethodName := ⟨RX1, "taken", "()I"⟩
abbrev cX1_wiped : ByteArray := prog_3_method_8_code
def yX1_wiped : MethodName := ⟨RX1, "wiped", "()I"⟩
abbrev cX1_moves : ByteArray := prog_3_method_9_code
def yX1_moves : MethodName := ⟨RX1, "moves", "()I"⟩
abbrev cX1_sectorUnder : ByteArray := prog_3_method_10_code
def yX1_sectorUnder : MethodName := ⟨RX1, "sectorUnder", "(I)I"⟩
abbrev cX1_ticksUntilOver : ByteArray := prog_3_method_11_code
def yX1_ticksUntilOver : MethodName := ⟨RX1, "ticksUntilOver", "(II)I"⟩
abbrev cX1_hasOrder : ByteArray := prog_3_method_12_code
def yX1_hasOrder : MethodName := ⟨RX1, "hasOrder", "(I)Z"⟩
abbrev cX1_ofOrder : ByteArray := prog_3_method_13_code
def yX1_ofOrder : MethodName := ⟨RX1, "ofOrder", "(II)I"⟩
abbrev cX1_statusOf : ByteArray := prog_3_method_14_code
def yX1_statusOf : MethodName := ⟨RX1, "statusOf", "(I)I"⟩
abbrev cX1_ofCopy : ByteArray := prog_3_method_15_code
def yX1_ofCopy : MethodName := ⟨RX1, "ofCopy", "(IIII)I"⟩
abbrev cX1_countOrders : ByteArray := prog_3_method_16_code
def yX1_countOrders : MethodName := ⟨RX1, "countOrders", "(I)I"⟩
abbrev cX1_countCopies : ByteArray := prog_3_method_17_code
def yX1_countCopies : MethodName := ⟨RX1, "countCopies", "(I)I"⟩
abbrev cX1_countUnlikeBlocks : ByteArray := prog_3_method_18_code
def yX1_countUnlikeBlocks : MethodName := ⟨RX1, "countUnlikeBlocks", "()I"⟩
abbrev cX1_waitOf : ByteArray := prog_3_method_19_code
def yX1_waitOf : MethodName := ⟨RX1, "waitOf", "(I)I"⟩
abbrev cX1_sumOfWaits : ByteArray := prog_3_method_20_code
def yX1_sumOfWaits : MethodName := ⟨RX1, "sumOfWaits", "()I"⟩
abbrev cX1_longestWaiter : ByteArray := prog_3_method_21_code
def yX1_longestWaiter : MethodName := ⟨RX1, "longestWaiter", "()I"⟩
abbrev cX1_hasWork : ByteArray := prog_3_method_22_code
def yX1_hasWork : MethodName := ⟨RX1, "hasWork", "()Z"⟩
abbrev cX1_takeRead : ByteArray := prog_3_method_23_code
def yX1_takeRead : MethodName := ⟨RX1, "takeRead", "(II)I"⟩
abbrev cX1_takeWrite : ByteArray := prog_3_method_24_code
def yX1_takeWrite : MethodName := ⟨RX1, "takeWrite", "(III)I"⟩
abbrev cX1_takeOrder : ByteArray := prog_3_method_25_code
def yX1_takeOrder : MethodName := ⟨RX1, "takeOrder", "(IIII)I"⟩
abbrev cX1_finish : ByteArray := prog_3_method_26_code
def yX1_finish : MethodName := ⟨RX1, "finish", "(III)V"⟩
abbrev cX1_firstWaiting : ByteArray := prog_3_method_27_code
def yX1_firstWaiting : MethodName := ⟨RX1, "firstWaiting", "(III)I"⟩
abbrev cX1_letPass : ByteArray := prog_3_method_28_code
def yX1_letPass : MethodName := ⟨RX1, "letPass", "(I)I"⟩
abbrev cX1_doTick : ByteArray := prog_3_method_29_code
def yX1_doTick : MethodName := ⟨RX1, "doTick", "()V"⟩
abbrev cX1_moveArm : ByteArray := prog_3_method_30_code
def yX1_moveArm : MethodName := ⟨RX1, "moveArm", "()V"⟩
abbrev cX1_useHead : ByteArray := prog_3_method_31_code
def yX1_useHead : MethodName := ⟨RX1, "useHead", "(I)V"⟩
abbrev cX1_doWrite : ByteArray := prog_3_method_32_code
def yX1_doWrite : MethodName := ⟨RX1, "doWrite", "(IIII)V"⟩
abbrev cX1_cellOf : ByteArray := prog_3_method_33_code
def yX1_cellOf : MethodName := ⟨RX1, "cellOf", "(II)I"⟩
abbrev cX1_takeOver : ByteArray := prog_3_method_34_code
def yX1_takeOver : MethodName := ⟨RX1, "takeOver", "(II)V"⟩
abbrev cX1_setWhole : ByteArray := prog_3_method_35_code
def yX1_setWhole : MethodName := ⟨RX1, "setWhole", "(III)V"⟩
abbrev cX1_setLate : ByteArray := prog_3_method_36_code
def yX1_setLate : MethodName := ⟨RX1, "setLate", "(II)V"⟩
abbrev cX1_forgetWritten : ByteArray := prog_3_method_37_code
def yX1_forgetWritten : MethodName := ⟨RX1, "forgetWritten", "()V"⟩
abbrev cX1_cutPower : ByteArray := prog_3_method_38_code
def yX1_cutPower : MethodName := ⟨RX1, "cutPower", "()I"⟩
abbrev cX1_dropWork : ByteArray := prog_3_method_39_code
def yX1_dropWork : MethodName := ⟨RX1, "dropWork", "()V"⟩
abbrev cX1_sweepBlocks : ByteArray := prog_3_method_40_code
def yX1_sweepBlocks : MethodName := ⟨RX1, "sweepBlocks", "()I"⟩
abbrev cX1_repairBlocks : ByteArray := prog_3_method_41_code
def yX1_repairBlocks : MethodName := ⟨RX1, "repairBlocks", "()I"⟩
abbrev cX1_repair : ByteArray := prog_3_method_42_code
def yX1_repair : MethodName := ⟨RX1, "repair", "(II)I"⟩
def RX2 : String := "TwinPlates$Program"
def TX2 : u_T := fun k => match k with
  | 0 => ("TwinPlates$Program", "text", "[I", true)
  | 1 => ("TwinPlates$Program", "length", "I", false)
  | 2 => ("TwinPlates$Program", "numbers", "[I", true)
  | 3 => ("TwinPlates$Program", "letters", "[I", true)
  | 4 => ("TwinPlates$Program", "steps", "I", false)
  | 5 => ("TwinPlates$Program", "groupTimes", "[I", true)
  | 6 => ("TwinPlates$Program", "groupStart", "[I", true)
  | 7 => ("TwinPlates$Program", "depth", "I", false)
  | _ => ("TwinPlates$Program", "place", "I", false)
def tyX2 : Nat → FieldType := fun k => match k with
  | 0 => .array .int
  | 1 => .int
  | 2 => .array .int
  | 3 => .array .int
  | 4 => .int
  | 5 => .array .int
  | 6 => .array .int
  | 7 => .int
  | _ => .int
abbrev wsX20 : List Cond := u_ws RX2 TX2 9
theorem nmX2 : ∀ a, a < 9 → ∀ b, b < 9 → a ≠ b → (TX2 a).2.1 ≠ (TX2 b).2.1 := by decide +kernel
theorem tyX2_ok : ∀ k, k < 9 → parseFieldDescriptor (TX2 k).2.2.1 = some (tyX2 k) := by decide +kernel
abbrev cX2_init : ByteArray := prog_4_method_1_code
def yX2_init : MethodName := ⟨RX2, "<init>", "()V"⟩
abbrev cX2_length : ByteArray := prog_4_method_2_code
def yX2_length : MethodName := ⟨RX2, "length", "()I"⟩
abbrev cX2_isFull : ByteArray := prog_4_method_3_code
def yX2_isFull : MethodName := ⟨RX2, "isFull", "()Z"⟩
abbrev cX2_addSign : ByteArray := prog_4_method_4_code
def yX2_addSign : MethodName := ⟨RX2, "addSign", "(I)V"⟩
abbrev cX2_makeEmpty : ByteArray := prog_4_method_5_code
def yX2_makeEmpty : MethodName := ⟨RX2, "makeEmpty", "()V"⟩
abbrev cX2_signAt : ByteArray := prog_4_method_6_code
def yX2_signAt : MethodName := ⟨RX2, "signAt", "(I)I"⟩
abbrev cX2_steps : ByteArray := prog_4_method_7_code
def yX2_steps : MethodName := ⟨RX2, "steps", "()I"⟩
abbrev cX2_hasTooManySteps : ByteArray := prog_4_method_8_code
def yX2_hasTooManySteps : MethodName := ⟨RX2, "hasTooManySteps", "()Z"⟩
abbrev cX2_letterOfStep : ByteArray := prog_4_method_9_code
def yX2_letterOfStep : MethodName := ⟨RX2, "letterOfStep", "(I)I"⟩
abbrev cX2_numberBehind : ByteArray := prog_4_method_10_code
def yX2_numberBehind : MethodName := ⟨RX2, "numberBehind", "(II)I"⟩
abbrev cX2_place : ByteArray := prog_4_method_11_code
def yX2_place : MethodName := ⟨RX2, "place", "()I"⟩
abbrev cX2_isUnderstood : ByteArray := prog_4_method_12_code
def yX2_isUnderstood : MethodName := ⟨RX2, "isUnderstood", "()Z"⟩
abbrev cX2_readPiece : ByteArray := prog_4_method_13_code
def yX2_readPiece : MethodName := ⟨RX2, "readPiece", "()Z"⟩
abbrev cX2_openGroup : ByteArray := prog_4_method_14_code
def yX2_openGroup : MethodName := ⟨RX2, "openGroup", "()Z"⟩
abbrev cX2_closeGroup : ByteArray := prog_4_method_15_code
def yX2_closeGroup : MethodName := ⟨RX2, "closeGroup", "()Z"⟩
abbrev cX2_addStep : ByteArray := prog_4_method_16_code
def yX2_addStep : MethodName := ⟨RX2, "addStep", "(I)V"⟩
abbrev cX2_readAct : ByteArray := prog_4_method_17_code
def yX2_readAct : MethodName := ⟨RX2, "readAct", "()Z"⟩
abbrev cX2_readSign : ByteArray := prog_4_method_18_code
def yX2_readSign : MethodName := ⟨RX2, "readSign", "(I)Z"⟩
abbrev cX2_readNumber : ByteArray := prog_4_method_19_code
def yX2_readNumber : MethodName := ⟨RX2, "readNumber", "(III)Z"⟩
abbrev cX2_isDigit : ByteArray := prog_4_method_20_code
def yX2_isDigit : MethodName := ⟨RX2, "isDigit", "(I)Z"⟩
def RX3 : String := "TwinPlates"
def TX3 : u_T := fun k => match k with
  | 0 => ("TwinPlates", "now", "LTwinPlates$Plates;", true)
  | 1 => ("TwinPlates", "forecast", "LTwinPlates$Plates;", true)
  | 2 => ("TwinPlates", "history", "LTwinPlates$History;", true)
  | _ => ("TwinPlates", "program", "LTwinPlates$Program;", true)
def tyX3 : Nat → FieldType := fun k => match k with
  | 0 => .object "TwinPlates$Plates"
  | 1 => .object "TwinPlates$Plates"
  | 2 => .object "TwinPlates$History"
  | _ => .object "TwinPlates$Program"
abbrev wsX30 : List Cond := u_ws RX3 TX3 4
theorem nmX3 : ∀ a, a < 4 → ∀ b, b < 4 → a ≠ b → (TX3 a).2.1 ≠ (TX3 b).2.1 := by decide +kernel
theorem tyX3_ok : ∀ k, k < 4 → parseFieldDescriptor (TX3 k).2.2.1 = some (tyX3 k) := by decide +kernel
abbrev cX3_init : ByteArray := prog_1_method_1_code
def yX3_init : MethodName := ⟨RX3, "<init>", "()V"⟩
abbrev cX3_read : ByteArray := prog_1_method_2_code
def yX3_read : MethodName := ⟨RX3, "read", "(II)I"⟩
abbrev cX3_write : ByteArray := prog_1_method_3_code
def yX3_write : MethodName := ⟨RX3, "write", "(III)I"⟩
abbrev cX3_pass : ByteArray := prog_1_method_4_code
def yX3_pass : MethodName := ⟨RX3, "pass", "(I)I"⟩
abbrev cX3_cut : ByteArray := prog_1_method_5_code
def yX3_cut : MethodName := ⟨RX3, "cut", "()I"⟩
abbrev cX3_sweep : ByteArray := prog_1_method_6_code
def yX3_sweep : MethodName := ⟨RX3, "sweep", "()I"⟩
abbrev cX3_undo : ByteArray := prog_1_method_7_code
def yX3_undo : MethodName := ⟨RX3, "undo", "()I"⟩
abbrev cX3_append : ByteArray := prog_1_method_8_code
def yX3_append : MethodName := ⟨RX3, "append", "(I)I"⟩
abbrev cX3_clearText : ByteArray := prog_1_method_9_code
def yX3_clearText : MethodName := ⟨RX3, "clearText", "()I"⟩
abbrev cX3_run : ByteArray := prog_1_method_10_code
def yX3_run : MethodName := ⟨RX3, "run", "()I"⟩
abbrev cX3_count : ByteArray := prog_1_method_11_code
def yX3_count : MethodName := ⟨RX3, "count", "(I)I"⟩
abbrev cX3_copy : ByteArray := prog_1_method_12_code
def yX3_copy : MethodName := ⟨RX3, "copy", "(IIII)I"⟩
abbrev cX3_order : ByteArray := prog_1_method_13_code
def yX3_order : MethodName := ⟨RX3, "order", "(II)I"⟩
abbrev cX3_waits : ByteArray := prog_1_method_14_code
def yX3_waits : MethodName := ⟨RX3, "waits", "(I)I"⟩
abbrev cX3_nearer : ByteArray := prog_1_method_15_code
def yX3_nearer : MethodName := ⟨RX3, "nearer", "(II)I"⟩
abbrev cX3_doneIn : ByteArray := prog_1_method_16_code
def yX3_doneIn : MethodName := ⟨RX3, "doneIn", "(I)I"⟩
abbrev cX3_idleIn : ByteArray := prog_1_method_17_code
def yX3_idleIn : MethodName := ⟨RX3, "idleIn", "()I"⟩
abbrev cX3_wouldWipe : ByteArray := prog_1_method_18_code
def yX3_wouldWipe : MethodName := ⟨RX3, "wouldWipe", "()I"⟩
abbrev cX3_settle : ByteArray := prog_1_method_19_code
def yX3_settle : MethodName := ⟨RX3, "settle", "(I)I"⟩
abbrev cX3_perform : ByteArray := prog_1_method_20_code
def yX3_perform : MethodName := ⟨RX3, "perform", "(I)I"⟩
def RX4 : String := "TwinPlatesModel"
def TX4 : u_T := fun k => match k with
  | 0 => ("TwinPlatesModel", "now", "[I", true)
  | 1 => ("TwinPlatesModel", "past", "[I", true)
  | 2 => ("TwinPlatesModel", "saved", "I", false)
  | 3 => ("TwinPlatesModel", "aside", "[I", true)
  | 4 => ("TwinPlatesModel", "text", "[I", true)
  | 5 => ("TwinPlatesModel", "length", "I", false)
  | 6 => ("TwinPlatesModel", "at", "I", false)
  | 7 => ("TwinPlatesModel", "isRun", "Z", false)
  | 8 => ("TwinPlatesModel", "start", "[I", true)
  | 9 => ("TwinPlatesModel", "left", "[I", true)
  | _ => ("TwinPlatesModel", "numbers", "[I", true)
def tyX4 : Nat → FieldType := fun k => match k with
  | 0 => .array .int
  | 1 => .array .int
  | 2 => .int
  | 3 => .array .int
  | 4 => .array .int
  | 5 => .int
  | 6 => .int
  | 7 => .boolean
  | 8 => .array .int
  | 9 => .array .int
  | _ => .array .int
abbrev wsX40 : List Cond := u_ws RX4 TX4 11
theorem nmX4 : ∀ a, a < 11 → ∀ b, b < 11 → a ≠ b → (TX4 a).2.1 ≠ (TX4 b).2.1 := by decide +kernel
theorem tyX4_ok : ∀ k, k < 11 → parseFieldDescriptor (TX4 k).2.2.1 = some (tyX4 k) := by decide +kernel
abbrev cX4_init : ByteArray := prog_6_method_1_code
def yX4_init : MethodName := ⟨RX4, "<init>", "()V"⟩
abbrev cX4_within : ByteArray := prog_6_method_2_code
def yX4_within : MethodName := ⟨RX4, "within", "(III)Z"⟩
abbrev cX4_saves : ByteArray := prog_6_method_3_code
def yX4_saves : MethodName := ⟨RX4, "saves", "()V"⟩
abbrev cX4_undo : ByteArray := prog_6_method_4_code
def yX4_undo : MethodName := ⟨RX4, "undo", "()I"⟩
abbrev cX4_puts : ByteArray := prog_6_method_5_code
def yX4_puts : MethodName := ⟨RX4, "puts", "()V"⟩
abbrev cX4_back : ByteArray := prog_6_method_6_code
def yX4_back : MethodName := ⟨RX4, "back", "()V"⟩
abbrev cX4_isBlock : ByteArray := prog_6_method_7_code
def yX4_isBlock : MethodName := ⟨RX4, "isBlock", "(II)Z"⟩
abbrev cX4_of : ByteArray := prog_6_method_8_code
def yX4_of : MethodName := ⟨RX4, "of", "(III)I"⟩
abbrev cX4_put : ByteArray := prog_6_method_9_code
def yX4_put : MethodName := ⟨RX4, "put", "(IIII)V"⟩
abbrev cX4_told : ByteArray := prog_6_method_10_code
def yX4_told : MethodName := ⟨RX4, "told", "(II)I"⟩
abbrev cX4_tell : ByteArray := prog_6_method_11_code
def yX4_tell : MethodName := ⟨RX4, "tell", "(III)V"⟩
abbrev cX4_inState : ByteArray := prog_6_method_12_code
def yX4_inState : MethodName := ⟨RX4, "inState", "(I)I"⟩
abbrev cX4_takes : ByteArray := prog_6_method_13_code
def yX4_takes : MethodName := ⟨RX4, "takes", "(IIII)I"⟩
abbrev cX4_read : ByteArray := prog_6_method_14_code
def yX4_read : MethodName := ⟨RX4, "read", "(II)I"⟩
abbrev cX4_write : ByteArray := prog_6_method_15_code
def yX4_write : MethodName := ⟨RX4, "write", "(III)I"⟩
abbrev cX4_hasWork : ByteArray := prog_6_method_16_code
def yX4_hasWork : MethodName := ⟨RX4, "hasWork", "(I)Z"⟩
abbrev cX4_size : ByteArray := prog_6_method_17_code
def yX4_size : MethodName := ⟨RX4, "size", "(I)I"⟩
abbrev cX4_nearest : ByteArray := prog_6_method_18_code
def yX4_nearest : MethodName := ⟨RX4, "nearest", "()I"⟩
abbrev cX4_firstFor : ByteArray := prog_6_method_19_code
def yX4_firstFor : MethodName := ⟨RX4, "firstFor", "(II)I"⟩
abbrev cX4_ends : ByteArray := prog_6_method_20_code
def yX4_ends : MethodName := ⟨RX4, "ends", "(II)V"⟩
abbrev cX4_writes : ByteArray := prog_6_method_21_code
def yX4_writes : MethodName := ⟨RX4, "writes", "(IIII)V"⟩
abbrev cX4_sectorUnder : ByteArray := prog_6_method_22_code
def yX4_sectorUnder : MethodName := ⟨RX4, "sectorUnder", "(I)I"⟩
abbrev cX4_most : ByteArray := prog_6_method_23_code
def yX4_most : MethodName := ⟨RX4, "most", "(II)I"⟩
abbrev cX4_heads : ByteArray := prog_6_method_24_code
def yX4_heads : MethodName := ⟨RX4, "heads", "(I)V"⟩
abbrev cX4_passes : ByteArray := prog_6_method_25_code
def yX4_passes : MethodName := ⟨RX4, "passes", "()V"⟩
abbrev cX4_pass : ByteArray := prog_6_method_26_code
def yX4_pass : MethodName := ⟨RX4, "pass", "(I)I"⟩
abbrev cX4_cuts : ByteArray := prog_6_method_27_code
def yX4_cuts : MethodName := ⟨RX4, "cuts", "()I"⟩
abbrev cX4_cut : ByteArray := prog_6_method_28_code
def yX4_cut : MethodName := ⟨RX4, "cut", "()I"⟩
abbrev cX4_copiesThat : ByteArray := prog_6_method_29_code
def yX4_copiesThat : MethodName := ⟨RX4, "copiesThat", "(I)I"⟩
abbrev cX4_torn : ByteArray := prog_6_method_30_code
def yX4_torn : MethodName := ⟨RX4, "torn", "(I)I"⟩
abbrev cX4_behind : ByteArray := prog_6_method_31_code
def yX4_behind : MethodName := ⟨RX4, "behind", "(I)I"⟩
abbrev cX4_sweeps : ByteArray := prog_6_method_32_code
def yX4_sweeps : MethodName := ⟨RX4, "sweeps", "()I"⟩
abbrev cX4_sweep : ByteArray := prog_6_method_33_code
def yX4_sweep : MethodName := ⟨RX4, "sweep", "()I"⟩
abbrev cX4_append : ByteArray := prog_6_method_34_code
def yX4_append : MethodName := ⟨RX4, "append", "(I)I"⟩
abbrev cX4_clearText : ByteArray := prog_6_method_35_code
def yX4_clearText : MethodName := ⟨RX4, "clearText", "()I"⟩
abbrev cX4_here : ByteArray := prog_6_method_36_code
def yX4_here : MethodName := ⟨RX4, "here", "()I"⟩
abbrev cX4_number : ByteArray := prog_6_method_37_code
def yX4_number : MethodName := ⟨RX4, "number", "(I)Z"⟩
abbrev cX4_passesSign : ByteArray := prog_6_method_38_code
def yX4_passesSign : MethodName := ⟨RX4, "passesSign", "(I)Z"⟩
abbrev cX4_readsAct : ByteArray := prog_6_method_39_code
def yX4_readsAct : MethodName := ⟨RX4, "readsAct", "(I)Z"⟩
abbrev cX4_isLetter : ByteArray := prog_6_method_40_code
def yX4_isLetter : MethodName := ⟨RX4, "isLetter", "(I)Z"⟩
abbrev cX4_readsAll : ByteArray := prog_6_method_41_code
def yX4_readsAll : MethodName := ⟨RX4, "readsAll", "()Z"⟩
abbrev cX4_does : ByteArray := prog_6_method_42_code
def yX4_does : MethodName := ⟨RX4, "does", "(I)I"⟩
abbrev cX4_goes : ByteArray := prog_6_method_43_code
def yX4_goes : MethodName := ⟨RX4, "goes", "(Z)I"⟩
abbrev cX4_run : ByteArray := prog_6_method_44_code
def yX4_run : MethodName := ⟨RX4, "run", "()I"⟩
abbrev cX4_unlike : ByteArray := prog_6_method_45_code
def yX4_unlike : MethodName := ⟨RX4, "unlike", "()I"⟩
abbrev cX4_count : ByteArray := prog_6_method_46_code
def yX4_count : MethodName := ⟨RX4, "count", "(I)I"⟩
abbrev cX4_copy : ByteArray := prog_6_method_47_code
def yX4_copy : MethodName := ⟨RX4, "copy", "(IIII)I"⟩
abbrev cX4_isOrder : ByteArray := prog_6_method_48_code
def yX4_isOrder : MethodName := ⟨RX4, "isOrder", "(I)Z"⟩
abbrev cX4_order : ByteArray := prog_6_method_49_code
def yX4_order : MethodName := ⟨RX4, "order", "(II)I"⟩
abbrev cX4_waitOf : ByteArray := prog_6_method_50_code
def yX4_waitOf : MethodName := ⟨RX4, "waitOf", "(I)I"⟩
abbrev cX4_waits : ByteArray := prog_6_method_51_code
def yX4_waits : MethodName := ⟨RX4, "waits", "(I)I"⟩
abbrev cX4_ticksTo : ByteArray := prog_6_method_52_code
def yX4_ticksTo : MethodName := ⟨RX4, "ticksTo", "(II)I"⟩
abbrev cX4_nearer : ByteArray := prog_6_method_53_code
def yX4_nearer : MethodName := ⟨RX4, "nearer", "(II)I"⟩
abbrev cX4_doneIn : ByteArray := prog_6_method_54_code
def yX4_doneIn : MethodName := ⟨RX4, "doneIn", "(I)I"⟩
abbrev cX4_idleIn : ByteArray := prog_6_method_55_code
def yX4_idleIn : MethodName := ⟨RX4, "idleIn", "()I"⟩
abbrev cX4_wouldWipe : ByteArray := prog_6_method_56_code
def yX4_wouldWipe : MethodName := ⟨RX4, "wouldWipe", "()I"⟩
def RJ9 : String := "java/lang/Math"
def TJ9 : u_T := fun k => match k with
  | _ => ("", "", "", false)
def tyJ9 : Nat → FieldType := fun k => match k with
  | _ => .int
abbrev wsJ90 : List Cond := u_ws RJ9 TJ9 0
theorem nmJ9 : ∀ a, a < 0 → ∀ b, b < 0 → a ≠ b → (TJ9 a).2.1 ≠ (TJ9 b).2.1 := by decide +kernel
theorem tyJ9_ok : ∀ k, k < 0 → parseFieldDescriptor (TJ9 k).2.2.1 = some (tyJ9 k) := by decide +kernel
abbrev cJ9_floorMod_7cf53 : ByteArray := prog_7_method_50_code
def yJ9_floorMod_7cf53 : MethodName := ⟨RJ9, "floorMod", "(II)I"⟩
abbrev cJ9_max_7cf53 : ByteArray := prog_7_method_65_code
def yJ9_max_7cf53 : MethodName := ⟨RJ9, "max", "(II)I"⟩
abbrev cJ9_min_7cf53 : ByteArray := prog_7_method_69_code
def yJ9_min_7cf53 : MethodName := ⟨RJ9, "min", "(II)I"⟩
def RJ10 : String := "java/lang/System"
def TJ10 : u_T := fun k => match k with
  | _ => ("", "", "", false)
def tyJ10 : Nat → FieldType := fun k => match k with
  | _ => .int
abbrev wsJ100 : List Cond := u_ws RJ10 TJ10 0
theorem nmJ10 : ∀ a, a < 0 → ∀ b, b < 0 → a ≠ b → (TJ10 a).2.1 ≠ (TJ10 b).2.1 := by decide +kernel
theorem tyJ10_ok : ∀ k, k < 0 → parseFieldDescriptor (TJ10 k).2.2.1 = some (tyJ10 k) := by decide +kernel
def RL : String := "TwinPlatesLaw"
abbrev cL_law : ByteArray := code
def yL_law : MethodName := ⟨RL, "law", "([I)Z"⟩
def wsX1_forgetWritten : List Cond := .code yX1_forgetWritten cX1_forgetWritten 2 none :: ([.fieldLink RX1 18 "TwinPlates$Plates" "written" "[I"] ++ wsX10)
def wsX1_init : List Cond := .code yX1_init cX1_init 1 none :: ([.methodLink RX1 5 objectInit, .instanceMethod objectInit, .code objectInit ⟨#[0xb1]⟩ 1 none, .arrayClass .int, .fieldLink RX1 11 "TwinPlates$Plates" "copies" "[I", .fieldLink RX1 15 "TwinPlates$Plates" "orders" "[I", .fieldLink RX1 18 "TwinPlates$Plates" "written" "[I", .fieldLink RX1 21 "TwinPlates$Plates" "waitingForBlock" "[I", .fieldLink RX1 24 "TwinPlates$Plates" "workOnTrack" "[I", .methodLink RX1 27 yX1_forgetWritten, .instanceMethod yX1_forgetWritten, .selects RX1 yX1_forgetWritten yX1_forgetWritten, .initialized RX1, .code yX1_forgetWritten cX1_forgetWritten 2 none] ++ wsX10)
def wsX0_init : List Cond := .code yX0_init cX0_init 2 none :: ([.methodLink RX0 3 objectInit, .instanceMethod objectInit, .code objectInit ⟨#[0xb1]⟩ 1 none, .classLink RX0 9 RX1, .fieldLink RX0 11 "TwinPlates$History" "slots" "[LTwinPlates$Plates;", .instantiable RX1 11, .initialized RX1, .methodLink RX0 15 yX1_init, .instanceMethod yX1_init, .code yX1_init cX1_init 1 none, .methodLink RX1 5 objectInit, .arrayClass .int, .fieldLink RX1 11 "TwinPlates$Plates" "copies" "[I", .fieldLink RX1 15 "TwinPlates$Plates" "orders" "[I", .fieldLink RX1 18 "TwinPlates$Plates" "written" "[I", .fieldLink RX1 21 "TwinPlates$Plates" "waitingForBlock" "[I", .fieldLink RX1 24 "TwinPlates$Plates" "workOnTrack" "[I", .methodLink RX1 27 yX1_forgetWritten, .instanceMethod yX1_forgetWritten, .selects RX1 yX1_forgetWritten yX1_forgetWritten, .code yX1_forgetWritten cX1_forgetWritten 2 none] ++ wsX00 ++ wsX10)
def wsX0_size : List Cond := .code yX0_size cX0_size 1 (some .int) :: ([.fieldLink RX0 16 "TwinPlates$History" "size" "I"] ++ wsX00)
def wsJ9_floorMod_7cf53 : List Cond := .code yJ9_floorMod_7cf53 cJ9_floorMod_7cf53 3 (some .int) :: ([])
def wsX0_noted : List Cond := .code yX0_noted cX0_noted 1 (some (.object "TwinPlates$Plates")) :: ([.fieldLink RX0 11 "TwinPlates$History" "slots" "[LTwinPlates$Plates;", .fieldLink RX0 28 "TwinPlates$History" "oldest" "I", .fieldLink RX0 16 "TwinPlates$History" "size" "I", .methodLink RX0 31 yJ9_floorMod_7cf53, .static yJ9_floorMod_7cf53, .initialized RJ9, .code yJ9_floorMod_7cf53 cJ9_floorMod_7cf53 3 (some .int)] ++ wsX00)
def wsX1_become : List Cond := .code yX1_become cX1_become 2 none :: ([.fieldLink RX1 11 "TwinPlates$Plates" "copies" "[I", .methodLink RX1 30 arraycopyName, .native arraycopyName, .static arraycopyName, .initialized "java/lang/System", .fieldLink RX1 15 "TwinPlates$Plates" "orders" "[I", .fieldLink RX1 18 "TwinPlates$Plates" "written" "[I", .fieldLink RX1 21 "TwinPlates$Plates" "waitingForBlock" "[I", .fieldLink RX1 24 "TwinPlates$Plates" "workOnTrack" "[I", .fieldLink RX1 36 "TwinPlates$Plates" "tick" "I", .fieldLink RX1 40 "TwinPlates$Plates" "arm" "I", .fieldLink RX1 43 "TwinPlates$Plates" "taken" "I", .fieldLink RX1 46 "TwinPlates$Plates" "waiting" "I", .fieldLink RX1 49 "TwinPlates$Plates" "wiped" "I", .fieldLink RX1 52 "TwinPlates$Plates" "moves" "I"] ++ wsX10)
def wsX0_note_r1 : List Cond := [Cond.methodLink RX0 20 yX0_noted, Cond.instanceMethod yX0_noted, Cond.selects RX0 yX0_noted yX0_noted, Cond.initialized RX0, Cond.code yX0_noted cX0_noted 1 (some (.object "TwinPlates$Plates")), Cond.fieldLink RX0 11 "TwinPlates$History" "slots" "[LTwinPlates$Plates;", Cond.fieldLink RX0 28 "TwinPlates$History" "oldest" "I", Cond.fieldLink RX0 16 "TwinPlates$History" "size" "I", Cond.methodLink RX0 31 yJ9_floorMod_7cf53, Cond.static yJ9_floorMod_7cf53, Cond.initialized RJ9, Cond.code yJ9_floorMod_7cf53 cJ9_floorMod_7cf53 3 (some .int), Cond.methodLink RX0 24 yX1_become, Cond.instanceMethod yX1_become, Cond.selects RX1 yX1_become yX1_become, Cond.initialized RX1, Cond.code yX1_become cX1_become 2 none, Cond.fieldLink RX1 11 "TwinPlates$Plates" "copies" "[I", Cond.methodLink RX1 30 arraycopyName, Cond.native arraycopyName, Cond.static arraycopyName, Cond.initialized "java/lang/System", Cond.fieldLink RX1 15 "TwinPlates$Plates" "orders" "[I", Cond.fieldLink RX1 18 "TwinPlates$Plates" "written" "[I"]
def wsX0_note_r2 : List Cond := [Cond.fieldLink RX1 21 "TwinPlates$Plates" "waitingForBlock" "[I", Cond.fieldLink RX1 24 "TwinPlates$Plates" "workOnTrack" "[I", Cond.fieldLink RX1 36 "TwinPlates$Plates" "tick" "I", Cond.fieldLink RX1 40 "TwinPlates$Plates" "arm" "I", Cond.fieldLink RX1 43 "TwinPlates$Plates" "taken" "I", Cond.fieldLink RX1 46 "TwinPlates$Plates" "waiting" "I", Cond.fieldLink RX1 49 "TwinPlates$Plates" "wiped" "I", Cond.fieldLink RX1 52 "TwinPlates$Plates" "moves" "I"]
def wsX0_note : List Cond := .code yX0_note cX0_note 2 none :: ((wsX0_note_r1 ++ wsX0_note_r2) ++ wsX00 ++ wsX10)
def wsX0_keepNoted : List Cond := .code yX0_keepNoted cX0_keepNoted 1 none :: ([.fieldLink RX0 16 "TwinPlates$History" "size" "I", .fieldLink RX0 28 "TwinPlates$History" "oldest" "I", .methodLink RX0 31 yJ9_floorMod_7cf53, .static yJ9_floorMod_7cf53, .initialized RJ9, .code yJ9_floorMod_7cf53 cJ9_floorMod_7cf53 3 (some .int)] ++ wsX00)
def wsX0_restoreNoted_r1 : List Cond := [Cond.methodLink RX0 20 yX0_noted, Cond.instanceMethod yX0_noted, Cond.selects RX0 yX0_noted yX0_noted, Cond.initialized RX0, Cond.code yX0_noted cX0_noted 1 (some (.object "TwinPlates$Plates")), Cond.fieldLink RX0 11 "TwinPlates$History" "slots" "[LTwinPlates$Plates;", Cond.fieldLink RX0 28 "TwinPlates$History" "oldest" "I", Cond.fieldLink RX0 16 "TwinPlates$History" "size" "I", Cond.methodLink RX0 31 yJ9_floorMod_7cf53, Cond.static yJ9_floorMod_7cf53, Cond.initialized RJ9, Cond.code yJ9_floorMod_7cf53 cJ9_floorMod_7cf53 3 (some .int), Cond.methodLink RX0 24 yX1_become, Cond.instanceMethod yX1_become, Cond.selects RX1 yX1_become yX1_become, Cond.initialized RX1, Cond.code yX1_become cX1_become 2 none, Cond.fieldLink RX1 11 "TwinPlates$Plates" "copies" "[I", Cond.methodLink RX1 30 arraycopyName, Cond.native arraycopyName, Cond.static arraycopyName, Cond.initialized "java/lang/System", Cond.fieldLink RX1 15 "TwinPlates$Plates" "orders" "[I", Cond.fieldLink RX1 18 "TwinPlates$Plates" "written" "[I"]
def wsX0_restoreNoted_r2 : List Cond := [Cond.fieldLink RX1 21 "TwinPlates$Plates" "waitingForBlock" "[I", Cond.fieldLink RX1 24 "TwinPlates$Plates" "workOnTrack" "[I", Cond.fieldLink RX1 36 "TwinPlates$Plates" "tick" "I", Cond.fieldLink RX1 40 "TwinPlates$Plates" "arm" "I", Cond.fieldLink RX1 43 "TwinPlates$Plates" "taken" "I", Cond.fieldLink RX1 46 "TwinPlates$Plates" "waiting" "I", Cond.fieldLink RX1 49 "TwinPlates$Plates" "wiped" "I", Cond.fieldLink RX1 52 "TwinPlates$Plates" "moves" "I"]
def wsX0_restoreNoted : List Cond := .code yX0_restoreNoted cX0_restoreNoted 2 none :: ((wsX0_restoreNoted_r1 ++ wsX0_restoreNoted_r2) ++ wsX00 ++ wsX10)
def wsX0_dropLatest : List Cond := .code yX0_dropLatest cX0_dropLatest 1 none :: ([.fieldLink RX0 16 "TwinPlates$History" "size" "I"] ++ wsX00)
def wsX1_isBlock : List Cond := .code yX1_isBlock cX1_isBlock 2 (some .boolean) :: ([])
def wsX1_blockAt : List Cond := .code yX1_blockAt cX1_blockAt 2 (some .int) :: ([])
def wsX1_tick : List Cond := .code yX1_tick cX1_tick 1 (some .int) :: ([.fieldLink RX1 36 "TwinPlates$Plates" "tick" "I"] ++ wsX10)
def wsX1_arm : List Cond := .code yX1_arm cX1_arm 1 (some .int) :: ([.fieldLink RX1 40 "TwinPlates$Plates" "arm" "I"] ++ wsX10)
def wsX1_taken : List Cond := .code yX1_taken cX1_taken 1 (some .int) :: ([.fieldLink RX1 43 "TwinPlates$Plates" "taken" "I"] ++ wsX10)
def wsX1_wiped : List Cond := .code yX1_wiped cX1_wiped 1 (some .int) :: ([.fieldLink RX1 49 "TwinPlates$Plates" "wiped" "I"] ++ wsX10)
def wsX1_moves : List Cond := .code yX1_moves cX1_moves 1 (some .int) :: ([.fieldLink RX1 52 "TwinPlates$Plates" "moves" "I"] ++ wsX10)
def wsX1_sectorUnder : List Cond := .code yX1_sectorUnder cX1_sectorUnder 2 (some .int) :: ([.fieldLink RX1 36 "TwinPlates$Plates" "tick" "I", .methodLink RX1 55 yJ9_floorMod_7cf53, .static yJ9_floorMod_7cf53, .initialized RJ9, .code yJ9_floorMod_7cf53 cJ9_floorMod_7cf53 3 (some .int)] ++ wsX10)
def wsX1_ticksUntilOver : List Cond := .code yX1_ticksUntilOver cX1_ticksUntilOver 3 (some .int) :: ([.methodLink RX1 61 yX1_sectorUnder, .instanceMethod yX1_sectorUnder, .selects RX1 yX1_sectorUnder yX1_sectorUnder, .initialized RX1, .code yX1_sectorUnder cX1_sectorUnder 2 (some .int), .fieldLink RX1 36 "TwinPlates$Plates" "tick" "I", .methodLink RX1 55 yJ9_floorMod_7cf53, .static yJ9_floorMod_7cf53, .initialized RJ9, .code yJ9_floorMod_7cf53 cJ9_floorMod_7cf53 3 (some .int)] ++ wsX10)
def wsX1_hasOrder : List Cond := .code yX1_hasOrder cX1_hasOrder 2 (some .boolean) :: ([.fieldLink RX1 43 "TwinPlates$Plates" "taken" "I"] ++ wsX10)
def wsX1_ofOrder : List Cond := .code yX1_ofOrder cX1_ofOrder 3 (some .int) :: ([.fieldLink RX1 15 "TwinPlates$Plates" "orders" "[I"] ++ wsX10)
def wsX1_statusOf : List Cond := .code yX1_statusOf cX1_statusOf 2 (some .int) :: ([.methodLink RX1 65 yX1_ofOrder, .instanceMethod yX1_ofOrder, .selects RX1 yX1_ofOrder yX1_ofOrder, .initialized RX1, .code yX1_ofOrder cX1_ofOrder 3 (some .int), .fieldLink RX1 15 "TwinPlates$Plates" "orders" "[I"] ++ wsX10)
def wsX1_cellOf : List Cond := .code yX1_cellOf cX1_cellOf 2 (some .int) :: ([])
def wsX1_ofCopy : List Cond := .code yX1_ofCopy cX1_ofCopy 5 (some .int) :: ([.fieldLink RX1 11 "TwinPlates$Plates" "copies" "[I", .methodLink RX1 68 yX1_blockAt, .static yX1_blockAt, .initialized RX1, .code yX1_blockAt cX1_blockAt 2 (some .int), .methodLink RX1 71 yX1_cellOf, .static yX1_cellOf, .code yX1_cellOf cX1_cellOf 2 (some .int)] ++ wsX10)
def wsX1_countOrders : List Cond := .code yX1_countOrders cX1_countOrders 4 (some .int) :: ([.fieldLink RX1 43 "TwinPlates$Plates" "taken" "I", .methodLink RX1 74 yX1_statusOf, .instanceMethod yX1_statusOf, .selects RX1 yX1_statusOf yX1_statusOf, .initialized RX1, .code yX1_statusOf cX1_statusOf 2 (some .int), .methodLink RX1 65 yX1_ofOrder, .instanceMethod yX1_ofOrder, .selects RX1 yX1_ofOrder yX1_ofOrder, .code yX1_ofOrder cX1_ofOrder 3 (some .int), .fieldLink RX1 15 "TwinPlates$Plates" "orders" "[I"] ++ wsX10)
def wsX1_countCopies : List Cond := .code yX1_countCopies cX1_countCopies 4 (some .int) :: ([.fieldLink RX1 11 "TwinPlates$Plates" "copies" "[I", .methodLink RX1 71 yX1_cellOf, .static yX1_cellOf, .initialized RX1, .code yX1_cellOf cX1_cellOf 2 (some .int)] ++ wsX10)
def wsX1_countUnlikeBlocks : List Cond := .code yX1_countUnlikeBlocks cX1_countUnlikeBlocks 5 (some .int) :: ([.fieldLink RX1 11 "TwinPlates$Plates" "copies" "[I", .methodLink RX1 71 yX1_cellOf, .static yX1_cellOf, .initialized RX1, .code yX1_cellOf cX1_cellOf 2 (some .int)] ++ wsX10)
def wsX1_waitOf : List Cond := .code yX1_waitOf cX1_waitOf 2 (some .int) :: ([.methodLink RX1 65 yX1_ofOrder, .instanceMethod yX1_ofOrder, .selects RX1 yX1_ofOrder yX1_ofOrder, .initialized RX1, .code yX1_ofOrder cX1_ofOrder 3 (some .int), .fieldLink RX1 15 "TwinPlates$Plates" "orders" "[I"] ++ wsX10)
def wsX1_sumOfWaits : List Cond := .code yX1_sumOfWaits cX1_sumOfWaits 3 (some .int) :: ([.fieldLink RX1 43 "TwinPlates$Plates" "taken" "I", .methodLink RX1 74 yX1_statusOf, .instanceMethod yX1_statusOf, .selects RX1 yX1_statusOf yX1_statusOf, .initialized RX1, .code yX1_statusOf cX1_statusOf 2 (some .int), .methodLink RX1 65 yX1_ofOrder, .instanceMethod yX1_ofOrder, .selects RX1 yX1_ofOrder yX1_ofOrder, .code yX1_ofOrder cX1_ofOrder 3 (some .int), .fieldLink RX1 15 "TwinPlates$Plates" "orders" "[I", .methodLink RX1 77 yX1_waitOf, .instanceMethod yX1_waitOf, .selects RX1 yX1_waitOf yX1_waitOf, .code yX1_waitOf cX1_waitOf 2 (some .int)] ++ wsX10)
def wsX1_longestWaiter : List Cond := .code yX1_longestWaiter cX1_longestWaiter 3 (some .int) :: ([.fieldLink RX1 43 "TwinPlates$Plates" "taken" "I", .methodLink RX1 74 yX1_statusOf, .instanceMethod yX1_statusOf, .selects RX1 yX1_statusOf yX1_statusOf, .initialized RX1, .code yX1_statusOf cX1_statusOf 2 (some .int), .methodLink RX1 65 yX1_ofOrder, .instanceMethod yX1_ofOrder, .selects RX1 yX1_ofOrder yX1_ofOrder, .code yX1_ofOrder cX1_ofOrder 3 (some .int), .fieldLink RX1 15 "TwinPlates$Plates" "orders" "[I", .methodLink RX1 77 yX1_waitOf, .instanceMethod yX1_waitOf, .selects RX1 yX1_waitOf yX1_waitOf, .code yX1_waitOf cX1_waitOf 2 (some .int)] ++ wsX10)
def wsX1_hasWork : List Cond := .code yX1_hasWork cX1_hasWork 2 (some .boolean) :: ([.fieldLink RX1 24 "TwinPlates$Plates" "workOnTrack" "[I"] ++ wsX10)
def wsX1_takeOrder : List Cond := .code yX1_takeOrder cX1_takeOrder 6 (some .int) :: ([.fieldLink RX1 43 "TwinPlates$Plates" "taken" "I", .fieldLink RX1 46 "TwinPlates$Plates" "waiting" "I", .fieldLink RX1 15 "TwinPlates$Plates" "orders" "[I", .fieldLink RX1 36 "TwinPlates$Plates" "tick" "I", .fieldLink RX1 21 "TwinPlates$Plates" "waitingForBlock" "[I", .fieldLink RX1 24 "TwinPlates$Plates" "workOnTrack" "[I", .methodLink RX1 68 yX1_blockAt, .static yX1_blockAt, .initialized RX1, .code yX1_blockAt cX1_blockAt 2 (some .int)] ++ wsX10)
def wsX1_takeRead : List Cond := .code yX1_takeRead cX1_takeRead 3 (some .int) :: ([.methodLink RX1 80 yX1_isBlock, .static yX1_isBlock, .initialized RX1, .code yX1_isBlock cX1_isBlock 2 (some .boolean), .methodLink RX1 84 yX1_takeOrder, .instanceMethod yX1_takeOrder, .selects RX1 yX1_takeOrder yX1_takeOrder, .code yX1_takeOrder cX1_takeOrder 6 (some .int), .fieldLink RX1 43 "TwinPlates$Plates" "taken" "I", .fieldLink RX1 46 "TwinPlates$Plates" "waiting" "I", .fieldLink RX1 15 "TwinPlates$Plates" "orders" "[I", .fieldLink RX1 36 "TwinPlates$Plates" "tick" "I", .fieldLink RX1 21 "TwinPlates$Plates" "waitingForBlock" "[I", .fieldLink RX1 24 "TwinPlates$Plates" "workOnTrack" "[I", .methodLink RX1 68 yX1_blockAt, .static yX1_blockAt, .code yX1_blockAt cX1_blockAt 2 (some .int)] ++ wsX10)
def wsX1_takeWrite : List Cond := .code yX1_takeWrite cX1_takeWrite 4 (some .int) :: ([.methodLink RX1 80 yX1_isBlock, .static yX1_isBlock, .initialized RX1, .code yX1_isBlock cX1_isBlock 2 (some .boolean), .methodLink RX1 84 yX1_takeOrder, .instanceMethod yX1_takeOrder, .selects RX1 yX1_takeOrder yX1_takeOrder, .code yX1_takeOrder cX1_takeOrder 6 (some .int), .fieldLink RX1 43 "TwinPlates$Plates" "taken" "I", .fieldLink RX1 46 "TwinPlates$Plates" "waiting" "I", .fieldLink RX1 15 "TwinPlates$Plates" "orders" "[I", .fieldLink RX1 36 "TwinPlates$Plates" "tick" "I", .fieldLink RX1 21 "TwinPlates$Plates" "waitingForBlock" "[I", .fieldLink RX1 24 "TwinPlates$Plates" "workOnTrack" "[I", .methodLink RX1 68 yX1_blockAt, .static yX1_blockAt, .code yX1_blockAt cX1_blockAt 2 (some .int)] ++ wsX10)
def wsX1_finish : List Cond := .code yX1_finish cX1_finish 5 none :: ([.fieldLink RX1 15 "TwinPlates$Plates" "orders" "[I", .fieldLink RX1 36 "TwinPlates$Plates" "tick" "I", .fieldLink RX1 46 "TwinPlates$Plates" "waiting" "I", .fieldLink RX1 21 "TwinPlates$Plates" "waitingForBlock" "[I", .fieldLink RX1 24 "TwinPlates$Plates" "workOnTrack" "[I"] ++ wsX10)
def wsX1_firstWaiting : List Cond := .code yX1_firstWaiting cX1_firstWaiting 6 (some .int) :: ([.fieldLink RX1 43 "TwinPlates$Plates" "taken" "I", .fieldLink RX1 15 "TwinPlates$Plates" "orders" "[I"] ++ wsX10)
def wsX1_setWhole : List Cond := .code yX1_setWhole cX1_setWhole 4 none :: ([.fieldLink RX1 11 "TwinPlates$Plates" "copies" "[I"] ++ wsX10)
def wsX1_takeOver : List Cond := .code yX1_takeOver cX1_takeOver 3 none :: ([.fieldLink RX1 11 "TwinPlates$Plates" "copies" "[I", .methodLink RX1 120 yX1_setWhole, .instanceMethod yX1_setWhole, .selects RX1 yX1_setWhole yX1_setWhole, .initialized RX1, .code yX1_setWhole cX1_setWhole 4 none] ++ wsX10)
def wsX1_setLate : List Cond := .code yX1_setLate cX1_setLate 3 none :: ([.fieldLink RX1 24 "TwinPlates$Plates" "workOnTrack" "[I", .fieldLink RX1 40 "TwinPlates$Plates" "arm" "I", .fieldLink RX1 11 "TwinPlates$Plates" "copies" "[I"] ++ wsX10)
def wsX1_doWrite_r1 : List Cond := [Cond.fieldLink RX1 11 "TwinPlates$Plates" "copies" "[I", Cond.methodLink RX1 117 Lib.Math.max.name, Cond.static Lib.Math.max.name, Cond.initialized "java/lang/Math", Cond.code Lib.Math.max.name Lib.Math.max.code 2 (some .int), Cond.fieldLink RX1 18 "TwinPlates$Plates" "written" "[I", Cond.methodLink RX1 65 yX1_ofOrder, Cond.instanceMethod yX1_ofOrder, Cond.selects RX1 yX1_ofOrder yX1_ofOrder, Cond.initialized RX1, Cond.code yX1_ofOrder cX1_ofOrder 3 (some .int), Cond.fieldLink RX1 15 "TwinPlates$Plates" "orders" "[I", Cond.methodLink RX1 120 yX1_setWhole, Cond.instanceMethod yX1_setWhole, Cond.selects RX1 yX1_setWhole yX1_setWhole, Cond.code yX1_setWhole cX1_setWhole 4 none, Cond.methodLink RX1 102 yX1_setLate, Cond.instanceMethod yX1_setLate, Cond.selects RX1 yX1_setLate yX1_setLate, Cond.code yX1_setLate cX1_setLate 3 none, Cond.fieldLink RX1 24 "TwinPlates$Plates" "workOnTrack" "[I", Cond.fieldLink RX1 40 "TwinPlates$Plates" "arm" "I", Cond.methodLink RX1 113 yX1_finish, Cond.instanceMethod yX1_finish]
def wsX1_doWrite_r2 : List Cond := [Cond.selects RX1 yX1_finish yX1_finish, Cond.code yX1_finish cX1_finish 5 none, Cond.fieldLink RX1 36 "TwinPlates$Plates" "tick" "I", Cond.fieldLink RX1 46 "TwinPlates$Plates" "waiting" "I", Cond.fieldLink RX1 21 "TwinPlates$Plates" "waitingForBlock" "[I"]
def wsX1_doWrite : List Cond := .code yX1_doWrite cX1_doWrite 7 none :: ((wsX1_doWrite_r1 ++ wsX1_doWrite_r2) ++ wsX10)
def wsX1_useHead_r1 : List Cond := [Cond.fieldLink RX1 40 "TwinPlates$Plates" "arm" "I", Cond.fieldLink RX1 11 "TwinPlates$Plates" "copies" "[I", Cond.fieldLink RX1 18 "TwinPlates$Plates" "written" "[I", Cond.fieldLink RX1 21 "TwinPlates$Plates" "waitingForBlock" "[I", Cond.methodLink RX1 61 yX1_sectorUnder, Cond.instanceMethod yX1_sectorUnder, Cond.selects RX1 yX1_sectorUnder yX1_sectorUnder, Cond.initialized RX1, Cond.code yX1_sectorUnder cX1_sectorUnder 2 (some .int), Cond.fieldLink RX1 36 "TwinPlates$Plates" "tick" "I", Cond.methodLink RX1 55 yJ9_floorMod_7cf53, Cond.static yJ9_floorMod_7cf53, Cond.initialized RJ9, Cond.code yJ9_floorMod_7cf53 cJ9_floorMod_7cf53 3 (some .int), Cond.methodLink RX1 68 yX1_blockAt, Cond.static yX1_blockAt, Cond.code yX1_blockAt cX1_blockAt 2 (some .int), Cond.methodLink RX1 71 yX1_cellOf, Cond.static yX1_cellOf, Cond.code yX1_cellOf cX1_cellOf 2 (some .int), Cond.methodLink RX1 98 yX1_takeOver, Cond.instanceMethod yX1_takeOver, Cond.selects RX1 yX1_takeOver yX1_takeOver, Cond.code yX1_takeOver cX1_takeOver 3 none]
def wsX1_useHead_r2 : List Cond := [Cond.methodLink RX1 120 yX1_setWhole, Cond.instanceMethod yX1_setWhole, Cond.selects RX1 yX1_setWhole yX1_setWhole, Cond.code yX1_setWhole cX1_setWhole 4 none, Cond.methodLink RX1 102 yX1_setLate, Cond.instanceMethod yX1_setLate, Cond.selects RX1 yX1_setLate yX1_setLate, Cond.code yX1_setLate cX1_setLate 3 none, Cond.fieldLink RX1 24 "TwinPlates$Plates" "workOnTrack" "[I", Cond.methodLink RX1 105 yX1_firstWaiting, Cond.instanceMethod yX1_firstWaiting, Cond.selects RX1 yX1_firstWaiting yX1_firstWaiting, Cond.code yX1_firstWaiting cX1_firstWaiting 6 (some .int), Cond.fieldLink RX1 43 "TwinPlates$Plates" "taken" "I", Cond.fieldLink RX1 15 "TwinPlates$Plates" "orders" "[I", Cond.methodLink RX1 109 yX1_doWrite, Cond.instanceMethod yX1_doWrite, Cond.selects RX1 yX1_doWrite yX1_doWrite, Cond.code yX1_doWrite cX1_doWrite 7 none, Cond.methodLink RX1 117 Lib.Math.max.name, Cond.static Lib.Math.max.name, Cond.initialized "java/lang/Math", Cond.code Lib.Math.max.name Lib.Math.max.code 2 (some .int), Cond.methodLink RX1 65 yX1_ofOrder]
def wsX1_useHead_r3 : List Cond := [Cond.instanceMethod yX1_ofOrder, Cond.selects RX1 yX1_ofOrder yX1_ofOrder, Cond.code yX1_ofOrder cX1_ofOrder 3 (some .int), Cond.methodLink RX1 113 yX1_finish, Cond.instanceMethod yX1_finish, Cond.selects RX1 yX1_finish yX1_finish, Cond.code yX1_finish cX1_finish 5 none, Cond.fieldLink RX1 46 "TwinPlates$Plates" "waiting" "I"]
def wsX1_useHead : List Cond := .code yX1_useHead cX1_useHead 8 none :: ((wsX1_useHead_r1 ++ (wsX1_useHead_r2 ++ wsX1_useHead_r3)) ++ wsX10)
def wsX1_moveArm : List Cond := .code yX1_moveArm cX1_moveArm 2 none :: ([.fieldLink RX1 40 "TwinPlates$Plates" "arm" "I", .fieldLink RX1 24 "TwinPlates$Plates" "workOnTrack" "[I", .fieldLink RX1 52 "TwinPlates$Plates" "moves" "I"] ++ wsX10)
def wsX1_doTick_r1 : List Cond := [Cond.fieldLink RX1 24 "TwinPlates$Plates" "workOnTrack" "[I", Cond.fieldLink RX1 40 "TwinPlates$Plates" "arm" "I", Cond.fieldLink RX1 36 "TwinPlates$Plates" "tick" "I", Cond.methodLink RX1 27 yX1_forgetWritten, Cond.instanceMethod yX1_forgetWritten, Cond.selects RX1 yX1_forgetWritten yX1_forgetWritten, Cond.initialized RX1, Cond.code yX1_forgetWritten cX1_forgetWritten 2 none, Cond.fieldLink RX1 18 "TwinPlates$Plates" "written" "[I", Cond.methodLink RX1 91 yX1_useHead, Cond.instanceMethod yX1_useHead, Cond.selects RX1 yX1_useHead yX1_useHead, Cond.code yX1_useHead cX1_useHead 8 none, Cond.fieldLink RX1 11 "TwinPlates$Plates" "copies" "[I", Cond.fieldLink RX1 21 "TwinPlates$Plates" "waitingForBlock" "[I", Cond.methodLink RX1 61 yX1_sectorUnder, Cond.instanceMethod yX1_sectorUnder, Cond.selects RX1 yX1_sectorUnder yX1_sectorUnder, Cond.code yX1_sectorUnder cX1_sectorUnder 2 (some .int), Cond.methodLink RX1 55 yJ9_floorMod_7cf53, Cond.static yJ9_floorMod_7cf53, Cond.initialized RJ9, Cond.code yJ9_floorMod_7cf53 cJ9_floorMod_7cf53 3 (some .int), Cond.methodLink RX1 68 yX1_blockAt]
def wsX1_doTick_r2 : List Cond := [Cond.static yX1_blockAt, Cond.code yX1_blockAt cX1_blockAt 2 (some .int), Cond.methodLink RX1 71 yX1_cellOf, Cond.static yX1_cellOf, Cond.code yX1_cellOf cX1_cellOf 2 (some .int), Cond.methodLink RX1 98 yX1_takeOver, Cond.instanceMethod yX1_takeOver, Cond.selects RX1 yX1_takeOver yX1_takeOver, Cond.code yX1_takeOver cX1_takeOver 3 none, Cond.methodLink RX1 120 yX1_setWhole, Cond.instanceMethod yX1_setWhole, Cond.selects RX1 yX1_setWhole yX1_setWhole, Cond.code yX1_setWhole cX1_setWhole 4 none, Cond.methodLink RX1 102 yX1_setLate, Cond.instanceMethod yX1_setLate, Cond.selects RX1 yX1_setLate yX1_setLate, Cond.code yX1_setLate cX1_setLate 3 none, Cond.methodLink RX1 105 yX1_firstWaiting, Cond.instanceMethod yX1_firstWaiting, Cond.selects RX1 yX1_firstWaiting yX1_firstWaiting, Cond.code yX1_firstWaiting cX1_firstWaiting 6 (some .int), Cond.fieldLink RX1 43 "TwinPlates$Plates" "taken" "I", Cond.fieldLink RX1 15 "TwinPlates$Plates" "orders" "[I", Cond.methodLink RX1 109 yX1_doWrite]
def wsX1_doTick_r3 : List Cond := [Cond.instanceMethod yX1_doWrite, Cond.selects RX1 yX1_doWrite yX1_doWrite, Cond.code yX1_doWrite cX1_doWrite 7 none, Cond.methodLink RX1 117 Lib.Math.max.name, Cond.static Lib.Math.max.name, Cond.initialized "java/lang/Math", Cond.code Lib.Math.max.name Lib.Math.max.code 2 (some .int), Cond.methodLink RX1 65 yX1_ofOrder, Cond.instanceMethod yX1_ofOrder, Cond.selects RX1 yX1_ofOrder yX1_ofOrder, Cond.code yX1_ofOrder cX1_ofOrder 3 (some .int), Cond.methodLink RX1 113 yX1_finish, Cond.instanceMethod yX1_finish, Cond.selects RX1 yX1_finish yX1_finish, Cond.code yX1_finish cX1_finish 5 none, Cond.fieldLink RX1 46 "TwinPlates$Plates" "waiting" "I", Cond.methodLink RX1 95 yX1_moveArm, Cond.instanceMethod yX1_moveArm, Cond.selects RX1 yX1_moveArm yX1_moveArm, Cond.code yX1_moveArm cX1_moveArm 2 none, Cond.fieldLink RX1 52 "TwinPlates$Plates" "moves" "I"]
def wsX1_doTick : List Cond := .code yX1_doTick cX1_doTick 1 none :: ((wsX1_doTick_r1 ++ (wsX1_doTick_r2 ++ wsX1_doTick_r3)) ++ wsX10)
def wsX1_letPass_r1 : List Cond := [Cond.fieldLink RX1 36 "TwinPlates$Plates" "tick" "I", Cond.fieldLink RX1 46 "TwinPlates$Plates" "waiting" "I", Cond.methodLink RX1 88 yX1_doTick, Cond.instanceMethod yX1_doTick, Cond.selects RX1 yX1_doTick yX1_doTick, Cond.initialized RX1, Cond.code yX1_doTick cX1_doTick 1 none, Cond.fieldLink RX1 24 "TwinPlates$Plates" "workOnTrack" "[I", Cond.fieldLink RX1 40 "TwinPlates$Plates" "arm" "I", Cond.methodLink RX1 27 yX1_forgetWritten, Cond.instanceMethod yX1_forgetWritten, Cond.selects RX1 yX1_forgetWritten yX1_forgetWritten, Cond.code yX1_forgetWritten cX1_forgetWritten 2 none, Cond.fieldLink RX1 18 "TwinPlates$Plates" "written" "[I", Cond.methodLink RX1 91 yX1_useHead, Cond.instanceMethod yX1_useHead, Cond.selects RX1 yX1_useHead yX1_useHead, Cond.code yX1_useHead cX1_useHead 8 none, Cond.fieldLink RX1 11 "TwinPlates$Plates" "copies" "[I", Cond.fieldLink RX1 21 "TwinPlates$Plates" "waitingForBlock" "[I", Cond.methodLink RX1 61 yX1_sectorUnder, Cond.instanceMethod yX1_sectorUnder, Cond.selects RX1 yX1_sectorUnder yX1_sectorUnder, Cond.code yX1_sectorUnder cX1_sectorUnder 2 (some .int)]
def wsX1_letPass_r2 : List Cond := [Cond.methodLink RX1 55 yJ9_floorMod_7cf53, Cond.static yJ9_floorMod_7cf53, Cond.initialized RJ9, Cond.code yJ9_floorMod_7cf53 cJ9_floorMod_7cf53 3 (some .int), Cond.methodLink RX1 68 yX1_blockAt, Cond.static yX1_blockAt, Cond.code yX1_blockAt cX1_blockAt 2 (some .int), Cond.methodLink RX1 71 yX1_cellOf, Cond.static yX1_cellOf, Cond.code yX1_cellOf cX1_cellOf 2 (some .int), Cond.methodLink RX1 98 yX1_takeOver, Cond.instanceMethod yX1_takeOver, Cond.selects RX1 yX1_takeOver yX1_takeOver, Cond.code yX1_takeOver cX1_takeOver 3 none, Cond.methodLink RX1 120 yX1_setWhole, Cond.instanceMethod yX1_setWhole, Cond.selects RX1 yX1_setWhole yX1_setWhole, Cond.code yX1_setWhole cX1_setWhole 4 none, Cond.methodLink RX1 102 yX1_setLate, Cond.instanceMethod yX1_setLate, Cond.selects RX1 yX1_setLate yX1_setLate, Cond.code yX1_setLate cX1_setLate 3 none, Cond.methodLink RX1 105 yX1_firstWaiting, Cond.instanceMethod yX1_firstWaiting]
def wsX1_letPass_r3 : List Cond := [Cond.selects RX1 yX1_firstWaiting yX1_firstWaiting, Cond.code yX1_firstWaiting cX1_firstWaiting 6 (some .int), Cond.fieldLink RX1 43 "TwinPlates$Plates" "taken" "I", Cond.fieldLink RX1 15 "TwinPlates$Plates" "orders" "[I", Cond.methodLink RX1 109 yX1_doWrite, Cond.instanceMethod yX1_doWrite, Cond.selects RX1 yX1_doWrite yX1_doWrite, Cond.code yX1_doWrite cX1_doWrite 7 none, Cond.methodLink RX1 117 Lib.Math.max.name, Cond.static Lib.Math.max.name, Cond.initialized "java/lang/Math", Cond.code Lib.Math.max.name Lib.Math.max.code 2 (some .int), Cond.methodLink RX1 65 yX1_ofOrder, Cond.instanceMethod yX1_ofOrder, Cond.selects RX1 yX1_ofOrder yX1_ofOrder, Cond.code yX1_ofOrder cX1_ofOrder 3 (some .int), Cond.methodLink RX1 113 yX1_finish, Cond.instanceMethod yX1_finish, Cond.selects RX1 yX1_finish yX1_finish, Cond.code yX1_finish cX1_finish 5 none, Cond.methodLink RX1 95 yX1_moveArm, Cond.instanceMethod yX1_moveArm, Cond.selects RX1 yX1_moveArm yX1_moveArm, Cond.code yX1_moveArm cX1_moveArm 2 none]
def wsX1_letPass_r4 : List Cond := [Cond.fieldLink RX1 52 "TwinPlates$Plates" "moves" "I"]
def wsX1_letPass : List Cond := .code yX1_letPass cX1_letPass 4 (some .int) :: ((wsX1_letPass_r1 ++ (wsX1_letPass_r2 ++ (wsX1_letPass_r3 ++ wsX1_letPass_r4))) ++ wsX10)
def wsX1_dropWork : List Cond := .code yX1_dropWork cX1_dropWork 2 none :: ([.fieldLink RX1 43 "TwinPlates$Plates" "taken" "I", .fieldLink RX1 15 "TwinPlates$Plates" "orders" "[I", .fieldLink RX1 46 "TwinPlates$Plates" "waiting" "I", .fieldLink RX1 11 "TwinPlates$Plates" "copies" "[I", .fieldLink RX1 21 "TwinPlates$Plates" "waitingForBlock" "[I", .fieldLink RX1 24 "TwinPlates$Plates" "workOnTrack" "[I", .methodLink RX1 74 yX1_statusOf, .instanceMethod yX1_statusOf, .selects RX1 yX1_statusOf yX1_statusOf, .initialized RX1, .code yX1_statusOf cX1_statusOf 2 (some .int), .methodLink RX1 65 yX1_ofOrder, .instanceMethod yX1_ofOrder, .selects RX1 yX1_ofOrder yX1_ofOrder, .code yX1_ofOrder cX1_ofOrder 3 (some .int), .methodLink RX1 71 yX1_cellOf, .static yX1_cellOf, .code yX1_cellOf cX1_cellOf 2 (some .int)] ++ wsX10)
def wsX1_cutPower : List Cond := .code yX1_cutPower cX1_cutPower 4 (some .int) :: ([.fieldLink RX1 18 "TwinPlates$Plates" "written" "[I", .fieldLink RX1 11 "TwinPlates$Plates" "copies" "[I", .methodLink RX1 123 yX1_dropWork, .instanceMethod yX1_dropWork, .selects RX1 yX1_dropWork yX1_dropWork, .initialized RX1, .code yX1_dropWork cX1_dropWork 2 none, .fieldLink RX1 43 "TwinPlates$Plates" "taken" "I", .fieldLink RX1 15 "TwinPlates$Plates" "orders" "[I", .fieldLink RX1 46 "TwinPlates$Plates" "waiting" "I", .fieldLink RX1 21 "TwinPlates$Plates" "waitingForBlock" "[I", .fieldLink RX1 24 "TwinPlates$Plates" "workOnTrack" "[I", .methodLink RX1 74 yX1_statusOf, .instanceMethod yX1_statusOf, .selects RX1 yX1_statusOf yX1_statusOf, .code yX1_statusOf cX1_statusOf 2 (some .int), .methodLink RX1 65 yX1_ofOrder, .instanceMethod yX1_ofOrder, .selects RX1 yX1_ofOrder yX1_ofOrder, .code yX1_ofOrder cX1_ofOrder 3 (some .int), .methodLink RX1 71 yX1_cellOf, .static yX1_cellOf, .code yX1_cellOf cX1_cellOf 2 (some .int)] ++ wsX10)
def wsX1_repair : List Cond := .code yX1_repair cX1_repair 7 (some .int) :: ([.fieldLink RX1 11 "TwinPlates$Plates" "copies" "[I", .fieldLink RX1 49 "TwinPlates$Plates" "wiped" "I", .methodLink RX1 120 yX1_setWhole, .instanceMethod yX1_setWhole, .selects RX1 yX1_setWhole yX1_setWhole, .initialized RX1, .code yX1_setWhole cX1_setWhole 4 none, .methodLink RX1 98 yX1_takeOver, .instanceMethod yX1_takeOver, .selects RX1 yX1_takeOver yX1_takeOver, .code yX1_takeOver cX1_takeOver 3 none] ++ wsX10)
def wsX1_repairBlocks_r1 : List Cond := [Cond.fieldLink RX1 36 "TwinPlates$Plates" "tick" "I", Cond.fieldLink RX1 40 "TwinPlates$Plates" "arm" "I", Cond.methodLink RX1 71 yX1_cellOf, Cond.static yX1_cellOf, Cond.initialized RX1, Cond.code yX1_cellOf cX1_cellOf 2 (some .int), Cond.methodLink RX1 134 yX1_repair, Cond.instanceMethod yX1_repair, Cond.selects RX1 yX1_repair yX1_repair, Cond.code yX1_repair cX1_repair 7 (some .int), Cond.fieldLink RX1 11 "TwinPlates$Plates" "copies" "[I", Cond.fieldLink RX1 49 "TwinPlates$Plates" "wiped" "I", Cond.methodLink RX1 120 yX1_setWhole, Cond.instanceMethod yX1_setWhole, Cond.selects RX1 yX1_setWhole yX1_setWhole, Cond.code yX1_setWhole cX1_setWhole 4 none, Cond.methodLink RX1 98 yX1_takeOver, Cond.instanceMethod yX1_takeOver, Cond.selects RX1 yX1_takeOver yX1_takeOver, Cond.code yX1_takeOver cX1_takeOver 3 none, Cond.methodLink RX1 27 yX1_forgetWritten, Cond.instanceMethod yX1_forgetWritten, Cond.selects RX1 yX1_forgetWritten yX1_forgetWritten, Cond.code yX1_forgetWritten cX1_forgetWritten 2 none]
def wsX1_repairBlocks_r2 : List Cond := [Cond.fieldLink RX1 18 "TwinPlates$Plates" "written" "[I"]
def wsX1_repairBlocks : List Cond := .code yX1_repairBlocks cX1_repairBlocks 3 (some .int) :: ((wsX1_repairBlocks_r1 ++ wsX1_repairBlocks_r2) ++ wsX10)
def wsX1_sweepBlocks_r1 : List Cond := [Cond.fieldLink RX1 36 "TwinPlates$Plates" "tick" "I", Cond.methodLink RX1 126 yX1_hasWork, Cond.instanceMethod yX1_hasWork, Cond.selects RX1 yX1_hasWork yX1_hasWork, Cond.initialized RX1, Cond.code yX1_hasWork cX1_hasWork 2 (some .boolean), Cond.fieldLink RX1 24 "TwinPlates$Plates" "workOnTrack" "[I", Cond.methodLink RX1 130 yX1_repairBlocks, Cond.instanceMethod yX1_repairBlocks, Cond.selects RX1 yX1_repairBlocks yX1_repairBlocks, Cond.code yX1_repairBlocks cX1_repairBlocks 3 (some .int), Cond.fieldLink RX1 40 "TwinPlates$Plates" "arm" "I", Cond.methodLink RX1 71 yX1_cellOf, Cond.static yX1_cellOf, Cond.code yX1_cellOf cX1_cellOf 2 (some .int), Cond.methodLink RX1 134 yX1_repair, Cond.instanceMethod yX1_repair, Cond.selects RX1 yX1_repair yX1_repair, Cond.code yX1_repair cX1_repair 7 (some .int), Cond.fieldLink RX1 11 "TwinPlates$Plates" "copies" "[I", Cond.fieldLink RX1 49 "TwinPlates$Plates" "wiped" "I", Cond.methodLink RX1 120 yX1_setWhole, Cond.instanceMethod yX1_setWhole, Cond.selects RX1 yX1_setWhole yX1_setWhole]
def wsX1_sweepBlocks_r2 : List Cond := [Cond.code yX1_setWhole cX1_setWhole 4 none, Cond.methodLink RX1 98 yX1_takeOver, Cond.instanceMethod yX1_takeOver, Cond.selects RX1 yX1_takeOver yX1_takeOver, Cond.code yX1_takeOver cX1_takeOver 3 none, Cond.methodLink RX1 27 yX1_forgetWritten, Cond.instanceMethod yX1_forgetWritten, Cond.selects RX1 yX1_forgetWritten yX1_forgetWritten, Cond.code yX1_forgetWritten cX1_forgetWritten 2 none, Cond.fieldLink RX1 18 "TwinPlates$Plates" "written" "[I"]
def wsX1_sweepBlocks : List Cond := .code yX1_sweepBlocks cX1_sweepBlocks 1 (some .int) :: ((wsX1_sweepBlocks_r1 ++ wsX1_sweepBlocks_r2) ++ wsX10)
def wsX2_init : List Cond := .code yX2_init cX2_init 1 none :: ([.methodLink RX2 1 objectInit, .instanceMethod objectInit, .code objectInit ⟨#[0xb1]⟩ 1 none, .arrayClass .int, .fieldLink RX2 9 "TwinPlates$Program" "text" "[I", .fieldLink RX2 13 "TwinPlates$Program" "numbers" "[I", .fieldLink RX2 16 "TwinPlates$Program" "letters" "[I", .fieldLink RX2 19 "TwinPlates$Program" "groupTimes" "[I", .fieldLink RX2 22 "TwinPlates$Program" "groupStart" "[I"] ++ wsX20)
def wsX2_length : List Cond := .code yX2_length cX2_length 1 (some .int) :: ([.fieldLink RX2 25 "TwinPlates$Program" "length" "I"] ++ wsX20)
def wsX2_isFull : List Cond := .code yX2_isFull cX2_isFull 1 (some .boolean) :: ([.fieldLink RX2 25 "TwinPlates$Program" "length" "I"] ++ wsX20)
def wsX2_addSign : List Cond := .code yX2_addSign cX2_addSign 2 none :: ([.fieldLink RX2 9 "TwinPlates$Program" "text" "[I", .fieldLink RX2 25 "TwinPlates$Program" "length" "I", .methodLink RX2 29 yX2_isFull, .instanceMethod yX2_isFull, .selects RX2 yX2_isFull yX2_isFull, .initialized RX2, .code yX2_isFull cX2_isFull 1 (some .boolean)] ++ wsX20)
def wsX2_makeEmpty : List Cond := .code yX2_makeEmpty cX2_makeEmpty 1 none :: ([.fieldLink RX2 25 "TwinPlates$Program" "length" "I"] ++ wsX20)
def wsX2_signAt : List Cond := .code yX2_signAt cX2_signAt 2 (some .int) :: ([.fieldLink RX2 25 "TwinPlates$Program" "length" "I", .fieldLink RX2 9 "TwinPlates$Program" "text" "[I"] ++ wsX20)
def wsX2_steps : List Cond := .code yX2_steps cX2_steps 1 (some .int) :: ([.fieldLink RX2 33 "TwinPlates$Program" "steps" "I"] ++ wsX20)
def wsX2_hasTooManySteps : List Cond := .code yX2_hasTooManySteps cX2_hasTooManySteps 1 (some .boolean) :: ([.fieldLink RX2 33 "TwinPlates$Program" "steps" "I"] ++ wsX20)
def wsX2_letterOfStep : List Cond := .code yX2_letterOfStep cX2_letterOfStep 2 (some .int) :: ([.fieldLink RX2 33 "TwinPlates$Program" "steps" "I", .fieldLink RX2 16 "TwinPlates$Program" "letters" "[I"] ++ wsX20)
def wsX2_numberBehind : List Cond := .code yX2_numberBehind cX2_numberBehind 3 (some .int) :: ([.fieldLink RX2 13 "TwinPlates$Program" "numbers" "[I"] ++ wsX20)
def wsX2_place : List Cond := .code yX2_place cX2_place 1 (some .int) :: ([.fieldLink RX2 36 "TwinPlates$Program" "place" "I"] ++ wsX20)
def wsX2_openGroup : List Cond := .code yX2_openGroup cX2_openGroup 2 (some .boolean) :: ([.fieldLink RX2 36 "TwinPlates$Program" "place" "I", .fieldLink RX2 39 "TwinPlates$Program" "depth" "I", .fieldLink RX2 19 "TwinPlates$Program" "groupTimes" "[I", .fieldLink RX2 22 "TwinPlates$Program" "groupStart" "[I", .fieldLink RX2 33 "TwinPlates$Program" "steps" "I", .methodLink RX2 45 yX2_signAt, .instanceMethod yX2_signAt, .selects RX2 yX2_signAt yX2_signAt, .initialized RX2, .code yX2_signAt cX2_signAt 2 (some .int), .fieldLink RX2 25 "TwinPlates$Program" "length" "I", .fieldLink RX2 9 "TwinPlates$Program" "text" "[I"] ++ wsX20)
def wsX2_addStep : List Cond := .code yX2_addStep cX2_addStep 2 none :: ([.fieldLink RX2 33 "TwinPlates$Program" "steps" "I", .fieldLink RX2 16 "TwinPlates$Program" "letters" "[I"] ++ wsX20)
def wsX2_closeGroup : List Cond := .code yX2_closeGroup cX2_closeGroup 5 (some .boolean) :: ([.fieldLink RX2 39 "TwinPlates$Program" "depth" "I", .fieldLink RX2 22 "TwinPlates$Program" "groupStart" "[I", .fieldLink RX2 33 "TwinPlates$Program" "steps" "I", .fieldLink RX2 19 "TwinPlates$Program" "groupTimes" "[I", .fieldLink RX2 16 "TwinPlates$Program" "letters" "[I", .fieldLink RX2 36 "TwinPlates$Program" "place" "I", .methodLink RX2 58 yX2_addStep, .instanceMethod yX2_addStep, .selects RX2 yX2_addStep yX2_addStep, .initialized RX2, .code yX2_addStep cX2_addStep 2 none] ++ wsX20)
def wsX2_isDigit : List Cond := .code yX2_isDigit cX2_isDigit 1 (some .boolean) :: ([])
def wsX2_readSign : List Cond := .code yX2_readSign cX2_readSign 2 (some .boolean) :: ([.fieldLink RX2 36 "TwinPlates$Program" "place" "I", .methodLink RX2 45 yX2_signAt, .instanceMethod yX2_signAt, .selects RX2 yX2_signAt yX2_signAt, .initialized RX2, .code yX2_signAt cX2_signAt 2 (some .int), .fieldLink RX2 25 "TwinPlates$Program" "length" "I", .fieldLink RX2 9 "TwinPlates$Program" "text" "[I"] ++ wsX20)
def wsX2_readNumber : List Cond := .code yX2_readNumber cX2_readNumber 6 (some .boolean) :: ([.fieldLink RX2 36 "TwinPlates$Program" "place" "I", .fieldLink RX2 13 "TwinPlates$Program" "numbers" "[I", .methodLink RX2 45 yX2_signAt, .instanceMethod yX2_signAt, .selects RX2 yX2_signAt yX2_signAt, .initialized RX2, .code yX2_signAt cX2_signAt 2 (some .int), .fieldLink RX2 25 "TwinPlates$Program" "length" "I", .fieldLink RX2 9 "TwinPlates$Program" "text" "[I", .methodLink RX2 70 yX2_isDigit, .static yX2_isDigit, .code yX2_isDigit cX2_isDigit 1 (some .boolean), .methodLink RX2 66 yX2_readSign, .instanceMethod yX2_readSign, .selects RX2 yX2_readSign yX2_readSign, .code yX2_readSign cX2_readSign 2 (some .boolean)] ++ wsX20)
def wsX2_readAct_r1 : List Cond := [Cond.fieldLink RX2 36 "TwinPlates$Program" "place" "I", Cond.methodLink RX2 45 yX2_signAt, Cond.instanceMethod yX2_signAt, Cond.selects RX2 yX2_signAt yX2_signAt, Cond.initialized RX2, Cond.code yX2_signAt cX2_signAt 2 (some .int), Cond.fieldLink RX2 25 "TwinPlates$Program" "length" "I", Cond.fieldLink RX2 9 "TwinPlates$Program" "text" "[I", Cond.methodLink RX2 58 yX2_addStep, Cond.instanceMethod yX2_addStep, Cond.selects RX2 yX2_addStep yX2_addStep, Cond.code yX2_addStep cX2_addStep 2 none, Cond.fieldLink RX2 33 "TwinPlates$Program" "steps" "I", Cond.fieldLink RX2 16 "TwinPlates$Program" "letters" "[I", Cond.methodLink RX2 62 yX2_readNumber, Cond.instanceMethod yX2_readNumber, Cond.selects RX2 yX2_readNumber yX2_readNumber, Cond.code yX2_readNumber cX2_readNumber 6 (some .boolean), Cond.fieldLink RX2 13 "TwinPlates$Program" "numbers" "[I", Cond.methodLink RX2 70 yX2_isDigit, Cond.static yX2_isDigit, Cond.code yX2_isDigit cX2_isDigit 1 (some .boolean), Cond.methodLink RX2 66 yX2_readSign, Cond.instanceMethod yX2_readSign]
def wsX2_readAct_r2 : List Cond := [Cond.selects RX2 yX2_readSign yX2_readSign, Cond.code yX2_readSign cX2_readSign 2 (some .boolean)]
def wsX2_readAct : List Cond := .code yX2_readAct cX2_readAct 2 (some .boolean) :: ((wsX2_readAct_r1 ++ wsX2_readAct_r2) ++ wsX20)
def wsX2_readPiece_r1 : List Cond := [Cond.fieldLink RX2 36 "TwinPlates$Program" "place" "I", Cond.methodLink RX2 45 yX2_signAt, Cond.instanceMethod yX2_signAt, Cond.selects RX2 yX2_signAt yX2_signAt, Cond.initialized RX2, Cond.code yX2_signAt cX2_signAt 2 (some .int), Cond.fieldLink RX2 25 "TwinPlates$Program" "length" "I", Cond.fieldLink RX2 9 "TwinPlates$Program" "text" "[I", Cond.methodLink RX2 49 yX2_openGroup, Cond.instanceMethod yX2_openGroup, Cond.selects RX2 yX2_openGroup yX2_openGroup, Cond.code yX2_openGroup cX2_openGroup 2 (some .boolean), Cond.fieldLink RX2 39 "TwinPlates$Program" "depth" "I", Cond.fieldLink RX2 19 "TwinPlates$Program" "groupTimes" "[I", Cond.fieldLink RX2 22 "TwinPlates$Program" "groupStart" "[I", Cond.fieldLink RX2 33 "TwinPlates$Program" "steps" "I", Cond.methodLink RX2 52 yX2_closeGroup, Cond.instanceMethod yX2_closeGroup, Cond.selects RX2 yX2_closeGroup yX2_closeGroup, Cond.code yX2_closeGroup cX2_closeGroup 5 (some .boolean), Cond.fieldLink RX2 16 "TwinPlates$Program" "letters" "[I", Cond.methodLink RX2 58 yX2_addStep, Cond.instanceMethod yX2_addStep, Cond.selects RX2 yX2_addStep yX2_addStep]
def wsX2_readPiece_r2 : List Cond := [Cond.code yX2_addStep cX2_addStep 2 none, Cond.methodLink RX2 55 yX2_readAct, Cond.instanceMethod yX2_readAct, Cond.selects RX2 yX2_readAct yX2_readAct, Cond.code yX2_readAct cX2_readAct 2 (some .boolean), Cond.methodLink RX2 62 yX2_readNumber, Cond.instanceMethod yX2_readNumber, Cond.selects RX2 yX2_readNumber yX2_readNumber, Cond.code yX2_readNumber cX2_readNumber 6 (some .boolean), Cond.fieldLink RX2 13 "TwinPlates$Program" "numbers" "[I", Cond.methodLink RX2 70 yX2_isDigit, Cond.static yX2_isDigit, Cond.code yX2_isDigit cX2_isDigit 1 (some .boolean), Cond.methodLink RX2 66 yX2_readSign, Cond.instanceMethod yX2_readSign, Cond.selects RX2 yX2_readSign yX2_readSign, Cond.code yX2_readSign cX2_readSign 2 (some .boolean)]
def wsX2_readPiece : List Cond := .code yX2_readPiece cX2_readPiece 2 (some .boolean) :: ((wsX2_readPiece_r1 ++ wsX2_readPiece_r2) ++ wsX20)
def wsX2_isUnderstood_r1 : List Cond := [Cond.fieldLink RX2 36 "TwinPlates$Program" "place" "I", Cond.fieldLink RX2 33 "TwinPlates$Program" "steps" "I", Cond.fieldLink RX2 39 "TwinPlates$Program" "depth" "I", Cond.fieldLink RX2 25 "TwinPlates$Program" "length" "I", Cond.methodLink RX2 42 yX2_readPiece, Cond.instanceMethod yX2_readPiece, Cond.selects RX2 yX2_readPiece yX2_readPiece, Cond.initialized RX2, Cond.code yX2_readPiece cX2_readPiece 2 (some .boolean), Cond.methodLink RX2 45 yX2_signAt, Cond.instanceMethod yX2_signAt, Cond.selects RX2 yX2_signAt yX2_signAt, Cond.code yX2_signAt cX2_signAt 2 (some .int), Cond.fieldLink RX2 9 "TwinPlates$Program" "text" "[I", Cond.methodLink RX2 49 yX2_openGroup, Cond.instanceMethod yX2_openGroup, Cond.selects RX2 yX2_openGroup yX2_openGroup, Cond.code yX2_openGroup cX2_openGroup 2 (some .boolean), Cond.fieldLink RX2 19 "TwinPlates$Program" "groupTimes" "[I", Cond.fieldLink RX2 22 "TwinPlates$Program" "groupStart" "[I", Cond.methodLink RX2 52 yX2_closeGroup, Cond.instanceMethod yX2_closeGroup, Cond.selects RX2 yX2_closeGroup yX2_closeGroup, Cond.code yX2_closeGroup cX2_closeGroup 5 (some .boolean)]
def wsX2_isUnderstood_r2 : List Cond := [Cond.fieldLink RX2 16 "TwinPlates$Program" "letters" "[I", Cond.methodLink RX2 58 yX2_addStep, Cond.instanceMethod yX2_addStep, Cond.selects RX2 yX2_addStep yX2_addStep, Cond.code yX2_addStep cX2_addStep 2 none, Cond.methodLink RX2 55 yX2_readAct, Cond.instanceMethod yX2_readAct, Cond.selects RX2 yX2_readAct yX2_readAct, Cond.code yX2_readAct cX2_readAct 2 (some .boolean), Cond.methodLink RX2 62 yX2_readNumber, Cond.instanceMethod yX2_readNumber, Cond.selects RX2 yX2_readNumber yX2_readNumber, Cond.code yX2_readNumber cX2_readNumber 6 (some .boolean), Cond.fieldLink RX2 13 "TwinPlates$Program" "numbers" "[I", Cond.methodLink RX2 70 yX2_isDigit, Cond.static yX2_isDigit, Cond.code yX2_isDigit cX2_isDigit 1 (some .boolean), Cond.methodLink RX2 66 yX2_readSign, Cond.instanceMethod yX2_readSign, Cond.selects RX2 yX2_readSign yX2_readSign, Cond.code yX2_readSign cX2_readSign 2 (some .boolean)]
def wsX2_isUnderstood : List Cond := .code yX2_isUnderstood cX2_isUnderstood 2 (some .boolean) :: ((wsX2_isUnderstood_r1 ++ wsX2_isUnderstood_r2) ++ wsX20)
def wsX3_init_r1 : List Cond := [Cond.methodLink RX3 1 objectInit, Cond.instanceMethod objectInit, Cond.code objectInit ⟨#[0xb1]⟩ 1 none, Cond.classLink RX3 7 RX1, Cond.instantiable RX1 11, Cond.initialized RX1, Cond.fieldLink RX3 10 "TwinPlates" "now" "LTwinPlates$Plates;", Cond.fieldLink RX3 16 "TwinPlates" "forecast" "LTwinPlates$Plates;", Cond.classLink RX3 19 RX0, Cond.instantiable RX0 3, Cond.initialized RX0, Cond.fieldLink RX3 22 "TwinPlates" "history" "LTwinPlates$History;", Cond.classLink RX3 26 RX2, Cond.instantiable RX2 9, Cond.initialized RX2, Cond.fieldLink RX3 29 "TwinPlates" "program" "LTwinPlates$Program;", Cond.methodLink RX3 9 yX1_init, Cond.instanceMethod yX1_init, Cond.code yX1_init cX1_init 1 none, Cond.methodLink RX1 5 objectInit, Cond.arrayClass .int, Cond.fieldLink RX1 11 "TwinPlates$Plates" "copies" "[I", Cond.fieldLink RX1 15 "TwinPlates$Plates" "orders" "[I", Cond.fieldLink RX1 18 "TwinPlates$Plates" "written" "[I"]
def wsX3_init_r2 : List Cond := [Cond.fieldLink RX1 21 "TwinPlates$Plates" "waitingForBlock" "[I", Cond.fieldLink RX1 24 "TwinPlates$Plates" "workOnTrack" "[I", Cond.methodLink RX1 27 yX1_forgetWritten, Cond.instanceMethod yX1_forgetWritten, Cond.selects RX1 yX1_forgetWritten yX1_forgetWritten, Cond.code yX1_forgetWritten cX1_forgetWritten 2 none, Cond.methodLink RX3 21 yX0_init, Cond.instanceMethod yX0_init, Cond.code yX0_init cX0_init 2 none, Cond.methodLink RX0 3 objectInit, Cond.classLink RX0 9 RX1, Cond.fieldLink RX0 11 "TwinPlates$History" "slots" "[LTwinPlates$Plates;", Cond.methodLink RX0 15 yX1_init, Cond.instanceMethod yX2_init, Cond.code yX2_init cX2_init 1 none, Cond.methodLink RX2 1 objectInit, Cond.fieldLink RX2 9 "TwinPlates$Program" "text" "[I", Cond.fieldLink RX2 13 "TwinPlates$Program" "numbers" "[I", Cond.fieldLink RX2 16 "TwinPlates$Program" "letters" "[I", Cond.fieldLink RX2 19 "TwinPlates$Program" "groupTimes" "[I", Cond.fieldLink RX2 22 "TwinPlates$Program" "groupStart" "[I"]
def wsX3_init : List Cond := .code yX3_init cX3_init 1 none :: ((wsX3_init_r1 ++ wsX3_init_r2) ++ wsX10 ++ wsX30 ++ wsX00 ++ wsX20)
def wsX3_settle : List Cond := .code yX3_settle cX3_settle 2 (some .int) :: ([.fieldLink RX3 22 "TwinPlates" "history" "LTwinPlates$History;", .methodLink RX3 100 yX0_keepNoted, .instanceMethod yX0_keepNoted, .selects RX0 yX0_keepNoted yX0_keepNoted, .initialized RX0, .code yX0_keepNoted cX0_keepNoted 1 none, .fieldLink RX0 16 "TwinPlates$History" "size" "I", .fieldLink RX0 28 "TwinPlates$History" "oldest" "I", .methodLink RX0 31 yJ9_floorMod_7cf53, .static yJ9_floorMod_7cf53, .initialized RJ9, .code yJ9_floorMod_7cf53 cJ9_floorMod_7cf53 3 (some .int)] ++ wsX30 ++ wsX00)
def wsX3_read_r1 : List Cond := [Cond.fieldLink RX3 22 "TwinPlates" "history" "LTwinPlates$History;", Cond.fieldLink RX3 10 "TwinPlates" "now" "LTwinPlates$Plates;", Cond.methodLink RX3 33 yX0_note, Cond.instanceMethod yX0_note, Cond.selects RX0 yX0_note yX0_note, Cond.initialized RX0, Cond.code yX0_note cX0_note 2 none, Cond.methodLink RX0 20 yX0_noted, Cond.instanceMethod yX0_noted, Cond.selects RX0 yX0_noted yX0_noted, Cond.code yX0_noted cX0_noted 1 (some (.object "TwinPlates$Plates")), Cond.fieldLink RX0 11 "TwinPlates$History" "slots" "[LTwinPlates$Plates;", Cond.fieldLink RX0 28 "TwinPlates$History" "oldest" "I", Cond.fieldLink RX0 16 "TwinPlates$History" "size" "I", Cond.methodLink RX0 31 yJ9_floorMod_7cf53, Cond.static yJ9_floorMod_7cf53, Cond.initialized RJ9, Cond.code yJ9_floorMod_7cf53 cJ9_floorMod_7cf53 3 (some .int), Cond.methodLink RX0 24 yX1_become, Cond.instanceMethod yX1_become, Cond.selects RX1 yX1_become yX1_become, Cond.initialized RX1, Cond.code yX1_become cX1_become 2 none, Cond.fieldLink RX1 11 "TwinPlates$Plates" "copies" "[I"]
def wsX3_read_r2 : List Cond := [Cond.methodLink RX1 30 arraycopyName, Cond.native arraycopyName, Cond.static arraycopyName, Cond.initialized "java/lang/System", Cond.fieldLink RX1 15 "TwinPlates$Plates" "orders" "[I", Cond.fieldLink RX1 18 "TwinPlates$Plates" "written" "[I", Cond.fieldLink RX1 21 "TwinPlates$Plates" "waitingForBlock" "[I", Cond.fieldLink RX1 24 "TwinPlates$Plates" "workOnTrack" "[I", Cond.fieldLink RX1 36 "TwinPlates$Plates" "tick" "I", Cond.fieldLink RX1 40 "TwinPlates$Plates" "arm" "I", Cond.fieldLink RX1 43 "TwinPlates$Plates" "taken" "I", Cond.fieldLink RX1 46 "TwinPlates$Plates" "waiting" "I", Cond.fieldLink RX1 49 "TwinPlates$Plates" "wiped" "I", Cond.fieldLink RX1 52 "TwinPlates$Plates" "moves" "I", Cond.methodLink RX3 37 yX1_takeRead, Cond.instanceMethod yX1_takeRead, Cond.selects RX1 yX1_takeRead yX1_takeRead, Cond.code yX1_takeRead cX1_takeRead 3 (some .int), Cond.methodLink RX1 80 yX1_isBlock, Cond.static yX1_isBlock, Cond.code yX1_isBlock cX1_isBlock 2 (some .boolean), Cond.methodLink RX1 84 yX1_takeOrder, Cond.instanceMethod yX1_takeOrder, Cond.selects RX1 yX1_takeOrder yX1_takeOrder]
def wsX3_read_r3 : List Cond := [Cond.code yX1_takeOrder cX1_takeOrder 6 (some .int), Cond.methodLink RX1 68 yX1_blockAt, Cond.static yX1_blockAt, Cond.code yX1_blockAt cX1_blockAt 2 (some .int), Cond.methodLink RX3 41 yX3_settle, Cond.instanceMethod yX3_settle, Cond.selects RX3 yX3_settle yX3_settle, Cond.initialized RX3, Cond.code yX3_settle cX3_settle 2 (some .int), Cond.methodLink RX3 100 yX0_keepNoted, Cond.instanceMethod yX0_keepNoted, Cond.selects RX0 yX0_keepNoted yX0_keepNoted, Cond.code yX0_keepNoted cX0_keepNoted 1 none]
def wsX3_read : List Cond := .code yX3_read cX3_read 3 (some .int) :: ((wsX3_read_r1 ++ (wsX3_read_r2 ++ wsX3_read_r3)) ++ wsX30 ++ wsX00 ++ wsX10)
def wsX3_write_r1 : List Cond := [Cond.fieldLink RX3 22 "TwinPlates" "history" "LTwinPlates$History;", Cond.fieldLink RX3 10 "TwinPlates" "now" "LTwinPlates$Plates;", Cond.methodLink RX3 33 yX0_note, Cond.instanceMethod yX0_note, Cond.selects RX0 yX0_note yX0_note, Cond.initialized RX0, Cond.code yX0_note cX0_note 2 none, Cond.methodLink RX0 20 yX0_noted, Cond.instanceMethod yX0_noted, Cond.selects RX0 yX0_noted yX0_noted, Cond.code yX0_noted cX0_noted 1 (some (.object "TwinPlates$Plates")), Cond.fieldLink RX0 11 "TwinPlates$History" "slots" "[LTwinPlates$Plates;", Cond.fieldLink RX0 28 "TwinPlates$History" "oldest" "I", Cond.fieldLink RX0 16 "TwinPlates$History" "size" "I", Cond.methodLink RX0 31 yJ9_floorMod_7cf53, Cond.static yJ9_floorMod_7cf53, Cond.initialized RJ9, Cond.code yJ9_floorMod_7cf53 cJ9_floorMod_7cf53 3 (some .int), Cond.methodLink RX0 24 yX1_become, Cond.instanceMethod yX1_become, Cond.selects RX1 yX1_become yX1_become, Cond.initialized RX1, Cond.code yX1_become cX1_become 2 none, Cond.fieldLink RX1 11 "TwinPlates$Plates" "copies" "[I"]
def wsX3_write_r2 : List Cond := [Cond.methodLink RX1 30 arraycopyName, Cond.native arraycopyName, Cond.static arraycopyName, Cond.initialized "java/lang/System", Cond.fieldLink RX1 15 "TwinPlates$Plates" "orders" "[I", Cond.fieldLink RX1 18 "TwinPlates$Plates" "written" "[I", Cond.fieldLink RX1 21 "TwinPlates$Plates" "waitingForBlock" "[I", Cond.fieldLink RX1 24 "TwinPlates$Plates" "workOnTrack" "[I", Cond.fieldLink RX1 36 "TwinPlates$Plates" "tick" "I", Cond.fieldLink RX1 40 "TwinPlates$Plates" "arm" "I", Cond.fieldLink RX1 43 "TwinPlates$Plates" "taken" "I", Cond.fieldLink RX1 46 "TwinPlates$Plates" "waiting" "I", Cond.fieldLink RX1 49 "TwinPlates$Plates" "wiped" "I", Cond.fieldLink RX1 52 "TwinPlates$Plates" "moves" "I", Cond.methodLink RX3 45 yX1_takeWrite, Cond.instanceMethod yX1_takeWrite, Cond.selects RX1 yX1_takeWrite yX1_takeWrite, Cond.code yX1_takeWrite cX1_takeWrite 4 (some .int), Cond.methodLink RX1 80 yX1_isBlock, Cond.static yX1_isBlock, Cond.code yX1_isBlock cX1_isBlock 2 (some .boolean), Cond.methodLink RX1 84 yX1_takeOrder, Cond.instanceMethod yX1_takeOrder, Cond.selects RX1 yX1_takeOrder yX1_takeOrder]
def wsX3_write_r3 : List Cond := [Cond.code yX1_takeOrder cX1_takeOrder 6 (some .int), Cond.methodLink RX1 68 yX1_blockAt, Cond.static yX1_blockAt, Cond.code yX1_blockAt cX1_blockAt 2 (some .int), Cond.methodLink RX3 41 yX3_settle, Cond.instanceMethod yX3_settle, Cond.selects RX3 yX3_settle yX3_settle, Cond.initialized RX3, Cond.code yX3_settle cX3_settle 2 (some .int), Cond.methodLink RX3 100 yX0_keepNoted, Cond.instanceMethod yX0_keepNoted, Cond.selects RX0 yX0_keepNoted yX0_keepNoted, Cond.code yX0_keepNoted cX0_keepNoted 1 none]
def wsX3_write : List Cond := .code yX3_write cX3_write 4 (some .int) :: ((wsX3_write_r1 ++ (wsX3_write_r2 ++ wsX3_write_r3)) ++ wsX30 ++ wsX00 ++ wsX10)
def wsX3_pass_r1 : List Cond := [Cond.fieldLink RX3 22 "TwinPlates" "history" "LTwinPlates$History;", Cond.fieldLink RX3 10 "TwinPlates" "now" "LTwinPlates$Plates;", Cond.methodLink RX3 33 yX0_note, Cond.instanceMethod yX0_note, Cond.selects RX0 yX0_note yX0_note, Cond.initialized RX0, Cond.code yX0_note cX0_note 2 none, Cond.methodLink RX0 20 yX0_noted, Cond.instanceMethod yX0_noted, Cond.selects RX0 yX0_noted yX0_noted, Cond.code yX0_noted cX0_noted 1 (some (.object "TwinPlates$Plates")), Cond.fieldLink RX0 11 "TwinPlates$History" "slots" "[LTwinPlates$Plates;", Cond.fieldLink RX0 28 "TwinPlates$History" "oldest" "I", Cond.fieldLink RX0 16 "TwinPlates$History" "size" "I", Cond.methodLink RX0 31 yJ9_floorMod_7cf53, Cond.static yJ9_floorMod_7cf53, Cond.initialized RJ9, Cond.code yJ9_floorMod_7cf53 cJ9_floorMod_7cf53 3 (some .int), Cond.methodLink RX0 24 yX1_become, Cond.instanceMethod yX1_become, Cond.selects RX1 yX1_become yX1_become, Cond.initialized RX1, Cond.code yX1_become cX1_become 2 none, Cond.fieldLink RX1 11 "TwinPlates$Plates" "copies" "[I"]
def wsX3_pass_r2 : List Cond := [Cond.methodLink RX1 30 arraycopyName, Cond.native arraycopyName, Cond.static arraycopyName, Cond.initialized "java/lang/System", Cond.fieldLink RX1 15 "TwinPlates$Plates" "orders" "[I", Cond.fieldLink RX1 18 "TwinPlates$Plates" "written" "[I", Cond.fieldLink RX1 21 "TwinPlates$Plates" "waitingForBlock" "[I", Cond.fieldLink RX1 24 "TwinPlates$Plates" "workOnTrack" "[I", Cond.fieldLink RX1 36 "TwinPlates$Plates" "tick" "I", Cond.fieldLink RX1 40 "TwinPlates$Plates" "arm" "I", Cond.fieldLink RX1 43 "TwinPlates$Plates" "taken" "I", Cond.fieldLink RX1 46 "TwinPlates$Plates" "waiting" "I", Cond.fieldLink RX1 49 "TwinPlates$Plates" "wiped" "I", Cond.fieldLink RX1 52 "TwinPlates$Plates" "moves" "I", Cond.methodLink RX3 49 yX1_letPass, Cond.instanceMethod yX1_letPass, Cond.selects RX1 yX1_letPass yX1_letPass, Cond.code yX1_letPass cX1_letPass 4 (some .int), Cond.methodLink RX1 88 yX1_doTick, Cond.instanceMethod yX1_doTick, Cond.selects RX1 yX1_doTick yX1_doTick, Cond.code yX1_doTick cX1_doTick 1 none, Cond.methodLink RX1 27 yX1_forgetWritten, Cond.instanceMethod yX1_forgetWritten]
def wsX3_pass_r3 : List Cond := [Cond.selects RX1 yX1_forgetWritten yX1_forgetWritten, Cond.code yX1_forgetWritten cX1_forgetWritten 2 none, Cond.methodLink RX1 91 yX1_useHead, Cond.instanceMethod yX1_useHead, Cond.selects RX1 yX1_useHead yX1_useHead, Cond.code yX1_useHead cX1_useHead 8 none, Cond.methodLink RX1 61 yX1_sectorUnder, Cond.instanceMethod yX1_sectorUnder, Cond.selects RX1 yX1_sectorUnder yX1_sectorUnder, Cond.code yX1_sectorUnder cX1_sectorUnder 2 (some .int), Cond.methodLink RX1 55 yJ9_floorMod_7cf53, Cond.methodLink RX1 68 yX1_blockAt, Cond.static yX1_blockAt, Cond.code yX1_blockAt cX1_blockAt 2 (some .int), Cond.methodLink RX1 71 yX1_cellOf, Cond.static yX1_cellOf, Cond.code yX1_cellOf cX1_cellOf 2 (some .int), Cond.methodLink RX1 98 yX1_takeOver, Cond.instanceMethod yX1_takeOver, Cond.selects RX1 yX1_takeOver yX1_takeOver, Cond.code yX1_takeOver cX1_takeOver 3 none, Cond.methodLink RX1 120 yX1_setWhole, Cond.instanceMethod yX1_setWhole, Cond.selects RX1 yX1_setWhole yX1_setWhole]
def wsX3_pass_r4 : List Cond := [Cond.code yX1_setWhole cX1_setWhole 4 none, Cond.methodLink RX1 102 yX1_setLate, Cond.instanceMethod yX1_setLate, Cond.selects RX1 yX1_setLate yX1_setLate, Cond.code yX1_setLate cX1_setLate 3 none, Cond.methodLink RX1 105 yX1_firstWaiting, Cond.instanceMethod yX1_firstWaiting, Cond.selects RX1 yX1_firstWaiting yX1_firstWaiting, Cond.code yX1_firstWaiting cX1_firstWaiting 6 (some .int), Cond.methodLink RX1 109 yX1_doWrite, Cond.instanceMethod yX1_doWrite, Cond.selects RX1 yX1_doWrite yX1_doWrite, Cond.code yX1_doWrite cX1_doWrite 7 none, Cond.methodLink RX1 117 Lib.Math.max.name, Cond.static Lib.Math.max.name, Cond.initialized "java/lang/Math", Cond.code Lib.Math.max.name Lib.Math.max.code 2 (some .int), Cond.methodLink RX1 65 yX1_ofOrder, Cond.instanceMethod yX1_ofOrder, Cond.selects RX1 yX1_ofOrder yX1_ofOrder, Cond.code yX1_ofOrder cX1_ofOrder 3 (some .int), Cond.methodLink RX1 113 yX1_finish, Cond.instanceMethod yX1_finish, Cond.selects RX1 yX1_finish yX1_finish]
def wsX3_pass_r5 : List Cond := [Cond.code yX1_finish cX1_finish 5 none, Cond.methodLink RX1 95 yX1_moveArm, Cond.instanceMethod yX1_moveArm, Cond.selects RX1 yX1_moveArm yX1_moveArm, Cond.code yX1_moveArm cX1_moveArm 2 none, Cond.methodLink RX3 41 yX3_settle, Cond.instanceMethod yX3_settle, Cond.selects RX3 yX3_settle yX3_settle, Cond.initialized RX3, Cond.code yX3_settle cX3_settle 2 (some .int), Cond.methodLink RX3 100 yX0_keepNoted, Cond.instanceMethod yX0_keepNoted, Cond.selects RX0 yX0_keepNoted yX0_keepNoted, Cond.code yX0_keepNoted cX0_keepNoted 1 none]
def wsX3_pass : List Cond := .code yX3_pass cX3_pass 2 (some .int) :: ((wsX3_pass_r1 ++ (wsX3_pass_r2 ++ (wsX3_pass_r3 ++ (wsX3_pass_r4 ++ wsX3_pass_r5)))) ++ wsX30 ++ wsX00 ++ wsX10)
def wsX3_cut_r1 : List Cond := [Cond.fieldLink RX3 22 "TwinPlates" "history" "LTwinPlates$History;", Cond.fieldLink RX3 10 "TwinPlates" "now" "LTwinPlates$Plates;", Cond.methodLink RX3 33 yX0_note, Cond.instanceMethod yX0_note, Cond.selects RX0 yX0_note yX0_note, Cond.initialized RX0, Cond.code yX0_note cX0_note 2 none, Cond.methodLink RX0 20 yX0_noted, Cond.instanceMethod yX0_noted, Cond.selects RX0 yX0_noted yX0_noted, Cond.code yX0_noted cX0_noted 1 (some (.object "TwinPlates$Plates")), Cond.fieldLink RX0 11 "TwinPlates$History" "slots" "[LTwinPlates$Plates;", Cond.fieldLink RX0 28 "TwinPlates$History" "oldest" "I", Cond.fieldLink RX0 16 "TwinPlates$History" "size" "I", Cond.methodLink RX0 31 yJ9_floorMod_7cf53, Cond.static yJ9_floorMod_7cf53, Cond.initialized RJ9, Cond.code yJ9_floorMod_7cf53 cJ9_floorMod_7cf53 3 (some .int), Cond.methodLink RX0 24 yX1_become, Cond.instanceMethod yX1_become, Cond.selects RX1 yX1_become yX1_become, Cond.initialized RX1, Cond.code yX1_become cX1_become 2 none, Cond.fieldLink RX1 11 "TwinPlates$Plates" "copies" "[I"]
def wsX3_cut_r2 : List Cond := [Cond.methodLink RX1 30 arraycopyName, Cond.native arraycopyName, Cond.static arraycopyName, Cond.initialized "java/lang/System", Cond.fieldLink RX1 15 "TwinPlates$Plates" "orders" "[I", Cond.fieldLink RX1 18 "TwinPlates$Plates" "written" "[I", Cond.fieldLink RX1 21 "TwinPlates$Plates" "waitingForBlock" "[I", Cond.fieldLink RX1 24 "TwinPlates$Plates" "workOnTrack" "[I", Cond.fieldLink RX1 36 "TwinPlates$Plates" "tick" "I", Cond.fieldLink RX1 40 "TwinPlates$Plates" "arm" "I", Cond.fieldLink RX1 43 "TwinPlates$Plates" "taken" "I", Cond.fieldLink RX1 46 "TwinPlates$Plates" "waiting" "I", Cond.fieldLink RX1 49 "TwinPlates$Plates" "wiped" "I", Cond.fieldLink RX1 52 "TwinPlates$Plates" "moves" "I", Cond.methodLink RX3 52 yX1_cutPower, Cond.instanceMethod yX1_cutPower, Cond.selects RX1 yX1_cutPower yX1_cutPower, Cond.code yX1_cutPower cX1_cutPower 4 (some .int), Cond.methodLink RX1 123 yX1_dropWork, Cond.instanceMethod yX1_dropWork, Cond.selects RX1 yX1_dropWork yX1_dropWork, Cond.code yX1_dropWork cX1_dropWork 2 none, Cond.methodLink RX1 74 yX1_statusOf, Cond.instanceMethod yX1_statusOf]
def wsX3_cut_r3 : List Cond := [Cond.selects RX1 yX1_statusOf yX1_statusOf, Cond.code yX1_statusOf cX1_statusOf 2 (some .int), Cond.methodLink RX1 65 yX1_ofOrder, Cond.instanceMethod yX1_ofOrder, Cond.selects RX1 yX1_ofOrder yX1_ofOrder, Cond.code yX1_ofOrder cX1_ofOrder 3 (some .int), Cond.methodLink RX1 71 yX1_cellOf, Cond.static yX1_cellOf, Cond.code yX1_cellOf cX1_cellOf 2 (some .int), Cond.methodLink RX3 41 yX3_settle, Cond.instanceMethod yX3_settle, Cond.selects RX3 yX3_settle yX3_settle, Cond.initialized RX3, Cond.code yX3_settle cX3_settle 2 (some .int), Cond.methodLink RX3 100 yX0_keepNoted, Cond.instanceMethod yX0_keepNoted, Cond.selects RX0 yX0_keepNoted yX0_keepNoted, Cond.code yX0_keepNoted cX0_keepNoted 1 none]
def wsX3_cut : List Cond := .code yX3_cut cX3_cut 1 (some .int) :: ((wsX3_cut_r1 ++ (wsX3_cut_r2 ++ wsX3_cut_r3)) ++ wsX30 ++ wsX00 ++ wsX10)
def wsX3_sweep_r1 : List Cond := [Cond.fieldLink RX3 22 "TwinPlates" "history" "LTwinPlates$History;", Cond.fieldLink RX3 10 "TwinPlates" "now" "LTwinPlates$Plates;", Cond.methodLink RX3 33 yX0_note, Cond.instanceMethod yX0_note, Cond.selects RX0 yX0_note yX0_note, Cond.initialized RX0, Cond.code yX0_note cX0_note 2 none, Cond.methodLink RX0 20 yX0_noted, Cond.instanceMethod yX0_noted, Cond.selects RX0 yX0_noted yX0_noted, Cond.code yX0_noted cX0_noted 1 (some (.object "TwinPlates$Plates")), Cond.fieldLink RX0 11 "TwinPlates$History" "slots" "[LTwinPlates$Plates;", Cond.fieldLink RX0 28 "TwinPlates$History" "oldest" "I", Cond.fieldLink RX0 16 "TwinPlates$History" "size" "I", Cond.methodLink RX0 31 yJ9_floorMod_7cf53, Cond.static yJ9_floorMod_7cf53, Cond.initialized RJ9, Cond.code yJ9_floorMod_7cf53 cJ9_floorMod_7cf53 3 (some .int), Cond.methodLink RX0 24 yX1_become, Cond.instanceMethod yX1_become, Cond.selects RX1 yX1_become yX1_become, Cond.initialized RX1, Cond.code yX1_become cX1_become 2 none, Cond.fieldLink RX1 11 "TwinPlates$Plates" "copies" "[I"]
def wsX3_sweep_r2 : List Cond := [Cond.methodLink RX1 30 arraycopyName, Cond.native arraycopyName, Cond.static arraycopyName, Cond.initialized "java/lang/System", Cond.fieldLink RX1 15 "TwinPlates$Plates" "orders" "[I", Cond.fieldLink RX1 18 "TwinPlates$Plates" "written" "[I", Cond.fieldLink RX1 21 "TwinPlates$Plates" "waitingForBlock" "[I", Cond.fieldLink RX1 24 "TwinPlates$Plates" "workOnTrack" "[I", Cond.fieldLink RX1 36 "TwinPlates$Plates" "tick" "I", Cond.fieldLink RX1 40 "TwinPlates$Plates" "arm" "I", Cond.fieldLink RX1 43 "TwinPlates$Plates" "taken" "I", Cond.fieldLink RX1 46 "TwinPlates$Plates" "waiting" "I", Cond.fieldLink RX1 49 "TwinPlates$Plates" "wiped" "I", Cond.fieldLink RX1 52 "TwinPlates$Plates" "moves" "I", Cond.methodLink RX3 56 yX1_sweepBlocks, Cond.instanceMethod yX1_sweepBlocks, Cond.selects RX1 yX1_sweepBlocks yX1_sweepBlocks, Cond.code yX1_sweepBlocks cX1_sweepBlocks 1 (some .int), Cond.methodLink RX1 126 yX1_hasWork, Cond.instanceMethod yX1_hasWork, Cond.selects RX1 yX1_hasWork yX1_hasWork, Cond.code yX1_hasWork cX1_hasWork 2 (some .boolean), Cond.methodLink RX1 130 yX1_repairBlocks, Cond.instanceMethod yX1_repairBlocks]
def wsX3_sweep_r3 : List Cond := [Cond.selects RX1 yX1_repairBlocks yX1_repairBlocks, Cond.code yX1_repairBlocks cX1_repairBlocks 3 (some .int), Cond.methodLink RX1 71 yX1_cellOf, Cond.static yX1_cellOf, Cond.code yX1_cellOf cX1_cellOf 2 (some .int), Cond.methodLink RX1 134 yX1_repair, Cond.instanceMethod yX1_repair, Cond.selects RX1 yX1_repair yX1_repair, Cond.code yX1_repair cX1_repair 7 (some .int), Cond.methodLink RX1 120 yX1_setWhole, Cond.instanceMethod yX1_setWhole, Cond.selects RX1 yX1_setWhole yX1_setWhole, Cond.code yX1_setWhole cX1_setWhole 4 none, Cond.methodLink RX1 98 yX1_takeOver, Cond.instanceMethod yX1_takeOver, Cond.selects RX1 yX1_takeOver yX1_takeOver, Cond.code yX1_takeOver cX1_takeOver 3 none, Cond.methodLink RX1 27 yX1_forgetWritten, Cond.instanceMethod yX1_forgetWritten, Cond.selects RX1 yX1_forgetWritten yX1_forgetWritten, Cond.code yX1_forgetWritten cX1_forgetWritten 2 none, Cond.methodLink RX3 41 yX3_settle, Cond.instanceMethod yX3_settle, Cond.selects RX3 yX3_settle yX3_settle]
def wsX3_sweep_r4 : List Cond := [Cond.initialized RX3, Cond.code yX3_settle cX3_settle 2 (some .int), Cond.methodLink RX3 100 yX0_keepNoted, Cond.instanceMethod yX0_keepNoted, Cond.selects RX0 yX0_keepNoted yX0_keepNoted, Cond.code yX0_keepNoted cX0_keepNoted 1 none]
def wsX3_sweep : List Cond := .code yX3_sweep cX3_sweep 1 (some .int) :: ((wsX3_sweep_r1 ++ (wsX3_sweep_r2 ++ (wsX3_sweep_r3 ++ wsX3_sweep_r4))) ++ wsX30 ++ wsX00 ++ wsX10)
def wsX3_undo_r1 : List Cond := [Cond.fieldLink RX3 22 "TwinPlates" "history" "LTwinPlates$History;", Cond.fieldLink RX3 10 "TwinPlates" "now" "LTwinPlates$Plates;", Cond.methodLink RX3 59 yX0_size, Cond.instanceMethod yX0_size, Cond.selects RX0 yX0_size yX0_size, Cond.initialized RX0, Cond.code yX0_size cX0_size 1 (some .int), Cond.fieldLink RX0 16 "TwinPlates$History" "size" "I", Cond.methodLink RX3 62 yX0_dropLatest, Cond.instanceMethod yX0_dropLatest, Cond.selects RX0 yX0_dropLatest yX0_dropLatest, Cond.code yX0_dropLatest cX0_dropLatest 1 none, Cond.methodLink RX3 65 yX0_restoreNoted, Cond.instanceMethod yX0_restoreNoted, Cond.selects RX0 yX0_restoreNoted yX0_restoreNoted, Cond.code yX0_restoreNoted cX0_restoreNoted 2 none, Cond.methodLink RX0 20 yX0_noted, Cond.instanceMethod yX0_noted, Cond.selects RX0 yX0_noted yX0_noted, Cond.code yX0_noted cX0_noted 1 (some (.object "TwinPlates$Plates")), Cond.fieldLink RX0 11 "TwinPlates$History" "slots" "[LTwinPlates$Plates;", Cond.fieldLink RX0 28 "TwinPlates$History" "oldest" "I", Cond.methodLink RX0 31 yJ9_floorMod_7cf53, Cond.static yJ9_floorMod_7cf53]
def wsX3_undo_r2 : List Cond := [Cond.initialized RJ9, Cond.code yJ9_floorMod_7cf53 cJ9_floorMod_7cf53 3 (some .int), Cond.methodLink RX0 24 yX1_become, Cond.instanceMethod yX1_become, Cond.selects RX1 yX1_become yX1_become, Cond.initialized RX1, Cond.code yX1_become cX1_become 2 none, Cond.fieldLink RX1 11 "TwinPlates$Plates" "copies" "[I", Cond.methodLink RX1 30 arraycopyName, Cond.native arraycopyName, Cond.static arraycopyName, Cond.initialized "java/lang/System", Cond.fieldLink RX1 15 "TwinPlates$Plates" "orders" "[I", Cond.fieldLink RX1 18 "TwinPlates$Plates" "written" "[I", Cond.fieldLink RX1 21 "TwinPlates$Plates" "waitingForBlock" "[I", Cond.fieldLink RX1 24 "TwinPlates$Plates" "workOnTrack" "[I", Cond.fieldLink RX1 36 "TwinPlates$Plates" "tick" "I", Cond.fieldLink RX1 40 "TwinPlates$Plates" "arm" "I", Cond.fieldLink RX1 43 "TwinPlates$Plates" "taken" "I", Cond.fieldLink RX1 46 "TwinPlates$Plates" "waiting" "I", Cond.fieldLink RX1 49 "TwinPlates$Plates" "wiped" "I", Cond.fieldLink RX1 52 "TwinPlates$Plates" "moves" "I"]
def wsX3_undo : List Cond := .code yX3_undo cX3_undo 1 (some .int) :: ((wsX3_undo_r1 ++ wsX3_undo_r2) ++ wsX30 ++ wsX00 ++ wsX10)
def wsX3_append : List Cond := .code yX3_append cX3_append 2 (some .int) :: ([.fieldLink RX3 29 "TwinPlates" "program" "LTwinPlates$Program;", .methodLink RX3 68 yX2_isFull, .instanceMethod yX2_isFull, .selects RX2 yX2_isFull yX2_isFull, .initialized RX2, .code yX2_isFull cX2_isFull 1 (some .boolean), .fieldLink RX2 25 "TwinPlates$Program" "length" "I", .methodLink RX3 72 yX2_addSign, .instanceMethod yX2_addSign, .selects RX2 yX2_addSign yX2_addSign, .code yX2_addSign cX2_addSign 2 none, .fieldLink RX2 9 "TwinPlates$Program" "text" "[I", .methodLink RX2 29 yX2_isFull, .methodLink RX3 76 yX2_length, .instanceMethod yX2_length, .selects RX2 yX2_length yX2_length, .code yX2_length cX2_length 1 (some .int)] ++ wsX30 ++ wsX20)
def wsX3_clearText : List Cond := .code yX3_clearText cX3_clearText 2 (some .int) :: ([.fieldLink RX3 29 "TwinPlates" "program" "LTwinPlates$Program;", .methodLink RX3 76 yX2_length, .instanceMethod yX2_length, .selects RX2 yX2_length yX2_length, .initialized RX2, .code yX2_length cX2_length 1 (some .int), .fieldLink RX2 25 "TwinPlates$Program" "length" "I", .methodLink RX3 79 yX2_makeEmpty, .instanceMethod yX2_makeEmpty, .selects RX2 yX2_makeEmpty yX2_makeEmpty, .code yX2_makeEmpty cX2_makeEmpty 1 none] ++ wsX30 ++ wsX20)
def wsX3_perform_r1 : List Cond := [Cond.fieldLink RX3 29 "TwinPlates" "program" "LTwinPlates$Program;", Cond.fieldLink RX3 10 "TwinPlates" "now" "LTwinPlates$Plates;", Cond.methodLink RX3 177 yX2_numberBehind, Cond.instanceMethod yX2_numberBehind, Cond.selects RX2 yX2_numberBehind yX2_numberBehind, Cond.initialized RX2, Cond.code yX2_numberBehind cX2_numberBehind 3 (some .int), Cond.fieldLink RX2 13 "TwinPlates$Program" "numbers" "[I", Cond.methodLink RX3 180 yX2_signAt, Cond.instanceMethod yX2_signAt, Cond.selects RX2 yX2_signAt yX2_signAt, Cond.code yX2_signAt cX2_signAt 2 (some .int), Cond.fieldLink RX2 25 "TwinPlates$Program" "length" "I", Cond.fieldLink RX2 9 "TwinPlates$Program" "text" "[I", Cond.methodLink RX3 37 yX1_takeRead, Cond.instanceMethod yX1_takeRead, Cond.selects RX1 yX1_takeRead yX1_takeRead, Cond.initialized RX1, Cond.code yX1_takeRead cX1_takeRead 3 (some .int), Cond.methodLink RX1 80 yX1_isBlock, Cond.static yX1_isBlock, Cond.code yX1_isBlock cX1_isBlock 2 (some .boolean), Cond.methodLink RX1 84 yX1_takeOrder, Cond.instanceMethod yX1_takeOrder]
def wsX3_perform_r2 : List Cond := [Cond.selects RX1 yX1_takeOrder yX1_takeOrder, Cond.code yX1_takeOrder cX1_takeOrder 6 (some .int), Cond.fieldLink RX1 43 "TwinPlates$Plates" "taken" "I", Cond.fieldLink RX1 46 "TwinPlates$Plates" "waiting" "I", Cond.fieldLink RX1 15 "TwinPlates$Plates" "orders" "[I", Cond.fieldLink RX1 36 "TwinPlates$Plates" "tick" "I", Cond.fieldLink RX1 21 "TwinPlates$Plates" "waitingForBlock" "[I", Cond.fieldLink RX1 24 "TwinPlates$Plates" "workOnTrack" "[I", Cond.methodLink RX1 68 yX1_blockAt, Cond.static yX1_blockAt, Cond.code yX1_blockAt cX1_blockAt 2 (some .int), Cond.methodLink RX3 45 yX1_takeWrite, Cond.instanceMethod yX1_takeWrite, Cond.selects RX1 yX1_takeWrite yX1_takeWrite, Cond.code yX1_takeWrite cX1_takeWrite 4 (some .int), Cond.methodLink RX3 49 yX1_letPass, Cond.instanceMethod yX1_letPass, Cond.selects RX1 yX1_letPass yX1_letPass, Cond.code yX1_letPass cX1_letPass 4 (some .int), Cond.methodLink RX1 88 yX1_doTick, Cond.instanceMethod yX1_doTick, Cond.selects RX1 yX1_doTick yX1_doTick, Cond.code yX1_doTick cX1_doTick 1 none, Cond.fieldLink RX1 40 "TwinPlates$Plates" "arm" "I"]
def wsX3_perform_r3 : List Cond := [Cond.methodLink RX1 27 yX1_forgetWritten, Cond.instanceMethod yX1_forgetWritten, Cond.selects RX1 yX1_forgetWritten yX1_forgetWritten, Cond.code yX1_forgetWritten cX1_forgetWritten 2 none, Cond.fieldLink RX1 18 "TwinPlates$Plates" "written" "[I", Cond.methodLink RX1 91 yX1_useHead, Cond.instanceMethod yX1_useHead, Cond.selects RX1 yX1_useHead yX1_useHead, Cond.code yX1_useHead cX1_useHead 8 none, Cond.fieldLink RX1 11 "TwinPlates$Plates" "copies" "[I", Cond.methodLink RX1 61 yX1_sectorUnder, Cond.instanceMethod yX1_sectorUnder, Cond.selects RX1 yX1_sectorUnder yX1_sectorUnder, Cond.code yX1_sectorUnder cX1_sectorUnder 2 (some .int), Cond.methodLink RX1 55 yJ9_floorMod_7cf53, Cond.static yJ9_floorMod_7cf53, Cond.initialized RJ9, Cond.code yJ9_floorMod_7cf53 cJ9_floorMod_7cf53 3 (some .int), Cond.methodLink RX1 71 yX1_cellOf, Cond.static yX1_cellOf, Cond.code yX1_cellOf cX1_cellOf 2 (some .int), Cond.methodLink RX1 98 yX1_takeOver, Cond.instanceMethod yX1_takeOver, Cond.selects RX1 yX1_takeOver yX1_takeOver]
def wsX3_perform_r4 : List Cond := [Cond.code yX1_takeOver cX1_takeOver 3 none, Cond.methodLink RX1 120 yX1_setWhole, Cond.instanceMethod yX1_setWhole, Cond.selects RX1 yX1_setWhole yX1_setWhole, Cond.code yX1_setWhole cX1_setWhole 4 none, Cond.methodLink RX1 102 yX1_setLate, Cond.instanceMethod yX1_setLate, Cond.selects RX1 yX1_setLate yX1_setLate, Cond.code yX1_setLate cX1_setLate 3 none, Cond.methodLink RX1 105 yX1_firstWaiting, Cond.instanceMethod yX1_firstWaiting, Cond.selects RX1 yX1_firstWaiting yX1_firstWaiting, Cond.code yX1_firstWaiting cX1_firstWaiting 6 (some .int), Cond.methodLink RX1 109 yX1_doWrite, Cond.instanceMethod yX1_doWrite, Cond.selects RX1 yX1_doWrite yX1_doWrite, Cond.code yX1_doWrite cX1_doWrite 7 none, Cond.methodLink RX1 117 Lib.Math.max.name, Cond.static Lib.Math.max.name, Cond.initialized "java/lang/Math", Cond.code Lib.Math.max.name Lib.Math.max.code 2 (some .int), Cond.methodLink RX1 65 yX1_ofOrder, Cond.instanceMethod yX1_ofOrder, Cond.selects RX1 yX1_ofOrder yX1_ofOrder]
def wsX3_perform_r5 : List Cond := [Cond.code yX1_ofOrder cX1_ofOrder 3 (some .int), Cond.methodLink RX1 113 yX1_finish, Cond.instanceMethod yX1_finish, Cond.selects RX1 yX1_finish yX1_finish, Cond.code yX1_finish cX1_finish 5 none, Cond.methodLink RX1 95 yX1_moveArm, Cond.instanceMethod yX1_moveArm, Cond.selects RX1 yX1_moveArm yX1_moveArm, Cond.code yX1_moveArm cX1_moveArm 2 none, Cond.fieldLink RX1 52 "TwinPlates$Plates" "moves" "I", Cond.methodLink RX3 52 yX1_cutPower, Cond.instanceMethod yX1_cutPower, Cond.selects RX1 yX1_cutPower yX1_cutPower, Cond.code yX1_cutPower cX1_cutPower 4 (some .int), Cond.methodLink RX1 123 yX1_dropWork, Cond.instanceMethod yX1_dropWork, Cond.selects RX1 yX1_dropWork yX1_dropWork, Cond.code yX1_dropWork cX1_dropWork 2 none, Cond.methodLink RX1 74 yX1_statusOf, Cond.instanceMethod yX1_statusOf, Cond.selects RX1 yX1_statusOf yX1_statusOf, Cond.code yX1_statusOf cX1_statusOf 2 (some .int)]
def wsX3_perform : List Cond := .code yX3_perform cX3_perform 5 (some .int) :: ((wsX3_perform_r1 ++ (wsX3_perform_r2 ++ (wsX3_perform_r3 ++ (wsX3_perform_r4 ++ wsX3_perform_r5)))) ++ wsX30 ++ wsX20 ++ wsX10)
def wsX3_run_r1 : List Cond := [Cond.fieldLink RX3 29 "TwinPlates" "program" "LTwinPlates$Program;", Cond.fieldLink RX3 22 "TwinPlates" "history" "LTwinPlates$History;", Cond.fieldLink RX3 10 "TwinPlates" "now" "LTwinPlates$Plates;", Cond.methodLink RX3 82 yX2_isUnderstood, Cond.instanceMethod yX2_isUnderstood, Cond.selects RX2 yX2_isUnderstood yX2_isUnderstood, Cond.initialized RX2, Cond.code yX2_isUnderstood cX2_isUnderstood 2 (some .boolean), Cond.fieldLink RX2 36 "TwinPlates$Program" "place" "I", Cond.fieldLink RX2 33 "TwinPlates$Program" "steps" "I", Cond.fieldLink RX2 39 "TwinPlates$Program" "depth" "I", Cond.fieldLink RX2 25 "TwinPlates$Program" "length" "I", Cond.methodLink RX2 42 yX2_readPiece, Cond.instanceMethod yX2_readPiece, Cond.selects RX2 yX2_readPiece yX2_readPiece, Cond.code yX2_readPiece cX2_readPiece 2 (some .boolean), Cond.methodLink RX2 45 yX2_signAt, Cond.instanceMethod yX2_signAt, Cond.selects RX2 yX2_signAt yX2_signAt, Cond.code yX2_signAt cX2_signAt 2 (some .int), Cond.fieldLink RX2 9 "TwinPlates$Program" "text" "[I", Cond.methodLink RX2 49 yX2_openGroup, Cond.instanceMethod yX2_openGroup, Cond.selects RX2 yX2_openGroup yX2_openGroup]
def wsX3_run_r2 : List Cond := [Cond.code yX2_openGroup cX2_openGroup 2 (some .boolean), Cond.fieldLink RX2 19 "TwinPlates$Program" "groupTimes" "[I", Cond.fieldLink RX2 22 "TwinPlates$Program" "groupStart" "[I", Cond.methodLink RX2 52 yX2_closeGroup, Cond.instanceMethod yX2_closeGroup, Cond.selects RX2 yX2_closeGroup yX2_closeGroup, Cond.code yX2_closeGroup cX2_closeGroup 5 (some .boolean), Cond.fieldLink RX2 16 "TwinPlates$Program" "letters" "[I", Cond.methodLink RX2 58 yX2_addStep, Cond.instanceMethod yX2_addStep, Cond.selects RX2 yX2_addStep yX2_addStep, Cond.code yX2_addStep cX2_addStep 2 none, Cond.methodLink RX2 55 yX2_readAct, Cond.instanceMethod yX2_readAct, Cond.selects RX2 yX2_readAct yX2_readAct, Cond.code yX2_readAct cX2_readAct 2 (some .boolean), Cond.methodLink RX2 62 yX2_readNumber, Cond.instanceMethod yX2_readNumber, Cond.selects RX2 yX2_readNumber yX2_readNumber, Cond.code yX2_readNumber cX2_readNumber 6 (some .boolean), Cond.fieldLink RX2 13 "TwinPlates$Program" "numbers" "[I", Cond.methodLink RX2 70 yX2_isDigit, Cond.static yX2_isDigit, Cond.code yX2_isDigit cX2_isDigit 1 (some .boolean)]
def wsX3_run_r3 : List Cond := [Cond.methodLink RX2 66 yX2_readSign, Cond.instanceMethod yX2_readSign, Cond.selects RX2 yX2_readSign yX2_readSign, Cond.code yX2_readSign cX2_readSign 2 (some .boolean), Cond.methodLink RX3 85 yX2_place, Cond.instanceMethod yX2_place, Cond.selects RX2 yX2_place yX2_place, Cond.code yX2_place cX2_place 1 (some .int), Cond.methodLink RX3 88 yX2_hasTooManySteps, Cond.instanceMethod yX2_hasTooManySteps, Cond.selects RX2 yX2_hasTooManySteps yX2_hasTooManySteps, Cond.code yX2_hasTooManySteps cX2_hasTooManySteps 1 (some .boolean), Cond.methodLink RX3 91 yX2_letterOfStep, Cond.instanceMethod yX2_letterOfStep, Cond.selects RX2 yX2_letterOfStep yX2_letterOfStep, Cond.code yX2_letterOfStep cX2_letterOfStep 2 (some .int), Cond.methodLink RX3 33 yX0_note, Cond.instanceMethod yX0_note, Cond.selects RX0 yX0_note yX0_note, Cond.initialized RX0, Cond.code yX0_note cX0_note 2 none, Cond.methodLink RX0 20 yX0_noted, Cond.instanceMethod yX0_noted, Cond.selects RX0 yX0_noted yX0_noted]
def wsX3_run_r4 : List Cond := [Cond.code yX0_noted cX0_noted 1 (some (.object "TwinPlates$Plates")), Cond.fieldLink RX0 11 "TwinPlates$History" "slots" "[LTwinPlates$Plates;", Cond.fieldLink RX0 28 "TwinPlates$History" "oldest" "I", Cond.fieldLink RX0 16 "TwinPlates$History" "size" "I", Cond.methodLink RX0 31 yJ9_floorMod_7cf53, Cond.static yJ9_floorMod_7cf53, Cond.initialized RJ9, Cond.code yJ9_floorMod_7cf53 cJ9_floorMod_7cf53 3 (some .int), Cond.methodLink RX0 24 yX1_become, Cond.instanceMethod yX1_become, Cond.selects RX1 yX1_become yX1_become, Cond.initialized RX1, Cond.code yX1_become cX1_become 2 none, Cond.fieldLink RX1 11 "TwinPlates$Plates" "copies" "[I", Cond.methodLink RX1 30 arraycopyName, Cond.native arraycopyName, Cond.static arraycopyName, Cond.initialized "java/lang/System", Cond.fieldLink RX1 15 "TwinPlates$Plates" "orders" "[I", Cond.fieldLink RX1 18 "TwinPlates$Plates" "written" "[I", Cond.fieldLink RX1 21 "TwinPlates$Plates" "waitingForBlock" "[I", Cond.fieldLink RX1 24 "TwinPlates$Plates" "workOnTrack" "[I", Cond.fieldLink RX1 36 "TwinPlates$Plates" "tick" "I", Cond.fieldLink RX1 40 "TwinPlates$Plates" "arm" "I"]
def wsX3_run_r5 : List Cond := [Cond.fieldLink RX1 43 "TwinPlates$Plates" "taken" "I", Cond.fieldLink RX1 46 "TwinPlates$Plates" "waiting" "I", Cond.fieldLink RX1 49 "TwinPlates$Plates" "wiped" "I", Cond.fieldLink RX1 52 "TwinPlates$Plates" "moves" "I", Cond.methodLink RX3 94 yX2_steps, Cond.instanceMethod yX2_steps, Cond.selects RX2 yX2_steps yX2_steps, Cond.code yX2_steps cX2_steps 1 (some .int), Cond.methodLink RX3 97 yX3_perform, Cond.instanceMethod yX3_perform, Cond.selects RX3 yX3_perform yX3_perform, Cond.initialized RX3, Cond.code yX3_perform cX3_perform 5 (some .int), Cond.methodLink RX3 177 yX2_numberBehind, Cond.instanceMethod yX2_numberBehind, Cond.selects RX2 yX2_numberBehind yX2_numberBehind, Cond.code yX2_numberBehind cX2_numberBehind 3 (some .int), Cond.methodLink RX3 180 yX2_signAt, Cond.methodLink RX3 37 yX1_takeRead, Cond.instanceMethod yX1_takeRead, Cond.selects RX1 yX1_takeRead yX1_takeRead, Cond.code yX1_takeRead cX1_takeRead 3 (some .int), Cond.methodLink RX1 80 yX1_isBlock, Cond.static yX1_isBlock]
def wsX3_run_r6 : List Cond := [Cond.code yX1_isBlock cX1_isBlock 2 (some .boolean), Cond.methodLink RX1 84 yX1_takeOrder, Cond.instanceMethod yX1_takeOrder, Cond.selects RX1 yX1_takeOrder yX1_takeOrder, Cond.code yX1_takeOrder cX1_takeOrder 6 (some .int), Cond.methodLink RX1 68 yX1_blockAt, Cond.static yX1_blockAt, Cond.code yX1_blockAt cX1_blockAt 2 (some .int), Cond.methodLink RX3 45 yX1_takeWrite, Cond.instanceMethod yX1_takeWrite, Cond.selects RX1 yX1_takeWrite yX1_takeWrite, Cond.code yX1_takeWrite cX1_takeWrite 4 (some .int), Cond.methodLink RX3 49 yX1_letPass, Cond.instanceMethod yX1_letPass, Cond.selects RX1 yX1_letPass yX1_letPass, Cond.code yX1_letPass cX1_letPass 4 (some .int), Cond.methodLink RX1 88 yX1_doTick, Cond.instanceMethod yX1_doTick, Cond.selects RX1 yX1_doTick yX1_doTick, Cond.code yX1_doTick cX1_doTick 1 none, Cond.methodLink RX1 27 yX1_forgetWritten, Cond.instanceMethod yX1_forgetWritten, Cond.selects RX1 yX1_forgetWritten yX1_forgetWritten, Cond.code yX1_forgetWritten cX1_forgetWritten 2 none]
def wsX3_run_r7 : List Cond := [Cond.methodLink RX1 91 yX1_useHead, Cond.instanceMethod yX1_useHead, Cond.selects RX1 yX1_useHead yX1_useHead, Cond.code yX1_useHead cX1_useHead 8 none, Cond.methodLink RX1 61 yX1_sectorUnder, Cond.instanceMethod yX1_sectorUnder, Cond.selects RX1 yX1_sectorUnder yX1_sectorUnder, Cond.code yX1_sectorUnder cX1_sectorUnder 2 (some .int), Cond.methodLink RX1 55 yJ9_floorMod_7cf53, Cond.methodLink RX1 71 yX1_cellOf, Cond.static yX1_cellOf, Cond.code yX1_cellOf cX1_cellOf 2 (some .int), Cond.methodLink RX1 98 yX1_takeOver, Cond.instanceMethod yX1_takeOver, Cond.selects RX1 yX1_takeOver yX1_takeOver, Cond.code yX1_takeOver cX1_takeOver 3 none, Cond.methodLink RX1 120 yX1_setWhole, Cond.instanceMethod yX1_setWhole, Cond.selects RX1 yX1_setWhole yX1_setWhole, Cond.code yX1_setWhole cX1_setWhole 4 none, Cond.methodLink RX1 102 yX1_setLate, Cond.instanceMethod yX1_setLate, Cond.selects RX1 yX1_setLate yX1_setLate, Cond.code yX1_setLate cX1_setLate 3 none]
def wsX3_run_r8 : List Cond := [Cond.methodLink RX1 105 yX1_firstWaiting, Cond.instanceMethod yX1_firstWaiting, Cond.selects RX1 yX1_firstWaiting yX1_firstWaiting, Cond.code yX1_firstWaiting cX1_firstWaiting 6 (some .int), Cond.methodLink RX1 109 yX1_doWrite, Cond.instanceMethod yX1_doWrite, Cond.selects RX1 yX1_doWrite yX1_doWrite, Cond.code yX1_doWrite cX1_doWrite 7 none, Cond.methodLink RX1 117 Lib.Math.max.name, Cond.static Lib.Math.max.name, Cond.initialized "java/lang/Math", Cond.code Lib.Math.max.name Lib.Math.max.code 2 (some .int), Cond.methodLink RX1 65 yX1_ofOrder, Cond.instanceMethod yX1_ofOrder, Cond.selects RX1 yX1_ofOrder yX1_ofOrder, Cond.code yX1_ofOrder cX1_ofOrder 3 (some .int), Cond.methodLink RX1 113 yX1_finish, Cond.instanceMethod yX1_finish, Cond.selects RX1 yX1_finish yX1_finish, Cond.code yX1_finish cX1_finish 5 none, Cond.methodLink RX1 95 yX1_moveArm, Cond.instanceMethod yX1_moveArm, Cond.selects RX1 yX1_moveArm yX1_moveArm, Cond.code yX1_moveArm cX1_moveArm 2 none]
def wsX3_run_r9 : List Cond := [Cond.methodLink RX3 52 yX1_cutPower, Cond.instanceMethod yX1_cutPower, Cond.selects RX1 yX1_cutPower yX1_cutPower, Cond.code yX1_cutPower cX1_cutPower 4 (some .int), Cond.methodLink RX1 123 yX1_dropWork, Cond.instanceMethod yX1_dropWork, Cond.selects RX1 yX1_dropWork yX1_dropWork, Cond.code yX1_dropWork cX1_dropWork 2 none, Cond.methodLink RX1 74 yX1_statusOf, Cond.instanceMethod yX1_statusOf, Cond.selects RX1 yX1_statusOf yX1_statusOf, Cond.code yX1_statusOf cX1_statusOf 2 (some .int), Cond.methodLink RX3 65 yX0_restoreNoted, Cond.instanceMethod yX0_restoreNoted, Cond.selects RX0 yX0_restoreNoted yX0_restoreNoted, Cond.code yX0_restoreNoted cX0_restoreNoted 2 none, Cond.methodLink RX3 100 yX0_keepNoted, Cond.instanceMethod yX0_keepNoted, Cond.selects RX0 yX0_keepNoted yX0_keepNoted, Cond.code yX0_keepNoted cX0_keepNoted 1 none]
def wsX3_run : List Cond := .code yX3_run cX3_run 4 (some .int) :: ((wsX3_run_r1 ++ (wsX3_run_r2 ++ (wsX3_run_r3 ++ (wsX3_run_r4 ++ (wsX3_run_r5 ++ (wsX3_run_r6 ++ (wsX3_run_r7 ++ (wsX3_run_r8 ++ wsX3_run_r9)))))))) ++ wsX30 ++ wsX20 ++ wsX00 ++ wsX10)
def wsX3_count_r1 : List Cond := [Cond.fieldLink RX3 10 "TwinPlates" "now" "LTwinPlates$Plates;", Cond.fieldLink RX3 22 "TwinPlates" "history" "LTwinPlates$History;", Cond.fieldLink RX3 29 "TwinPlates" "program" "LTwinPlates$Program;", Cond.methodLink RX3 103 yX1_tick, Cond.instanceMethod yX1_tick, Cond.selects RX1 yX1_tick yX1_tick, Cond.initialized RX1, Cond.code yX1_tick cX1_tick 1 (some .int), Cond.fieldLink RX1 36 "TwinPlates$Plates" "tick" "I", Cond.methodLink RX3 106 yX1_arm, Cond.instanceMethod yX1_arm, Cond.selects RX1 yX1_arm yX1_arm, Cond.code yX1_arm cX1_arm 1 (some .int), Cond.fieldLink RX1 40 "TwinPlates$Plates" "arm" "I", Cond.methodLink RX3 109 yX1_sectorUnder, Cond.instanceMethod yX1_sectorUnder, Cond.selects RX1 yX1_sectorUnder yX1_sectorUnder, Cond.code yX1_sectorUnder cX1_sectorUnder 2 (some .int), Cond.methodLink RX1 55 yJ9_floorMod_7cf53, Cond.static yJ9_floorMod_7cf53, Cond.initialized RJ9, Cond.code yJ9_floorMod_7cf53 cJ9_floorMod_7cf53 3 (some .int), Cond.methodLink RX3 112 yX1_taken, Cond.instanceMethod yX1_taken]
def wsX3_count_r2 : List Cond := [Cond.selects RX1 yX1_taken yX1_taken, Cond.code yX1_taken cX1_taken 1 (some .int), Cond.fieldLink RX1 43 "TwinPlates$Plates" "taken" "I", Cond.methodLink RX3 115 yX1_countOrders, Cond.instanceMethod yX1_countOrders, Cond.selects RX1 yX1_countOrders yX1_countOrders, Cond.code yX1_countOrders cX1_countOrders 4 (some .int), Cond.methodLink RX1 74 yX1_statusOf, Cond.instanceMethod yX1_statusOf, Cond.selects RX1 yX1_statusOf yX1_statusOf, Cond.code yX1_statusOf cX1_statusOf 2 (some .int), Cond.methodLink RX1 65 yX1_ofOrder, Cond.instanceMethod yX1_ofOrder, Cond.selects RX1 yX1_ofOrder yX1_ofOrder, Cond.code yX1_ofOrder cX1_ofOrder 3 (some .int), Cond.fieldLink RX1 15 "TwinPlates$Plates" "orders" "[I", Cond.methodLink RX3 118 yX1_countCopies, Cond.instanceMethod yX1_countCopies, Cond.selects RX1 yX1_countCopies yX1_countCopies, Cond.code yX1_countCopies cX1_countCopies 4 (some .int), Cond.fieldLink RX1 11 "TwinPlates$Plates" "copies" "[I", Cond.methodLink RX1 71 yX1_cellOf, Cond.static yX1_cellOf, Cond.code yX1_cellOf cX1_cellOf 2 (some .int)]
def wsX3_count_r3 : List Cond := [Cond.methodLink RX3 121 yX1_countUnlikeBlocks, Cond.instanceMethod yX1_countUnlikeBlocks, Cond.selects RX1 yX1_countUnlikeBlocks yX1_countUnlikeBlocks, Cond.code yX1_countUnlikeBlocks cX1_countUnlikeBlocks 5 (some .int), Cond.methodLink RX3 124 yX1_wiped, Cond.instanceMethod yX1_wiped, Cond.selects RX1 yX1_wiped yX1_wiped, Cond.code yX1_wiped cX1_wiped 1 (some .int), Cond.fieldLink RX1 49 "TwinPlates$Plates" "wiped" "I", Cond.methodLink RX3 127 yX1_moves, Cond.instanceMethod yX1_moves, Cond.selects RX1 yX1_moves yX1_moves, Cond.code yX1_moves cX1_moves 1 (some .int), Cond.fieldLink RX1 52 "TwinPlates$Plates" "moves" "I", Cond.methodLink RX3 59 yX0_size, Cond.instanceMethod yX0_size, Cond.selects RX0 yX0_size yX0_size, Cond.initialized RX0, Cond.code yX0_size cX0_size 1 (some .int), Cond.fieldLink RX0 16 "TwinPlates$History" "size" "I", Cond.methodLink RX3 76 yX2_length, Cond.instanceMethod yX2_length, Cond.selects RX2 yX2_length yX2_length, Cond.initialized RX2]
def wsX3_count_r4 : List Cond := [Cond.code yX2_length cX2_length 1 (some .int), Cond.fieldLink RX2 25 "TwinPlates$Program" "length" "I"]
def wsX3_count : List Cond := .code yX3_count cX3_count 2 (some .int) :: ((wsX3_count_r1 ++ (wsX3_count_r2 ++ (wsX3_count_r3 ++ wsX3_count_r4))) ++ wsX30 ++ wsX10 ++ wsX00 ++ wsX20)
def wsX3_copy : List Cond := .code yX3_copy cX3_copy 5 (some .int) :: ([.fieldLink RX3 10 "TwinPlates" "now" "LTwinPlates$Plates;", .methodLink RX3 130 yX1_isBlock, .static yX1_isBlock, .initialized RX1, .code yX1_isBlock cX1_isBlock 2 (some .boolean), .methodLink RX3 134 yX1_ofCopy, .instanceMethod yX1_ofCopy, .selects RX1 yX1_ofCopy yX1_ofCopy, .code yX1_ofCopy cX1_ofCopy 5 (some .int), .fieldLink RX1 11 "TwinPlates$Plates" "copies" "[I", .methodLink RX1 68 yX1_blockAt, .static yX1_blockAt, .code yX1_blockAt cX1_blockAt 2 (some .int), .methodLink RX1 71 yX1_cellOf, .static yX1_cellOf, .code yX1_cellOf cX1_cellOf 2 (some .int)] ++ wsX30 ++ wsX10)
def wsX3_order : List Cond := .code yX3_order cX3_order 3 (some .int) :: ([.fieldLink RX3 10 "TwinPlates" "now" "LTwinPlates$Plates;", .methodLink RX3 138 yX1_hasOrder, .instanceMethod yX1_hasOrder, .selects RX1 yX1_hasOrder yX1_hasOrder, .initialized RX1, .code yX1_hasOrder cX1_hasOrder 2 (some .boolean), .fieldLink RX1 43 "TwinPlates$Plates" "taken" "I", .methodLink RX3 142 yX1_ofOrder, .instanceMethod yX1_ofOrder, .selects RX1 yX1_ofOrder yX1_ofOrder, .code yX1_ofOrder cX1_ofOrder 3 (some .int), .fieldLink RX1 15 "TwinPlates$Plates" "orders" "[I"] ++ wsX30 ++ wsX10)
def wsX3_waits_r1 : List Cond := [Cond.fieldLink RX3 10 "TwinPlates" "now" "LTwinPlates$Plates;", Cond.methodLink RX3 145 yX1_sumOfWaits, Cond.instanceMethod yX1_sumOfWaits, Cond.selects RX1 yX1_sumOfWaits yX1_sumOfWaits, Cond.initialized RX1, Cond.code yX1_sumOfWaits cX1_sumOfWaits 3 (some .int), Cond.fieldLink RX1 43 "TwinPlates$Plates" "taken" "I", Cond.methodLink RX1 74 yX1_statusOf, Cond.instanceMethod yX1_statusOf, Cond.selects RX1 yX1_statusOf yX1_statusOf, Cond.code yX1_statusOf cX1_statusOf 2 (some .int), Cond.methodLink RX1 65 yX1_ofOrder, Cond.instanceMethod yX1_ofOrder, Cond.selects RX1 yX1_ofOrder yX1_ofOrder, Cond.code yX1_ofOrder cX1_ofOrder 3 (some .int), Cond.fieldLink RX1 15 "TwinPlates$Plates" "orders" "[I", Cond.methodLink RX1 77 yX1_waitOf, Cond.instanceMethod yX1_waitOf, Cond.selects RX1 yX1_waitOf yX1_waitOf, Cond.code yX1_waitOf cX1_waitOf 2 (some .int), Cond.methodLink RX3 148 yX1_longestWaiter, Cond.instanceMethod yX1_longestWaiter, Cond.selects RX1 yX1_longestWaiter yX1_longestWaiter, Cond.code yX1_longestWaiter cX1_longestWaiter 3 (some .int)]
def wsX3_waits_r2 : List Cond := [Cond.methodLink RX3 151 yX1_waitOf]
def wsX3_waits : List Cond := .code yX3_waits cX3_waits 3 (some .int) :: ((wsX3_waits_r1 ++ wsX3_waits_r2) ++ wsX30 ++ wsX10)
def wsX3_nearer : List Cond := .code yX3_nearer cX3_nearer 5 (some .int) :: ([.fieldLink RX3 10 "TwinPlates" "now" "LTwinPlates$Plates;", .methodLink RX3 157 Lib.Math.min.name, .static Lib.Math.min.name, .initialized "java/lang/Math", .code Lib.Math.min.name Lib.Math.min.code 2 (some .int), .methodLink RX3 154 yX1_ticksUntilOver, .instanceMethod yX1_ticksUntilOver, .selects RX1 yX1_ticksUntilOver yX1_ticksUntilOver, .initialized RX1, .code yX1_ticksUntilOver cX1_ticksUntilOver 3 (some .int), .methodLink RX1 61 yX1_sectorUnder, .instanceMethod yX1_sectorUnder, .selects RX1 yX1_sectorUnder yX1_sectorUnder, .code yX1_sectorUnder cX1_sectorUnder 2 (some .int), .fieldLink RX1 36 "TwinPlates$Plates" "tick" "I", .methodLink RX1 55 yJ9_floorMod_7cf53, .static yJ9_floorMod_7cf53, .initialized RJ9, .code yJ9_floorMod_7cf53 cJ9_floorMod_7cf53 3 (some .int)] ++ wsX30 ++ wsX10)
def wsX3_doneIn_r1 : List Cond := [Cond.fieldLink RX3 10 "TwinPlates" "now" "LTwinPlates$Plates;", Cond.fieldLink RX3 16 "TwinPlates" "forecast" "LTwinPlates$Plates;", Cond.methodLink RX3 138 yX1_hasOrder, Cond.instanceMethod yX1_hasOrder, Cond.selects RX1 yX1_hasOrder yX1_hasOrder, Cond.initialized RX1, Cond.code yX1_hasOrder cX1_hasOrder 2 (some .boolean), Cond.fieldLink RX1 43 "TwinPlates$Plates" "taken" "I", Cond.methodLink RX3 162 yX1_statusOf, Cond.instanceMethod yX1_statusOf, Cond.selects RX1 yX1_statusOf yX1_statusOf, Cond.code yX1_statusOf cX1_statusOf 2 (some .int), Cond.methodLink RX1 65 yX1_ofOrder, Cond.instanceMethod yX1_ofOrder, Cond.selects RX1 yX1_ofOrder yX1_ofOrder, Cond.code yX1_ofOrder cX1_ofOrder 3 (some .int), Cond.fieldLink RX1 15 "TwinPlates$Plates" "orders" "[I", Cond.methodLink RX3 165 yX1_become, Cond.instanceMethod yX1_become, Cond.selects RX1 yX1_become yX1_become, Cond.code yX1_become cX1_become 2 none, Cond.fieldLink RX1 11 "TwinPlates$Plates" "copies" "[I", Cond.methodLink RX1 30 arraycopyName, Cond.native arraycopyName]
def wsX3_doneIn_r2 : List Cond := [Cond.static arraycopyName, Cond.initialized "java/lang/System", Cond.fieldLink RX1 18 "TwinPlates$Plates" "written" "[I", Cond.fieldLink RX1 21 "TwinPlates$Plates" "waitingForBlock" "[I", Cond.fieldLink RX1 24 "TwinPlates$Plates" "workOnTrack" "[I", Cond.fieldLink RX1 36 "TwinPlates$Plates" "tick" "I", Cond.fieldLink RX1 40 "TwinPlates$Plates" "arm" "I", Cond.fieldLink RX1 46 "TwinPlates$Plates" "waiting" "I", Cond.fieldLink RX1 49 "TwinPlates$Plates" "wiped" "I", Cond.fieldLink RX1 52 "TwinPlates$Plates" "moves" "I", Cond.methodLink RX3 168 yX1_doTick, Cond.instanceMethod yX1_doTick, Cond.selects RX1 yX1_doTick yX1_doTick, Cond.code yX1_doTick cX1_doTick 1 none, Cond.methodLink RX1 27 yX1_forgetWritten, Cond.instanceMethod yX1_forgetWritten, Cond.selects RX1 yX1_forgetWritten yX1_forgetWritten, Cond.code yX1_forgetWritten cX1_forgetWritten 2 none, Cond.methodLink RX1 91 yX1_useHead, Cond.instanceMethod yX1_useHead, Cond.selects RX1 yX1_useHead yX1_useHead, Cond.code yX1_useHead cX1_useHead 8 none, Cond.methodLink RX1 61 yX1_sectorUnder, Cond.instanceMethod yX1_sectorUnder]
def wsX3_doneIn_r3 : List Cond := [Cond.selects RX1 yX1_sectorUnder yX1_sectorUnder, Cond.code yX1_sectorUnder cX1_sectorUnder 2 (some .int), Cond.methodLink RX1 55 yJ9_floorMod_7cf53, Cond.static yJ9_floorMod_7cf53, Cond.initialized RJ9, Cond.code yJ9_floorMod_7cf53 cJ9_floorMod_7cf53 3 (some .int), Cond.methodLink RX1 68 yX1_blockAt, Cond.static yX1_blockAt, Cond.code yX1_blockAt cX1_blockAt 2 (some .int), Cond.methodLink RX1 71 yX1_cellOf, Cond.static yX1_cellOf, Cond.code yX1_cellOf cX1_cellOf 2 (some .int), Cond.methodLink RX1 98 yX1_takeOver, Cond.instanceMethod yX1_takeOver, Cond.selects RX1 yX1_takeOver yX1_takeOver, Cond.code yX1_takeOver cX1_takeOver 3 none, Cond.methodLink RX1 120 yX1_setWhole, Cond.instanceMethod yX1_setWhole, Cond.selects RX1 yX1_setWhole yX1_setWhole, Cond.code yX1_setWhole cX1_setWhole 4 none, Cond.methodLink RX1 102 yX1_setLate, Cond.instanceMethod yX1_setLate, Cond.selects RX1 yX1_setLate yX1_setLate, Cond.code yX1_setLate cX1_setLate 3 none]
def wsX3_doneIn_r4 : List Cond := [Cond.methodLink RX1 105 yX1_firstWaiting, Cond.instanceMethod yX1_firstWaiting, Cond.selects RX1 yX1_firstWaiting yX1_firstWaiting, Cond.code yX1_firstWaiting cX1_firstWaiting 6 (some .int), Cond.methodLink RX1 109 yX1_doWrite, Cond.instanceMethod yX1_doWrite, Cond.selects RX1 yX1_doWrite yX1_doWrite, Cond.code yX1_doWrite cX1_doWrite 7 none, Cond.methodLink RX1 117 Lib.Math.max.name, Cond.static Lib.Math.max.name, Cond.initialized "java/lang/Math", Cond.code Lib.Math.max.name Lib.Math.max.code 2 (some .int), Cond.methodLink RX1 113 yX1_finish, Cond.instanceMethod yX1_finish, Cond.selects RX1 yX1_finish yX1_finish, Cond.code yX1_finish cX1_finish 5 none, Cond.methodLink RX1 95 yX1_moveArm, Cond.instanceMethod yX1_moveArm, Cond.selects RX1 yX1_moveArm yX1_moveArm, Cond.code yX1_moveArm cX1_moveArm 2 none]
def wsX3_doneIn : List Cond := .code yX3_doneIn cX3_doneIn 3 (some .int) :: ((wsX3_doneIn_r1 ++ (wsX3_doneIn_r2 ++ (wsX3_doneIn_r3 ++ wsX3_doneIn_r4))) ++ wsX30 ++ wsX10)
def wsX3_idleIn_r1 : List Cond := [Cond.fieldLink RX3 10 "TwinPlates" "now" "LTwinPlates$Plates;", Cond.fieldLink RX3 16 "TwinPlates" "forecast" "LTwinPlates$Plates;", Cond.methodLink RX3 171 yX1_hasWork, Cond.instanceMethod yX1_hasWork, Cond.selects RX1 yX1_hasWork yX1_hasWork, Cond.initialized RX1, Cond.code yX1_hasWork cX1_hasWork 2 (some .boolean), Cond.fieldLink RX1 24 "TwinPlates$Plates" "workOnTrack" "[I", Cond.methodLink RX3 165 yX1_become, Cond.instanceMethod yX1_become, Cond.selects RX1 yX1_become yX1_become, Cond.code yX1_become cX1_become 2 none, Cond.fieldLink RX1 11 "TwinPlates$Plates" "copies" "[I", Cond.methodLink RX1 30 arraycopyName, Cond.native arraycopyName, Cond.static arraycopyName, Cond.initialized "java/lang/System", Cond.fieldLink RX1 15 "TwinPlates$Plates" "orders" "[I", Cond.fieldLink RX1 18 "TwinPlates$Plates" "written" "[I", Cond.fieldLink RX1 21 "TwinPlates$Plates" "waitingForBlock" "[I", Cond.fieldLink RX1 36 "TwinPlates$Plates" "tick" "I", Cond.fieldLink RX1 40 "TwinPlates$Plates" "arm" "I", Cond.fieldLink RX1 43 "TwinPlates$Plates" "taken" "I", Cond.fieldLink RX1 46 "TwinPlates$Plates" "waiting" "I"]
def wsX3_idleIn_r2 : List Cond := [Cond.fieldLink RX1 49 "TwinPlates$Plates" "wiped" "I", Cond.fieldLink RX1 52 "TwinPlates$Plates" "moves" "I", Cond.methodLink RX3 168 yX1_doTick, Cond.instanceMethod yX1_doTick, Cond.selects RX1 yX1_doTick yX1_doTick, Cond.code yX1_doTick cX1_doTick 1 none, Cond.methodLink RX1 27 yX1_forgetWritten, Cond.instanceMethod yX1_forgetWritten, Cond.selects RX1 yX1_forgetWritten yX1_forgetWritten, Cond.code yX1_forgetWritten cX1_forgetWritten 2 none, Cond.methodLink RX1 91 yX1_useHead, Cond.instanceMethod yX1_useHead, Cond.selects RX1 yX1_useHead yX1_useHead, Cond.code yX1_useHead cX1_useHead 8 none, Cond.methodLink RX1 61 yX1_sectorUnder, Cond.instanceMethod yX1_sectorUnder, Cond.selects RX1 yX1_sectorUnder yX1_sectorUnder, Cond.code yX1_sectorUnder cX1_sectorUnder 2 (some .int), Cond.methodLink RX1 55 yJ9_floorMod_7cf53, Cond.static yJ9_floorMod_7cf53, Cond.initialized RJ9, Cond.code yJ9_floorMod_7cf53 cJ9_floorMod_7cf53 3 (some .int), Cond.methodLink RX1 68 yX1_blockAt, Cond.static yX1_blockAt]
def wsX3_idleIn_r3 : List Cond := [Cond.code yX1_blockAt cX1_blockAt 2 (some .int), Cond.methodLink RX1 71 yX1_cellOf, Cond.static yX1_cellOf, Cond.code yX1_cellOf cX1_cellOf 2 (some .int), Cond.methodLink RX1 98 yX1_takeOver, Cond.instanceMethod yX1_takeOver, Cond.selects RX1 yX1_takeOver yX1_takeOver, Cond.code yX1_takeOver cX1_takeOver 3 none, Cond.methodLink RX1 120 yX1_setWhole, Cond.instanceMethod yX1_setWhole, Cond.selects RX1 yX1_setWhole yX1_setWhole, Cond.code yX1_setWhole cX1_setWhole 4 none, Cond.methodLink RX1 102 yX1_setLate, Cond.instanceMethod yX1_setLate, Cond.selects RX1 yX1_setLate yX1_setLate, Cond.code yX1_setLate cX1_setLate 3 none, Cond.methodLink RX1 105 yX1_firstWaiting, Cond.instanceMethod yX1_firstWaiting, Cond.selects RX1 yX1_firstWaiting yX1_firstWaiting, Cond.code yX1_firstWaiting cX1_firstWaiting 6 (some .int), Cond.methodLink RX1 109 yX1_doWrite, Cond.instanceMethod yX1_doWrite, Cond.selects RX1 yX1_doWrite yX1_doWrite, Cond.code yX1_doWrite cX1_doWrite 7 none]
def wsX3_idleIn_r4 : List Cond := [Cond.methodLink RX1 117 Lib.Math.max.name, Cond.static Lib.Math.max.name, Cond.initialized "java/lang/Math", Cond.code Lib.Math.max.name Lib.Math.max.code 2 (some .int), Cond.methodLink RX1 65 yX1_ofOrder, Cond.instanceMethod yX1_ofOrder, Cond.selects RX1 yX1_ofOrder yX1_ofOrder, Cond.code yX1_ofOrder cX1_ofOrder 3 (some .int), Cond.methodLink RX1 113 yX1_finish, Cond.instanceMethod yX1_finish, Cond.selects RX1 yX1_finish yX1_finish, Cond.code yX1_finish cX1_finish 5 none, Cond.methodLink RX1 95 yX1_moveArm, Cond.instanceMethod yX1_moveArm, Cond.selects RX1 yX1_moveArm yX1_moveArm, Cond.code yX1_moveArm cX1_moveArm 2 none]
def wsX3_idleIn : List Cond := .code yX3_idleIn cX3_idleIn 2 (some .int) :: ((wsX3_idleIn_r1 ++ (wsX3_idleIn_r2 ++ (wsX3_idleIn_r3 ++ wsX3_idleIn_r4))) ++ wsX30 ++ wsX10)
def wsX3_wouldWipe_r1 : List Cond := [Cond.fieldLink RX3 16 "TwinPlates" "forecast" "LTwinPlates$Plates;", Cond.fieldLink RX3 10 "TwinPlates" "now" "LTwinPlates$Plates;", Cond.methodLink RX3 165 yX1_become, Cond.instanceMethod yX1_become, Cond.selects RX1 yX1_become yX1_become, Cond.initialized RX1, Cond.code yX1_become cX1_become 2 none, Cond.fieldLink RX1 11 "TwinPlates$Plates" "copies" "[I", Cond.methodLink RX1 30 arraycopyName, Cond.native arraycopyName, Cond.static arraycopyName, Cond.initialized "java/lang/System", Cond.fieldLink RX1 15 "TwinPlates$Plates" "orders" "[I", Cond.fieldLink RX1 18 "TwinPlates$Plates" "written" "[I", Cond.fieldLink RX1 21 "TwinPlates$Plates" "waitingForBlock" "[I", Cond.fieldLink RX1 24 "TwinPlates$Plates" "workOnTrack" "[I", Cond.fieldLink RX1 36 "TwinPlates$Plates" "tick" "I", Cond.fieldLink RX1 40 "TwinPlates$Plates" "arm" "I", Cond.fieldLink RX1 43 "TwinPlates$Plates" "taken" "I", Cond.fieldLink RX1 46 "TwinPlates$Plates" "waiting" "I", Cond.fieldLink RX1 49 "TwinPlates$Plates" "wiped" "I", Cond.fieldLink RX1 52 "TwinPlates$Plates" "moves" "I", Cond.methodLink RX3 52 yX1_cutPower, Cond.instanceMethod yX1_cutPower]
def wsX3_wouldWipe_r2 : List Cond := [Cond.selects RX1 yX1_cutPower yX1_cutPower, Cond.code yX1_cutPower cX1_cutPower 4 (some .int), Cond.methodLink RX1 123 yX1_dropWork, Cond.instanceMethod yX1_dropWork, Cond.selects RX1 yX1_dropWork yX1_dropWork, Cond.code yX1_dropWork cX1_dropWork 2 none, Cond.methodLink RX1 74 yX1_statusOf, Cond.instanceMethod yX1_statusOf, Cond.selects RX1 yX1_statusOf yX1_statusOf, Cond.code yX1_statusOf cX1_statusOf 2 (some .int), Cond.methodLink RX1 65 yX1_ofOrder, Cond.instanceMethod yX1_ofOrder, Cond.selects RX1 yX1_ofOrder yX1_ofOrder, Cond.code yX1_ofOrder cX1_ofOrder 3 (some .int), Cond.methodLink RX1 71 yX1_cellOf, Cond.static yX1_cellOf, Cond.code yX1_cellOf cX1_cellOf 2 (some .int), Cond.methodLink RX3 174 yX1_repairBlocks, Cond.instanceMethod yX1_repairBlocks, Cond.selects RX1 yX1_repairBlocks yX1_repairBlocks, Cond.code yX1_repairBlocks cX1_repairBlocks 3 (some .int), Cond.methodLink RX1 134 yX1_repair, Cond.instanceMethod yX1_repair, Cond.selects RX1 yX1_repair yX1_repair]
def wsX3_wouldWipe_r3 : List Cond := [Cond.code yX1_repair cX1_repair 7 (some .int), Cond.methodLink RX1 120 yX1_setWhole, Cond.instanceMethod yX1_setWhole, Cond.selects RX1 yX1_setWhole yX1_setWhole, Cond.code yX1_setWhole cX1_setWhole 4 none, Cond.methodLink RX1 98 yX1_takeOver, Cond.instanceMethod yX1_takeOver, Cond.selects RX1 yX1_takeOver yX1_takeOver, Cond.code yX1_takeOver cX1_takeOver 3 none, Cond.methodLink RX1 27 yX1_forgetWritten, Cond.instanceMethod yX1_forgetWritten, Cond.selects RX1 yX1_forgetWritten yX1_forgetWritten, Cond.code yX1_forgetWritten cX1_forgetWritten 2 none, Cond.methodLink RX3 124 yX1_wiped, Cond.instanceMethod yX1_wiped, Cond.selects RX1 yX1_wiped yX1_wiped, Cond.code yX1_wiped cX1_wiped 1 (some .int)]
def wsX3_wouldWipe : List Cond := .code yX3_wouldWipe cX3_wouldWipe 1 (some .int) :: ((wsX3_wouldWipe_r1 ++ (wsX3_wouldWipe_r2 ++ wsX3_wouldWipe_r3)) ++ wsX30 ++ wsX10)
def wsX4_init : List Cond := .code yX4_init cX4_init 2 none :: ([.methodLink RX4 1 objectInit, .instanceMethod objectInit, .code objectInit ⟨#[0xb1]⟩ 1 none, .arrayClass .int, .fieldLink RX4 7 "TwinPlatesModel" "now" "[I", .fieldLink RX4 13 "TwinPlatesModel" "past" "[I", .fieldLink RX4 16 "TwinPlatesModel" "aside" "[I", .fieldLink RX4 19 "TwinPlatesModel" "text" "[I", .fieldLink RX4 22 "TwinPlatesModel" "start" "[I", .fieldLink RX4 25 "TwinPlatesModel" "left" "[I", .fieldLink RX4 28 "TwinPlatesModel" "numbers" "[I"] ++ wsX40)
def wsX4_within : List Cond := .code yX4_within cX4_within 3 (some .boolean) :: ([])
def wsX4_saves : List Cond := .code yX4_saves cX4_saves 2 none :: ([.fieldLink RX4 31 "TwinPlatesModel" "isRun" "Z", .fieldLink RX4 35 "TwinPlatesModel" "saved" "I", .fieldLink RX4 13 "TwinPlatesModel" "past" "[I", .fieldLink RX4 7 "TwinPlatesModel" "now" "[I"] ++ wsX40)
def wsX4_undo : List Cond := .code yX4_undo cX4_undo 2 (some .int) :: ([.fieldLink RX4 35 "TwinPlatesModel" "saved" "I", .fieldLink RX4 7 "TwinPlatesModel" "now" "[I", .fieldLink RX4 13 "TwinPlatesModel" "past" "[I"] ++ wsX40)
def wsX4_puts : List Cond := .code yX4_puts cX4_puts 2 none :: ([.fieldLink RX4 16 "TwinPlatesModel" "aside" "[I", .fieldLink RX4 7 "TwinPlatesModel" "now" "[I"] ++ wsX40)
def wsX4_back : List Cond := .code yX4_back cX4_back 2 none :: ([.fieldLink RX4 7 "TwinPlatesModel" "now" "[I", .fieldLink RX4 16 "TwinPlatesModel" "aside" "[I"] ++ wsX40)
def wsX4_isBlock : List Cond := .code yX4_isBlock cX4_isBlock 2 (some .boolean) :: ([.methodLink RX4 39 yX4_within, .static yX4_within, .initialized RX4, .code yX4_within cX4_within 3 (some .boolean)])
def wsX4_of : List Cond := .code yX4_of cX4_of 4 (some .int) :: ([.fieldLink RX4 7 "TwinPlatesModel" "now" "[I"] ++ wsX40)
def wsX4_put : List Cond := .code yX4_put cX4_put 5 none :: ([.fieldLink RX4 7 "TwinPlatesModel" "now" "[I"] ++ wsX40)
def wsX4_told : List Cond := .code yX4_told cX4_told 3 (some .int) :: ([.fieldLink RX4 7 "TwinPlatesModel" "now" "[I"] ++ wsX40)
def wsX4_tell : List Cond := .code yX4_tell cX4_tell 4 none :: ([.fieldLink RX4 7 "TwinPlatesModel" "now" "[I"] ++ wsX40)
def wsX4_inState : List Cond := .code yX4_inState cX4_inState 4 (some .int) :: ([.fieldLink RX4 7 "TwinPlatesModel" "now" "[I", .methodLink RX4 43 yX4_told, .instanceMethod yX4_told, .selects RX4 yX4_told yX4_told, .initialized RX4, .code yX4_told cX4_told 3 (some .int)] ++ wsX40)
def wsX4_takes : List Cond := .code yX4_takes cX4_takes 6 (some .int) :: ([.fieldLink RX4 7 "TwinPlatesModel" "now" "[I", .methodLink RX4 47 yX4_inState, .instanceMethod yX4_inState, .selects RX4 yX4_inState yX4_inState, .initialized RX4, .code yX4_inState cX4_inState 4 (some .int), .methodLink RX4 43 yX4_told, .instanceMethod yX4_told, .selects RX4 yX4_told yX4_told, .code yX4_told cX4_told 3 (some .int), .methodLink RX4 51 yX4_saves, .instanceMethod yX4_saves, .selects RX4 yX4_saves yX4_saves, .code yX4_saves cX4_saves 2 none, .fieldLink RX4 31 "TwinPlatesModel" "isRun" "Z", .fieldLink RX4 35 "TwinPlatesModel" "saved" "I", .fieldLink RX4 13 "TwinPlatesModel" "past" "[I", .methodLink RX4 54 yX4_tell, .instanceMethod yX4_tell, .selects RX4 yX4_tell yX4_tell, .code yX4_tell cX4_tell 4 none] ++ wsX40)
def wsX4_read_r1 : List Cond := [Cond.methodLink RX4 58 yX4_isBlock, Cond.static yX4_isBlock, Cond.initialized RX4, Cond.code yX4_isBlock cX4_isBlock 2 (some .boolean), Cond.methodLink RX4 39 yX4_within, Cond.static yX4_within, Cond.code yX4_within cX4_within 3 (some .boolean), Cond.methodLink RX4 62 yX4_takes, Cond.instanceMethod yX4_takes, Cond.selects RX4 yX4_takes yX4_takes, Cond.code yX4_takes cX4_takes 6 (some .int), Cond.fieldLink RX4 7 "TwinPlatesModel" "now" "[I", Cond.methodLink RX4 47 yX4_inState, Cond.instanceMethod yX4_inState, Cond.selects RX4 yX4_inState yX4_inState, Cond.code yX4_inState cX4_inState 4 (some .int), Cond.methodLink RX4 43 yX4_told, Cond.instanceMethod yX4_told, Cond.selects RX4 yX4_told yX4_told, Cond.code yX4_told cX4_told 3 (some .int), Cond.methodLink RX4 51 yX4_saves, Cond.instanceMethod yX4_saves, Cond.selects RX4 yX4_saves yX4_saves, Cond.code yX4_saves cX4_saves 2 none]
def wsX4_read_r2 : List Cond := [Cond.fieldLink RX4 31 "TwinPlatesModel" "isRun" "Z", Cond.fieldLink RX4 35 "TwinPlatesModel" "saved" "I", Cond.fieldLink RX4 13 "TwinPlatesModel" "past" "[I", Cond.methodLink RX4 54 yX4_tell, Cond.instanceMethod yX4_tell, Cond.selects RX4 yX4_tell yX4_tell, Cond.code yX4_tell cX4_tell 4 none]
def wsX4_read : List Cond := .code yX4_read cX4_read 3 (some .int) :: ((wsX4_read_r1 ++ wsX4_read_r2) ++ wsX40)
def wsX4_write_r1 : List Cond := [Cond.methodLink RX4 58 yX4_isBlock, Cond.static yX4_isBlock, Cond.initialized RX4, Cond.code yX4_isBlock cX4_isBlock 2 (some .boolean), Cond.methodLink RX4 39 yX4_within, Cond.static yX4_within, Cond.code yX4_within cX4_within 3 (some .boolean), Cond.methodLink RX4 62 yX4_takes, Cond.instanceMethod yX4_takes, Cond.selects RX4 yX4_takes yX4_takes, Cond.code yX4_takes cX4_takes 6 (some .int), Cond.fieldLink RX4 7 "TwinPlatesModel" "now" "[I", Cond.methodLink RX4 47 yX4_inState, Cond.instanceMethod yX4_inState, Cond.selects RX4 yX4_inState yX4_inState, Cond.code yX4_inState cX4_inState 4 (some .int), Cond.methodLink RX4 43 yX4_told, Cond.instanceMethod yX4_told, Cond.selects RX4 yX4_told yX4_told, Cond.code yX4_told cX4_told 3 (some .int), Cond.methodLink RX4 51 yX4_saves, Cond.instanceMethod yX4_saves, Cond.selects RX4 yX4_saves yX4_saves, Cond.code yX4_saves cX4_saves 2 none]
def wsX4_write_r2 : List Cond := [Cond.fieldLink RX4 31 "TwinPlatesModel" "isRun" "Z", Cond.fieldLink RX4 35 "TwinPlatesModel" "saved" "I", Cond.fieldLink RX4 13 "TwinPlatesModel" "past" "[I", Cond.methodLink RX4 54 yX4_tell, Cond.instanceMethod yX4_tell, Cond.selects RX4 yX4_tell yX4_tell, Cond.code yX4_tell cX4_tell 4 none]
def wsX4_write : List Cond := .code yX4_write cX4_write 4 (some .int) :: ((wsX4_write_r1 ++ wsX4_write_r2) ++ wsX40)
def wsX4_hasWork : List Cond := .code yX4_hasWork cX4_hasWork 4 (some .boolean) :: ([.fieldLink RX4 7 "TwinPlatesModel" "now" "[I", .methodLink RX4 43 yX4_told, .instanceMethod yX4_told, .selects RX4 yX4_told yX4_told, .initialized RX4, .code yX4_told cX4_told 3 (some .int), .methodLink RX4 66 yX4_of, .instanceMethod yX4_of, .selects RX4 yX4_of yX4_of, .code yX4_of cX4_of 4 (some .int)] ++ wsX40)
def wsX4_size : List Cond := .code yX4_size cX4_size 1 (some .int) :: ([])
def wsX4_nearest : List Cond := .code yX4_nearest cX4_nearest 4 (some .int) :: ([.fieldLink RX4 7 "TwinPlatesModel" "now" "[I", .methodLink RX4 70 yX4_size, .static yX4_size, .initialized RX4, .code yX4_size cX4_size 1 (some .int), .methodLink RX4 73 yX4_hasWork, .instanceMethod yX4_hasWork, .selects RX4 yX4_hasWork yX4_hasWork, .code yX4_hasWork cX4_hasWork 4 (some .boolean), .methodLink RX4 43 yX4_told, .instanceMethod yX4_told, .selects RX4 yX4_told yX4_told, .code yX4_told cX4_told 3 (some .int), .methodLink RX4 66 yX4_of, .instanceMethod yX4_of, .selects RX4 yX4_of yX4_of, .code yX4_of cX4_of 4 (some .int)] ++ wsX40)
def wsX4_firstFor : List Cond := .code yX4_firstFor cX4_firstFor 4 (some .int) :: ([.fieldLink RX4 7 "TwinPlatesModel" "now" "[I", .methodLink RX4 43 yX4_told, .instanceMethod yX4_told, .selects RX4 yX4_told yX4_told, .initialized RX4, .code yX4_told cX4_told 3 (some .int)] ++ wsX40)
def wsX4_ends : List Cond := .code yX4_ends cX4_ends 3 none :: ([.fieldLink RX4 7 "TwinPlatesModel" "now" "[I", .methodLink RX4 54 yX4_tell, .instanceMethod yX4_tell, .selects RX4 yX4_tell yX4_tell, .initialized RX4, .code yX4_tell cX4_tell 4 none] ++ wsX40)
def wsX4_writes : List Cond := .code yX4_writes cX4_writes 5 none :: ([.fieldLink RX4 7 "TwinPlatesModel" "now" "[I", .methodLink RX4 77 yX4_put, .instanceMethod yX4_put, .selects RX4 yX4_put yX4_put, .initialized RX4, .code yX4_put cX4_put 5 none] ++ wsX40)
def wsX4_sectorUnder : List Cond := .code yX4_sectorUnder cX4_sectorUnder 2 (some .int) :: ([.fieldLink RX4 7 "TwinPlatesModel" "now" "[I"] ++ wsX40)
def wsX4_most : List Cond := .code yX4_most cX4_most 2 (some .int) :: ([])
def wsX4_heads_r1 : List Cond := [Cond.fieldLink RX4 7 "TwinPlatesModel" "now" "[I", Cond.methodLink RX4 81 yX4_sectorUnder, Cond.instanceMethod yX4_sectorUnder, Cond.selects RX4 yX4_sectorUnder yX4_sectorUnder, Cond.initialized RX4, Cond.code yX4_sectorUnder cX4_sectorUnder 2 (some .int), Cond.methodLink RX4 84 yX4_firstFor, Cond.instanceMethod yX4_firstFor, Cond.selects RX4 yX4_firstFor yX4_firstFor, Cond.code yX4_firstFor cX4_firstFor 4 (some .int), Cond.methodLink RX4 43 yX4_told, Cond.instanceMethod yX4_told, Cond.selects RX4 yX4_told yX4_told, Cond.code yX4_told cX4_told 3 (some .int), Cond.methodLink RX4 66 yX4_of, Cond.instanceMethod yX4_of, Cond.selects RX4 yX4_of yX4_of, Cond.code yX4_of cX4_of 4 (some .int), Cond.methodLink RX4 87 yX4_writes, Cond.instanceMethod yX4_writes, Cond.selects RX4 yX4_writes yX4_writes, Cond.code yX4_writes cX4_writes 5 none, Cond.methodLink RX4 77 yX4_put, Cond.instanceMethod yX4_put]
def wsX4_heads_r2 : List Cond := [Cond.selects RX4 yX4_put yX4_put, Cond.code yX4_put cX4_put 5 none, Cond.methodLink RX4 90 yX4_most, Cond.static yX4_most, Cond.code yX4_most cX4_most 2 (some .int), Cond.methodLink RX4 93 yX4_ends, Cond.instanceMethod yX4_ends, Cond.selects RX4 yX4_ends yX4_ends, Cond.code yX4_ends cX4_ends 3 none, Cond.methodLink RX4 54 yX4_tell, Cond.instanceMethod yX4_tell, Cond.selects RX4 yX4_tell yX4_tell, Cond.code yX4_tell cX4_tell 4 none]
def wsX4_heads : List Cond := .code yX4_heads cX4_heads 6 none :: ((wsX4_heads_r1 ++ wsX4_heads_r2) ++ wsX40)
def wsX4_passes_r1 : List Cond := [Cond.fieldLink RX4 7 "TwinPlatesModel" "now" "[I", Cond.methodLink RX4 73 yX4_hasWork, Cond.instanceMethod yX4_hasWork, Cond.selects RX4 yX4_hasWork yX4_hasWork, Cond.initialized RX4, Cond.code yX4_hasWork cX4_hasWork 4 (some .boolean), Cond.methodLink RX4 43 yX4_told, Cond.instanceMethod yX4_told, Cond.selects RX4 yX4_told yX4_told, Cond.code yX4_told cX4_told 3 (some .int), Cond.methodLink RX4 66 yX4_of, Cond.instanceMethod yX4_of, Cond.selects RX4 yX4_of yX4_of, Cond.code yX4_of cX4_of 4 (some .int), Cond.methodLink RX4 97 yX4_heads, Cond.instanceMethod yX4_heads, Cond.selects RX4 yX4_heads yX4_heads, Cond.code yX4_heads cX4_heads 6 none, Cond.methodLink RX4 81 yX4_sectorUnder, Cond.instanceMethod yX4_sectorUnder, Cond.selects RX4 yX4_sectorUnder yX4_sectorUnder, Cond.code yX4_sectorUnder cX4_sectorUnder 2 (some .int), Cond.methodLink RX4 84 yX4_firstFor, Cond.instanceMethod yX4_firstFor]
def wsX4_passes_r2 : List Cond := [Cond.selects RX4 yX4_firstFor yX4_firstFor, Cond.code yX4_firstFor cX4_firstFor 4 (some .int), Cond.methodLink RX4 87 yX4_writes, Cond.instanceMethod yX4_writes, Cond.selects RX4 yX4_writes yX4_writes, Cond.code yX4_writes cX4_writes 5 none, Cond.methodLink RX4 77 yX4_put, Cond.instanceMethod yX4_put, Cond.selects RX4 yX4_put yX4_put, Cond.code yX4_put cX4_put 5 none, Cond.methodLink RX4 90 yX4_most, Cond.static yX4_most, Cond.code yX4_most cX4_most 2 (some .int), Cond.methodLink RX4 93 yX4_ends, Cond.instanceMethod yX4_ends, Cond.selects RX4 yX4_ends yX4_ends, Cond.code yX4_ends cX4_ends 3 none, Cond.methodLink RX4 54 yX4_tell, Cond.instanceMethod yX4_tell, Cond.selects RX4 yX4_tell yX4_tell, Cond.code yX4_tell cX4_tell 4 none, Cond.methodLink RX4 101 yX4_nearest, Cond.instanceMethod yX4_nearest, Cond.selects RX4 yX4_nearest yX4_nearest]
def wsX4_passes_r3 : List Cond := [Cond.code yX4_nearest cX4_nearest 4 (some .int), Cond.methodLink RX4 70 yX4_size, Cond.static yX4_size, Cond.code yX4_size cX4_size 1 (some .int)]
def wsX4_passes : List Cond := .code yX4_passes cX4_passes 2 none :: ((wsX4_passes_r1 ++ (wsX4_passes_r2 ++ wsX4_passes_r3)) ++ wsX40)
def wsX4_pass_r1 : List Cond := [Cond.fieldLink RX4 7 "TwinPlatesModel" "now" "[I", Cond.methodLink RX4 39 yX4_within, Cond.static yX4_within, Cond.initialized RX4, Cond.code yX4_within cX4_within 3 (some .boolean), Cond.methodLink RX4 51 yX4_saves, Cond.instanceMethod yX4_saves, Cond.selects RX4 yX4_saves yX4_saves, Cond.code yX4_saves cX4_saves 2 none, Cond.fieldLink RX4 31 "TwinPlatesModel" "isRun" "Z", Cond.fieldLink RX4 35 "TwinPlatesModel" "saved" "I", Cond.fieldLink RX4 13 "TwinPlatesModel" "past" "[I", Cond.methodLink RX4 47 yX4_inState, Cond.instanceMethod yX4_inState, Cond.selects RX4 yX4_inState yX4_inState, Cond.code yX4_inState cX4_inState 4 (some .int), Cond.methodLink RX4 43 yX4_told, Cond.instanceMethod yX4_told, Cond.selects RX4 yX4_told yX4_told, Cond.code yX4_told cX4_told 3 (some .int), Cond.methodLink RX4 105 yX4_passes, Cond.instanceMethod yX4_passes, Cond.selects RX4 yX4_passes yX4_passes, Cond.code yX4_passes cX4_passes 2 none]
def wsX4_pass_r2 : List Cond := [Cond.methodLink RX4 73 yX4_hasWork, Cond.instanceMethod yX4_hasWork, Cond.selects RX4 yX4_hasWork yX4_hasWork, Cond.code yX4_hasWork cX4_hasWork 4 (some .boolean), Cond.methodLink RX4 66 yX4_of, Cond.instanceMethod yX4_of, Cond.selects RX4 yX4_of yX4_of, Cond.code yX4_of cX4_of 4 (some .int), Cond.methodLink RX4 97 yX4_heads, Cond.instanceMethod yX4_heads, Cond.selects RX4 yX4_heads yX4_heads, Cond.code yX4_heads cX4_heads 6 none, Cond.methodLink RX4 81 yX4_sectorUnder, Cond.instanceMethod yX4_sectorUnder, Cond.selects RX4 yX4_sectorUnder yX4_sectorUnder, Cond.code yX4_sectorUnder cX4_sectorUnder 2 (some .int), Cond.methodLink RX4 84 yX4_firstFor, Cond.instanceMethod yX4_firstFor, Cond.selects RX4 yX4_firstFor yX4_firstFor, Cond.code yX4_firstFor cX4_firstFor 4 (some .int), Cond.methodLink RX4 87 yX4_writes, Cond.instanceMethod yX4_writes, Cond.selects RX4 yX4_writes yX4_writes, Cond.code yX4_writes cX4_writes 5 none]
def wsX4_pass_r3 : List Cond := [Cond.methodLink RX4 77 yX4_put, Cond.instanceMethod yX4_put, Cond.selects RX4 yX4_put yX4_put, Cond.code yX4_put cX4_put 5 none, Cond.methodLink RX4 90 yX4_most, Cond.static yX4_most, Cond.code yX4_most cX4_most 2 (some .int), Cond.methodLink RX4 93 yX4_ends, Cond.instanceMethod yX4_ends, Cond.selects RX4 yX4_ends yX4_ends, Cond.code yX4_ends cX4_ends 3 none, Cond.methodLink RX4 54 yX4_tell, Cond.instanceMethod yX4_tell, Cond.selects RX4 yX4_tell yX4_tell, Cond.code yX4_tell cX4_tell 4 none, Cond.methodLink RX4 101 yX4_nearest, Cond.instanceMethod yX4_nearest, Cond.selects RX4 yX4_nearest yX4_nearest, Cond.code yX4_nearest cX4_nearest 4 (some .int), Cond.methodLink RX4 70 yX4_size, Cond.static yX4_size, Cond.code yX4_size cX4_size 1 (some .int)]
def wsX4_pass : List Cond := .code yX4_pass cX4_pass 4 (some .int) :: ((wsX4_pass_r1 ++ (wsX4_pass_r2 ++ wsX4_pass_r3)) ++ wsX40)
def wsX4_cuts : List Cond := .code yX4_cuts cX4_cuts 5 (some .int) :: ([.fieldLink RX4 7 "TwinPlatesModel" "now" "[I", .methodLink RX4 66 yX4_of, .instanceMethod yX4_of, .selects RX4 yX4_of yX4_of, .initialized RX4, .code yX4_of cX4_of 4 (some .int), .methodLink RX4 77 yX4_put, .instanceMethod yX4_put, .selects RX4 yX4_put yX4_put, .code yX4_put cX4_put 5 none, .methodLink RX4 43 yX4_told, .instanceMethod yX4_told, .selects RX4 yX4_told yX4_told, .code yX4_told cX4_told 3 (some .int), .methodLink RX4 54 yX4_tell, .instanceMethod yX4_tell, .selects RX4 yX4_tell yX4_tell, .code yX4_tell cX4_tell 4 none] ++ wsX40)
def wsX4_cut_r1 : List Cond := [Cond.methodLink RX4 51 yX4_saves, Cond.instanceMethod yX4_saves, Cond.selects RX4 yX4_saves yX4_saves, Cond.initialized RX4, Cond.code yX4_saves cX4_saves 2 none, Cond.fieldLink RX4 31 "TwinPlatesModel" "isRun" "Z", Cond.fieldLink RX4 35 "TwinPlatesModel" "saved" "I", Cond.fieldLink RX4 13 "TwinPlatesModel" "past" "[I", Cond.fieldLink RX4 7 "TwinPlatesModel" "now" "[I", Cond.methodLink RX4 108 yX4_cuts, Cond.instanceMethod yX4_cuts, Cond.selects RX4 yX4_cuts yX4_cuts, Cond.code yX4_cuts cX4_cuts 5 (some .int), Cond.methodLink RX4 66 yX4_of, Cond.instanceMethod yX4_of, Cond.selects RX4 yX4_of yX4_of, Cond.code yX4_of cX4_of 4 (some .int), Cond.methodLink RX4 77 yX4_put, Cond.instanceMethod yX4_put, Cond.selects RX4 yX4_put yX4_put, Cond.code yX4_put cX4_put 5 none, Cond.methodLink RX4 43 yX4_told, Cond.instanceMethod yX4_told, Cond.selects RX4 yX4_told yX4_told]
def wsX4_cut_r2 : List Cond := [Cond.code yX4_told cX4_told 3 (some .int), Cond.methodLink RX4 54 yX4_tell, Cond.instanceMethod yX4_tell, Cond.selects RX4 yX4_tell yX4_tell, Cond.code yX4_tell cX4_tell 4 none]
def wsX4_cut : List Cond := .code yX4_cut cX4_cut 1 (some .int) :: ((wsX4_cut_r1 ++ wsX4_cut_r2) ++ wsX40)
def wsX4_copiesThat : List Cond := .code yX4_copiesThat cX4_copiesThat 4 (some .int) :: ([.methodLink RX4 66 yX4_of, .instanceMethod yX4_of, .selects RX4 yX4_of yX4_of, .initialized RX4, .code yX4_of cX4_of 4 (some .int), .fieldLink RX4 7 "TwinPlatesModel" "now" "[I"] ++ wsX40)
def wsX4_torn : List Cond := .code yX4_torn cX4_torn 2 (some .int) :: ([.methodLink RX4 66 yX4_of, .instanceMethod yX4_of, .selects RX4 yX4_of yX4_of, .initialized RX4, .code yX4_of cX4_of 4 (some .int), .fieldLink RX4 7 "TwinPlatesModel" "now" "[I"] ++ wsX40)
def wsX4_behind : List Cond := .code yX4_behind cX4_behind 3 (some .int) :: ([.methodLink RX4 111 yX4_torn, .instanceMethod yX4_torn, .selects RX4 yX4_torn yX4_torn, .initialized RX4, .code yX4_torn cX4_torn 2 (some .int), .methodLink RX4 66 yX4_of, .instanceMethod yX4_of, .selects RX4 yX4_of yX4_of, .code yX4_of cX4_of 4 (some .int), .fieldLink RX4 7 "TwinPlatesModel" "now" "[I"] ++ wsX40)
def wsX4_sweeps : List Cond := .code yX4_sweeps cX4_sweeps 6 (some .int) :: ([.fieldLink RX4 7 "TwinPlatesModel" "now" "[I", .methodLink RX4 111 yX4_torn, .instanceMethod yX4_torn, .selects RX4 yX4_torn yX4_torn, .initialized RX4, .code yX4_torn cX4_torn 2 (some .int), .methodLink RX4 66 yX4_of, .instanceMethod yX4_of, .selects RX4 yX4_of yX4_of, .code yX4_of cX4_of 4 (some .int), .methodLink RX4 114 yX4_behind, .instanceMethod yX4_behind, .selects RX4 yX4_behind yX4_behind, .code yX4_behind cX4_behind 3 (some .int), .methodLink RX4 77 yX4_put, .instanceMethod yX4_put, .selects RX4 yX4_put yX4_put, .code yX4_put cX4_put 5 none] ++ wsX40)
def wsX4_sweep_r1 : List Cond := [Cond.fieldLink RX4 7 "TwinPlatesModel" "now" "[I", Cond.methodLink RX4 47 yX4_inState, Cond.instanceMethod yX4_inState, Cond.selects RX4 yX4_inState yX4_inState, Cond.initialized RX4, Cond.code yX4_inState cX4_inState 4 (some .int), Cond.methodLink RX4 43 yX4_told, Cond.instanceMethod yX4_told, Cond.selects RX4 yX4_told yX4_told, Cond.code yX4_told cX4_told 3 (some .int), Cond.methodLink RX4 117 yX4_copiesThat, Cond.instanceMethod yX4_copiesThat, Cond.selects RX4 yX4_copiesThat yX4_copiesThat, Cond.code yX4_copiesThat cX4_copiesThat 4 (some .int), Cond.methodLink RX4 66 yX4_of, Cond.instanceMethod yX4_of, Cond.selects RX4 yX4_of yX4_of, Cond.code yX4_of cX4_of 4 (some .int), Cond.methodLink RX4 51 yX4_saves, Cond.instanceMethod yX4_saves, Cond.selects RX4 yX4_saves yX4_saves, Cond.code yX4_saves cX4_saves 2 none, Cond.fieldLink RX4 31 "TwinPlatesModel" "isRun" "Z", Cond.fieldLink RX4 35 "TwinPlatesModel" "saved" "I"]
def wsX4_sweep_r2 : List Cond := [Cond.fieldLink RX4 13 "TwinPlatesModel" "past" "[I", Cond.methodLink RX4 120 yX4_sweeps, Cond.instanceMethod yX4_sweeps, Cond.selects RX4 yX4_sweeps yX4_sweeps, Cond.code yX4_sweeps cX4_sweeps 6 (some .int), Cond.methodLink RX4 111 yX4_torn, Cond.instanceMethod yX4_torn, Cond.selects RX4 yX4_torn yX4_torn, Cond.code yX4_torn cX4_torn 2 (some .int), Cond.methodLink RX4 114 yX4_behind, Cond.instanceMethod yX4_behind, Cond.selects RX4 yX4_behind yX4_behind, Cond.code yX4_behind cX4_behind 3 (some .int), Cond.methodLink RX4 77 yX4_put, Cond.instanceMethod yX4_put, Cond.selects RX4 yX4_put yX4_put, Cond.code yX4_put cX4_put 5 none]
def wsX4_sweep : List Cond := .code yX4_sweep cX4_sweep 1 (some .int) :: ((wsX4_sweep_r1 ++ wsX4_sweep_r2) ++ wsX40)
def wsX4_append : List Cond := .code yX4_append cX4_append 2 (some .int) :: ([.fieldLink RX4 123 "TwinPlatesModel" "length" "I", .fieldLink RX4 19 "TwinPlatesModel" "text" "[I", .methodLink RX4 39 yX4_within, .static yX4_within, .initialized RX4, .code yX4_within cX4_within 3 (some .boolean)] ++ wsX40)
def wsX4_clearText : List Cond := .code yX4_clearText cX4_clearText 2 (some .int) :: ([.fieldLink RX4 123 "TwinPlatesModel" "length" "I"] ++ wsX40)
def wsX4_here : List Cond := .code yX4_here cX4_here 1 (some .int) :: ([.fieldLink RX4 126 "TwinPlatesModel" "at" "I", .fieldLink RX4 123 "TwinPlatesModel" "length" "I", .fieldLink RX4 19 "TwinPlatesModel" "text" "[I"] ++ wsX40)
def wsX4_number : List Cond := .code yX4_number cX4_number 4 (some .boolean) :: ([.fieldLink RX4 126 "TwinPlatesModel" "at" "I", .fieldLink RX4 28 "TwinPlatesModel" "numbers" "[I", .methodLink RX4 129 yX4_here, .instanceMethod yX4_here, .selects RX4 yX4_here yX4_here, .initialized RX4, .code yX4_here cX4_here 1 (some .int), .fieldLink RX4 123 "TwinPlatesModel" "length" "I", .fieldLink RX4 19 "TwinPlatesModel" "text" "[I", .methodLink RX4 39 yX4_within, .static yX4_within, .code yX4_within cX4_within 3 (some .boolean)] ++ wsX40)
def wsX4_passesSign : List Cond := .code yX4_passesSign cX4_passesSign 3 (some .boolean) :: ([.fieldLink RX4 126 "TwinPlatesModel" "at" "I", .methodLink RX4 129 yX4_here, .instanceMethod yX4_here, .selects RX4 yX4_here yX4_here, .initialized RX4, .code yX4_here cX4_here 1 (some .int), .fieldLink RX4 123 "TwinPlatesModel" "length" "I", .fieldLink RX4 19 "TwinPlatesModel" "text" "[I"] ++ wsX40)
def wsX4_readsAct : List Cond := .code yX4_readsAct cX4_readsAct 2 (some .boolean) :: ([.methodLink RX4 132 yX4_passesSign, .instanceMethod yX4_passesSign, .selects RX4 yX4_passesSign yX4_passesSign, .initialized RX4, .code yX4_passesSign cX4_passesSign 3 (some .boolean), .fieldLink RX4 126 "TwinPlatesModel" "at" "I", .methodLink RX4 129 yX4_here, .instanceMethod yX4_here, .selects RX4 yX4_here yX4_here, .code yX4_here cX4_here 1 (some .int), .fieldLink RX4 123 "TwinPlatesModel" "length" "I", .fieldLink RX4 19 "TwinPlatesModel" "text" "[I", .methodLink RX4 135 yX4_number, .instanceMethod yX4_number, .selects RX4 yX4_number yX4_number, .code yX4_number cX4_number 4 (some .boolean), .fieldLink RX4 28 "TwinPlatesModel" "numbers" "[I", .methodLink RX4 39 yX4_within, .static yX4_within, .code yX4_within cX4_within 3 (some .boolean)] ++ wsX40)
def wsX4_isLetter : List Cond := .code yX4_isLetter cX4_isLetter 1 (some .boolean) :: ([])
def wsX4_readsAll_r1 : List Cond := [Cond.fieldLink RX4 126 "TwinPlatesModel" "at" "I", Cond.fieldLink RX4 123 "TwinPlatesModel" "length" "I", Cond.methodLink RX4 129 yX4_here, Cond.instanceMethod yX4_here, Cond.selects RX4 yX4_here yX4_here, Cond.initialized RX4, Cond.code yX4_here cX4_here 1 (some .int), Cond.fieldLink RX4 19 "TwinPlatesModel" "text" "[I", Cond.methodLink RX4 138 yX4_isLetter, Cond.static yX4_isLetter, Cond.code yX4_isLetter cX4_isLetter 1 (some .boolean), Cond.methodLink RX4 141 yX4_readsAct, Cond.instanceMethod yX4_readsAct, Cond.selects RX4 yX4_readsAct yX4_readsAct, Cond.code yX4_readsAct cX4_readsAct 2 (some .boolean), Cond.methodLink RX4 132 yX4_passesSign, Cond.instanceMethod yX4_passesSign, Cond.selects RX4 yX4_passesSign yX4_passesSign, Cond.code yX4_passesSign cX4_passesSign 3 (some .boolean), Cond.methodLink RX4 135 yX4_number, Cond.instanceMethod yX4_number, Cond.selects RX4 yX4_number yX4_number, Cond.code yX4_number cX4_number 4 (some .boolean), Cond.fieldLink RX4 28 "TwinPlatesModel" "numbers" "[I"]
def wsX4_readsAll_r2 : List Cond := [Cond.methodLink RX4 39 yX4_within, Cond.static yX4_within, Cond.code yX4_within cX4_within 3 (some .boolean)]
def wsX4_readsAll : List Cond := .code yX4_readsAll cX4_readsAll 3 (some .boolean) :: ((wsX4_readsAll_r1 ++ wsX4_readsAll_r2) ++ wsX40)
def wsX4_does_r1 : List Cond := [Cond.fieldLink RX4 28 "TwinPlatesModel" "numbers" "[I", Cond.methodLink RX4 144 yX4_read, Cond.instanceMethod yX4_read, Cond.selects RX4 yX4_read yX4_read, Cond.initialized RX4, Cond.code yX4_read cX4_read 3 (some .int), Cond.methodLink RX4 58 yX4_isBlock, Cond.static yX4_isBlock, Cond.code yX4_isBlock cX4_isBlock 2 (some .boolean), Cond.methodLink RX4 39 yX4_within, Cond.static yX4_within, Cond.code yX4_within cX4_within 3 (some .boolean), Cond.methodLink RX4 62 yX4_takes, Cond.instanceMethod yX4_takes, Cond.selects RX4 yX4_takes yX4_takes, Cond.code yX4_takes cX4_takes 6 (some .int), Cond.fieldLink RX4 7 "TwinPlatesModel" "now" "[I", Cond.methodLink RX4 47 yX4_inState, Cond.instanceMethod yX4_inState, Cond.selects RX4 yX4_inState yX4_inState, Cond.code yX4_inState cX4_inState 4 (some .int), Cond.methodLink RX4 43 yX4_told, Cond.instanceMethod yX4_told, Cond.selects RX4 yX4_told yX4_told]
def wsX4_does_r2 : List Cond := [Cond.code yX4_told cX4_told 3 (some .int), Cond.methodLink RX4 51 yX4_saves, Cond.instanceMethod yX4_saves, Cond.selects RX4 yX4_saves yX4_saves, Cond.code yX4_saves cX4_saves 2 none, Cond.fieldLink RX4 31 "TwinPlatesModel" "isRun" "Z", Cond.fieldLink RX4 35 "TwinPlatesModel" "saved" "I", Cond.fieldLink RX4 13 "TwinPlatesModel" "past" "[I", Cond.methodLink RX4 54 yX4_tell, Cond.instanceMethod yX4_tell, Cond.selects RX4 yX4_tell yX4_tell, Cond.code yX4_tell cX4_tell 4 none, Cond.methodLink RX4 147 yX4_write, Cond.instanceMethod yX4_write, Cond.selects RX4 yX4_write yX4_write, Cond.code yX4_write cX4_write 4 (some .int), Cond.methodLink RX4 150 yX4_pass, Cond.instanceMethod yX4_pass, Cond.selects RX4 yX4_pass yX4_pass, Cond.code yX4_pass cX4_pass 4 (some .int), Cond.methodLink RX4 105 yX4_passes, Cond.instanceMethod yX4_passes, Cond.selects RX4 yX4_passes yX4_passes, Cond.code yX4_passes cX4_passes 2 none]
def wsX4_does_r3 : List Cond := [Cond.methodLink RX4 73 yX4_hasWork, Cond.instanceMethod yX4_hasWork, Cond.selects RX4 yX4_hasWork yX4_hasWork, Cond.code yX4_hasWork cX4_hasWork 4 (some .boolean), Cond.methodLink RX4 66 yX4_of, Cond.instanceMethod yX4_of, Cond.selects RX4 yX4_of yX4_of, Cond.code yX4_of cX4_of 4 (some .int), Cond.methodLink RX4 97 yX4_heads, Cond.instanceMethod yX4_heads, Cond.selects RX4 yX4_heads yX4_heads, Cond.code yX4_heads cX4_heads 6 none, Cond.methodLink RX4 81 yX4_sectorUnder, Cond.instanceMethod yX4_sectorUnder, Cond.selects RX4 yX4_sectorUnder yX4_sectorUnder, Cond.code yX4_sectorUnder cX4_sectorUnder 2 (some .int), Cond.methodLink RX4 84 yX4_firstFor, Cond.instanceMethod yX4_firstFor, Cond.selects RX4 yX4_firstFor yX4_firstFor, Cond.code yX4_firstFor cX4_firstFor 4 (some .int), Cond.methodLink RX4 87 yX4_writes, Cond.instanceMethod yX4_writes, Cond.selects RX4 yX4_writes yX4_writes, Cond.code yX4_writes cX4_writes 5 none]
def wsX4_does_r4 : List Cond := [Cond.methodLink RX4 77 yX4_put, Cond.instanceMethod yX4_put, Cond.selects RX4 yX4_put yX4_put, Cond.code yX4_put cX4_put 5 none, Cond.methodLink RX4 90 yX4_most, Cond.static yX4_most, Cond.code yX4_most cX4_most 2 (some .int), Cond.methodLink RX4 93 yX4_ends, Cond.instanceMethod yX4_ends, Cond.selects RX4 yX4_ends yX4_ends, Cond.code yX4_ends cX4_ends 3 none, Cond.methodLink RX4 101 yX4_nearest, Cond.instanceMethod yX4_nearest, Cond.selects RX4 yX4_nearest yX4_nearest, Cond.code yX4_nearest cX4_nearest 4 (some .int), Cond.methodLink RX4 70 yX4_size, Cond.static yX4_size, Cond.code yX4_size cX4_size 1 (some .int), Cond.methodLink RX4 153 yX4_cut, Cond.instanceMethod yX4_cut, Cond.selects RX4 yX4_cut yX4_cut, Cond.code yX4_cut cX4_cut 1 (some .int), Cond.methodLink RX4 108 yX4_cuts, Cond.instanceMethod yX4_cuts]
def wsX4_does_r5 : List Cond := [Cond.selects RX4 yX4_cuts yX4_cuts, Cond.code yX4_cuts cX4_cuts 5 (some .int)]
def wsX4_does : List Cond := .code yX4_does cX4_does 2 (some .int) :: ((wsX4_does_r1 ++ (wsX4_does_r2 ++ (wsX4_does_r3 ++ (wsX4_does_r4 ++ wsX4_does_r5)))) ++ wsX40)
def wsX4_goes_r1 : List Cond := [Cond.fieldLink RX4 126 "TwinPlatesModel" "at" "I", Cond.fieldLink RX4 123 "TwinPlatesModel" "length" "I", Cond.fieldLink RX4 25 "TwinPlatesModel" "left" "[I", Cond.fieldLink RX4 22 "TwinPlatesModel" "start" "[I", Cond.methodLink RX4 129 yX4_here, Cond.instanceMethod yX4_here, Cond.selects RX4 yX4_here yX4_here, Cond.initialized RX4, Cond.code yX4_here cX4_here 1 (some .int), Cond.fieldLink RX4 19 "TwinPlatesModel" "text" "[I", Cond.methodLink RX4 138 yX4_isLetter, Cond.static yX4_isLetter, Cond.code yX4_isLetter cX4_isLetter 1 (some .boolean), Cond.methodLink RX4 141 yX4_readsAct, Cond.instanceMethod yX4_readsAct, Cond.selects RX4 yX4_readsAct yX4_readsAct, Cond.code yX4_readsAct cX4_readsAct 2 (some .boolean), Cond.methodLink RX4 132 yX4_passesSign, Cond.instanceMethod yX4_passesSign, Cond.selects RX4 yX4_passesSign yX4_passesSign, Cond.code yX4_passesSign cX4_passesSign 3 (some .boolean), Cond.methodLink RX4 135 yX4_number, Cond.instanceMethod yX4_number, Cond.selects RX4 yX4_number yX4_number]
def wsX4_goes_r2 : List Cond := [Cond.code yX4_number cX4_number 4 (some .boolean), Cond.fieldLink RX4 28 "TwinPlatesModel" "numbers" "[I", Cond.methodLink RX4 39 yX4_within, Cond.static yX4_within, Cond.code yX4_within cX4_within 3 (some .boolean), Cond.methodLink RX4 156 yX4_does, Cond.instanceMethod yX4_does, Cond.selects RX4 yX4_does yX4_does, Cond.code yX4_does cX4_does 2 (some .int), Cond.methodLink RX4 144 yX4_read, Cond.instanceMethod yX4_read, Cond.selects RX4 yX4_read yX4_read, Cond.code yX4_read cX4_read 3 (some .int), Cond.methodLink RX4 58 yX4_isBlock, Cond.static yX4_isBlock, Cond.code yX4_isBlock cX4_isBlock 2 (some .boolean), Cond.methodLink RX4 62 yX4_takes, Cond.instanceMethod yX4_takes, Cond.selects RX4 yX4_takes yX4_takes, Cond.code yX4_takes cX4_takes 6 (some .int), Cond.fieldLink RX4 7 "TwinPlatesModel" "now" "[I", Cond.methodLink RX4 47 yX4_inState, Cond.instanceMethod yX4_inState, Cond.selects RX4 yX4_inState yX4_inState]
def wsX4_goes_r3 : List Cond := [Cond.code yX4_inState cX4_inState 4 (some .int), Cond.methodLink RX4 43 yX4_told, Cond.instanceMethod yX4_told, Cond.selects RX4 yX4_told yX4_told, Cond.code yX4_told cX4_told 3 (some .int), Cond.methodLink RX4 51 yX4_saves, Cond.instanceMethod yX4_saves, Cond.selects RX4 yX4_saves yX4_saves, Cond.code yX4_saves cX4_saves 2 none, Cond.fieldLink RX4 31 "TwinPlatesModel" "isRun" "Z", Cond.fieldLink RX4 35 "TwinPlatesModel" "saved" "I", Cond.fieldLink RX4 13 "TwinPlatesModel" "past" "[I", Cond.methodLink RX4 54 yX4_tell, Cond.instanceMethod yX4_tell, Cond.selects RX4 yX4_tell yX4_tell, Cond.code yX4_tell cX4_tell 4 none, Cond.methodLink RX4 147 yX4_write, Cond.instanceMethod yX4_write, Cond.selects RX4 yX4_write yX4_write, Cond.code yX4_write cX4_write 4 (some .int), Cond.methodLink RX4 150 yX4_pass, Cond.instanceMethod yX4_pass, Cond.selects RX4 yX4_pass yX4_pass, Cond.code yX4_pass cX4_pass 4 (some .int)]
def wsX4_goes_r4 : List Cond := [Cond.methodLink RX4 105 yX4_passes, Cond.instanceMethod yX4_passes, Cond.selects RX4 yX4_passes yX4_passes, Cond.code yX4_passes cX4_passes 2 none, Cond.methodLink RX4 73 yX4_hasWork, Cond.instanceMethod yX4_hasWork, Cond.selects RX4 yX4_hasWork yX4_hasWork, Cond.code yX4_hasWork cX4_hasWork 4 (some .boolean), Cond.methodLink RX4 66 yX4_of, Cond.instanceMethod yX4_of, Cond.selects RX4 yX4_of yX4_of, Cond.code yX4_of cX4_of 4 (some .int), Cond.methodLink RX4 97 yX4_heads, Cond.instanceMethod yX4_heads, Cond.selects RX4 yX4_heads yX4_heads, Cond.code yX4_heads cX4_heads 6 none, Cond.methodLink RX4 81 yX4_sectorUnder, Cond.instanceMethod yX4_sectorUnder, Cond.selects RX4 yX4_sectorUnder yX4_sectorUnder, Cond.code yX4_sectorUnder cX4_sectorUnder 2 (some .int), Cond.methodLink RX4 84 yX4_firstFor, Cond.instanceMethod yX4_firstFor, Cond.selects RX4 yX4_firstFor yX4_firstFor, Cond.code yX4_firstFor cX4_firstFor 4 (some .int)]
def wsX4_goes_r5 : List Cond := [Cond.methodLink RX4 87 yX4_writes, Cond.instanceMethod yX4_writes, Cond.selects RX4 yX4_writes yX4_writes, Cond.code yX4_writes cX4_writes 5 none, Cond.methodLink RX4 77 yX4_put, Cond.instanceMethod yX4_put, Cond.selects RX4 yX4_put yX4_put, Cond.code yX4_put cX4_put 5 none, Cond.methodLink RX4 90 yX4_most, Cond.static yX4_most, Cond.code yX4_most cX4_most 2 (some .int), Cond.methodLink RX4 93 yX4_ends, Cond.instanceMethod yX4_ends, Cond.selects RX4 yX4_ends yX4_ends, Cond.code yX4_ends cX4_ends 3 none, Cond.methodLink RX4 101 yX4_nearest, Cond.instanceMethod yX4_nearest, Cond.selects RX4 yX4_nearest yX4_nearest, Cond.code yX4_nearest cX4_nearest 4 (some .int), Cond.methodLink RX4 70 yX4_size, Cond.static yX4_size, Cond.code yX4_size cX4_size 1 (some .int), Cond.methodLink RX4 153 yX4_cut, Cond.instanceMethod yX4_cut]
def wsX4_goes_r6 : List Cond := [Cond.selects RX4 yX4_cut yX4_cut, Cond.code yX4_cut cX4_cut 1 (some .int), Cond.methodLink RX4 108 yX4_cuts, Cond.instanceMethod yX4_cuts, Cond.selects RX4 yX4_cuts yX4_cuts, Cond.code yX4_cuts cX4_cuts 5 (some .int)]
def wsX4_goes : List Cond := .code yX4_goes cX4_goes 7 (some .int) :: ((wsX4_goes_r1 ++ (wsX4_goes_r2 ++ (wsX4_goes_r3 ++ (wsX4_goes_r4 ++ (wsX4_goes_r5 ++ wsX4_goes_r6))))) ++ wsX40)
def wsX4_run_r1 : List Cond := [Cond.fieldLink RX4 126 "TwinPlatesModel" "at" "I", Cond.fieldLink RX4 31 "TwinPlatesModel" "isRun" "Z", Cond.fieldLink RX4 7 "TwinPlatesModel" "now" "[I", Cond.fieldLink RX4 16 "TwinPlatesModel" "aside" "[I", Cond.methodLink RX4 159 yX4_readsAll, Cond.instanceMethod yX4_readsAll, Cond.selects RX4 yX4_readsAll yX4_readsAll, Cond.initialized RX4, Cond.code yX4_readsAll cX4_readsAll 3 (some .boolean), Cond.fieldLink RX4 123 "TwinPlatesModel" "length" "I", Cond.methodLink RX4 129 yX4_here, Cond.instanceMethod yX4_here, Cond.selects RX4 yX4_here yX4_here, Cond.code yX4_here cX4_here 1 (some .int), Cond.fieldLink RX4 19 "TwinPlatesModel" "text" "[I", Cond.methodLink RX4 138 yX4_isLetter, Cond.static yX4_isLetter, Cond.code yX4_isLetter cX4_isLetter 1 (some .boolean), Cond.methodLink RX4 141 yX4_readsAct, Cond.instanceMethod yX4_readsAct, Cond.selects RX4 yX4_readsAct yX4_readsAct, Cond.code yX4_readsAct cX4_readsAct 2 (some .boolean), Cond.methodLink RX4 132 yX4_passesSign, Cond.instanceMethod yX4_passesSign]
def wsX4_run_r2 : List Cond := [Cond.selects RX4 yX4_passesSign yX4_passesSign, Cond.code yX4_passesSign cX4_passesSign 3 (some .boolean), Cond.methodLink RX4 135 yX4_number, Cond.instanceMethod yX4_number, Cond.selects RX4 yX4_number yX4_number, Cond.code yX4_number cX4_number 4 (some .boolean), Cond.fieldLink RX4 28 "TwinPlatesModel" "numbers" "[I", Cond.methodLink RX4 39 yX4_within, Cond.static yX4_within, Cond.code yX4_within cX4_within 3 (some .boolean), Cond.methodLink RX4 163 yX4_goes, Cond.instanceMethod yX4_goes, Cond.selects RX4 yX4_goes yX4_goes, Cond.code yX4_goes cX4_goes 7 (some .int), Cond.fieldLink RX4 25 "TwinPlatesModel" "left" "[I", Cond.fieldLink RX4 22 "TwinPlatesModel" "start" "[I", Cond.methodLink RX4 156 yX4_does, Cond.instanceMethod yX4_does, Cond.selects RX4 yX4_does yX4_does, Cond.code yX4_does cX4_does 2 (some .int), Cond.methodLink RX4 144 yX4_read, Cond.instanceMethod yX4_read, Cond.selects RX4 yX4_read yX4_read, Cond.code yX4_read cX4_read 3 (some .int)]
def wsX4_run_r3 : List Cond := [Cond.methodLink RX4 58 yX4_isBlock, Cond.static yX4_isBlock, Cond.code yX4_isBlock cX4_isBlock 2 (some .boolean), Cond.methodLink RX4 62 yX4_takes, Cond.instanceMethod yX4_takes, Cond.selects RX4 yX4_takes yX4_takes, Cond.code yX4_takes cX4_takes 6 (some .int), Cond.methodLink RX4 47 yX4_inState, Cond.instanceMethod yX4_inState, Cond.selects RX4 yX4_inState yX4_inState, Cond.code yX4_inState cX4_inState 4 (some .int), Cond.methodLink RX4 43 yX4_told, Cond.instanceMethod yX4_told, Cond.selects RX4 yX4_told yX4_told, Cond.code yX4_told cX4_told 3 (some .int), Cond.methodLink RX4 51 yX4_saves, Cond.instanceMethod yX4_saves, Cond.selects RX4 yX4_saves yX4_saves, Cond.code yX4_saves cX4_saves 2 none, Cond.fieldLink RX4 35 "TwinPlatesModel" "saved" "I", Cond.fieldLink RX4 13 "TwinPlatesModel" "past" "[I", Cond.methodLink RX4 54 yX4_tell, Cond.instanceMethod yX4_tell, Cond.selects RX4 yX4_tell yX4_tell]
def wsX4_run_r4 : List Cond := [Cond.code yX4_tell cX4_tell 4 none, Cond.methodLink RX4 147 yX4_write, Cond.instanceMethod yX4_write, Cond.selects RX4 yX4_write yX4_write, Cond.code yX4_write cX4_write 4 (some .int), Cond.methodLink RX4 150 yX4_pass, Cond.instanceMethod yX4_pass, Cond.selects RX4 yX4_pass yX4_pass, Cond.code yX4_pass cX4_pass 4 (some .int), Cond.methodLink RX4 105 yX4_passes, Cond.instanceMethod yX4_passes, Cond.selects RX4 yX4_passes yX4_passes, Cond.code yX4_passes cX4_passes 2 none, Cond.methodLink RX4 73 yX4_hasWork, Cond.instanceMethod yX4_hasWork, Cond.selects RX4 yX4_hasWork yX4_hasWork, Cond.code yX4_hasWork cX4_hasWork 4 (some .boolean), Cond.methodLink RX4 66 yX4_of, Cond.instanceMethod yX4_of, Cond.selects RX4 yX4_of yX4_of, Cond.code yX4_of cX4_of 4 (some .int), Cond.methodLink RX4 97 yX4_heads, Cond.instanceMethod yX4_heads, Cond.selects RX4 yX4_heads yX4_heads]
def wsX4_run_r5 : List Cond := [Cond.code yX4_heads cX4_heads 6 none, Cond.methodLink RX4 81 yX4_sectorUnder, Cond.instanceMethod yX4_sectorUnder, Cond.selects RX4 yX4_sectorUnder yX4_sectorUnder, Cond.code yX4_sectorUnder cX4_sectorUnder 2 (some .int), Cond.methodLink RX4 84 yX4_firstFor, Cond.instanceMethod yX4_firstFor, Cond.selects RX4 yX4_firstFor yX4_firstFor, Cond.code yX4_firstFor cX4_firstFor 4 (some .int), Cond.methodLink RX4 87 yX4_writes, Cond.instanceMethod yX4_writes, Cond.selects RX4 yX4_writes yX4_writes, Cond.code yX4_writes cX4_writes 5 none, Cond.methodLink RX4 77 yX4_put, Cond.instanceMethod yX4_put, Cond.selects RX4 yX4_put yX4_put, Cond.code yX4_put cX4_put 5 none, Cond.methodLink RX4 90 yX4_most, Cond.static yX4_most, Cond.code yX4_most cX4_most 2 (some .int), Cond.methodLink RX4 93 yX4_ends, Cond.instanceMethod yX4_ends, Cond.selects RX4 yX4_ends yX4_ends, Cond.code yX4_ends cX4_ends 3 none]
def wsX4_run_r6 : List Cond := [Cond.methodLink RX4 101 yX4_nearest, Cond.instanceMethod yX4_nearest, Cond.selects RX4 yX4_nearest yX4_nearest, Cond.code yX4_nearest cX4_nearest 4 (some .int), Cond.methodLink RX4 70 yX4_size, Cond.static yX4_size, Cond.code yX4_size cX4_size 1 (some .int), Cond.methodLink RX4 153 yX4_cut, Cond.instanceMethod yX4_cut, Cond.selects RX4 yX4_cut yX4_cut, Cond.code yX4_cut cX4_cut 1 (some .int), Cond.methodLink RX4 108 yX4_cuts, Cond.instanceMethod yX4_cuts, Cond.selects RX4 yX4_cuts yX4_cuts, Cond.code yX4_cuts cX4_cuts 5 (some .int), Cond.methodLink RX4 167 yX4_puts, Cond.instanceMethod yX4_puts, Cond.selects RX4 yX4_puts yX4_puts, Cond.code yX4_puts cX4_puts 2 none, Cond.methodLink RX4 170 yX4_back, Cond.instanceMethod yX4_back, Cond.selects RX4 yX4_back yX4_back, Cond.code yX4_back cX4_back 2 none]
def wsX4_run : List Cond := .code yX4_run cX4_run 4 (some .int) :: ((wsX4_run_r1 ++ (wsX4_run_r2 ++ (wsX4_run_r3 ++ (wsX4_run_r4 ++ (wsX4_run_r5 ++ wsX4_run_r6))))) ++ wsX40)
def wsX4_unlike : List Cond := .code yX4_unlike cX4_unlike 3 (some .int) :: ([.methodLink RX4 66 yX4_of, .instanceMethod yX4_of, .selects RX4 yX4_of yX4_of, .initialized RX4, .code yX4_of cX4_of 4 (some .int), .fieldLink RX4 7 "TwinPlatesModel" "now" "[I"] ++ wsX40)
def wsX4_count_r1 : List Cond := [Cond.fieldLink RX4 7 "TwinPlatesModel" "now" "[I", Cond.fieldLink RX4 35 "TwinPlatesModel" "saved" "I", Cond.fieldLink RX4 123 "TwinPlatesModel" "length" "I", Cond.methodLink RX4 81 yX4_sectorUnder, Cond.instanceMethod yX4_sectorUnder, Cond.selects RX4 yX4_sectorUnder yX4_sectorUnder, Cond.initialized RX4, Cond.code yX4_sectorUnder cX4_sectorUnder 2 (some .int), Cond.methodLink RX4 47 yX4_inState, Cond.instanceMethod yX4_inState, Cond.selects RX4 yX4_inState yX4_inState, Cond.code yX4_inState cX4_inState 4 (some .int), Cond.methodLink RX4 43 yX4_told, Cond.instanceMethod yX4_told, Cond.selects RX4 yX4_told yX4_told, Cond.code yX4_told cX4_told 3 (some .int), Cond.methodLink RX4 117 yX4_copiesThat, Cond.instanceMethod yX4_copiesThat, Cond.selects RX4 yX4_copiesThat yX4_copiesThat, Cond.code yX4_copiesThat cX4_copiesThat 4 (some .int), Cond.methodLink RX4 66 yX4_of, Cond.instanceMethod yX4_of, Cond.selects RX4 yX4_of yX4_of, Cond.code yX4_of cX4_of 4 (some .int)]
def wsX4_count_r2 : List Cond := [Cond.methodLink RX4 173 yX4_unlike, Cond.instanceMethod yX4_unlike, Cond.selects RX4 yX4_unlike yX4_unlike, Cond.code yX4_unlike cX4_unlike 3 (some .int)]
def wsX4_count : List Cond := .code yX4_count cX4_count 2 (some .int) :: ((wsX4_count_r1 ++ wsX4_count_r2) ++ wsX40)
def wsX4_copy : List Cond := .code yX4_copy cX4_copy 5 (some .int) :: ([.methodLink RX4 39 yX4_within, .static yX4_within, .initialized RX4, .code yX4_within cX4_within 3 (some .boolean), .methodLink RX4 58 yX4_isBlock, .static yX4_isBlock, .code yX4_isBlock cX4_isBlock 2 (some .boolean), .methodLink RX4 66 yX4_of, .instanceMethod yX4_of, .selects RX4 yX4_of yX4_of, .code yX4_of cX4_of 4 (some .int), .fieldLink RX4 7 "TwinPlatesModel" "now" "[I"] ++ wsX40)
def wsX4_isOrder : List Cond := .code yX4_isOrder cX4_isOrder 2 (some .boolean) :: ([.fieldLink RX4 7 "TwinPlatesModel" "now" "[I", .methodLink RX4 39 yX4_within, .static yX4_within, .initialized RX4, .code yX4_within cX4_within 3 (some .boolean)] ++ wsX40)
def wsX4_order : List Cond := .code yX4_order cX4_order 3 (some .int) :: ([.methodLink RX4 176 yX4_isOrder, .instanceMethod yX4_isOrder, .selects RX4 yX4_isOrder yX4_isOrder, .initialized RX4, .code yX4_isOrder cX4_isOrder 2 (some .boolean), .fieldLink RX4 7 "TwinPlatesModel" "now" "[I", .methodLink RX4 39 yX4_within, .static yX4_within, .code yX4_within cX4_within 3 (some .boolean), .methodLink RX4 43 yX4_told, .instanceMethod yX4_told, .selects RX4 yX4_told yX4_told, .code yX4_told cX4_told 3 (some .int)] ++ wsX40)
def wsX4_waitOf : List Cond := .code yX4_waitOf cX4_waitOf 2 (some .int) :: ([.methodLink RX4 43 yX4_told, .instanceMethod yX4_told, .selects RX4 yX4_told yX4_told, .initialized RX4, .code yX4_told cX4_told 3 (some .int), .fieldLink RX4 7 "TwinPlatesModel" "now" "[I"] ++ wsX40)
def wsX4_waits : List Cond := .code yX4_waits cX4_waits 6 (some .int) :: ([.fieldLink RX4 7 "TwinPlatesModel" "now" "[I", .methodLink RX4 39 yX4_within, .static yX4_within, .initialized RX4, .code yX4_within cX4_within 3 (some .boolean), .methodLink RX4 43 yX4_told, .instanceMethod yX4_told, .selects RX4 yX4_told yX4_told, .code yX4_told cX4_told 3 (some .int), .methodLink RX4 179 yX4_waitOf, .instanceMethod yX4_waitOf, .selects RX4 yX4_waitOf yX4_waitOf, .code yX4_waitOf cX4_waitOf 2 (some .int)] ++ wsX40)
def wsX4_ticksTo : List Cond := .code yX4_ticksTo cX4_ticksTo 3 (some .int) :: ([.methodLink RX4 81 yX4_sectorUnder, .instanceMethod yX4_sectorUnder, .selects RX4 yX4_sectorUnder yX4_sectorUnder, .initialized RX4, .code yX4_sectorUnder cX4_sectorUnder 2 (some .int), .fieldLink RX4 7 "TwinPlatesModel" "now" "[I"] ++ wsX40)
def wsX4_nearer : List Cond := .code yX4_nearer cX4_nearer 5 (some .int) :: ([.methodLink RX4 39 yX4_within, .static yX4_within, .initialized RX4, .code yX4_within cX4_within 3 (some .boolean), .methodLink RX4 182 yX4_ticksTo, .instanceMethod yX4_ticksTo, .selects RX4 yX4_ticksTo yX4_ticksTo, .code yX4_ticksTo cX4_ticksTo 3 (some .int), .methodLink RX4 81 yX4_sectorUnder, .instanceMethod yX4_sectorUnder, .selects RX4 yX4_sectorUnder yX4_sectorUnder, .code yX4_sectorUnder cX4_sectorUnder 2 (some .int), .fieldLink RX4 7 "TwinPlatesModel" "now" "[I"] ++ wsX40)
def wsX4_doneIn_r1 : List Cond := [Cond.methodLink RX4 176 yX4_isOrder, Cond.instanceMethod yX4_isOrder, Cond.selects RX4 yX4_isOrder yX4_isOrder, Cond.initialized RX4, Cond.code yX4_isOrder cX4_isOrder 2 (some .boolean), Cond.fieldLink RX4 7 "TwinPlatesModel" "now" "[I", Cond.methodLink RX4 39 yX4_within, Cond.static yX4_within, Cond.code yX4_within cX4_within 3 (some .boolean), Cond.methodLink RX4 167 yX4_puts, Cond.instanceMethod yX4_puts, Cond.selects RX4 yX4_puts yX4_puts, Cond.code yX4_puts cX4_puts 2 none, Cond.fieldLink RX4 16 "TwinPlatesModel" "aside" "[I", Cond.methodLink RX4 43 yX4_told, Cond.instanceMethod yX4_told, Cond.selects RX4 yX4_told yX4_told, Cond.code yX4_told cX4_told 3 (some .int), Cond.methodLink RX4 105 yX4_passes, Cond.instanceMethod yX4_passes, Cond.selects RX4 yX4_passes yX4_passes, Cond.code yX4_passes cX4_passes 2 none, Cond.methodLink RX4 73 yX4_hasWork, Cond.instanceMethod yX4_hasWork]
def wsX4_doneIn_r2 : List Cond := [Cond.selects RX4 yX4_hasWork yX4_hasWork, Cond.code yX4_hasWork cX4_hasWork 4 (some .boolean), Cond.methodLink RX4 66 yX4_of, Cond.instanceMethod yX4_of, Cond.selects RX4 yX4_of yX4_of, Cond.code yX4_of cX4_of 4 (some .int), Cond.methodLink RX4 97 yX4_heads, Cond.instanceMethod yX4_heads, Cond.selects RX4 yX4_heads yX4_heads, Cond.code yX4_heads cX4_heads 6 none, Cond.methodLink RX4 81 yX4_sectorUnder, Cond.instanceMethod yX4_sectorUnder, Cond.selects RX4 yX4_sectorUnder yX4_sectorUnder, Cond.code yX4_sectorUnder cX4_sectorUnder 2 (some .int), Cond.methodLink RX4 84 yX4_firstFor, Cond.instanceMethod yX4_firstFor, Cond.selects RX4 yX4_firstFor yX4_firstFor, Cond.code yX4_firstFor cX4_firstFor 4 (some .int), Cond.methodLink RX4 87 yX4_writes, Cond.instanceMethod yX4_writes, Cond.selects RX4 yX4_writes yX4_writes, Cond.code yX4_writes cX4_writes 5 none, Cond.methodLink RX4 77 yX4_put, Cond.instanceMethod yX4_put]
def wsX4_doneIn_r3 : List Cond := [Cond.selects RX4 yX4_put yX4_put, Cond.code yX4_put cX4_put 5 none, Cond.methodLink RX4 90 yX4_most, Cond.static yX4_most, Cond.code yX4_most cX4_most 2 (some .int), Cond.methodLink RX4 93 yX4_ends, Cond.instanceMethod yX4_ends, Cond.selects RX4 yX4_ends yX4_ends, Cond.code yX4_ends cX4_ends 3 none, Cond.methodLink RX4 54 yX4_tell, Cond.instanceMethod yX4_tell, Cond.selects RX4 yX4_tell yX4_tell, Cond.code yX4_tell cX4_tell 4 none, Cond.methodLink RX4 101 yX4_nearest, Cond.instanceMethod yX4_nearest, Cond.selects RX4 yX4_nearest yX4_nearest, Cond.code yX4_nearest cX4_nearest 4 (some .int), Cond.methodLink RX4 70 yX4_size, Cond.static yX4_size, Cond.code yX4_size cX4_size 1 (some .int), Cond.methodLink RX4 170 yX4_back, Cond.instanceMethod yX4_back, Cond.selects RX4 yX4_back yX4_back, Cond.code yX4_back cX4_back 2 none]
def wsX4_doneIn : List Cond := .code yX4_doneIn cX4_doneIn 4 (some .int) :: ((wsX4_doneIn_r1 ++ (wsX4_doneIn_r2 ++ wsX4_doneIn_r3)) ++ wsX40)
def wsX4_idleIn_r1 : List Cond := [Cond.methodLink RX4 167 yX4_puts, Cond.instanceMethod yX4_puts, Cond.selects RX4 yX4_puts yX4_puts, Cond.initialized RX4, Cond.code yX4_puts cX4_puts 2 none, Cond.fieldLink RX4 16 "TwinPlatesModel" "aside" "[I", Cond.fieldLink RX4 7 "TwinPlatesModel" "now" "[I", Cond.methodLink RX4 101 yX4_nearest, Cond.instanceMethod yX4_nearest, Cond.selects RX4 yX4_nearest yX4_nearest, Cond.code yX4_nearest cX4_nearest 4 (some .int), Cond.methodLink RX4 70 yX4_size, Cond.static yX4_size, Cond.code yX4_size cX4_size 1 (some .int), Cond.methodLink RX4 73 yX4_hasWork, Cond.instanceMethod yX4_hasWork, Cond.selects RX4 yX4_hasWork yX4_hasWork, Cond.code yX4_hasWork cX4_hasWork 4 (some .boolean), Cond.methodLink RX4 43 yX4_told, Cond.instanceMethod yX4_told, Cond.selects RX4 yX4_told yX4_told, Cond.code yX4_told cX4_told 3 (some .int), Cond.methodLink RX4 66 yX4_of, Cond.instanceMethod yX4_of]
def wsX4_idleIn_r2 : List Cond := [Cond.selects RX4 yX4_of yX4_of, Cond.code yX4_of cX4_of 4 (some .int), Cond.methodLink RX4 105 yX4_passes, Cond.instanceMethod yX4_passes, Cond.selects RX4 yX4_passes yX4_passes, Cond.code yX4_passes cX4_passes 2 none, Cond.methodLink RX4 97 yX4_heads, Cond.instanceMethod yX4_heads, Cond.selects RX4 yX4_heads yX4_heads, Cond.code yX4_heads cX4_heads 6 none, Cond.methodLink RX4 81 yX4_sectorUnder, Cond.instanceMethod yX4_sectorUnder, Cond.selects RX4 yX4_sectorUnder yX4_sectorUnder, Cond.code yX4_sectorUnder cX4_sectorUnder 2 (some .int), Cond.methodLink RX4 84 yX4_firstFor, Cond.instanceMethod yX4_firstFor, Cond.selects RX4 yX4_firstFor yX4_firstFor, Cond.code yX4_firstFor cX4_firstFor 4 (some .int), Cond.methodLink RX4 87 yX4_writes, Cond.instanceMethod yX4_writes, Cond.selects RX4 yX4_writes yX4_writes, Cond.code yX4_writes cX4_writes 5 none, Cond.methodLink RX4 77 yX4_put, Cond.instanceMethod yX4_put]
def wsX4_idleIn_r3 : List Cond := [Cond.selects RX4 yX4_put yX4_put, Cond.code yX4_put cX4_put 5 none, Cond.methodLink RX4 90 yX4_most, Cond.static yX4_most, Cond.code yX4_most cX4_most 2 (some .int), Cond.methodLink RX4 93 yX4_ends, Cond.instanceMethod yX4_ends, Cond.selects RX4 yX4_ends yX4_ends, Cond.code yX4_ends cX4_ends 3 none, Cond.methodLink RX4 54 yX4_tell, Cond.instanceMethod yX4_tell, Cond.selects RX4 yX4_tell yX4_tell, Cond.code yX4_tell cX4_tell 4 none, Cond.methodLink RX4 170 yX4_back, Cond.instanceMethod yX4_back, Cond.selects RX4 yX4_back yX4_back, Cond.code yX4_back cX4_back 2 none]
def wsX4_idleIn : List Cond := .code yX4_idleIn cX4_idleIn 2 (some .int) :: ((wsX4_idleIn_r1 ++ (wsX4_idleIn_r2 ++ wsX4_idleIn_r3)) ++ wsX40)
def wsX4_wouldWipe_r1 : List Cond := [Cond.methodLink RX4 167 yX4_puts, Cond.instanceMethod yX4_puts, Cond.selects RX4 yX4_puts yX4_puts, Cond.initialized RX4, Cond.code yX4_puts cX4_puts 2 none, Cond.fieldLink RX4 16 "TwinPlatesModel" "aside" "[I", Cond.fieldLink RX4 7 "TwinPlatesModel" "now" "[I", Cond.methodLink RX4 108 yX4_cuts, Cond.instanceMethod yX4_cuts, Cond.selects RX4 yX4_cuts yX4_cuts, Cond.code yX4_cuts cX4_cuts 5 (some .int), Cond.methodLink RX4 66 yX4_of, Cond.instanceMethod yX4_of, Cond.selects RX4 yX4_of yX4_of, Cond.code yX4_of cX4_of 4 (some .int), Cond.methodLink RX4 77 yX4_put, Cond.instanceMethod yX4_put, Cond.selects RX4 yX4_put yX4_put, Cond.code yX4_put cX4_put 5 none, Cond.methodLink RX4 43 yX4_told, Cond.instanceMethod yX4_told, Cond.selects RX4 yX4_told yX4_told, Cond.code yX4_told cX4_told 3 (some .int), Cond.methodLink RX4 54 yX4_tell]
def wsX4_wouldWipe_r2 : List Cond := [Cond.instanceMethod yX4_tell, Cond.selects RX4 yX4_tell yX4_tell, Cond.code yX4_tell cX4_tell 4 none, Cond.methodLink RX4 111 yX4_torn, Cond.instanceMethod yX4_torn, Cond.selects RX4 yX4_torn yX4_torn, Cond.code yX4_torn cX4_torn 2 (some .int), Cond.methodLink RX4 170 yX4_back, Cond.instanceMethod yX4_back, Cond.selects RX4 yX4_back yX4_back, Cond.code yX4_back cX4_back 2 none]
def wsX4_wouldWipe : List Cond := .code yX4_wouldWipe cX4_wouldWipe 3 (some .int) :: ((wsX4_wouldWipe_r1 ++ wsX4_wouldWipe_r2) ++ wsX40)
def wsJ9_max_7cf53 : List Cond := .code yJ9_max_7cf53 cJ9_max_7cf53 2 (some .int) :: ([])
def wsJ9_min_7cf53 : List Cond := .code yJ9_min_7cf53 cJ9_min_7cf53 2 (some .int) :: ([])
def wsL_law_r1 : List Cond := [Cond.classLink RL 7 RX3, Cond.instantiable RX3 4, Cond.initialized RX3, Cond.classLink RL 10 RX4, Cond.instantiable RX4 11, Cond.initialized RX4, Cond.methodLink RL 9 yX3_init, Cond.instanceMethod yX3_init, Cond.code yX3_init cX3_init 1 none, Cond.methodLink RX3 1 objectInit, Cond.instanceMethod objectInit, Cond.code objectInit ⟨#[0xb1]⟩ 1 none, Cond.classLink RX3 7 RX1, Cond.instantiable RX1 11, Cond.initialized RX1, Cond.fieldLink RX3 10 "TwinPlates" "now" "LTwinPlates$Plates;", Cond.fieldLink RX3 16 "TwinPlates" "forecast" "LTwinPlates$Plates;", Cond.classLink RX3 19 RX0, Cond.instantiable RX0 3, Cond.initialized RX0, Cond.fieldLink RX3 22 "TwinPlates" "history" "LTwinPlates$History;", Cond.classLink RX3 26 RX2, Cond.instantiable RX2 9, Cond.initialized RX2]
def wsL_law_r2 : List Cond := [Cond.fieldLink RX3 29 "TwinPlates" "program" "LTwinPlates$Program;", Cond.methodLink RX3 9 yX1_init, Cond.instanceMethod yX1_init, Cond.code yX1_init cX1_init 1 none, Cond.methodLink RX1 5 objectInit, Cond.arrayClass .int, Cond.fieldLink RX1 11 "TwinPlates$Plates" "copies" "[I", Cond.fieldLink RX1 15 "TwinPlates$Plates" "orders" "[I", Cond.fieldLink RX1 18 "TwinPlates$Plates" "written" "[I", Cond.fieldLink RX1 21 "TwinPlates$Plates" "waitingForBlock" "[I", Cond.fieldLink RX1 24 "TwinPlates$Plates" "workOnTrack" "[I", Cond.methodLink RX1 27 yX1_forgetWritten, Cond.instanceMethod yX1_forgetWritten, Cond.selects RX1 yX1_forgetWritten yX1_forgetWritten, Cond.code yX1_forgetWritten cX1_forgetWritten 2 none, Cond.methodLink RX3 21 yX0_init, Cond.instanceMethod yX0_init, Cond.code yX0_init cX0_init 2 none, Cond.methodLink RX0 3 objectInit, Cond.classLink RX0 9 RX1, Cond.fieldLink RX0 11 "TwinPlates$History" "slots" "[LTwinPlates$Plates;", Cond.methodLink RX0 15 yX1_init, Cond.instanceMethod yX2_init, Cond.code yX2_init cX2_init 1 none]
def wsL_law_r3 : List Cond := [Cond.methodLink RX2 1 objectInit, Cond.fieldLink RX2 9 "TwinPlates$Program" "text" "[I", Cond.fieldLink RX2 13 "TwinPlates$Program" "numbers" "[I", Cond.fieldLink RX2 16 "TwinPlates$Program" "letters" "[I", Cond.fieldLink RX2 19 "TwinPlates$Program" "groupTimes" "[I", Cond.fieldLink RX2 22 "TwinPlates$Program" "groupStart" "[I", Cond.methodLink RL 12 yX4_init, Cond.instanceMethod yX4_init, Cond.code yX4_init cX4_init 2 none, Cond.methodLink RX4 1 objectInit, Cond.fieldLink RX4 7 "TwinPlatesModel" "now" "[I", Cond.fieldLink RX4 13 "TwinPlatesModel" "past" "[I", Cond.fieldLink RX4 16 "TwinPlatesModel" "aside" "[I", Cond.fieldLink RX4 19 "TwinPlatesModel" "text" "[I", Cond.fieldLink RX4 22 "TwinPlatesModel" "start" "[I", Cond.fieldLink RX4 25 "TwinPlatesModel" "left" "[I", Cond.fieldLink RX4 28 "TwinPlatesModel" "numbers" "[I", Cond.methodLink RL 13 yX3_read, Cond.instanceMethod yX3_read, Cond.selects RX3 yX3_read yX3_read, Cond.code yX3_read cX3_read 3 (some .int), Cond.methodLink RX3 33 yX0_note, Cond.instanceMethod yX0_note, Cond.selects RX0 yX0_note yX0_note]
def wsL_law_r4 : List Cond := [Cond.code yX0_note cX0_note 2 none, Cond.methodLink RX0 20 yX0_noted, Cond.instanceMethod yX0_noted, Cond.selects RX0 yX0_noted yX0_noted, Cond.code yX0_noted cX0_noted 1 (some (.object "TwinPlates$Plates")), Cond.fieldLink RX0 28 "TwinPlates$History" "oldest" "I", Cond.fieldLink RX0 16 "TwinPlates$History" "size" "I", Cond.methodLink RX0 31 yJ9_floorMod_7cf53, Cond.static yJ9_floorMod_7cf53, Cond.initialized RJ9, Cond.code yJ9_floorMod_7cf53 cJ9_floorMod_7cf53 3 (some .int), Cond.methodLink RX0 24 yX1_become, Cond.instanceMethod yX1_become, Cond.selects RX1 yX1_become yX1_become, Cond.code yX1_become cX1_become 2 none, Cond.methodLink RX1 30 arraycopyName, Cond.native arraycopyName, Cond.static arraycopyName, Cond.initialized "java/lang/System", Cond.fieldLink RX1 36 "TwinPlates$Plates" "tick" "I", Cond.fieldLink RX1 40 "TwinPlates$Plates" "arm" "I", Cond.fieldLink RX1 43 "TwinPlates$Plates" "taken" "I", Cond.fieldLink RX1 46 "TwinPlates$Plates" "waiting" "I", Cond.fieldLink RX1 49 "TwinPlates$Plates" "wiped" "I"]
def wsL_law_r5 : List Cond := [Cond.fieldLink RX1 52 "TwinPlates$Plates" "moves" "I", Cond.methodLink RX3 37 yX1_takeRead, Cond.instanceMethod yX1_takeRead, Cond.selects RX1 yX1_takeRead yX1_takeRead, Cond.code yX1_takeRead cX1_takeRead 3 (some .int), Cond.methodLink RX1 80 yX1_isBlock, Cond.static yX1_isBlock, Cond.code yX1_isBlock cX1_isBlock 2 (some .boolean), Cond.methodLink RX1 84 yX1_takeOrder, Cond.instanceMethod yX1_takeOrder, Cond.selects RX1 yX1_takeOrder yX1_takeOrder, Cond.code yX1_takeOrder cX1_takeOrder 6 (some .int), Cond.methodLink RX1 68 yX1_blockAt, Cond.static yX1_blockAt, Cond.code yX1_blockAt cX1_blockAt 2 (some .int), Cond.methodLink RX3 41 yX3_settle, Cond.instanceMethod yX3_settle, Cond.selects RX3 yX3_settle yX3_settle, Cond.code yX3_settle cX3_settle 2 (some .int), Cond.methodLink RX3 100 yX0_keepNoted, Cond.instanceMethod yX0_keepNoted, Cond.selects RX0 yX0_keepNoted yX0_keepNoted, Cond.code yX0_keepNoted cX0_keepNoted 1 none, Cond.methodLink RL 17 yX4_read]
def wsL_law_r6 : List Cond := [Cond.instanceMethod yX4_read, Cond.selects RX4 yX4_read yX4_read, Cond.code yX4_read cX4_read 3 (some .int), Cond.methodLink RX4 58 yX4_isBlock, Cond.static yX4_isBlock, Cond.code yX4_isBlock cX4_isBlock 2 (some .boolean), Cond.methodLink RX4 39 yX4_within, Cond.static yX4_within, Cond.code yX4_within cX4_within 3 (some .boolean), Cond.methodLink RX4 62 yX4_takes, Cond.instanceMethod yX4_takes, Cond.selects RX4 yX4_takes yX4_takes, Cond.code yX4_takes cX4_takes 6 (some .int), Cond.methodLink RX4 47 yX4_inState, Cond.instanceMethod yX4_inState, Cond.selects RX4 yX4_inState yX4_inState, Cond.code yX4_inState cX4_inState 4 (some .int), Cond.methodLink RX4 43 yX4_told, Cond.instanceMethod yX4_told, Cond.selects RX4 yX4_told yX4_told, Cond.code yX4_told cX4_told 3 (some .int), Cond.methodLink RX4 51 yX4_saves, Cond.instanceMethod yX4_saves, Cond.selects RX4 yX4_saves yX4_saves]
def wsL_law_r7 : List Cond := [Cond.code yX4_saves cX4_saves 2 none, Cond.fieldLink RX4 31 "TwinPlatesModel" "isRun" "Z", Cond.fieldLink RX4 35 "TwinPlatesModel" "saved" "I", Cond.methodLink RX4 54 yX4_tell, Cond.instanceMethod yX4_tell, Cond.selects RX4 yX4_tell yX4_tell, Cond.code yX4_tell cX4_tell 4 none, Cond.methodLink RL 18 yX3_write, Cond.instanceMethod yX3_write, Cond.selects RX3 yX3_write yX3_write, Cond.code yX3_write cX3_write 4 (some .int), Cond.methodLink RX3 45 yX1_takeWrite, Cond.instanceMethod yX1_takeWrite, Cond.selects RX1 yX1_takeWrite yX1_takeWrite, Cond.code yX1_takeWrite cX1_takeWrite 4 (some .int), Cond.methodLink RL 22 yX4_write, Cond.instanceMethod yX4_write, Cond.selects RX4 yX4_write yX4_write, Cond.code yX4_write cX4_write 4 (some .int), Cond.methodLink RL 23 yX3_pass, Cond.instanceMethod yX3_pass, Cond.selects RX3 yX3_pass yX3_pass, Cond.code yX3_pass cX3_pass 2 (some .int), Cond.methodLink RX3 49 yX1_letPass]
def wsL_law_r8 : List Cond := [Cond.instanceMethod yX1_letPass, Cond.selects RX1 yX1_letPass yX1_letPass, Cond.code yX1_letPass cX1_letPass 4 (some .int), Cond.methodLink RX1 88 yX1_doTick, Cond.instanceMethod yX1_doTick, Cond.selects RX1 yX1_doTick yX1_doTick, Cond.code yX1_doTick cX1_doTick 1 none, Cond.methodLink RX1 91 yX1_useHead, Cond.instanceMethod yX1_useHead, Cond.selects RX1 yX1_useHead yX1_useHead, Cond.code yX1_useHead cX1_useHead 8 none, Cond.methodLink RX1 61 yX1_sectorUnder, Cond.instanceMethod yX1_sectorUnder, Cond.selects RX1 yX1_sectorUnder yX1_sectorUnder, Cond.code yX1_sectorUnder cX1_sectorUnder 2 (some .int), Cond.methodLink RX1 55 yJ9_floorMod_7cf53, Cond.methodLink RX1 71 yX1_cellOf, Cond.static yX1_cellOf, Cond.code yX1_cellOf cX1_cellOf 2 (some .int), Cond.methodLink RX1 98 yX1_takeOver, Cond.instanceMethod yX1_takeOver, Cond.selects RX1 yX1_takeOver yX1_takeOver, Cond.code yX1_takeOver cX1_takeOver 3 none, Cond.methodLink RX1 120 yX1_setWhole]
def wsL_law_r9 : List Cond := [Cond.instanceMethod yX1_setWhole, Cond.selects RX1 yX1_setWhole yX1_setWhole, Cond.code yX1_setWhole cX1_setWhole 4 none, Cond.methodLink RX1 102 yX1_setLate, Cond.instanceMethod yX1_setLate, Cond.selects RX1 yX1_setLate yX1_setLate, Cond.code yX1_setLate cX1_setLate 3 none, Cond.methodLink RX1 105 yX1_firstWaiting, Cond.instanceMethod yX1_firstWaiting, Cond.selects RX1 yX1_firstWaiting yX1_firstWaiting, Cond.code yX1_firstWaiting cX1_firstWaiting 6 (some .int), Cond.methodLink RX1 109 yX1_doWrite, Cond.instanceMethod yX1_doWrite, Cond.selects RX1 yX1_doWrite yX1_doWrite, Cond.code yX1_doWrite cX1_doWrite 7 none, Cond.methodLink RX1 117 Lib.Math.max.name, Cond.static Lib.Math.max.name, Cond.initialized "java/lang/Math", Cond.code Lib.Math.max.name Lib.Math.max.code 2 (some .int), Cond.methodLink RX1 65 yX1_ofOrder, Cond.instanceMethod yX1_ofOrder, Cond.selects RX1 yX1_ofOrder yX1_ofOrder, Cond.code yX1_ofOrder cX1_ofOrder 3 (some .int), Cond.methodLink RX1 113 yX1_finish]
def wsL_law_r10 : List Cond := [Cond.instanceMethod yX1_finish, Cond.selects RX1 yX1_finish yX1_finish, Cond.code yX1_finish cX1_finish 5 none, Cond.methodLink RX1 95 yX1_moveArm, Cond.instanceMethod yX1_moveArm, Cond.selects RX1 yX1_moveArm yX1_moveArm, Cond.code yX1_moveArm cX1_moveArm 2 none, Cond.methodLink RL 27 yX4_pass, Cond.instanceMethod yX4_pass, Cond.selects RX4 yX4_pass yX4_pass, Cond.code yX4_pass cX4_pass 4 (some .int), Cond.methodLink RX4 105 yX4_passes, Cond.instanceMethod yX4_passes, Cond.selects RX4 yX4_passes yX4_passes, Cond.code yX4_passes cX4_passes 2 none, Cond.methodLink RX4 73 yX4_hasWork, Cond.instanceMethod yX4_hasWork, Cond.selects RX4 yX4_hasWork yX4_hasWork, Cond.code yX4_hasWork cX4_hasWork 4 (some .boolean), Cond.methodLink RX4 66 yX4_of, Cond.instanceMethod yX4_of, Cond.selects RX4 yX4_of yX4_of, Cond.code yX4_of cX4_of 4 (some .int), Cond.methodLink RX4 97 yX4_heads]
def wsL_law_r11 : List Cond := [Cond.instanceMethod yX4_heads, Cond.selects RX4 yX4_heads yX4_heads, Cond.code yX4_heads cX4_heads 6 none, Cond.methodLink RX4 81 yX4_sectorUnder, Cond.instanceMethod yX4_sectorUnder, Cond.selects RX4 yX4_sectorUnder yX4_sectorUnder, Cond.code yX4_sectorUnder cX4_sectorUnder 2 (some .int), Cond.methodLink RX4 84 yX4_firstFor, Cond.instanceMethod yX4_firstFor, Cond.selects RX4 yX4_firstFor yX4_firstFor, Cond.code yX4_firstFor cX4_firstFor 4 (some .int), Cond.methodLink RX4 87 yX4_writes, Cond.instanceMethod yX4_writes, Cond.selects RX4 yX4_writes yX4_writes, Cond.code yX4_writes cX4_writes 5 none, Cond.methodLink RX4 77 yX4_put, Cond.instanceMethod yX4_put, Cond.selects RX4 yX4_put yX4_put, Cond.code yX4_put cX4_put 5 none, Cond.methodLink RX4 90 yX4_most, Cond.static yX4_most, Cond.code yX4_most cX4_most 2 (some .int), Cond.methodLink RX4 93 yX4_ends, Cond.instanceMethod yX4_ends]
def wsL_law_r12 : List Cond := [Cond.selects RX4 yX4_ends yX4_ends, Cond.code yX4_ends cX4_ends 3 none, Cond.methodLink RX4 101 yX4_nearest, Cond.instanceMethod yX4_nearest, Cond.selects RX4 yX4_nearest yX4_nearest, Cond.code yX4_nearest cX4_nearest 4 (some .int), Cond.methodLink RX4 70 yX4_size, Cond.static yX4_size, Cond.code yX4_size cX4_size 1 (some .int), Cond.methodLink RL 28 yX3_cut, Cond.instanceMethod yX3_cut, Cond.selects RX3 yX3_cut yX3_cut, Cond.code yX3_cut cX3_cut 1 (some .int), Cond.methodLink RX3 52 yX1_cutPower, Cond.instanceMethod yX1_cutPower, Cond.selects RX1 yX1_cutPower yX1_cutPower, Cond.code yX1_cutPower cX1_cutPower 4 (some .int), Cond.methodLink RX1 123 yX1_dropWork, Cond.instanceMethod yX1_dropWork, Cond.selects RX1 yX1_dropWork yX1_dropWork, Cond.code yX1_dropWork cX1_dropWork 2 none, Cond.methodLink RX1 74 yX1_statusOf, Cond.instanceMethod yX1_statusOf, Cond.selects RX1 yX1_statusOf yX1_statusOf]
def wsL_law_r13 : List Cond := [Cond.code yX1_statusOf cX1_statusOf 2 (some .int), Cond.methodLink RL 32 yX4_cut, Cond.instanceMethod yX4_cut, Cond.selects RX4 yX4_cut yX4_cut, Cond.code yX4_cut cX4_cut 1 (some .int), Cond.methodLink RX4 108 yX4_cuts, Cond.instanceMethod yX4_cuts, Cond.selects RX4 yX4_cuts yX4_cuts, Cond.code yX4_cuts cX4_cuts 5 (some .int), Cond.methodLink RL 33 yX3_sweep, Cond.instanceMethod yX3_sweep, Cond.selects RX3 yX3_sweep yX3_sweep, Cond.code yX3_sweep cX3_sweep 1 (some .int), Cond.methodLink RX3 56 yX1_sweepBlocks, Cond.instanceMethod yX1_sweepBlocks, Cond.selects RX1 yX1_sweepBlocks yX1_sweepBlocks, Cond.code yX1_sweepBlocks cX1_sweepBlocks 1 (some .int), Cond.methodLink RX1 126 yX1_hasWork, Cond.instanceMethod yX1_hasWork, Cond.selects RX1 yX1_hasWork yX1_hasWork, Cond.code yX1_hasWork cX1_hasWork 2 (some .boolean), Cond.methodLink RX1 130 yX1_repairBlocks, Cond.instanceMethod yX1_repairBlocks, Cond.selects RX1 yX1_repairBlocks yX1_repairBlocks]
def wsL_law_r14 : List Cond := [Cond.code yX1_repairBlocks cX1_repairBlocks 3 (some .int), Cond.methodLink RX1 134 yX1_repair, Cond.instanceMethod yX1_repair, Cond.selects RX1 yX1_repair yX1_repair, Cond.code yX1_repair cX1_repair 7 (some .int), Cond.methodLink RL 36 yX4_sweep, Cond.instanceMethod yX4_sweep, Cond.selects RX4 yX4_sweep yX4_sweep, Cond.code yX4_sweep cX4_sweep 1 (some .int), Cond.methodLink RX4 117 yX4_copiesThat, Cond.instanceMethod yX4_copiesThat, Cond.selects RX4 yX4_copiesThat yX4_copiesThat, Cond.code yX4_copiesThat cX4_copiesThat 4 (some .int), Cond.methodLink RX4 120 yX4_sweeps, Cond.instanceMethod yX4_sweeps, Cond.selects RX4 yX4_sweeps yX4_sweeps, Cond.code yX4_sweeps cX4_sweeps 6 (some .int), Cond.methodLink RX4 111 yX4_torn, Cond.instanceMethod yX4_torn, Cond.selects RX4 yX4_torn yX4_torn, Cond.code yX4_torn cX4_torn 2 (some .int), Cond.methodLink RX4 114 yX4_behind, Cond.instanceMethod yX4_behind, Cond.selects RX4 yX4_behind yX4_behind]
def wsL_law_r15 : List Cond := [Cond.code yX4_behind cX4_behind 3 (some .int), Cond.methodLink RL 37 yX3_undo, Cond.instanceMethod yX3_undo, Cond.selects RX3 yX3_undo yX3_undo, Cond.code yX3_undo cX3_undo 1 (some .int), Cond.methodLink RX3 59 yX0_size, Cond.instanceMethod yX0_size, Cond.selects RX0 yX0_size yX0_size, Cond.code yX0_size cX0_size 1 (some .int), Cond.methodLink RX3 62 yX0_dropLatest, Cond.instanceMethod yX0_dropLatest, Cond.selects RX0 yX0_dropLatest yX0_dropLatest, Cond.code yX0_dropLatest cX0_dropLatest 1 none, Cond.methodLink RX3 65 yX0_restoreNoted, Cond.instanceMethod yX0_restoreNoted, Cond.selects RX0 yX0_restoreNoted yX0_restoreNoted, Cond.code yX0_restoreNoted cX0_restoreNoted 2 none, Cond.methodLink RL 40 yX4_undo, Cond.instanceMethod yX4_undo, Cond.selects RX4 yX4_undo yX4_undo, Cond.code yX4_undo cX4_undo 2 (some .int), Cond.methodLink RL 41 yX3_append, Cond.instanceMethod yX3_append, Cond.selects RX3 yX3_append yX3_append]
def wsL_law_r16 : List Cond := [Cond.code yX3_append cX3_append 2 (some .int), Cond.methodLink RX3 68 yX2_isFull, Cond.instanceMethod yX2_isFull, Cond.selects RX2 yX2_isFull yX2_isFull, Cond.code yX2_isFull cX2_isFull 1 (some .boolean), Cond.fieldLink RX2 25 "TwinPlates$Program" "length" "I", Cond.methodLink RX3 72 yX2_addSign, Cond.instanceMethod yX2_addSign, Cond.selects RX2 yX2_addSign yX2_addSign, Cond.code yX2_addSign cX2_addSign 2 none, Cond.methodLink RX2 29 yX2_isFull, Cond.methodLink RX3 76 yX2_length, Cond.instanceMethod yX2_length, Cond.selects RX2 yX2_length yX2_length, Cond.code yX2_length cX2_length 1 (some .int), Cond.methodLink RL 44 yX4_append, Cond.instanceMethod yX4_append, Cond.selects RX4 yX4_append yX4_append, Cond.code yX4_append cX4_append 2 (some .int), Cond.fieldLink RX4 123 "TwinPlatesModel" "length" "I", Cond.methodLink RL 45 yX3_clearText, Cond.instanceMethod yX3_clearText, Cond.selects RX3 yX3_clearText yX3_clearText, Cond.code yX3_clearText cX3_clearText 2 (some .int)]
def wsL_law_r17 : List Cond := [Cond.methodLink RX3 79 yX2_makeEmpty, Cond.instanceMethod yX2_makeEmpty, Cond.selects RX2 yX2_makeEmpty yX2_makeEmpty, Cond.code yX2_makeEmpty cX2_makeEmpty 1 none, Cond.methodLink RL 48 yX4_clearText, Cond.instanceMethod yX4_clearText, Cond.selects RX4 yX4_clearText yX4_clearText, Cond.code yX4_clearText cX4_clearText 2 (some .int), Cond.methodLink RL 49 yX3_run, Cond.instanceMethod yX3_run, Cond.selects RX3 yX3_run yX3_run, Cond.code yX3_run cX3_run 4 (some .int), Cond.methodLink RX3 82 yX2_isUnderstood, Cond.instanceMethod yX2_isUnderstood, Cond.selects RX2 yX2_isUnderstood yX2_isUnderstood, Cond.code yX2_isUnderstood cX2_isUnderstood 2 (some .boolean), Cond.fieldLink RX2 36 "TwinPlates$Program" "place" "I", Cond.fieldLink RX2 33 "TwinPlates$Program" "steps" "I", Cond.fieldLink RX2 39 "TwinPlates$Program" "depth" "I", Cond.methodLink RX2 42 yX2_readPiece, Cond.instanceMethod yX2_readPiece, Cond.selects RX2 yX2_readPiece yX2_readPiece, Cond.code yX2_readPiece cX2_readPiece 2 (some .boolean), Cond.methodLink RX2 45 yX2_signAt]
def wsL_law_r18 : List Cond := [Cond.instanceMethod yX2_signAt, Cond.selects RX2 yX2_signAt yX2_signAt, Cond.code yX2_signAt cX2_signAt 2 (some .int), Cond.methodLink RX2 49 yX2_openGroup, Cond.instanceMethod yX2_openGroup, Cond.selects RX2 yX2_openGroup yX2_openGroup, Cond.code yX2_openGroup cX2_openGroup 2 (some .boolean), Cond.methodLink RX2 52 yX2_closeGroup, Cond.instanceMethod yX2_closeGroup, Cond.selects RX2 yX2_closeGroup yX2_closeGroup, Cond.code yX2_closeGroup cX2_closeGroup 5 (some .boolean), Cond.methodLink RX2 58 yX2_addStep, Cond.instanceMethod yX2_addStep, Cond.selects RX2 yX2_addStep yX2_addStep, Cond.code yX2_addStep cX2_addStep 2 none, Cond.methodLink RX2 55 yX2_readAct, Cond.instanceMethod yX2_readAct, Cond.selects RX2 yX2_readAct yX2_readAct, Cond.code yX2_readAct cX2_readAct 2 (some .boolean), Cond.methodLink RX2 62 yX2_readNumber, Cond.instanceMethod yX2_readNumber, Cond.selects RX2 yX2_readNumber yX2_readNumber, Cond.code yX2_readNumber cX2_readNumber 6 (some .boolean), Cond.methodLink RX2 70 yX2_isDigit]
def wsL_law_r19 : List Cond := [Cond.static yX2_isDigit, Cond.code yX2_isDigit cX2_isDigit 1 (some .boolean), Cond.methodLink RX2 66 yX2_readSign, Cond.instanceMethod yX2_readSign, Cond.selects RX2 yX2_readSign yX2_readSign, Cond.code yX2_readSign cX2_readSign 2 (some .boolean), Cond.methodLink RX3 85 yX2_place, Cond.instanceMethod yX2_place, Cond.selects RX2 yX2_place yX2_place, Cond.code yX2_place cX2_place 1 (some .int), Cond.methodLink RX3 88 yX2_hasTooManySteps, Cond.instanceMethod yX2_hasTooManySteps, Cond.selects RX2 yX2_hasTooManySteps yX2_hasTooManySteps, Cond.code yX2_hasTooManySteps cX2_hasTooManySteps 1 (some .boolean), Cond.methodLink RX3 91 yX2_letterOfStep, Cond.instanceMethod yX2_letterOfStep, Cond.selects RX2 yX2_letterOfStep yX2_letterOfStep, Cond.code yX2_letterOfStep cX2_letterOfStep 2 (some .int), Cond.methodLink RX3 94 yX2_steps, Cond.instanceMethod yX2_steps, Cond.selects RX2 yX2_steps yX2_steps, Cond.code yX2_steps cX2_steps 1 (some .int), Cond.methodLink RX3 97 yX3_perform, Cond.instanceMethod yX3_perform]
def wsL_law_r20 : List Cond := [Cond.selects RX3 yX3_perform yX3_perform, Cond.code yX3_perform cX3_perform 5 (some .int), Cond.methodLink RX3 177 yX2_numberBehind, Cond.instanceMethod yX2_numberBehind, Cond.selects RX2 yX2_numberBehind yX2_numberBehind, Cond.code yX2_numberBehind cX2_numberBehind 3 (some .int), Cond.methodLink RX3 180 yX2_signAt, Cond.methodLink RL 52 yX4_run, Cond.instanceMethod yX4_run, Cond.selects RX4 yX4_run yX4_run, Cond.code yX4_run cX4_run 4 (some .int), Cond.fieldLink RX4 126 "TwinPlatesModel" "at" "I", Cond.methodLink RX4 159 yX4_readsAll, Cond.instanceMethod yX4_readsAll, Cond.selects RX4 yX4_readsAll yX4_readsAll, Cond.code yX4_readsAll cX4_readsAll 3 (some .boolean), Cond.methodLink RX4 129 yX4_here, Cond.instanceMethod yX4_here, Cond.selects RX4 yX4_here yX4_here, Cond.code yX4_here cX4_here 1 (some .int), Cond.methodLink RX4 138 yX4_isLetter, Cond.static yX4_isLetter, Cond.code yX4_isLetter cX4_isLetter 1 (some .boolean), Cond.methodLink RX4 141 yX4_readsAct]
def wsL_law_r21 : List Cond := [Cond.instanceMethod yX4_readsAct, Cond.selects RX4 yX4_readsAct yX4_readsAct, Cond.code yX4_readsAct cX4_readsAct 2 (some .boolean), Cond.methodLink RX4 132 yX4_passesSign, Cond.instanceMethod yX4_passesSign, Cond.selects RX4 yX4_passesSign yX4_passesSign, Cond.code yX4_passesSign cX4_passesSign 3 (some .boolean), Cond.methodLink RX4 135 yX4_number, Cond.instanceMethod yX4_number, Cond.selects RX4 yX4_number yX4_number, Cond.code yX4_number cX4_number 4 (some .boolean), Cond.methodLink RX4 163 yX4_goes, Cond.instanceMethod yX4_goes, Cond.selects RX4 yX4_goes yX4_goes, Cond.code yX4_goes cX4_goes 7 (some .int), Cond.methodLink RX4 156 yX4_does, Cond.instanceMethod yX4_does, Cond.selects RX4 yX4_does yX4_does, Cond.code yX4_does cX4_does 2 (some .int), Cond.methodLink RX4 144 yX4_read, Cond.methodLink RX4 147 yX4_write, Cond.methodLink RX4 150 yX4_pass, Cond.methodLink RX4 153 yX4_cut, Cond.methodLink RX4 167 yX4_puts]
def wsL_law_r22 : List Cond := [Cond.instanceMethod yX4_puts, Cond.selects RX4 yX4_puts yX4_puts, Cond.code yX4_puts cX4_puts 2 none, Cond.methodLink RX4 170 yX4_back, Cond.instanceMethod yX4_back, Cond.selects RX4 yX4_back yX4_back, Cond.code yX4_back cX4_back 2 none, Cond.methodLink RL 53 yX3_count, Cond.instanceMethod yX3_count, Cond.selects RX3 yX3_count yX3_count, Cond.code yX3_count cX3_count 2 (some .int), Cond.methodLink RX3 103 yX1_tick, Cond.instanceMethod yX1_tick, Cond.selects RX1 yX1_tick yX1_tick, Cond.code yX1_tick cX1_tick 1 (some .int), Cond.methodLink RX3 106 yX1_arm, Cond.instanceMethod yX1_arm, Cond.selects RX1 yX1_arm yX1_arm, Cond.code yX1_arm cX1_arm 1 (some .int), Cond.methodLink RX3 109 yX1_sectorUnder, Cond.methodLink RX3 112 yX1_taken, Cond.instanceMethod yX1_taken, Cond.selects RX1 yX1_taken yX1_taken, Cond.code yX1_taken cX1_taken 1 (some .int)]
def wsL_law_r23 : List Cond := [Cond.methodLink RX3 115 yX1_countOrders, Cond.instanceMethod yX1_countOrders, Cond.selects RX1 yX1_countOrders yX1_countOrders, Cond.code yX1_countOrders cX1_countOrders 4 (some .int), Cond.methodLink RX3 118 yX1_countCopies, Cond.instanceMethod yX1_countCopies, Cond.selects RX1 yX1_countCopies yX1_countCopies, Cond.code yX1_countCopies cX1_countCopies 4 (some .int), Cond.methodLink RX3 121 yX1_countUnlikeBlocks, Cond.instanceMethod yX1_countUnlikeBlocks, Cond.selects RX1 yX1_countUnlikeBlocks yX1_countUnlikeBlocks, Cond.code yX1_countUnlikeBlocks cX1_countUnlikeBlocks 5 (some .int), Cond.methodLink RX3 124 yX1_wiped, Cond.instanceMethod yX1_wiped, Cond.selects RX1 yX1_wiped yX1_wiped, Cond.code yX1_wiped cX1_wiped 1 (some .int), Cond.methodLink RX3 127 yX1_moves, Cond.instanceMethod yX1_moves, Cond.selects RX1 yX1_moves yX1_moves, Cond.code yX1_moves cX1_moves 1 (some .int), Cond.methodLink RL 56 yX4_count, Cond.instanceMethod yX4_count, Cond.selects RX4 yX4_count yX4_count, Cond.code yX4_count cX4_count 2 (some .int)]
def wsL_law_r24 : List Cond := [Cond.methodLink RX4 173 yX4_unlike, Cond.instanceMethod yX4_unlike, Cond.selects RX4 yX4_unlike yX4_unlike, Cond.code yX4_unlike cX4_unlike 3 (some .int), Cond.methodLink RL 57 yX3_copy, Cond.instanceMethod yX3_copy, Cond.selects RX3 yX3_copy yX3_copy, Cond.code yX3_copy cX3_copy 5 (some .int), Cond.methodLink RX3 130 yX1_isBlock, Cond.methodLink RX3 134 yX1_ofCopy, Cond.instanceMethod yX1_ofCopy, Cond.selects RX1 yX1_ofCopy yX1_ofCopy, Cond.code yX1_ofCopy cX1_ofCopy 5 (some .int), Cond.methodLink RL 61 yX4_copy, Cond.instanceMethod yX4_copy, Cond.selects RX4 yX4_copy yX4_copy, Cond.code yX4_copy cX4_copy 5 (some .int), Cond.methodLink RL 62 yX3_order, Cond.instanceMethod yX3_order, Cond.selects RX3 yX3_order yX3_order, Cond.code yX3_order cX3_order 3 (some .int), Cond.methodLink RX3 138 yX1_hasOrder, Cond.instanceMethod yX1_hasOrder, Cond.selects RX1 yX1_hasOrder yX1_hasOrder]
def wsL_law_r25 : List Cond := [Cond.code yX1_hasOrder cX1_hasOrder 2 (some .boolean), Cond.methodLink RX3 142 yX1_ofOrder, Cond.methodLink RL 65 yX4_order, Cond.instanceMethod yX4_order, Cond.selects RX4 yX4_order yX4_order, Cond.code yX4_order cX4_order 3 (some .int), Cond.methodLink RX4 176 yX4_isOrder, Cond.instanceMethod yX4_isOrder, Cond.selects RX4 yX4_isOrder yX4_isOrder, Cond.code yX4_isOrder cX4_isOrder 2 (some .boolean), Cond.methodLink RL 66 yX3_waits, Cond.instanceMethod yX3_waits, Cond.selects RX3 yX3_waits yX3_waits, Cond.code yX3_waits cX3_waits 3 (some .int), Cond.methodLink RX3 145 yX1_sumOfWaits, Cond.instanceMethod yX1_sumOfWaits, Cond.selects RX1 yX1_sumOfWaits yX1_sumOfWaits, Cond.code yX1_sumOfWaits cX1_sumOfWaits 3 (some .int), Cond.methodLink RX1 77 yX1_waitOf, Cond.instanceMethod yX1_waitOf, Cond.selects RX1 yX1_waitOf yX1_waitOf, Cond.code yX1_waitOf cX1_waitOf 2 (some .int), Cond.methodLink RX3 148 yX1_longestWaiter, Cond.instanceMethod yX1_longestWaiter]
def wsL_law_r26 : List Cond := [Cond.selects RX1 yX1_longestWaiter yX1_longestWaiter, Cond.code yX1_longestWaiter cX1_longestWaiter 3 (some .int), Cond.methodLink RX3 151 yX1_waitOf, Cond.methodLink RL 69 yX4_waits, Cond.instanceMethod yX4_waits, Cond.selects RX4 yX4_waits yX4_waits, Cond.code yX4_waits cX4_waits 6 (some .int), Cond.methodLink RX4 179 yX4_waitOf, Cond.instanceMethod yX4_waitOf, Cond.selects RX4 yX4_waitOf yX4_waitOf, Cond.code yX4_waitOf cX4_waitOf 2 (some .int), Cond.methodLink RL 70 yX3_nearer, Cond.instanceMethod yX3_nearer, Cond.selects RX3 yX3_nearer yX3_nearer, Cond.code yX3_nearer cX3_nearer 5 (some .int), Cond.methodLink RX3 157 Lib.Math.min.name, Cond.static Lib.Math.min.name, Cond.code Lib.Math.min.name Lib.Math.min.code 2 (some .int), Cond.methodLink RX3 154 yX1_ticksUntilOver, Cond.instanceMethod yX1_ticksUntilOver, Cond.selects RX1 yX1_ticksUntilOver yX1_ticksUntilOver, Cond.code yX1_ticksUntilOver cX1_ticksUntilOver 3 (some .int), Cond.methodLink RL 73 yX4_nearer, Cond.instanceMethod yX4_nearer]
def wsL_law_r27 : List Cond := [Cond.selects RX4 yX4_nearer yX4_nearer, Cond.code yX4_nearer cX4_nearer 5 (some .int), Cond.methodLink RX4 182 yX4_ticksTo, Cond.instanceMethod yX4_ticksTo, Cond.selects RX4 yX4_ticksTo yX4_ticksTo, Cond.code yX4_ticksTo cX4_ticksTo 3 (some .int), Cond.methodLink RL 74 yX3_doneIn, Cond.instanceMethod yX3_doneIn, Cond.selects RX3 yX3_doneIn yX3_doneIn, Cond.code yX3_doneIn cX3_doneIn 3 (some .int), Cond.methodLink RX3 162 yX1_statusOf, Cond.methodLink RX3 165 yX1_become, Cond.methodLink RX3 168 yX1_doTick, Cond.methodLink RL 77 yX4_doneIn, Cond.instanceMethod yX4_doneIn, Cond.selects RX4 yX4_doneIn yX4_doneIn, Cond.code yX4_doneIn cX4_doneIn 4 (some .int), Cond.methodLink RL 78 yX3_idleIn, Cond.instanceMethod yX3_idleIn, Cond.selects RX3 yX3_idleIn yX3_idleIn, Cond.code yX3_idleIn cX3_idleIn 2 (some .int), Cond.methodLink RX3 171 yX1_hasWork, Cond.methodLink RL 81 yX4_idleIn, Cond.instanceMethod yX4_idleIn]
def wsL_law_r28 : List Cond := [Cond.selects RX4 yX4_idleIn yX4_idleIn, Cond.code yX4_idleIn cX4_idleIn 2 (some .int), Cond.methodLink RL 82 yX3_wouldWipe, Cond.instanceMethod yX3_wouldWipe, Cond.selects RX3 yX3_wouldWipe yX3_wouldWipe, Cond.code yX3_wouldWipe cX3_wouldWipe 1 (some .int), Cond.methodLink RX3 174 yX1_repairBlocks, Cond.methodLink RL 85 yX4_wouldWipe, Cond.instanceMethod yX4_wouldWipe, Cond.selects RX4 yX4_wouldWipe yX4_wouldWipe, Cond.code yX4_wouldWipe cX4_wouldWipe 3 (some .int)]
def wsL_law : List Cond := (wsL_law_r1 ++ (wsL_law_r2 ++ (wsL_law_r3 ++ (wsL_law_r4 ++ (wsL_law_r5 ++ (wsL_law_r6 ++ (wsL_law_r7 ++ (wsL_law_r8 ++ (wsL_law_r9 ++ (wsL_law_r10 ++ (wsL_law_r11 ++ (wsL_law_r12 ++ (wsL_law_r13 ++ (wsL_law_r14 ++ (wsL_law_r15 ++ (wsL_law_r16 ++ (wsL_law_r17 ++ (wsL_law_r18 ++ (wsL_law_r19 ++ (wsL_law_r20 ++ (wsL_law_r21 ++ (wsL_law_r22 ++ (wsL_law_r23 ++ (wsL_law_r24 ++ (wsL_law_r25 ++ (wsL_law_r26 ++ (wsL_law_r27 ++ wsL_law_r28))))))))))))))))))))))))))) ++ wsX30 ++ wsX40 ++ wsX10 ++ wsX00 ++ wsX20 ++ ([] : List Cond)
abbrev vwCl : List vw_C := [(RX0, TX0, 3), (RX1, TX1, 11), (RX2, TX2, 9), (RX3, TX3, 4), (RX4, TX4, 11)]
end
section
theorem mem_ps {big : List Cond} (ps : List Nat) {ws : List Cond} (hp : ws = ps.filterMap (fun i => big[i]?)) : ∀ w ∈ ws, w ∈ big := by
  intro w hw
  rw [hp] at hw
  obtain ⟨i, -, hi⟩ := List.mem_filterMap.mp hw
  exact List.mem_of_getElem? hi
set_option maxRecDepth 20000 in
theorem wsLr1_in : ∀ w ∈ wsL_law_r1, w ∈ lw_tbl := mem_ps [63, 64, 56, 538, 539, 60, 65, 66, 67, 68, 69, 70, 71, 72, 57, 169, 170, 116, 117, 58, 171, 135, 136, 59] rfl
set_option maxRecDepth 20000 in
theorem wsLr2_in : ∀ w ∈ wsL_law_r2, w ∈ lw_tbl := mem_ps [172, 73, 74, 75, 76, 115, 81, 82, 83, 84, 85, 77, 79, 0, 80, 118, 119, 120, 121, 122, 125, 124, 138, 139] rfl
set_option maxRecDepth 20000 in
theorem wsLr3_in : ∀ w ∈ wsL_law_r3, w ∈ lw_tbl := mem_ps [140, 141, 143, 144, 146, 147, 540, 541, 542, 543, 544, 545, 547, 548, 552, 553, 554, 182, 183, 184, 185, 186, 187, 188] rfl
set_option maxRecDepth 20000 in
theorem wsLr4_in : ∀ w ∈ wsL_law_r4, w ∈ lw_tbl := mem_ps [189, 190, 192, 1, 193, 126, 127, 194, 195, 61, 196, 197, 198, 199, 200, 201, 203, 202, 62, 86, 87, 88, 89, 90] rfl
set_option maxRecDepth 20000 in
theorem wsLr5_in : ∀ w ∈ wsL_law_r5, w ∈ lw_tbl := mem_ps [91, 204, 205, 206, 207, 208, 209, 210, 211, 213, 2, 214, 215, 216, 217, 218, 220, 3, 221, 222, 223, 224, 225, 582] rfl
set_option maxRecDepth 20000 in
theorem wsLr6_in : ∀ w ∈ wsL_law_r6, w ∈ lw_tbl := mem_ps [583, 584, 585, 586, 587, 588, 589, 590, 591, 592, 594, 22, 595, 596, 598, 23, 599, 600, 602, 24, 603, 604, 606, 25] rfl
set_option maxRecDepth 20000 in
theorem wsLr7_in : ∀ w ∈ wsL_law_r7, w ∈ lw_tbl := mem_ps [607, 551, 546, 608, 610, 26, 611, 226, 227, 228, 229, 230, 231, 232, 233, 612, 613, 614, 615, 234, 235, 236, 237, 238] rfl
set_option maxRecDepth 20000 in
theorem wsLr8_in : ∀ w ∈ wsL_law_r8, w ∈ lw_tbl := mem_ps [239, 240, 241, 242, 243, 244, 245, 246, 248, 4, 249, 250, 251, 252, 253, 254, 255, 256, 257, 258, 260, 5, 261, 262] rfl
set_option maxRecDepth 20000 in
theorem wsLr9_in : ∀ w ∈ wsL_law_r9, w ∈ lw_tbl := mem_ps [264, 6, 265, 266, 268, 7, 269, 270, 272, 8, 273, 274, 276, 9, 277, 282, 283, 61, 284, 278, 279, 280, 281, 285] rfl
set_option maxRecDepth 20000 in
theorem wsLr10_in : ∀ w ∈ wsL_law_r10, w ∈ lw_tbl := mem_ps [287, 10, 288, 289, 291, 11, 292, 616, 617, 618, 619, 620, 622, 27, 623, 624, 626, 28, 627, 628, 630, 29, 631, 632] rfl
set_option maxRecDepth 20000 in
theorem wsLr11_in : ∀ w ∈ wsL_law_r11, w ∈ lw_tbl := mem_ps [634, 30, 635, 636, 638, 31, 639, 640, 642, 32, 643, 644, 646, 33, 647, 648, 650, 34, 651, 652, 653, 654, 655, 657] rfl
set_option maxRecDepth 20000 in
theorem wsLr12_in : ∀ w ∈ wsL_law_r12, w ∈ lw_tbl := mem_ps [35, 658, 659, 661, 36, 662, 663, 664, 665, 293, 294, 295, 296, 297, 298, 299, 300, 301, 303, 12, 304, 305, 306, 307] rfl
set_option maxRecDepth 20000 in
theorem wsLr13_in : ∀ w ∈ wsL_law_r13, w ∈ lw_tbl := mem_ps [308, 666, 667, 668, 669, 670, 672, 37, 673, 309, 310, 311, 312, 313, 314, 315, 316, 317, 318, 319, 320, 321, 322, 323] rfl
set_option maxRecDepth 20000 in
theorem wsLr14_in : ∀ w ∈ wsL_law_r14, w ∈ lw_tbl := mem_ps [324, 325, 327, 13, 328, 674, 675, 676, 677, 678, 680, 38, 681, 682, 684, 39, 685, 686, 688, 40, 689, 690, 692, 41] rfl
set_option maxRecDepth 20000 in
theorem wsLr15_in : ∀ w ∈ wsL_law_r15, w ∈ lw_tbl := mem_ps [693, 329, 330, 331, 332, 333, 334, 335, 336, 337, 338, 339, 340, 341, 342, 343, 344, 578, 579, 580, 581, 345, 346, 347] rfl
set_option maxRecDepth 20000 in
theorem wsLr16_in : ∀ w ∈ wsL_law_r16, w ∈ lw_tbl := mem_ps [348, 349, 350, 351, 352, 142, 353, 354, 355, 356, 357, 358, 359, 360, 361, 694, 695, 696, 697, 549, 362, 363, 364, 365] rfl
set_option maxRecDepth 20000 in
theorem wsLr17_in : ∀ w ∈ wsL_law_r17, w ∈ lw_tbl := mem_ps [366, 367, 368, 369, 698, 699, 700, 701, 370, 371, 372, 373, 374, 375, 376, 377, 149, 145, 148, 378, 380, 14, 381, 382] rfl
set_option maxRecDepth 20000 in
theorem wsLr18_in : ∀ w ∈ wsL_law_r18, w ∈ lw_tbl := mem_ps [383, 384, 385, 386, 388, 15, 389, 390, 392, 16, 393, 394, 396, 17, 397, 398, 400, 18, 401, 402, 404, 19, 405, 406] rfl
set_option maxRecDepth 20000 in
theorem wsLr19_in : ∀ w ∈ wsL_law_r19, w ∈ lw_tbl := mem_ps [407, 408, 409, 411, 20, 412, 413, 414, 415, 416, 417, 418, 419, 420, 421, 422, 423, 424, 425, 426, 427, 428, 429, 431] rfl
set_option maxRecDepth 20000 in
theorem wsLr20_in : ∀ w ∈ wsL_law_r20, w ∈ lw_tbl := mem_ps [21, 432, 433, 434, 435, 436, 437, 702, 703, 704, 705, 550, 706, 708, 42, 709, 710, 712, 43, 713, 714, 715, 716, 717] rfl
set_option maxRecDepth 20000 in
theorem wsLr21_in : ∀ w ∈ wsL_law_r21, w ∈ lw_tbl := mem_ps [719, 44, 720, 721, 723, 45, 724, 725, 727, 46, 728, 729, 731, 47, 732, 733, 735, 48, 736, 737, 738, 739, 740, 741] rfl
set_option maxRecDepth 20000 in
theorem wsLr22_in : ∀ w ∈ wsL_law_r22, w ∈ lw_tbl := mem_ps [743, 49, 744, 745, 747, 50, 748, 438, 439, 440, 441, 442, 443, 444, 445, 446, 447, 448, 449, 450, 451, 452, 453, 454] rfl
set_option maxRecDepth 20000 in
theorem wsLr23_in : ∀ w ∈ wsL_law_r23, w ∈ lw_tbl := mem_ps [455, 456, 457, 458, 459, 460, 461, 462, 463, 464, 465, 466, 467, 468, 469, 470, 471, 472, 473, 474, 749, 750, 751, 752] rfl
set_option maxRecDepth 20000 in
theorem wsLr24_in : ∀ w ∈ wsL_law_r24, w ∈ lw_tbl := mem_ps [753, 755, 51, 756, 475, 476, 477, 478, 479, 480, 481, 482, 483, 757, 758, 759, 760, 484, 485, 486, 487, 488, 489, 490] rfl
set_option maxRecDepth 20000 in
theorem wsLr25_in : ∀ w ∈ wsL_law_r25, w ∈ lw_tbl := mem_ps [491, 492, 761, 762, 763, 764, 765, 767, 52, 768, 493, 494, 495, 496, 497, 498, 499, 500, 501, 502, 503, 504, 505, 506] rfl
set_option maxRecDepth 20000 in
theorem wsLr26_in : ∀ w ∈ wsL_law_r26, w ∈ lw_tbl := mem_ps [507, 508, 509, 769, 770, 771, 772, 773, 775, 53, 776, 510, 511, 512, 513, 518, 519, 520, 514, 515, 516, 517, 777, 778] rfl
set_option maxRecDepth 20000 in
theorem wsLr27_in : ∀ w ∈ wsL_law_r27, w ∈ lw_tbl := mem_ps [779, 780, 781, 783, 54, 784, 521, 522, 523, 524, 525, 526, 527, 785, 786, 787, 788, 528, 529, 530, 531, 532, 789, 790] rfl
set_option maxRecDepth 20000 in
theorem wsLr28_in : ∀ w ∈ wsL_law_r28, w ∈ lw_tbl := mem_ps [791, 792, 533, 534, 535, 536, 537, 793, 794, 795, 796] rfl
set_option maxRecDepth 20000 in
theorem wsX30_in : ∀ w ∈ wsX30, w ∈ lw_tbl := mem_ps [173, 175, 177, 179] rfl
set_option maxRecDepth 20000 in
theorem wsX40_in : ∀ w ∈ wsX40, w ∈ lw_tbl := mem_ps [555, 557, 559, 561, 563, 565, 567, 569, 571, 573, 575] rfl
set_option maxRecDepth 20000 in
theorem wsX10_in : ∀ w ∈ wsX10, w ∈ lw_tbl := mem_ps [92, 94, 96, 98, 100, 102, 104, 106, 108, 110, 112] rfl
set_option maxRecDepth 20000 in
theorem wsX00_in : ∀ w ∈ wsX00, w ∈ lw_tbl := mem_ps [128, 130, 132] rfl
set_option maxRecDepth 20000 in
theorem wsX20_in : ∀ w ∈ wsX20, w ∈ lw_tbl := mem_ps [150, 152, 154, 156, 158, 160, 162, 164, 166] rfl
theorem wsL_app {a b : List Cond} (h1 : ∀ w ∈ a, w ∈ lw_tbl) (h2 : ∀ w ∈ b, w ∈ lw_tbl) : ∀ w ∈ a ++ b, w ∈ lw_tbl := fun w h => (List.mem_append.mp h).elim (h1 w) (h2 w)
theorem wsL_law_in : ∀ w ∈ wsL_law, w ∈ lw_tbl := wsL_app (wsL_app (wsL_app (wsL_app (wsL_app (wsL_app (wsL_app wsLr1_in (wsL_app wsLr2_in (wsL_app wsLr3_in (wsL_app wsLr4_in (wsL_app wsLr5_in (wsL_app wsLr6_in (wsL_app wsLr7_in (wsL_app wsLr8_in (wsL_app wsLr9_in (wsL_app wsLr10_in (wsL_app wsLr11_in (wsL_app wsLr12_in (wsL_app wsLr13_in (wsL_app wsLr14_in (wsL_app wsLr15_in (wsL_app wsLr16_in (wsL_app wsLr17_in (wsL_app wsLr18_in (wsL_app wsLr19_in (wsL_app wsLr20_in (wsL_app wsLr21_in (wsL_app wsLr22_in (wsL_app wsLr23_in (wsL_app wsLr24_in (wsL_app wsLr25_in (wsL_app wsLr26_in (wsL_app wsLr27_in (wsLr28_in)))))))))))))))))))))))))))) wsX30_in) wsX40_in) wsX10_in) wsX00_in) wsX20_in) (fun _ h => absurd h List.not_mem_nil)
theorem inlX0 : ∀ w ∈ wsX00, w ∈ wsL_law := fun _ h => List.mem_append_left _ (List.mem_append_left _ (List.mem_append_right _ h))
theorem inX0 : ∀ w ∈ wsX00, w ∈ lw_tbl := fun w h => wsL_law_in w (inlX0 w h)
theorem inlX1 : ∀ w ∈ wsX10, w ∈ wsL_law := fun _ h => List.mem_append_left _ (List.mem_append_left _ (List.mem_append_left _ (List.mem_append_right _ h)))
theorem inX1 : ∀ w ∈ wsX10, w ∈ lw_tbl := fun w h => wsL_law_in w (inlX1 w h)
theorem inlX2 : ∀ w ∈ wsX20, w ∈ wsL_law := fun _ h => List.mem_append_left _ (List.mem_append_right _ h)
theorem inX2 : ∀ w ∈ wsX20, w ∈ lw_tbl := fun w h => wsL_law_in w (inlX2 w h)
theorem inlX3 : ∀ w ∈ wsX30, w ∈ wsL_law := fun _ h => List.mem_append_left _ (List.mem_append_left _ (List.mem_append_left _ (List.mem_append_left _ (List.mem_append_left _ (List.mem_append_right _ h)))))
theorem inX3 : ∀ w ∈ wsX30, w ∈ lw_tbl := fun w h => wsL_law_in w (inlX3 w h)
theorem inlX4 : ∀ w ∈ wsX40, w ∈ wsL_law := fun _ h => List.mem_append_left _ (List.mem_append_left _ (List.mem_append_left _ (List.mem_append_left _ (List.mem_append_right _ h))))
theorem inX4 : ∀ w ∈ wsX40, w ∈ lw_tbl := fun w h => wsL_law_in w (inlX4 w h)
theorem inJ9 : ∀ w ∈ wsJ90, w ∈ lw_tbl := by decide +kernel
theorem inJ10 : ∀ w ∈ wsJ100, w ∈ lw_tbl := by decide +kernel
end
section
set_option maxRecDepth 20000 in
theorem ggX0_init_X1_init : GoodIn wsX0_init wsX1_init := goodIn_r _ [10, 11, 2, 3, 12, 13, 14, 15, 16, 17, 18, 19, 20, 7, 21, 25, 26, 27, 28, 29, 30, 31, 32, 33, 34, 35] (by decide +kernel) (by decide +kernel)
set_option maxRecDepth 20000 in
theorem gX0_init_X1_init : GoodIn wsX0_init (wsX1_init) := ggX0_init_X1_init
theorem dX0_init_0 : decode cX0_init 0 = .ok (.aload_n 0, 1) := by decide +kernel
theorem dX0_init_1 : decode cX0_init 1 = .ok (.invokespecial 3, 3) := by decide +kernel
theorem dX0_init_4 : decode cX0_init 4 = .ok (.aload_n 0, 1) := by decide +kernel
theorem dX0_init_5 : decode cX0_init 5 = .ok (.bipush 6, 2) := by decide +kernel
theorem dX0_init_7 : decode cX0_init 7 = .ok (.anewarray 9, 3) := by decide +kernel
theorem dX0_init_10 : decode cX0_init 10 = .ok (.putfield 11, 3) := by decide +kernel
theorem dX0_init_13 : decode cX0_init 13 = .ok (.iconst 0, 1) := by decide +kernel
theorem dX0_init_14 : decode cX0_init 14 = .ok (.istore_n 1, 1) := by decide +kernel
theorem dX0_init_15 : decode cX0_init 15 = .ok (.iload_n 1, 1) := by decide +kernel
theorem dX0_init_16 : decode cX0_init 16 = .ok (.bipush 6, 2) := by decide +kernel
theorem dX0_init_18 : decode cX0_init 18 = .ok (.if_icmp .ge 22, 3) := by decide +kernel
theorem dX0_init_21 : decode cX0_init 21 = .ok (.aload_n 0, 1) := by decide +kernel
theorem dX0_init_22 : decode cX0_init 22 = .ok (.getfield 11, 3) := by decide +kernel
theorem dX0_init_25 : decode cX0_init 25 = .ok (.iload_n 1, 1) := by decide +kernel
theorem dX0_init_26 : decode cX0_init 26 = .ok (.new 9, 3) := by decide +kernel
theorem dX0_init_29 : decode cX0_init 29 = .ok (.dup, 1) := by decide +kernel
theorem dX0_init_30 : decode cX0_init 30 = .ok (.invokespecial 15, 3) := by decide +kernel
theorem dX0_init_33 : decode cX0_init 33 = .ok (.aastore, 1) := by decide +kernel
theorem dX0_init_34 : decode cX0_init 34 = .ok (.iinc 1 1, 3) := by decide +kernel
theorem dX0_init_37 : decode cX0_init 37 = .ok (.goto (-22), 3) := by decide +kernel
theorem dX0_init_40 : decode cX0_init 40 = .ok (.return_, 1) := by decide +kernel
theorem dX0_size_0 : decode cX0_size 0 = .ok (.aload_n 0, 1) := by decide +kernel
theorem dX0_size_1 : decode cX0_size 1 = .ok (.getfield 16, 3) := by decide +kernel
theorem dX0_size_4 : decode cX0_size 4 = .ok (.ireturn, 1) := by decide +kernel
set_option maxRecDepth 20000 in
theorem ggX0_note_X0_noted : GoodIn wsX0_note wsX0_noted := goodIn_r _ [5, 6, 7, 8, 9, 10, 11, 12, 33, 34, 35] (by decide +kernel) (by decide +kernel)
set_option maxRecDepth 20000 in
theorem gX0_note_X0_noted : GoodIn wsX0_note (wsV RX0 20 RX0 yX0_noted wsX0_noted) := goodIn_app (goodIn_of _ (by decide +kernel)) ggX0_note_X0_noted
set_option maxRecDepth 20000 in
theorem ggX0_note_X1_become : GoodIn wsX0_note wsX1_become := goodIn_r _ [17, 18, 19, 20, 21, 22, 23, 24, 25, 26, 27, 28, 29, 30, 31, 32, 36, 37, 38, 39, 40, 41, 42, 43, 44, 45, 46] (by decide +kernel) (by decide +kernel)
set_option maxRecDepth 20000 in
theorem gX0_note_X1_become : GoodIn wsX0_note (wsV RX0 24 RX1 yX1_become wsX1_become) := goodIn_app (goodIn_of _ (by decide +kernel)) ggX0_note_X1_become
theorem dX0_note_0 : decode cX0_note 0 = .ok (.aload_n 0, 1) := by decide +kernel
theorem dX0_note_1 : decode cX0_note 1 = .ok (.invokevirtual 20, 3) := by decide +kernel
theorem dX0_note_4 : decode cX0_note 4 = .ok (.aload_n 1, 1) := by decide +kernel
theorem dX0_note_5 : decode cX0_note 5 = .ok (.invokevirtual 24, 3) := by decide +kernel
theorem dX0_note_8 : decode cX0_note 8 = .ok (.return_, 1) := by decide +kernel
set_option maxRecDepth 20000 in
theorem ggX0_keepNoted_J9_floorMod_7cf53 : GoodIn wsX0_keepNoted wsJ9_floorMod_7cf53 := goodIn_r _ [6] (by decide +kernel) (by decide +kernel)
set_option maxRecDepth 20000 in
theorem gX0_keepNoted_J9_floorMod_7cf53 : GoodIn wsX0_keepNoted (va_wsS RX0 31 yJ9_floorMod_7cf53 wsJ9_floorMod_7cf53) := goodIn_app (goodIn_of _ (by decide +kernel)) ggX0_keepNoted_J9_floorMod_7cf53
theorem dX0_keepNoted_0 : decode cX0_keepNoted 0 = .ok (.aload_n 0, 1) := by decide +kernel
theorem dX0_keepNoted_1 : decode cX0_keepNoted 1 = .ok (.getfield 16, 3) := by decide +kernel
theorem dX0_keepNoted_4 : decode cX0_keepNoted 4 = .ok (.iconst 5, 1) := by decide +kernel
theorem dX0_keepNoted_5 : decode cX0_keepNoted 5 = .ok (.if_icmp .ge 16, 3) := by decide +kernel
theorem dX0_keepNoted_8 : decode cX0_keepNoted 8 = .ok (.aload_n 0, 1) := by decide +kernel
theorem dX0_keepNoted_9 : decode cX0_keepNoted 9 = .ok (.dup, 1) := by decide +kernel
theorem dX0_keepNoted_10 : decode cX0_keepNoted 10 = .ok (.getfield 16, 3) := by decide +kernel
theorem dX0_keepNoted_13 : decode cX0_keepNoted 13 = .ok (.iconst 1, 1) := by decide +kernel
theorem dX0_keepNoted_14 : decode cX0_keepNoted 14 = .ok (.iadd, 1) := by decide +kernel
theorem dX0_keepNoted_15 : decode cX0_keepNoted 15 = .ok (.putfield 16, 3) := by decide +kernel
theorem dX0_keepNoted_18 : decode cX0_keepNoted 18 = .ok (.goto 18, 3) := by decide +kernel
theorem dX0_keepNoted_21 : decode cX0_keepNoted 21 = .ok (.aload_n 0, 1) := by decide +kernel
theorem dX0_keepNoted_22 : decode cX0_keepNoted 22 = .ok (.aload_n 0, 1) := by decide +kernel
theorem dX0_keepNoted_23 : decode cX0_keepNoted 23 = .ok (.getfield 28, 3) := by decide +kernel
theorem dX0_keepNoted_26 : decode cX0_keepNoted 26 = .ok (.iconst 1, 1) := by decide +kernel
theorem dX0_keepNoted_27 : decode cX0_keepNoted 27 = .ok (.iadd, 1) := by decide +kernel
theorem dX0_keepNoted_28 : decode cX0_keepNoted 28 = .ok (.bipush 6, 2) := by decide +kernel
theorem dX0_keepNoted_30 : decode cX0_keepNoted 30 = .ok (.invokestatic 31, 3) := by decide +kernel
theorem dX0_keepNoted_33 : decode cX0_keepNoted 33 = .ok (.putfield 28, 3) := by decide +kernel
theorem dX0_keepNoted_36 : decode cX0_keepNoted 36 = .ok (.return_, 1) := by decide +kernel
set_option maxRecDepth 20000 in
theorem ggX0_restoreNoted_X0_noted : GoodIn wsX0_restoreNoted wsX0_noted := goodIn_r _ [5, 6, 7, 8, 9, 10, 11, 12, 33, 34, 35] (by decide +kernel) (by decide +kernel)
set_option maxRecDepth 20000 in
theorem gX0_restoreNoted_X0_noted : GoodIn wsX0_restoreNoted (wsV RX0 20 RX0 yX0_noted wsX0_noted) := goodIn_app (goodIn_of _ (by decide +kernel)) ggX0_restoreNoted_X0_noted
set_option maxRecDepth 20000 in
theorem ggX0_restoreNoted_X1_become : GoodIn wsX0_restoreNoted wsX1_become := goodIn_r _ [17, 18, 19, 20, 21, 22, 23, 24, 25, 26, 27, 28, 29, 30, 31, 32, 36, 37, 38, 39, 40, 41, 42, 43, 44, 45, 46] (by decide +kernel) (by decide +kernel)
set_option maxRecDepth 20000 in
theorem gX0_restoreNoted_X1_become : GoodIn wsX0_restoreNoted (wsV RX0 24 RX1 yX1_become wsX1_become) := goodIn_app (goodIn_of _ (by decide +kernel)) ggX0_restoreNoted_X1_become
theorem dX0_restoreNoted_0 : decode cX0_restoreNoted 0 = .ok (.aload_n 1, 1) := by decide +kernel
theorem dX0_restoreNoted_1 : decode cX0_restoreNoted 1 = .ok (.aload_n 0, 1) := by decide +kernel
theorem dX0_restoreNoted_2 : decode cX0_restoreNoted 2 = .ok (.invokevirtual 20, 3) := by decide +kernel
theorem dX0_restoreNoted_5 : decode cX0_restoreNoted 5 = .ok (.invokevirtual 24, 3) := by decide +kernel
theorem dX0_restoreNoted_8 : decode cX0_restoreNoted 8 = .ok (.return_, 1) := by decide +kernel
theorem dX0_dropLatest_0 : decode cX0_dropLatest 0 = .ok (.aload_n 0, 1) := by decide +kernel
theorem dX0_dropLatest_1 : decode cX0_dropLatest 1 = .ok (.getfield 16, 3) := by decide +kernel
theorem dX0_dropLatest_4 : decode cX0_dropLatest 4 = .ok (.ifCond .le 13, 3) := by decide +kernel
theorem dX0_dropLatest_7 : decode cX0_dropLatest 7 = .ok (.aload_n 0, 1) := by decide +kernel
theorem dX0_dropLatest_8 : decode cX0_dropLatest 8 = .ok (.dup, 1) := by decide +kernel
theorem dX0_dropLatest_9 : decode cX0_dropLatest 9 = .ok (.getfield 16, 3) := by decide +kernel
theorem dX0_dropLatest_12 : decode cX0_dropLatest 12 = .ok (.iconst 1, 1) := by decide +kernel
theorem dX0_dropLatest_13 : decode cX0_dropLatest 13 = .ok (.isub, 1) := by decide +kernel
theorem dX0_dropLatest_14 : decode cX0_dropLatest 14 = .ok (.putfield 16, 3) := by decide +kernel
theorem dX0_dropLatest_17 : decode cX0_dropLatest 17 = .ok (.return_, 1) := by decide +kernel
set_option maxRecDepth 20000 in
theorem ggX0_noted_J9_floorMod_7cf53 : GoodIn wsX0_noted wsJ9_floorMod_7cf53 := goodIn_r _ [7] (by decide +kernel) (by decide +kernel)
set_option maxRecDepth 20000 in
theorem gX0_noted_J9_floorMod_7cf53 : GoodIn wsX0_noted (va_wsS RX0 31 yJ9_floorMod_7cf53 wsJ9_floorMod_7cf53) := goodIn_app (goodIn_of _ (by decide +kernel)) ggX0_noted_J9_floorMod_7cf53
theorem dX0_noted_0 : decode cX0_noted 0 = .ok (.aload_n 0, 1) := by decide +kernel
theorem dX0_noted_1 : decode cX0_noted 1 = .ok (.getfield 11, 3) := by decide +kernel
theorem dX0_noted_4 : decode cX0_noted 4 = .ok (.aload_n 0, 1) := by decide +kernel
theorem dX0_noted_5 : decode cX0_noted 5 = .ok (.getfield 28, 3) := by decide +kernel
theorem dX0_noted_8 : decode cX0_noted 8 = .ok (.aload_n 0, 1) := by decide +kernel
theorem dX0_noted_9 : decode cX0_noted 9 = .ok (.getfield 16, 3) := by decide +kernel
theorem dX0_noted_12 : decode cX0_noted 12 = .ok (.iadd, 1) := by decide +kernel
theorem dX0_noted_13 : decode cX0_noted 13 = .ok (.bipush 6, 2) := by decide +kernel
theorem dX0_noted_15 : decode cX0_noted 15 = .ok (.invokestatic 31, 3) := by decide +kernel
theorem dX0_noted_18 : decode cX0_noted 18 = .ok (.aaload, 1) := by decide +kernel
theorem dX0_noted_19 : decode cX0_noted 19 = .ok (.areturn, 1) := by decide +kernel
set_option maxRecDepth 20000 in
theorem ggX1_init_X1_forgetWritten : GoodIn wsX1_init wsX1_forgetWritten := goodIn_r _ [14, 7, 15, 16, 17, 18, 19, 20, 21, 22, 23, 24, 25] (by decide +kernel) (by decide +kernel)
set_option maxRecDepth 20000 in
theorem gX1_init_X1_forgetWritten : GoodIn wsX1_init (wsV RX1 27 RX1 yX1_forgetWritten wsX1_forgetWritten) := goodIn_app (goodIn_of _ (by decide +kernel)) ggX1_init_X1_forgetWritten
theorem dX1_init_0 : decode cX1_init 0 = .ok (.aload_n 0, 1) := by decide +kernel
theorem dX1_init_1 : decode cX1_init 1 = .ok (.invokespecial 5, 3) := by decide +kernel
theorem dX1_init_4 : decode cX1_init 4 = .ok (.aload_n 0, 1) := by decide +kernel
theorem dX1_init_5 : decode cX1_init 5 = .ok (.sipush 384, 3) := by decide +kernel
theorem dX1_init_8 : decode cX1_init 8 = .ok (.newarray .int, 2) := by decide +kernel
theorem dX1_init_10 : decode cX1_init 10 = .ok (.putfield 11, 3) := by decide +kernel
theorem dX1_init_13 : decode cX1_init 13 = .ok (.aload_n 0, 1) := by decide +kernel
theorem dX1_init_14 : decode cX1_init 14 = .ok (.sipush 480, 3) := by decide +kernel
theorem dX1_init_17 : decode cX1_init 17 = .ok (.newarray .int, 2) := by decide +kernel
theorem dX1_init_19 : decode cX1_init 19 = .ok (.putfield 15, 3) := by decide +kernel
theorem dX1_init_22 : decode cX1_init 22 = .ok (.aload_n 0, 1) := by decide +kernel
theorem dX1_init_23 : decode cX1_init 23 = .ok (.iconst 2, 1) := by decide +kernel
theorem dX1_init_24 : decode cX1_init 24 = .ok (.newarray .int, 2) := by decide +kernel
theorem dX1_init_26 : decode cX1_init 26 = .ok (.putfield 18, 3) := by decide +kernel
theorem dX1_init_29 : decode cX1_init 29 = .ok (.aload_n 0, 1) := by decide +kernel
theorem dX1_init_30 : decode cX1_init 30 = .ok (.bipush 48, 2) := by decide +kernel
theorem dX1_init_32 : decode cX1_init 32 = .ok (.newarray .int, 2) := by decide +kernel
theorem dX1_init_34 : decode cX1_init 34 = .ok (.putfield 21, 3) := by decide +kernel
theorem dX1_init_37 : decode cX1_init 37 = .ok (.aload_n 0, 1) := by decide +kernel
theorem dX1_init_38 : decode cX1_init 38 = .ok (.iconst 4, 1) := by decide +kernel
theorem dX1_init_39 : decode cX1_init 39 = .ok (.newarray .int, 2) := by decide +kernel
theorem dX1_init_41 : decode cX1_init 41 = .ok (.putfield 24, 3) := by decide +kernel
theorem dX1_init_44 : decode cX1_init 44 = .ok (.aload_n 0, 1) := by decide +kernel
theorem dX1_init_45 : decode cX1_init 45 = .ok (.invokevirtual 27, 3) := by decide +kernel
theorem dX1_init_48 : decode cX1_init 48 = .ok (.return_, 1) := by decide +kernel
theorem dX1_become_0 : decode cX1_become 0 = .ok (.aload_n 1, 1) := by decide +kernel
theorem dX1_become_1 : decode cX1_become 1 = .ok (.getfield 11, 3) := by decide +kernel
theorem dX1_become_4 : decode cX1_become 4 = .ok (.iconst 0, 1) := by decide +kernel
theorem dX1_become_5 : decode cX1_become 5 = .ok (.aload_n 0, 1) := by decide +kernel
theorem dX1_become_6 : decode cX1_become 6 = .ok (.getfield 11, 3) := by decide +kernel
theorem dX1_become_9 : decode cX1_become 9 = .ok (.iconst 0, 1) := by decide +kernel
theorem dX1_become_10 : decode cX1_become 10 = .ok (.aload_n 0, 1) := by decide +kernel
theorem dX1_become_11 : decode cX1_become 11 = .ok (.getfield 11, 3) := by decide +kernel
theorem dX1_become_14 : decode cX1_become 14 = .ok (.arraylength, 1) := by decide +kernel
theorem dX1_become_15 : decode cX1_become 15 = .ok (.invokestatic 30, 3) := by decide +kernel
theorem dX1_become_18 : decode cX1_become 18 = .ok (.aload_n 1, 1) := by decide +kernel
theorem dX1_become_19 : decode cX1_become 19 = .ok (.getfield 15, 3) := by decide +kernel
theorem dX1_become_22 : decode cX1_become 22 = .ok (.iconst 0, 1) := by decide +kernel
theorem dX1_become_23 : decode cX1_become 23 = .ok (.aload_n 0, 1) := by decide +kernel
theorem dX1_become_24 : decode cX1_become 24 = .ok (.getfield 15, 3) := by decide +kernel
theorem dX1_become_27 : decode cX1_become 27 = .ok (.iconst 0, 1) := by decide +kernel
theorem dX1_become_28 : decode cX1_become 28 = .ok (.aload_n 0, 1) := by decide +kernel
theorem dX1_become_29 : decode cX1_become 29 = .ok (.getfield 15, 3) := by decide +kernel
theorem dX1_become_32 : decode cX1_become 32 = .ok (.arraylength, 1) := by decide +kernel
theorem dX1_become_33 : decode cX1_become 33 = .ok (.invokestatic 30, 3) := by decide +kernel
theorem dX1_become_36 : decode cX1_become 36 = .ok (.aload_n 1, 1) := by decide +kernel
theorem dX1_become_37 : decode cX1_become 37 = .ok (.getfield 18, 3) := by decide +kernel
theorem dX1_become_40 : decode cX1_become 40 = .ok (.iconst 0, 1) := by decide +kernel
theorem dX1_become_41 : decode cX1_become 41 = .ok (.aload_n 0, 1) := by decide +kernel
theorem dX1_become_42 : decode cX1_become 42 = .ok (.getfield 18, 3) := by decide +kernel
theorem dX1_become_45 : decode cX1_become 45 = .ok (.iconst 0, 1) := by decide +kernel
theorem dX1_become_46 : decode cX1_become 46 = .ok (.aload_n 0, 1) := by decide +kernel
theorem dX1_become_47 : decode cX1_become 47 = .ok (.getfield 18, 3) := by decide +kernel
theorem dX1_become_50 : decode cX1_become 50 = .ok (.arraylength, 1) := by decide +kernel
theorem dX1_become_51 : decode cX1_become 51 = .ok (.invokestatic 30, 3) := by decide +kernel
theorem dX1_become_54 : decode cX1_become 54 = .ok (.aload_n 1, 1) := by decide +kernel
theorem dX1_become_55 : decode cX1_become 55 = .ok (.getfield 21, 3) := by decide +kernel
theorem dX1_become_58 : decode cX1_become 58 = .ok (.iconst 0, 1) := by decide +kernel
theorem dX1_become_59 : decode cX1_become 59 = .ok (.aload_n 0, 1) := by decide +kernel
theorem dX1_become_60 : decode cX1_become 60 = .ok (.getfield 21, 3) := by decide +kernel
theorem dX1_become_63 : decode cX1_become 63 = .ok (.iconst 0, 1) := by decide +kernel
theorem dX1_become_64 : decode cX1_become 64 = .ok (.aload_n 0, 1) := by decide +kernel
theorem dX1_become_65 : decode cX1_become 65 = .ok (.getfield 21, 3) := by decide +kernel
theorem dX1_become_68 : decode cX1_become 68 = .ok (.arraylength, 1) := by decide +kernel
theorem dX1_become_69 : decode cX1_become 69 = .ok (.invokestatic 30, 3) := by decide +kernel
theorem dX1_become_72 : decode cX1_become 72 = .ok (.aload_n 1, 1) := by decide +kernel
theorem dX1_become_73 : decode cX1_become 73 = .ok (.getfield 24, 3) := by decide +kernel
theorem dX1_become_76 : decode cX1_become 76 = .ok (.iconst 0, 1) := by decide +kernel
theorem dX1_become_77 : decode cX1_become 77 = .ok (.aload_n 0, 1) := by decide +kernel
theorem dX1_become_78 : decode cX1_become 78 = .ok (.getfield 24, 3) := by decide +kernel
theorem dX1_become_81 : decode cX1_become 81 = .ok (.iconst 0, 1) := by decide +kernel
theorem dX1_become_82 : decode cX1_become 82 = .ok (.aload_n 0, 1) := by decide +kernel
theorem dX1_become_83 : decode cX1_become 83 = .ok (.getfield 24, 3) := by decide +kernel
theorem dX1_become_86 : decode cX1_become 86 = .ok (.arraylength, 1) := by decide +kernel
theorem dX1_become_87 : decode cX1_become 87 = .ok (.invokestatic 30, 3) := by decide +kernel
theorem dX1_become_90 : decode cX1_become 90 = .ok (.aload_n 0, 1) := by decide +kernel
theorem dX1_become_91 : decode cX1_become 91 = .ok (.aload_n 1, 1) := by decide +kernel
theorem dX1_become_92 : decode cX1_become 92 = .ok (.getfield 36, 3) := by decide +kernel
theorem dX1_become_95 : decode cX1_become 95 = .ok (.putfield 36, 3) := by decide +kernel
theorem dX1_become_98 : decode cX1_become 98 = .ok (.aload_n 0, 1) := by decide +kernel
theorem dX1_become_99 : decode cX1_become 99 = .ok (.aload_n 1, 1) := by decide +kernel
theorem dX1_become_100 : decode cX1_become 100 = .ok (.getfield 40, 3) := by decide +kernel
theorem dX1_become_103 : decode cX1_become 103 = .ok (.putfield 40, 3) := by decide +kernel
theorem dX1_become_106 : decode cX1_become 106 = .ok (.aload_n 0, 1) := by decide +kernel
theorem dX1_become_107 : decode cX1_become 107 = .ok (.aload_n 1, 1) := by decide +kernel
theorem dX1_become_108 : decode cX1_become 108 = .ok (.getfield 43, 3) := by decide +kernel
theorem dX1_become_111 : decode cX1_become 111 = .ok (.putfield 43, 3) := by decide +kernel
theorem dX1_become_114 : decode cX1_become 114 = .ok (.aload_n 0, 1) := by decide +kernel
theorem dX1_become_115 : decode cX1_become 115 = .ok (.aload_n 1, 1) := by decide +kernel
theorem dX1_become_116 : decode cX1_become 116 = .ok (.getfield 46, 3) := by decide +kernel
theorem dX1_become_119 : decode cX1_become 119 = .ok (.putfield 46, 3) := by decide +kernel
theorem dX1_become_122 : decode cX1_become 122 = .ok (.aload_n 0, 1) := by decide +kernel
theorem dX1_become_123 : decode cX1_become 123 = .ok (.aload_n 1, 1) := by decide +kernel
theorem dX1_become_124 : decode cX1_become 124 = .ok (.getfield 49, 3) := by decide +kernel
theorem dX1_become_127 : decode cX1_become 127 = .ok (.putfield 49, 3) := by decide +kernel
theorem dX1_become_130 : decode cX1_become 130 = .ok (.aload_n 0, 1) := by decide +kernel
theorem dX1_become_131 : decode cX1_become 131 = .ok (.aload_n 1, 1) := by decide +kernel
theorem dX1_become_132 : decode cX1_become 132 = .ok (.getfield 52, 3) := by decide +kernel
theorem dX1_become_135 : decode cX1_become 135 = .ok (.putfield 52, 3) := by decide +kernel
theorem dX1_become_138 : decode cX1_become 138 = .ok (.return_, 1) := by decide +kernel
theorem dX1_isBlock_0 : decode cX1_isBlock 0 = .ok (.iload_n 0, 1) := by decide +kernel
theorem dX1_isBlock_1 : decode cX1_isBlock 1 = .ok (.ifCond .lt 22, 3) := by decide +kernel
theorem dX1_isBlock_4 : decode cX1_isBlock 4 = .ok (.iload_n 0, 1) := by decide +kernel
theorem dX1_isBlock_5 : decode cX1_isBlock 5 = .ok (.iconst 4, 1) := by decide +kernel
theorem dX1_isBlock_6 : decode cX1_isBlock 6 = .ok (.if_icmp .ge 17, 3) := by decide +kernel
theorem dX1_isBlock_9 : decode cX1_isBlock 9 = .ok (.iload_n 1, 1) := by decide +kernel
theorem dX1_isBlock_10 : decode cX1_isBlock 10 = .ok (.ifCond .lt 13, 3) := by decide +kernel
theorem dX1_isBlock_13 : decode cX1_isBlock 13 = .ok (.iload_n 1, 1) := by decide +kernel
theorem dX1_isBlock_14 : decode cX1_isBlock 14 = .ok (.bipush 12, 2) := by decide +kernel
theorem dX1_isBlock_16 : decode cX1_isBlock 16 = .ok (.if_icmp .ge 7, 3) := by decide +kernel
theorem dX1_isBlock_19 : decode cX1_isBlock 19 = .ok (.iconst 1, 1) := by decide +kernel
theorem dX1_isBlock_20 : decode cX1_isBlock 20 = .ok (.goto 4, 3) := by decide +kernel
theorem dX1_isBlock_23 : decode cX1_isBlock 23 = .ok (.iconst 0, 1) := by decide +kernel
theorem dX1_isBlock_24 : decode cX1_isBlock 24 = .ok (.ireturn, 1) := by decide +kernel
theorem dX1_blockAt_0 : decode cX1_blockAt 0 = .ok (.iload_n 0, 1) := by decide +kernel
theorem dX1_blockAt_1 : decode cX1_blockAt 1 = .ok (.bipush 12, 2) := by decide +kernel
theorem dX1_blockAt_3 : decode cX1_blockAt 3 = .ok (.imul, 1) := by decide +kernel
theorem dX1_blockAt_4 : decode cX1_blockAt 4 = .ok (.iload_n 1, 1) := by decide +kernel
theorem dX1_blockAt_5 : decode cX1_blockAt 5 = .ok (.iadd, 1) := by decide +kernel
theorem dX1_blockAt_6 : decode cX1_blockAt 6 = .ok (.ireturn, 1) := by decide +kernel
theorem dX1_tick_0 : decode cX1_tick 0 = .ok (.aload_n 0, 1) := by decide +kernel
theorem dX1_tick_1 : decode cX1_tick 1 = .ok (.getfield 36, 3) := by decide +kernel
theorem dX1_tick_4 : decode cX1_tick 4 = .ok (.ireturn, 1) := by decide +kernel
theorem dX1_arm_0 : decode cX1_arm 0 = .ok (.aload_n 0, 1) := by decide +kernel
theorem dX1_arm_1 : decode cX1_arm 1 = .ok (.getfield 40, 3) := by decide +kernel
theorem dX1_arm_4 : decode cX1_arm 4 = .ok (.ireturn, 1) := by decide +kernel
theorem dX1_taken_0 : decode cX1_taken 0 = .ok (.aload_n 0, 1) := by decide +kernel
theorem dX1_taken_1 : decode cX1_taken 1 = .ok (.getfield 43, 3) := by decide +kernel
theorem dX1_taken_4 : decode cX1_taken 4 = .ok (.ireturn, 1) := by decide +kernel
theorem dX1_wiped_0 : decode cX1_wiped 0 = .ok (.aload_n 0, 1) := by decide +kernel
theorem dX1_wiped_1 : decode cX1_wiped 1 = .ok (.getfield 49, 3) := by decide +kernel
theorem dX1_wiped_4 : decode cX1_wiped 4 = .ok (.ireturn, 1) := by decide +kernel
theorem dX1_moves_0 : decode cX1_moves 0 = .ok (.aload_n 0, 1) := by decide +kernel
theorem dX1_moves_1 : decode cX1_moves 1 = .ok (.getfield 52, 3) := by decide +kernel
theorem dX1_moves_4 : decode cX1_moves 4 = .ok (.ireturn, 1) := by decide +kernel
set_option maxRecDepth 20000 in
theorem ggX1_sectorUnder_J9_floorMod_7cf53 : GoodIn wsX1_sectorUnder wsJ9_floorMod_7cf53 := goodIn_r _ [5] (by decide +kernel) (by decide +kernel)
set_option maxRecDepth 20000 in
theorem gX1_sectorUnder_J9_floorMod_7cf53 : GoodIn wsX1_sectorUnder (va_wsS RX1 55 yJ9_floorMod_7cf53 wsJ9_floorMod_7cf53) := goodIn_app (goodIn_of _ (by decide +kernel)) ggX1_sectorUnder_J9_floorMod_7cf53
theorem dX1_sectorUnder_0 : decode cX1_sectorUnder 0 = .ok (.aload_n 0, 1) := by decide +kernel
theorem dX1_sectorUnder_1 : decode cX1_sectorUnder 1 = .ok (.getfield 36, 3) := by decide +kernel
theorem dX1_sectorUnder_4 : decode cX1_sectorUnder 4 = .ok (.iload_n 1, 1) := by decide +kernel
theorem dX1_sectorUnder_5 : decode cX1_sectorUnder 5 = .ok (.bipush 6, 2) := by decide +kernel
theorem dX1_sectorUnder_7 : decode cX1_sectorUnder 7 = .ok (.imul, 1) := by decide +kernel
theorem dX1_sectorUnder_8 : decode cX1_sectorUnder 8 = .ok (.iadd, 1) := by decide +kernel
theorem dX1_sectorUnder_9 : decode cX1_sectorUnder 9 = .ok (.bipush 12, 2) := by decide +kernel
theorem dX1_sectorUnder_11 : decode cX1_sectorUnder 11 = .ok (.invokestatic 55, 3) := by decide +kernel
theorem dX1_sectorUnder_14 : decode cX1_sectorUnder 14 = .ok (.ireturn, 1) := by decide +kernel
set_option maxRecDepth 20000 in
theorem ggX1_ticksUntilOver_X1_sectorUnder : GoodIn wsX1_ticksUntilOver wsX1_sectorUnder := goodIn_r _ [5, 6, 7, 8, 9, 10, 11, 12, 13, 14, 15, 16, 17, 18, 19, 20, 21] (by decide +kernel) (by decide +kernel)
set_option maxRecDepth 20000 in
theorem gX1_ticksUntilOver_X1_sectorUnder : GoodIn wsX1_ticksUntilOver (wsV RX1 61 RX1 yX1_sectorUnder wsX1_sectorUnder) := goodIn_app (goodIn_of _ (by decide +kernel)) ggX1_ticksUntilOver_X1_sectorUnder
set_option maxRecDepth 20000 in
theorem ggX1_ticksUntilOver_J9_floorMod_7cf53 : GoodIn wsX1_ticksUntilOver wsJ9_floorMod_7cf53 := goodIn_r _ [10] (by decide +kernel) (by decide +kernel)
set_option maxRecDepth 20000 in
theorem gX1_ticksUntilOver_J9_floorMod_7cf53 : GoodIn wsX1_ticksUntilOver (va_wsS RX1 55 yJ9_floorMod_7cf53 wsJ9_floorMod_7cf53) := goodIn_app (goodIn_of _ (by decide +kernel)) ggX1_ticksUntilOver_J9_floorMod_7cf53
theorem dX1_ticksUntilOver_0 : decode cX1_ticksUntilOver 0 = .ok (.iload_n 2, 1) := by decide +kernel
theorem dX1_ticksUntilOver_1 : decode cX1_ticksUntilOver 1 = .ok (.aload_n 0, 1) := by decide +kernel
theorem dX1_ticksUntilOver_2 : decode cX1_ticksUntilOver 2 = .ok (.iload_n 1, 1) := by decide +kernel
theorem dX1_ticksUntilOver_3 : decode cX1_ticksUntilOver 3 = .ok (.invokevirtual 61, 3) := by decide +kernel
theorem dX1_ticksUntilOver_6 : decode cX1_ticksUntilOver 6 = .ok (.isub, 1) := by decide +kernel
theorem dX1_ticksUntilOver_7 : decode cX1_ticksUntilOver 7 = .ok (.bipush 12, 2) := by decide +kernel
theorem dX1_ticksUntilOver_9 : decode cX1_ticksUntilOver 9 = .ok (.invokestatic 55, 3) := by decide +kernel
theorem dX1_ticksUntilOver_12 : decode cX1_ticksUntilOver 12 = .ok (.ireturn, 1) := by decide +kernel
theorem dX1_hasOrder_0 : decode cX1_hasOrder 0 = .ok (.iload_n 1, 1) := by decide +kernel
theorem dX1_hasOrder_1 : decode cX1_hasOrder 1 = .ok (.ifCond .lt 15, 3) := by decide +kernel
theorem dX1_hasOrder_4 : decode cX1_hasOrder 4 = .ok (.iload_n 1, 1) := by decide +kernel
theorem dX1_hasOrder_5 : decode cX1_hasOrder 5 = .ok (.aload_n 0, 1) := by decide +kernel
theorem dX1_hasOrder_6 : decode cX1_hasOrder 6 = .ok (.getfield 43, 3) := by decide +kernel
theorem dX1_hasOrder_9 : decode cX1_hasOrder 9 = .ok (.if_icmp .ge 7, 3) := by decide +kernel
theorem dX1_hasOrder_12 : decode cX1_hasOrder 12 = .ok (.iconst 1, 1) := by decide +kernel
theorem dX1_hasOrder_13 : decode cX1_hasOrder 13 = .ok (.goto 4, 3) := by decide +kernel
theorem dX1_hasOrder_16 : decode cX1_hasOrder 16 = .ok (.iconst 0, 1) := by decide +kernel
theorem dX1_hasOrder_17 : decode cX1_hasOrder 17 = .ok (.ireturn, 1) := by decide +kernel
theorem dX1_ofOrder_0 : decode cX1_ofOrder 0 = .ok (.aload_n 0, 1) := by decide +kernel
theorem dX1_ofOrder_1 : decode cX1_ofOrder 1 = .ok (.getfield 15, 3) := by decide +kernel
theorem dX1_ofOrder_4 : decode cX1_ofOrder 4 = .ok (.iload_n 1, 1) := by decide +kernel
theorem dX1_ofOrder_5 : decode cX1_ofOrder 5 = .ok (.bipush 8, 2) := by decide +kernel
theorem dX1_ofOrder_7 : decode cX1_ofOrder 7 = .ok (.imul, 1) := by decide +kernel
theorem dX1_ofOrder_8 : decode cX1_ofOrder 8 = .ok (.iload_n 2, 1) := by decide +kernel
theorem dX1_ofOrder_9 : decode cX1_ofOrder 9 = .ok (.iadd, 1) := by decide +kernel
theorem dX1_ofOrder_10 : decode cX1_ofOrder 10 = .ok (.iaload, 1) := by decide +kernel
theorem dX1_ofOrder_11 : decode cX1_ofOrder 11 = .ok (.ireturn, 1) := by decide +kernel
set_option maxRecDepth 20000 in
theorem ggX1_statusOf_X1_ofOrder : GoodIn wsX1_statusOf wsX1_ofOrder := goodIn_r _ [5, 6, 7, 8, 9, 10, 11, 12, 13, 14, 15, 16, 17] (by decide +kernel) (by decide +kernel)
set_option maxRecDepth 20000 in
theorem gX1_statusOf_X1_ofOrder : GoodIn wsX1_statusOf (wsV RX1 65 RX1 yX1_ofOrder wsX1_ofOrder) := goodIn_app (goodIn_of _ (by decide +kernel)) ggX1_statusOf_X1_ofOrder
theorem dX1_statusOf_0 : decode cX1_statusOf 0 = .ok (.aload_n 0, 1) := by decide +kernel
theorem dX1_statusOf_1 : decode cX1_statusOf 1 = .ok (.iload_n 1, 1) := by decide +kernel
theorem dX1_statusOf_2 : decode cX1_statusOf 2 = .ok (.iconst 3, 1) := by decide +kernel
theorem dX1_statusOf_3 : decode cX1_statusOf 3 = .ok (.invokevirtual 65, 3) := by decide +kernel
theorem dX1_statusOf_6 : decode cX1_statusOf 6 = .ok (.ireturn, 1) := by decide +kernel
set_option maxRecDepth 20000 in
theorem ggX1_ofCopy_X1_blockAt : GoodIn wsX1_ofCopy wsX1_blockAt := goodIn_r _ [5] (by decide +kernel) (by decide +kernel)
set_option maxRecDepth 20000 in
theorem gX1_ofCopy_X1_blockAt : GoodIn wsX1_ofCopy (va_wsS RX1 68 yX1_blockAt wsX1_blockAt) := goodIn_app (goodIn_of _ (by decide +kernel)) ggX1_ofCopy_X1_blockAt
set_option maxRecDepth 20000 in
theorem ggX1_ofCopy_X1_cellOf : GoodIn wsX1_ofCopy wsX1_cellOf := goodIn_r _ [8] (by decide +kernel) (by decide +kernel)
set_option maxRecDepth 20000 in
theorem gX1_ofCopy_X1_cellOf : GoodIn wsX1_ofCopy (va_wsS RX1 71 yX1_cellOf wsX1_cellOf) := goodIn_app (goodIn_of _ (by decide +kernel)) ggX1_ofCopy_X1_cellOf
theorem dX1_ofCopy_0 : decode cX1_ofCopy 0 = .ok (.aload_n 0, 1) := by decide +kernel
theorem dX1_ofCopy_1 : decode cX1_ofCopy 1 = .ok (.getfield 11, 3) := by decide +kernel
theorem dX1_ofCopy_4 : decode cX1_ofCopy 4 = .ok (.iload_n 1, 1) := by decide +kernel
theorem dX1_ofCopy_5 : decode cX1_ofCopy 5 = .ok (.iload_n 2, 1) := by decide +kernel
theorem dX1_ofCopy_6 : decode cX1_ofCopy 6 = .ok (.iload_n 3, 1) := by decide +kernel
theorem dX1_ofCopy_7 : decode cX1_ofCopy 7 = .ok (.invokestatic 68, 3) := by decide +kernel
theorem dX1_ofCopy_10 : decode cX1_ofCopy 10 = .ok (.invokestatic 71, 3) := by decide +kernel
theorem dX1_ofCopy_13 : decode cX1_ofCopy 13 = .ok (.iload 4, 2) := by decide +kernel
theorem dX1_ofCopy_15 : decode cX1_ofCopy 15 = .ok (.iadd, 1) := by decide +kernel
theorem dX1_ofCopy_16 : decode cX1_ofCopy 16 = .ok (.iaload, 1) := by decide +kernel
theorem dX1_ofCopy_17 : decode cX1_ofCopy 17 = .ok (.ireturn, 1) := by decide +kernel
set_option maxRecDepth 20000 in
theorem ggX1_countOrders_X1_statusOf : GoodIn wsX1_countOrders wsX1_statusOf := goodIn_r _ [6, 7, 8, 9, 5, 10, 11, 12, 13, 14, 15, 16, 17, 18, 19, 20, 21, 22] (by decide +kernel) (by decide +kernel)
set_option maxRecDepth 20000 in
theorem gX1_countOrders_X1_statusOf : GoodIn wsX1_countOrders (wsV RX1 74 RX1 yX1_statusOf wsX1_statusOf) := goodIn_app (goodIn_of _ (by decide +kernel)) ggX1_countOrders_X1_statusOf
theorem dX1_countOrders_0 : decode cX1_countOrders 0 = .ok (.iconst 0, 1) := by decide +kernel
theorem dX1_countOrders_1 : decode cX1_countOrders 1 = .ok (.istore_n 2, 1) := by decide +kernel
theorem dX1_countOrders_2 : decode cX1_countOrders 2 = .ok (.iconst 0, 1) := by decide +kernel
theorem dX1_countOrders_3 : decode cX1_countOrders 3 = .ok (.istore_n 3, 1) := by decide +kernel
theorem dX1_countOrders_4 : decode cX1_countOrders 4 = .ok (.iload_n 3, 1) := by decide +kernel
theorem dX1_countOrders_5 : decode cX1_countOrders 5 = .ok (.aload_n 0, 1) := by decide +kernel
theorem dX1_countOrders_6 : decode cX1_countOrders 6 = .ok (.getfield 43, 3) := by decide +kernel
theorem dX1_countOrders_9 : decode cX1_countOrders 9 = .ok (.if_icmp .ge 21, 3) := by decide +kernel
theorem dX1_countOrders_12 : decode cX1_countOrders 12 = .ok (.aload_n 0, 1) := by decide +kernel
theorem dX1_countOrders_13 : decode cX1_countOrders 13 = .ok (.iload_n 3, 1) := by decide +kernel
theorem dX1_countOrders_14 : decode cX1_countOrders 14 = .ok (.invokevirtual 74, 3) := by decide +kernel
theorem dX1_countOrders_17 : decode cX1_countOrders 17 = .ok (.iload_n 1, 1) := by decide +kernel
theorem dX1_countOrders_18 : decode cX1_countOrders 18 = .ok (.if_icmp .ne 6, 3) := by decide +kernel
theorem dX1_countOrders_21 : decode cX1_countOrders 21 = .ok (.iinc 2 1, 3) := by decide +kernel
theorem dX1_countOrders_24 : decode cX1_countOrders 24 = .ok (.iinc 3 1, 3) := by decide +kernel
theorem dX1_countOrders_27 : decode cX1_countOrders 27 = .ok (.goto (-23), 3) := by decide +kernel
theorem dX1_countOrders_30 : decode cX1_countOrders 30 = .ok (.iload_n 2, 1) := by decide +kernel
theorem dX1_countOrders_31 : decode cX1_countOrders 31 = .ok (.ireturn, 1) := by decide +kernel
set_option maxRecDepth 20000 in
theorem ggX1_countCopies_X1_cellOf : GoodIn wsX1_countCopies wsX1_cellOf := goodIn_r _ [5] (by decide +kernel) (by decide +kernel)
set_option maxRecDepth 20000 in
theorem gX1_countCopies_X1_cellOf : GoodIn wsX1_countCopies (va_wsS RX1 71 yX1_cellOf wsX1_cellOf) := goodIn_app (goodIn_of _ (by decide +kernel)) ggX1_countCopies_X1_cellOf
theorem dX1_countCopies_0 : decode cX1_countCopies 0 = .ok (.iconst 0, 1) := by decide +kernel
theorem dX1_countCopies_1 : decode cX1_countCopies 1 = .ok (.istore_n 2, 1) := by decide +kernel
theorem dX1_countCopies_2 : decode cX1_countCopies 2 = .ok (.iconst 0, 1) := by decide +kernel
theorem dX1_countCopies_3 : decode cX1_countCopies 3 = .ok (.istore_n 3, 1) := by decide +kernel
theorem dX1_countCopies_4 : decode cX1_countCopies 4 = .ok (.iload_n 3, 1) := by decide +kernel
theorem dX1_countCopies_5 : decode cX1_countCopies 5 = .ok (.bipush 48, 2) := by decide +kernel
theorem dX1_countCopies_7 : decode cX1_countCopies 7 = .ok (.if_icmp .ge 37, 3) := by decide +kernel
theorem dX1_countCopies_10 : decode cX1_countCopies 10 = .ok (.iload_n 2, 1) := by decide +kernel
theorem dX1_countCopies_11 : decode cX1_countCopies 11 = .ok (.aload_n 0, 1) := by decide +kernel
theorem dX1_countCopies_12 : decode cX1_countCopies 12 = .ok (.getfield 11, 3) := by decide +kernel
theorem dX1_countCopies_15 : decode cX1_countCopies 15 = .ok (.iconst 0, 1) := by decide +kernel
theorem dX1_countCopies_16 : decode cX1_countCopies 16 = .ok (.iload_n 3, 1) := by decide +kernel
theorem dX1_countCopies_17 : decode cX1_countCopies 17 = .ok (.invokestatic 71, 3) := by decide +kernel
theorem dX1_countCopies_20 : decode cX1_countCopies 20 = .ok (.iload_n 1, 1) := by decide +kernel
theorem dX1_countCopies_21 : decode cX1_countCopies 21 = .ok (.iadd, 1) := by decide +kernel
theorem dX1_countCopies_22 : decode cX1_countCopies 22 = .ok (.iaload, 1) := by decide +kernel
theorem dX1_countCopies_23 : decode cX1_countCopies 23 = .ok (.aload_n 0, 1) := by decide +kernel
theorem dX1_countCopies_24 : decode cX1_countCopies 24 = .ok (.getfield 11, 3) := by decide +kernel
theorem dX1_countCopies_27 : decode cX1_countCopies 27 = .ok (.iconst 1, 1) := by decide +kernel
theorem dX1_countCopies_28 : decode cX1_countCopies 28 = .ok (.iload_n 3, 1) := by decide +kernel
theorem dX1_countCopies_29 : decode cX1_countCopies 29 = .ok (.invokestatic 71, 3) := by decide +kernel
theorem dX1_countCopies_32 : decode cX1_countCopies 32 = .ok (.iload_n 1, 1) := by decide +kernel
theorem dX1_countCopies_33 : decode cX1_countCopies 33 = .ok (.iadd, 1) := by decide +kernel
theorem dX1_countCopies_34 : decode cX1_countCopies 34 = .ok (.iaload, 1) := by decide +kernel
theorem dX1_countCopies_35 : decode cX1_countCopies 35 = .ok (.iadd, 1) := by decide +kernel
theorem dX1_countCopies_36 : decode cX1_countCopies 36 = .ok (.iadd, 1) := by decide +kernel
theorem dX1_countCopies_37 : decode cX1_countCopies 37 = .ok (.istore_n 2, 1) := by decide +kernel
theorem dX1_countCopies_38 : decode cX1_countCopies 38 = .ok (.iinc 3 1, 3) := by decide +kernel
theorem dX1_countCopies_41 : decode cX1_countCopies 41 = .ok (.goto (-37), 3) := by decide +kernel
theorem dX1_countCopies_44 : decode cX1_countCopies 44 = .ok (.iload_n 2, 1) := by decide +kernel
theorem dX1_countCopies_45 : decode cX1_countCopies 45 = .ok (.ireturn, 1) := by decide +kernel
set_option maxRecDepth 20000 in
theorem ggX1_countUnlikeBlocks_X1_cellOf : GoodIn wsX1_countUnlikeBlocks wsX1_cellOf := goodIn_r _ [5] (by decide +kernel) (by decide +kernel)
set_option maxRecDepth 20000 in
theorem gX1_countUnlikeBlocks_X1_cellOf : GoodIn wsX1_countUnlikeBlocks (va_wsS RX1 71 yX1_cellOf wsX1_cellOf) := goodIn_app (goodIn_of _ (by decide +kernel)) ggX1_countUnlikeBlocks_X1_cellOf
theorem dX1_countUnlikeBlocks_0 : decode cX1_countUnlikeBlocks 0 = .ok (.iconst 0, 1) := by decide +kernel
theorem dX1_countUnlikeBlocks_1 : decode cX1_countUnlikeBlocks 1 = .ok (.istore_n 1, 1) := by decide +kernel
theorem dX1_countUnlikeBlocks_2 : decode cX1_countUnlikeBlocks 2 = .ok (.iconst 0, 1) := by decide +kernel
theorem dX1_countUnlikeBlocks_3 : decode cX1_countUnlikeBlocks 3 = .ok (.istore_n 2, 1) := by decide +kernel
theorem dX1_countUnlikeBlocks_4 : decode cX1_countUnlikeBlocks 4 = .ok (.iload_n 2, 1) := by decide +kernel
theorem dX1_countUnlikeBlocks_5 : decode cX1_countUnlikeBlocks 5 = .ok (.bipush 48, 2) := by decide +kernel
theorem dX1_countUnlikeBlocks_7 : decode cX1_countUnlikeBlocks 7 = .ok (.if_icmp .ge 65, 3) := by decide +kernel
theorem dX1_countUnlikeBlocks_10 : decode cX1_countUnlikeBlocks 10 = .ok (.iconst 0, 1) := by decide +kernel
theorem dX1_countUnlikeBlocks_11 : decode cX1_countUnlikeBlocks 11 = .ok (.iload_n 2, 1) := by decide +kernel
theorem dX1_countUnlikeBlocks_12 : decode cX1_countUnlikeBlocks 12 = .ok (.invokestatic 71, 3) := by decide +kernel
theorem dX1_countUnlikeBlocks_15 : decode cX1_countUnlikeBlocks 15 = .ok (.istore_n 3, 1) := by decide +kernel
theorem dX1_countUnlikeBlocks_16 : decode cX1_countUnlikeBlocks 16 = .ok (.iconst 1, 1) := by decide +kernel
theorem dX1_countUnlikeBlocks_17 : decode cX1_countUnlikeBlocks 17 = .ok (.iload_n 2, 1) := by decide +kernel
theorem dX1_countUnlikeBlocks_18 : decode cX1_countUnlikeBlocks 18 = .ok (.invokestatic 71, 3) := by decide +kernel
theorem dX1_countUnlikeBlocks_21 : decode cX1_countUnlikeBlocks 21 = .ok (.istore 4, 2) := by decide +kernel
theorem dX1_countUnlikeBlocks_23 : decode cX1_countUnlikeBlocks 23 = .ok (.aload_n 0, 1) := by decide +kernel
theorem dX1_countUnlikeBlocks_24 : decode cX1_countUnlikeBlocks 24 = .ok (.getfield 11, 3) := by decide +kernel
theorem dX1_countUnlikeBlocks_27 : decode cX1_countUnlikeBlocks 27 = .ok (.iload_n 3, 1) := by decide +kernel
theorem dX1_countUnlikeBlocks_28 : decode cX1_countUnlikeBlocks 28 = .ok (.iconst 0, 1) := by decide +kernel
theorem dX1_countUnlikeBlocks_29 : decode cX1_countUnlikeBlocks 29 = .ok (.iadd, 1) := by decide +kernel
theorem dX1_countUnlikeBlocks_30 : decode cX1_countUnlikeBlocks 30 = .ok (.iaload, 1) := by decide +kernel
theorem dX1_countUnlikeBlocks_31 : decode cX1_countUnlikeBlocks 31 = .ok (.aload_n 0, 1) := by decide +kernel
theorem dX1_countUnlikeBlocks_32 : decode cX1_countUnlikeBlocks 32 = .ok (.getfield 11, 3) := by decide +kernel
theorem dX1_countUnlikeBlocks_35 : decode cX1_countUnlikeBlocks 35 = .ok (.iload 4, 2) := by decide +kernel
theorem dX1_countUnlikeBlocks_37 : decode cX1_countUnlikeBlocks 37 = .ok (.iconst 0, 1) := by decide +kernel
theorem dX1_countUnlikeBlocks_38 : decode cX1_countUnlikeBlocks 38 = .ok (.iadd, 1) := by decide +kernel
theorem dX1_countUnlikeBlocks_39 : decode cX1_countUnlikeBlocks 39 = .ok (.iaload, 1) := by decide +kernel
theorem dX1_countUnlikeBlocks_40 : decode cX1_countUnlikeBlocks 40 = .ok (.if_icmp .ne 23, 3) := by decide +kernel
theorem dX1_countUnlikeBlocks_43 : decode cX1_countUnlikeBlocks 43 = .ok (.aload_n 0, 1) := by decide +kernel
theorem dX1_countUnlikeBlocks_44 : decode cX1_countUnlikeBlocks 44 = .ok (.getfield 11, 3) := by decide +kernel
theorem dX1_countUnlikeBlocks_47 : decode cX1_countUnlikeBlocks 47 = .ok (.iload_n 3, 1) := by decide +kernel
theorem dX1_countUnlikeBlocks_48 : decode cX1_countUnlikeBlocks 48 = .ok (.iconst 1, 1) := by decide +kernel
theorem dX1_countUnlikeBlocks_49 : decode cX1_countUnlikeBlocks 49 = .ok (.iadd, 1) := by decide +kernel
theorem dX1_countUnlikeBlocks_50 : decode cX1_countUnlikeBlocks 50 = .ok (.iaload, 1) := by decide +kernel
theorem dX1_countUnlikeBlocks_51 : decode cX1_countUnlikeBlocks 51 = .ok (.aload_n 0, 1) := by decide +kernel
theorem dX1_countUnlikeBlocks_52 : decode cX1_countUnlikeBlocks 52 = .ok (.getfield 11, 3) := by decide +kernel
theorem dX1_countUnlikeBlocks_55 : decode cX1_countUnlikeBlocks 55 = .ok (.iload 4, 2) := by decide +kernel
theorem dX1_countUnlikeBlocks_57 : decode cX1_countUnlikeBlocks 57 = .ok (.iconst 1, 1) := by decide +kernel
theorem dX1_countUnlikeBlocks_58 : decode cX1_countUnlikeBlocks 58 = .ok (.iadd, 1) := by decide +kernel
theorem dX1_countUnlikeBlocks_59 : decode cX1_countUnlikeBlocks 59 = .ok (.iaload, 1) := by decide +kernel
theorem dX1_countUnlikeBlocks_60 : decode cX1_countUnlikeBlocks 60 = .ok (.if_icmp .eq 6, 3) := by decide +kernel
theorem dX1_countUnlikeBlocks_63 : decode cX1_countUnlikeBlocks 63 = .ok (.iinc 1 1, 3) := by decide +kernel
theorem dX1_countUnlikeBlocks_66 : decode cX1_countUnlikeBlocks 66 = .ok (.iinc 2 1, 3) := by decide +kernel
theorem dX1_countUnlikeBlocks_69 : decode cX1_countUnlikeBlocks 69 = .ok (.goto (-65), 3) := by decide +kernel
theorem dX1_countUnlikeBlocks_72 : decode cX1_countUnlikeBlocks 72 = .ok (.iload_n 1, 1) := by decide +kernel
theorem dX1_countUnlikeBlocks_73 : decode cX1_countUnlikeBlocks 73 = .ok (.ireturn, 1) := by decide +kernel
set_option maxRecDepth 20000 in
theorem ggX1_waitOf_X1_ofOrder : GoodIn wsX1_waitOf wsX1_ofOrder := goodIn_r _ [5, 6, 7, 8, 9, 10, 11, 12, 13, 14, 15, 16, 17] (by decide +kernel) (by decide +kernel)
set_option maxRecDepth 20000 in
theorem gX1_waitOf_X1_ofOrder : GoodIn wsX1_waitOf (wsV RX1 65 RX1 yX1_ofOrder wsX1_ofOrder) := goodIn_app (goodIn_of _ (by decide +kernel)) ggX1_waitOf_X1_ofOrder
theorem dX1_waitOf_0 : decode cX1_waitOf 0 = .ok (.aload_n 0, 1) := by decide +kernel
theorem dX1_waitOf_1 : decode cX1_waitOf 1 = .ok (.iload_n 1, 1) := by decide +kernel
theorem dX1_waitOf_2 : decode cX1_waitOf 2 = .ok (.iconst 5, 1) := by decide +kernel
theorem dX1_waitOf_3 : decode cX1_waitOf 3 = .ok (.invokevirtual 65, 3) := by decide +kernel
theorem dX1_waitOf_6 : decode cX1_waitOf 6 = .ok (.aload_n 0, 1) := by decide +kernel
theorem dX1_waitOf_7 : decode cX1_waitOf 7 = .ok (.iload_n 1, 1) := by decide +kernel
theorem dX1_waitOf_8 : decode cX1_waitOf 8 = .ok (.iconst 4, 1) := by decide +kernel
theorem dX1_waitOf_9 : decode cX1_waitOf 9 = .ok (.invokevirtual 65, 3) := by decide +kernel
theorem dX1_waitOf_12 : decode cX1_waitOf 12 = .ok (.isub, 1) := by decide +kernel
theorem dX1_waitOf_13 : decode cX1_waitOf 13 = .ok (.ireturn, 1) := by decide +kernel
set_option maxRecDepth 20000 in
theorem ggX1_sumOfWaits_X1_statusOf : GoodIn wsX1_sumOfWaits wsX1_statusOf := goodIn_r _ [6, 7, 8, 9, 5, 10, 11, 16, 17, 18, 19, 20, 21, 22, 23, 24, 25, 26] (by decide +kernel) (by decide +kernel)
set_option maxRecDepth 20000 in
theorem gX1_sumOfWaits_X1_statusOf : GoodIn wsX1_sumOfWaits (wsV RX1 74 RX1 yX1_statusOf wsX1_statusOf) := goodIn_app (goodIn_of _ (by decide +kernel)) ggX1_sumOfWaits_X1_statusOf
set_option maxRecDepth 20000 in
theorem ggX1_sumOfWaits_X1_waitOf : GoodIn wsX1_sumOfWaits wsX1_waitOf := goodIn_r _ [15, 7, 8, 9, 5, 10, 11, 16, 17, 18, 19, 20, 21, 22, 23, 24, 25, 26] (by decide +kernel) (by decide +kernel)
set_option maxRecDepth 20000 in
theorem gX1_sumOfWaits_X1_waitOf : GoodIn wsX1_sumOfWaits (wsV RX1 77 RX1 yX1_waitOf wsX1_waitOf) := goodIn_app (goodIn_of _ (by decide +kernel)) ggX1_sumOfWaits_X1_waitOf
theorem dX1_sumOfWaits_0 : decode cX1_sumOfWaits 0 = .ok (.iconst 0, 1) := by decide +kernel
theorem dX1_sumOfWaits_1 : decode cX1_sumOfWaits 1 = .ok (.istore_n 1, 1) := by decide +kernel
theorem dX1_sumOfWaits_2 : decode cX1_sumOfWaits 2 = .ok (.iconst 0, 1) := by decide +kernel
theorem dX1_sumOfWaits_3 : decode cX1_sumOfWaits 3 = .ok (.istore_n 2, 1) := by decide +kernel
theorem dX1_sumOfWaits_4 : decode cX1_sumOfWaits 4 = .ok (.iload_n 2, 1) := by decide +kernel
theorem dX1_sumOfWaits_5 : decode cX1_sumOfWaits 5 = .ok (.aload_n 0, 1) := by decide +kernel
theorem dX1_sumOfWaits_6 : decode cX1_sumOfWaits 6 = .ok (.getfield 43, 3) := by decide +kernel
theorem dX1_sumOfWaits_9 : decode cX1_sumOfWaits 9 = .ok (.if_icmp .ge 26, 3) := by decide +kernel
theorem dX1_sumOfWaits_12 : decode cX1_sumOfWaits 12 = .ok (.aload_n 0, 1) := by decide +kernel
theorem dX1_sumOfWaits_13 : decode cX1_sumOfWaits 13 = .ok (.iload_n 2, 1) := by decide +kernel
theorem dX1_sumOfWaits_14 : decode cX1_sumOfWaits 14 = .ok (.invokevirtual 74, 3) := by decide +kernel
theorem dX1_sumOfWaits_17 : decode cX1_sumOfWaits 17 = .ok (.iconst 1, 1) := by decide +kernel
theorem dX1_sumOfWaits_18 : decode cX1_sumOfWaits 18 = .ok (.if_icmp .ne 11, 3) := by decide +kernel
theorem dX1_sumOfWaits_21 : decode cX1_sumOfWaits 21 = .ok (.iload_n 1, 1) := by decide +kernel
theorem dX1_sumOfWaits_22 : decode cX1_sumOfWaits 22 = .ok (.aload_n 0, 1) := by decide +kernel
theorem dX1_sumOfWaits_23 : decode cX1_sumOfWaits 23 = .ok (.iload_n 2, 1) := by decide +kernel
theorem dX1_sumOfWaits_24 : decode cX1_sumOfWaits 24 = .ok (.invokevirtual 77, 3) := by decide +kernel
theorem dX1_sumOfWaits_27 : decode cX1_sumOfWaits 27 = .ok (.iadd, 1) := by decide +kernel
theorem dX1_sumOfWaits_28 : decode cX1_sumOfWaits 28 = .ok (.istore_n 1, 1) := by decide +kernel
theorem dX1_sumOfWaits_29 : decode cX1_sumOfWaits 29 = .ok (.iinc 2 1, 3) := by decide +kernel
theorem dX1_sumOfWaits_32 : decode cX1_sumOfWaits 32 = .ok (.goto (-28), 3) := by decide +kernel
theorem dX1_sumOfWaits_35 : decode cX1_sumOfWaits 35 = .ok (.iload_n 1, 1) := by decide +kernel
theorem dX1_sumOfWaits_36 : decode cX1_sumOfWaits 36 = .ok (.ireturn, 1) := by decide +kernel
set_option maxRecDepth 20000 in
theorem ggX1_longestWaiter_X1_statusOf : GoodIn wsX1_longestWaiter wsX1_statusOf := goodIn_r _ [6, 7, 8, 9, 5, 10, 11, 16, 17, 18, 19, 20, 21, 22, 23, 24, 25, 26] (by decide +kernel) (by decide +kernel)
set_option maxRecDepth 20000 in
theorem gX1_longestWaiter_X1_statusOf : GoodIn wsX1_longestWaiter (wsV RX1 74 RX1 yX1_statusOf wsX1_statusOf) := goodIn_app (goodIn_of _ (by decide +kernel)) ggX1_longestWaiter_X1_statusOf
set_option maxRecDepth 20000 in
theorem ggX1_longestWaiter_X1_waitOf : GoodIn wsX1_longestWaiter wsX1_waitOf := goodIn_r _ [15, 7, 8, 9, 5, 10, 11, 16, 17, 18, 19, 20, 21, 22, 23, 24, 25, 26] (by decide +kernel) (by decide +kernel)
set_option maxRecDepth 20000 in
theorem gX1_longestWaiter_X1_waitOf : GoodIn wsX1_longestWaiter (wsV RX1 77 RX1 yX1_waitOf wsX1_waitOf) := goodIn_app (goodIn_of _ (by decide +kernel)) ggX1_longestWaiter_X1_waitOf
theorem dX1_longestWaiter_0 : decode cX1_longestWaiter 0 = .ok (.bipush (-9), 2) := by decide +kernel
theorem dX1_longestWaiter_2 : decode cX1_longestWaiter 2 = .ok (.istore_n 1, 1) := by decide +kernel
theorem dX1_longestWaiter_3 : decode cX1_longestWaiter 3 = .ok (.iconst 0, 1) := by decide +kernel
theorem dX1_longestWaiter_4 : decode cX1_longestWaiter 4 = .ok (.istore_n 2, 1) := by decide +kernel
theorem dX1_longestWaiter_5 : decode cX1_longestWaiter 5 = .ok (.iload_n 2, 1) := by decide +kernel
theorem dX1_longestWaiter_6 : decode cX1_longestWaiter 6 = .ok (.aload_n 0, 1) := by decide +kernel
theorem dX1_longestWaiter_7 : decode cX1_longestWaiter 7 = .ok (.getfield 43, 3) := by decide +kernel
theorem dX1_longestWaiter_10 : decode cX1_longestWaiter 10 = .ok (.if_icmp .ge 39, 3) := by decide +kernel
theorem dX1_longestWaiter_13 : decode cX1_longestWaiter 13 = .ok (.aload_n 0, 1) := by decide +kernel
theorem dX1_longestWaiter_14 : decode cX1_longestWaiter 14 = .ok (.iload_n 2, 1) := by decide +kernel
theorem dX1_longestWaiter_15 : decode cX1_longestWaiter 15 = .ok (.invokevirtual 74, 3) := by decide +kernel
theorem dX1_longestWaiter_18 : decode cX1_longestWaiter 18 = .ok (.iconst 1, 1) := by decide +kernel
theorem dX1_longestWaiter_19 : decode cX1_longestWaiter 19 = .ok (.if_icmp .ne 24, 3) := by decide +kernel
theorem dX1_longestWaiter_22 : decode cX1_longestWaiter 22 = .ok (.iload_n 1, 1) := by decide +kernel
theorem dX1_longestWaiter_23 : decode cX1_longestWaiter 23 = .ok (.bipush (-9), 2) := by decide +kernel
theorem dX1_longestWaiter_25 : decode cX1_longestWaiter 25 = .ok (.if_icmp .eq 16, 3) := by decide +kernel
theorem dX1_longestWaiter_28 : decode cX1_longestWaiter 28 = .ok (.aload_n 0, 1) := by decide +kernel
theorem dX1_longestWaiter_29 : decode cX1_longestWaiter 29 = .ok (.iload_n 2, 1) := by decide +kernel
theorem dX1_longestWaiter_30 : decode cX1_longestWaiter 30 = .ok (.invokevirtual 77, 3) := by decide +kernel
theorem dX1_longestWaiter_33 : decode cX1_longestWaiter 33 = .ok (.aload_n 0, 1) := by decide +kernel
theorem dX1_longestWaiter_34 : decode cX1_longestWaiter 34 = .ok (.iload_n 1, 1) := by decide +kernel
theorem dX1_longestWaiter_35 : decode cX1_longestWaiter 35 = .ok (.invokevirtual 77, 3) := by decide +kernel
theorem dX1_longestWaiter_38 : decode cX1_longestWaiter 38 = .ok (.if_icmp .le 5, 3) := by decide +kernel
theorem dX1_longestWaiter_41 : decode cX1_longestWaiter 41 = .ok (.iload_n 2, 1) := by decide +kernel
theorem dX1_longestWaiter_42 : decode cX1_longestWaiter 42 = .ok (.istore_n 1, 1) := by decide +kernel
theorem dX1_longestWaiter_43 : decode cX1_longestWaiter 43 = .ok (.iinc 2 1, 3) := by decide +kernel
theorem dX1_longestWaiter_46 : decode cX1_longestWaiter 46 = .ok (.goto (-41), 3) := by decide +kernel
theorem dX1_longestWaiter_49 : decode cX1_longestWaiter 49 = .ok (.iload_n 1, 1) := by decide +kernel
theorem dX1_longestWaiter_50 : decode cX1_longestWaiter 50 = .ok (.ireturn, 1) := by decide +kernel
theorem dX1_hasWork_0 : decode cX1_hasWork 0 = .ok (.iconst 0, 1) := by decide +kernel
theorem dX1_hasWork_1 : decode cX1_hasWork 1 = .ok (.istore_n 1, 1) := by decide +kernel
theorem dX1_hasWork_2 : decode cX1_hasWork 2 = .ok (.iload_n 1, 1) := by decide +kernel
theorem dX1_hasWork_3 : decode cX1_hasWork 3 = .ok (.iconst 4, 1) := by decide +kernel
theorem dX1_hasWork_4 : decode cX1_hasWork 4 = .ok (.if_icmp .ge 20, 3) := by decide +kernel
theorem dX1_hasWork_7 : decode cX1_hasWork 7 = .ok (.aload_n 0, 1) := by decide +kernel
theorem dX1_hasWork_8 : decode cX1_hasWork 8 = .ok (.getfield 24, 3) := by decide +kernel
theorem dX1_hasWork_11 : decode cX1_hasWork 11 = .ok (.iload_n 1, 1) := by decide +kernel
theorem dX1_hasWork_12 : decode cX1_hasWork 12 = .ok (.iaload, 1) := by decide +kernel
theorem dX1_hasWork_13 : decode cX1_hasWork 13 = .ok (.ifCond .le 5, 3) := by decide +kernel
theorem dX1_hasWork_16 : decode cX1_hasWork 16 = .ok (.iconst 1, 1) := by decide +kernel
theorem dX1_hasWork_17 : decode cX1_hasWork 17 = .ok (.ireturn, 1) := by decide +kernel
theorem dX1_hasWork_18 : decode cX1_hasWork 18 = .ok (.iinc 1 1, 3) := by decide +kernel
theorem dX1_hasWork_21 : decode cX1_hasWork 21 = .ok (.goto (-19), 3) := by decide +kernel
theorem dX1_hasWork_24 : decode cX1_hasWork 24 = .ok (.iconst 0, 1) := by decide +kernel
theorem dX1_hasWork_25 : decode cX1_hasWork 25 = .ok (.ireturn, 1) := by decide +kernel
set_option maxRecDepth 20000 in
theorem ggX1_takeRead_X1_isBlock : GoodIn wsX1_takeRead wsX1_isBlock := goodIn_r _ [4] (by decide +kernel) (by decide +kernel)
set_option maxRecDepth 20000 in
theorem gX1_takeRead_X1_isBlock : GoodIn wsX1_takeRead (va_wsS RX1 80 yX1_isBlock wsX1_isBlock) := goodIn_app (goodIn_of _ (by decide +kernel)) ggX1_takeRead_X1_isBlock
set_option maxRecDepth 20000 in
theorem ggX1_takeRead_X1_takeOrder : GoodIn wsX1_takeRead wsX1_takeOrder := goodIn_r _ [8, 9, 10, 11, 12, 13, 14, 15, 16, 3, 17, 18, 19, 20, 21, 22, 23, 24, 25, 26, 27, 28] (by decide +kernel) (by decide +kernel)
set_option maxRecDepth 20000 in
theorem gX1_takeRead_X1_takeOrder : GoodIn wsX1_takeRead (wsV RX1 84 RX1 yX1_takeOrder wsX1_takeOrder) := goodIn_app (goodIn_of _ (by decide +kernel)) ggX1_takeRead_X1_takeOrder
theorem dX1_takeRead_0 : decode cX1_takeRead 0 = .ok (.iload_n 1, 1) := by decide +kernel
theorem dX1_takeRead_1 : decode cX1_takeRead 1 = .ok (.iload_n 2, 1) := by decide +kernel
theorem dX1_takeRead_2 : decode cX1_takeRead 2 = .ok (.invokestatic 80, 3) := by decide +kernel
theorem dX1_takeRead_5 : decode cX1_takeRead 5 = .ok (.ifCond .ne 5, 3) := by decide +kernel
theorem dX1_takeRead_8 : decode cX1_takeRead 8 = .ok (.iconst (-1), 1) := by decide +kernel
theorem dX1_takeRead_9 : decode cX1_takeRead 9 = .ok (.ireturn, 1) := by decide +kernel
theorem dX1_takeRead_10 : decode cX1_takeRead 10 = .ok (.aload_n 0, 1) := by decide +kernel
theorem dX1_takeRead_11 : decode cX1_takeRead 11 = .ok (.iconst 0, 1) := by decide +kernel
theorem dX1_takeRead_12 : decode cX1_takeRead 12 = .ok (.iload_n 1, 1) := by decide +kernel
theorem dX1_takeRead_13 : decode cX1_takeRead 13 = .ok (.iload_n 2, 1) := by decide +kernel
theorem dX1_takeRead_14 : decode cX1_takeRead 14 = .ok (.bipush (-9), 2) := by decide +kernel
theorem dX1_takeRead_16 : decode cX1_takeRead 16 = .ok (.invokevirtual 84, 3) := by decide +kernel
theorem dX1_takeRead_19 : decode cX1_takeRead 19 = .ok (.ireturn, 1) := by decide +kernel
set_option maxRecDepth 20000 in
theorem ggX1_takeWrite_X1_isBlock : GoodIn wsX1_takeWrite wsX1_isBlock := goodIn_r _ [4] (by decide +kernel) (by decide +kernel)
set_option maxRecDepth 20000 in
theorem gX1_takeWrite_X1_isBlock : GoodIn wsX1_takeWrite (va_wsS RX1 80 yX1_isBlock wsX1_isBlock) := goodIn_app (goodIn_of _ (by decide +kernel)) ggX1_takeWrite_X1_isBlock
set_option maxRecDepth 20000 in
theorem ggX1_takeWrite_X1_takeOrder : GoodIn wsX1_takeWrite wsX1_takeOrder := goodIn_r _ [8, 9, 10, 11, 12, 13, 14, 15, 16, 3, 17, 18, 19, 20, 21, 22, 23, 24, 25, 26, 27, 28] (by decide +kernel) (by decide +kernel)
set_option maxRecDepth 20000 in
theorem gX1_takeWrite_X1_takeOrder : GoodIn wsX1_takeWrite (wsV RX1 84 RX1 yX1_takeOrder wsX1_takeOrder) := goodIn_app (goodIn_of _ (by decide +kernel)) ggX1_takeWrite_X1_takeOrder
theorem dX1_takeWrite_0 : decode cX1_takeWrite 0 = .ok (.iload_n 1, 1) := by decide +kernel
theorem dX1_takeWrite_1 : decode cX1_takeWrite 1 = .ok (.iload_n 2, 1) := by decide +kernel
theorem dX1_takeWrite_2 : decode cX1_takeWrite 2 = .ok (.invokestatic 80, 3) := by decide +kernel
theorem dX1_takeWrite_5 : decode cX1_takeWrite 5 = .ok (.ifCond .eq 14, 3) := by decide +kernel
theorem dX1_takeWrite_8 : decode cX1_takeWrite 8 = .ok (.iload_n 3, 1) := by decide +kernel
theorem dX1_takeWrite_9 : decode cX1_takeWrite 9 = .ok (.ifCond .lt 10, 3) := by decide +kernel
theorem dX1_takeWrite_12 : decode cX1_takeWrite 12 = .ok (.iload_n 3, 1) := by decide +kernel
theorem dX1_takeWrite_13 : decode cX1_takeWrite 13 = .ok (.sipush 999, 3) := by decide +kernel
theorem dX1_takeWrite_16 : decode cX1_takeWrite 16 = .ok (.if_icmp .le 5, 3) := by decide +kernel
theorem dX1_takeWrite_19 : decode cX1_takeWrite 19 = .ok (.iconst (-1), 1) := by decide +kernel
theorem dX1_takeWrite_20 : decode cX1_takeWrite 20 = .ok (.ireturn, 1) := by decide +kernel
theorem dX1_takeWrite_21 : decode cX1_takeWrite 21 = .ok (.aload_n 0, 1) := by decide +kernel
theorem dX1_takeWrite_22 : decode cX1_takeWrite 22 = .ok (.iconst 1, 1) := by decide +kernel
theorem dX1_takeWrite_23 : decode cX1_takeWrite 23 = .ok (.iload_n 1, 1) := by decide +kernel
theorem dX1_takeWrite_24 : decode cX1_takeWrite 24 = .ok (.iload_n 2, 1) := by decide +kernel
theorem dX1_takeWrite_25 : decode cX1_takeWrite 25 = .ok (.iload_n 3, 1) := by decide +kernel
theorem dX1_takeWrite_26 : decode cX1_takeWrite 26 = .ok (.invokevirtual 84, 3) := by decide +kernel
theorem dX1_takeWrite_29 : decode cX1_takeWrite 29 = .ok (.ireturn, 1) := by decide +kernel
set_option maxRecDepth 20000 in
theorem ggX1_takeOrder_X1_blockAt : GoodIn wsX1_takeOrder wsX1_blockAt := goodIn_r _ [10] (by decide +kernel) (by decide +kernel)
set_option maxRecDepth 20000 in
theorem gX1_takeOrder_X1_blockAt : GoodIn wsX1_takeOrder (va_wsS RX1 68 yX1_blockAt wsX1_blockAt) := goodIn_app (goodIn_of _ (by decide +kernel)) ggX1_takeOrder_X1_blockAt
theorem dX1_takeOrder_0 : decode cX1_takeOrder 0 = .ok (.aload_n 0, 1) := by decide +kernel
theorem dX1_takeOrder_1 : decode cX1_takeOrder 1 = .ok (.getfield 43, 3) := by decide +kernel
theorem dX1_takeOrder_4 : decode cX1_takeOrder 4 = .ok (.bipush 60, 2) := by decide +kernel
theorem dX1_takeOrder_6 : decode cX1_takeOrder 6 = .ok (.if_icmp .ge 12, 3) := by decide +kernel
theorem dX1_takeOrder_9 : decode cX1_takeOrder 9 = .ok (.aload_n 0, 1) := by decide +kernel
theorem dX1_takeOrder_10 : decode cX1_takeOrder 10 = .ok (.getfield 46, 3) := by decide +kernel
theorem dX1_takeOrder_13 : decode cX1_takeOrder 13 = .ok (.bipush 20, 2) := by decide +kernel
theorem dX1_takeOrder_15 : decode cX1_takeOrder 15 = .ok (.if_icmp .lt 6, 3) := by decide +kernel
theorem dX1_takeOrder_18 : decode cX1_takeOrder 18 = .ok (.bipush (-3), 2) := by decide +kernel
theorem dX1_takeOrder_20 : decode cX1_takeOrder 20 = .ok (.ireturn, 1) := by decide +kernel
theorem dX1_takeOrder_21 : decode cX1_takeOrder 21 = .ok (.aload_n 0, 1) := by decide +kernel
theorem dX1_takeOrder_22 : decode cX1_takeOrder 22 = .ok (.getfield 43, 3) := by decide +kernel
theorem dX1_takeOrder_25 : decode cX1_takeOrder 25 = .ok (.bipush 8, 2) := by decide +kernel
theorem dX1_takeOrder_27 : decode cX1_takeOrder 27 = .ok (.imul, 1) := by decide +kernel
theorem dX1_takeOrder_28 : decode cX1_takeOrder 28 = .ok (.istore 5, 2) := by decide +kernel
theorem dX1_takeOrder_30 : decode cX1_takeOrder 30 = .ok (.aload_n 0, 1) := by decide +kernel
theorem dX1_takeOrder_31 : decode cX1_takeOrder 31 = .ok (.getfield 15, 3) := by decide +kernel
theorem dX1_takeOrder_34 : decode cX1_takeOrder 34 = .ok (.iload 5, 2) := by decide +kernel
theorem dX1_takeOrder_36 : decode cX1_takeOrder 36 = .ok (.iconst 0, 1) := by decide +kernel
theorem dX1_takeOrder_37 : decode cX1_takeOrder 37 = .ok (.iadd, 1) := by decide +kernel
theorem dX1_takeOrder_38 : decode cX1_takeOrder 38 = .ok (.iload_n 1, 1) := by decide +kernel
theorem dX1_takeOrder_39 : decode cX1_takeOrder 39 = .ok (.iastore, 1) := by decide +kernel
theorem dX1_takeOrder_40 : decode cX1_takeOrder 40 = .ok (.aload_n 0, 1) := by decide +kernel
theorem dX1_takeOrder_41 : decode cX1_takeOrder 41 = .ok (.getfield 15, 3) := by decide +kernel
theorem dX1_takeOrder_44 : decode cX1_takeOrder 44 = .ok (.iload 5, 2) := by decide +kernel
theorem dX1_takeOrder_46 : decode cX1_takeOrder 46 = .ok (.iconst 1, 1) := by decide +kernel
theorem dX1_takeOrder_47 : decode cX1_takeOrder 47 = .ok (.iadd, 1) := by decide +kernel
theorem dX1_takeOrder_48 : decode cX1_takeOrder 48 = .ok (.iload_n 2, 1) := by decide +kernel
theorem dX1_takeOrder_49 : decode cX1_takeOrder 49 = .ok (.iastore, 1) := by decide +kernel
theorem dX1_takeOrder_50 : decode cX1_takeOrder 50 = .ok (.aload_n 0, 1) := by decide +kernel
theorem dX1_takeOrder_51 : decode cX1_takeOrder 51 = .ok (.getfield 15, 3) := by decide +kernel
theorem dX1_takeOrder_54 : decode cX1_takeOrder 54 = .ok (.iload 5, 2) := by decide +kernel
theorem dX1_takeOrder_56 : decode cX1_takeOrder 56 = .ok (.iconst 2, 1) := by decide +kernel
theorem dX1_takeOrder_57 : decode cX1_takeOrder 57 = .ok (.iadd, 1) := by decide +kernel
theorem dX1_takeOrder_58 : decode cX1_takeOrder 58 = .ok (.iload_n 3, 1) := by decide +kernel
theorem dX1_takeOrder_59 : decode cX1_takeOrder 59 = .ok (.iastore, 1) := by decide +kernel
theorem dX1_takeOrder_60 : decode cX1_takeOrder 60 = .ok (.aload_n 0, 1) := by decide +kernel
theorem dX1_takeOrder_61 : decode cX1_takeOrder 61 = .ok (.getfield 15, 3) := by decide +kernel
theorem dX1_takeOrder_64 : decode cX1_takeOrder 64 = .ok (.iload 5, 2) := by decide +kernel
theorem dX1_takeOrder_66 : decode cX1_takeOrder 66 = .ok (.iconst 3, 1) := by decide +kernel
theorem dX1_takeOrder_67 : decode cX1_takeOrder 67 = .ok (.iadd, 1) := by decide +kernel
theorem dX1_takeOrder_68 : decode cX1_takeOrder 68 = .ok (.iconst 0, 1) := by decide +kernel
theorem dX1_takeOrder_69 : decode cX1_takeOrder 69 = .ok (.iastore, 1) := by decide +kernel
theorem dX1_takeOrder_70 : decode cX1_takeOrder 70 = .ok (.aload_n 0, 1) := by decide +kernel
theorem dX1_takeOrder_71 : decode cX1_takeOrder 71 = .ok (.getfield 15, 3) := by decide +kernel
theorem dX1_takeOrder_74 : decode cX1_takeOrder 74 = .ok (.iload 5, 2) := by decide +kernel
theorem dX1_takeOrder_76 : decode cX1_takeOrder 76 = .ok (.iconst 4, 1) := by decide +kernel
theorem dX1_takeOrder_77 : decode cX1_takeOrder 77 = .ok (.iadd, 1) := by decide +kernel
theorem dX1_takeOrder_78 : decode cX1_takeOrder 78 = .ok (.aload_n 0, 1) := by decide +kernel
theorem dX1_takeOrder_79 : decode cX1_takeOrder 79 = .ok (.getfield 36, 3) := by decide +kernel
theorem dX1_takeOrder_82 : decode cX1_takeOrder 82 = .ok (.iastore, 1) := by decide +kernel
theorem dX1_takeOrder_83 : decode cX1_takeOrder 83 = .ok (.aload_n 0, 1) := by decide +kernel
theorem dX1_takeOrder_84 : decode cX1_takeOrder 84 = .ok (.getfield 15, 3) := by decide +kernel
theorem dX1_takeOrder_87 : decode cX1_takeOrder 87 = .ok (.iload 5, 2) := by decide +kernel
theorem dX1_takeOrder_89 : decode cX1_takeOrder 89 = .ok (.iconst 5, 1) := by decide +kernel
theorem dX1_takeOrder_90 : decode cX1_takeOrder 90 = .ok (.iadd, 1) := by decide +kernel
theorem dX1_takeOrder_91 : decode cX1_takeOrder 91 = .ok (.bipush (-9), 2) := by decide +kernel
theorem dX1_takeOrder_93 : decode cX1_takeOrder 93 = .ok (.iastore, 1) := by decide +kernel
theorem dX1_takeOrder_94 : decode cX1_takeOrder 94 = .ok (.aload_n 0, 1) := by decide +kernel
theorem dX1_takeOrder_95 : decode cX1_takeOrder 95 = .ok (.getfield 15, 3) := by decide +kernel
theorem dX1_takeOrder_98 : decode cX1_takeOrder 98 = .ok (.iload 5, 2) := by decide +kernel
theorem dX1_takeOrder_100 : decode cX1_takeOrder 100 = .ok (.bipush 6, 2) := by decide +kernel
theorem dX1_takeOrder_102 : decode cX1_takeOrder 102 = .ok (.iadd, 1) := by decide +kernel
theorem dX1_takeOrder_103 : decode cX1_takeOrder 103 = .ok (.bipush (-9), 2) := by decide +kernel
theorem dX1_takeOrder_105 : decode cX1_takeOrder 105 = .ok (.iastore, 1) := by decide +kernel
theorem dX1_takeOrder_106 : decode cX1_takeOrder 106 = .ok (.aload_n 0, 1) := by decide +kernel
end
section
theorem dX1_takeOrder_107 : decode cX1_takeOrder 107 = .ok (.getfield 15, 3) := by decide +kernel
theorem dX1_takeOrder_110 : decode cX1_takeOrder 110 = .ok (.iload 5, 2) := by decide +kernel
theorem dX1_takeOrder_112 : decode cX1_takeOrder 112 = .ok (.bipush 7, 2) := by decide +kernel
theorem dX1_takeOrder_114 : decode cX1_takeOrder 114 = .ok (.iadd, 1) := by decide +kernel
theorem dX1_takeOrder_115 : decode cX1_takeOrder 115 = .ok (.iload 4, 2) := by decide +kernel
theorem dX1_takeOrder_117 : decode cX1_takeOrder 117 = .ok (.iastore, 1) := by decide +kernel
theorem dX1_takeOrder_118 : decode cX1_takeOrder 118 = .ok (.aload_n 0, 1) := by decide +kernel
theorem dX1_takeOrder_119 : decode cX1_takeOrder 119 = .ok (.dup, 1) := by decide +kernel
theorem dX1_takeOrder_120 : decode cX1_takeOrder 120 = .ok (.getfield 46, 3) := by decide +kernel
theorem dX1_takeOrder_123 : decode cX1_takeOrder 123 = .ok (.iconst 1, 1) := by decide +kernel
theorem dX1_takeOrder_124 : decode cX1_takeOrder 124 = .ok (.iadd, 1) := by decide +kernel
theorem dX1_takeOrder_125 : decode cX1_takeOrder 125 = .ok (.putfield 46, 3) := by decide +kernel
theorem dX1_takeOrder_128 : decode cX1_takeOrder 128 = .ok (.aload_n 0, 1) := by decide +kernel
theorem dX1_takeOrder_129 : decode cX1_takeOrder 129 = .ok (.getfield 21, 3) := by decide +kernel
theorem dX1_takeOrder_132 : decode cX1_takeOrder 132 = .ok (.iload_n 2, 1) := by decide +kernel
theorem dX1_takeOrder_133 : decode cX1_takeOrder 133 = .ok (.iload_n 3, 1) := by decide +kernel
theorem dX1_takeOrder_134 : decode cX1_takeOrder 134 = .ok (.invokestatic 68, 3) := by decide +kernel
theorem dX1_takeOrder_137 : decode cX1_takeOrder 137 = .ok (.dup2, 1) := by decide +kernel
theorem dX1_takeOrder_138 : decode cX1_takeOrder 138 = .ok (.iaload, 1) := by decide +kernel
theorem dX1_takeOrder_139 : decode cX1_takeOrder 139 = .ok (.iconst 1, 1) := by decide +kernel
theorem dX1_takeOrder_140 : decode cX1_takeOrder 140 = .ok (.iadd, 1) := by decide +kernel
theorem dX1_takeOrder_141 : decode cX1_takeOrder 141 = .ok (.iastore, 1) := by decide +kernel
theorem dX1_takeOrder_142 : decode cX1_takeOrder 142 = .ok (.aload_n 0, 1) := by decide +kernel
theorem dX1_takeOrder_143 : decode cX1_takeOrder 143 = .ok (.getfield 24, 3) := by decide +kernel
theorem dX1_takeOrder_146 : decode cX1_takeOrder 146 = .ok (.iload_n 2, 1) := by decide +kernel
theorem dX1_takeOrder_147 : decode cX1_takeOrder 147 = .ok (.dup2, 1) := by decide +kernel
theorem dX1_takeOrder_148 : decode cX1_takeOrder 148 = .ok (.iaload, 1) := by decide +kernel
theorem dX1_takeOrder_149 : decode cX1_takeOrder 149 = .ok (.iconst 1, 1) := by decide +kernel
theorem dX1_takeOrder_150 : decode cX1_takeOrder 150 = .ok (.iadd, 1) := by decide +kernel
theorem dX1_takeOrder_151 : decode cX1_takeOrder 151 = .ok (.iastore, 1) := by decide +kernel
theorem dX1_takeOrder_152 : decode cX1_takeOrder 152 = .ok (.aload_n 0, 1) := by decide +kernel
theorem dX1_takeOrder_153 : decode cX1_takeOrder 153 = .ok (.dup, 1) := by decide +kernel
theorem dX1_takeOrder_154 : decode cX1_takeOrder 154 = .ok (.getfield 43, 3) := by decide +kernel
theorem dX1_takeOrder_157 : decode cX1_takeOrder 157 = .ok (.dup_x1, 1) := by decide +kernel
theorem dX1_takeOrder_158 : decode cX1_takeOrder 158 = .ok (.iconst 1, 1) := by decide +kernel
theorem dX1_takeOrder_159 : decode cX1_takeOrder 159 = .ok (.iadd, 1) := by decide +kernel
theorem dX1_takeOrder_160 : decode cX1_takeOrder 160 = .ok (.putfield 43, 3) := by decide +kernel
theorem dX1_takeOrder_163 : decode cX1_takeOrder 163 = .ok (.ireturn, 1) := by decide +kernel
theorem dX1_finish_0 : decode cX1_finish 0 = .ok (.iload_n 1, 1) := by decide +kernel
theorem dX1_finish_1 : decode cX1_finish 1 = .ok (.bipush 8, 2) := by decide +kernel
theorem dX1_finish_3 : decode cX1_finish 3 = .ok (.imul, 1) := by decide +kernel
theorem dX1_finish_4 : decode cX1_finish 4 = .ok (.istore 4, 2) := by decide +kernel
theorem dX1_finish_6 : decode cX1_finish 6 = .ok (.aload_n 0, 1) := by decide +kernel
theorem dX1_finish_7 : decode cX1_finish 7 = .ok (.getfield 15, 3) := by decide +kernel
theorem dX1_finish_10 : decode cX1_finish 10 = .ok (.iload 4, 2) := by decide +kernel
theorem dX1_finish_12 : decode cX1_finish 12 = .ok (.iconst 3, 1) := by decide +kernel
theorem dX1_finish_13 : decode cX1_finish 13 = .ok (.iadd, 1) := by decide +kernel
theorem dX1_finish_14 : decode cX1_finish 14 = .ok (.iconst 1, 1) := by decide +kernel
theorem dX1_finish_15 : decode cX1_finish 15 = .ok (.iastore, 1) := by decide +kernel
theorem dX1_finish_16 : decode cX1_finish 16 = .ok (.aload_n 0, 1) := by decide +kernel
theorem dX1_finish_17 : decode cX1_finish 17 = .ok (.getfield 15, 3) := by decide +kernel
theorem dX1_finish_20 : decode cX1_finish 20 = .ok (.iload 4, 2) := by decide +kernel
theorem dX1_finish_22 : decode cX1_finish 22 = .ok (.iconst 5, 1) := by decide +kernel
theorem dX1_finish_23 : decode cX1_finish 23 = .ok (.iadd, 1) := by decide +kernel
theorem dX1_finish_24 : decode cX1_finish 24 = .ok (.aload_n 0, 1) := by decide +kernel
theorem dX1_finish_25 : decode cX1_finish 25 = .ok (.getfield 36, 3) := by decide +kernel
theorem dX1_finish_28 : decode cX1_finish 28 = .ok (.iastore, 1) := by decide +kernel
theorem dX1_finish_29 : decode cX1_finish 29 = .ok (.aload_n 0, 1) := by decide +kernel
theorem dX1_finish_30 : decode cX1_finish 30 = .ok (.getfield 15, 3) := by decide +kernel
theorem dX1_finish_33 : decode cX1_finish 33 = .ok (.iload 4, 2) := by decide +kernel
theorem dX1_finish_35 : decode cX1_finish 35 = .ok (.bipush 6, 2) := by decide +kernel
theorem dX1_finish_37 : decode cX1_finish 37 = .ok (.iadd, 1) := by decide +kernel
theorem dX1_finish_38 : decode cX1_finish 38 = .ok (.iload_n 2, 1) := by decide +kernel
theorem dX1_finish_39 : decode cX1_finish 39 = .ok (.iastore, 1) := by decide +kernel
theorem dX1_finish_40 : decode cX1_finish 40 = .ok (.aload_n 0, 1) := by decide +kernel
theorem dX1_finish_41 : decode cX1_finish 41 = .ok (.getfield 15, 3) := by decide +kernel
theorem dX1_finish_44 : decode cX1_finish 44 = .ok (.iload 4, 2) := by decide +kernel
theorem dX1_finish_46 : decode cX1_finish 46 = .ok (.bipush 7, 2) := by decide +kernel
theorem dX1_finish_48 : decode cX1_finish 48 = .ok (.iadd, 1) := by decide +kernel
theorem dX1_finish_49 : decode cX1_finish 49 = .ok (.iload_n 3, 1) := by decide +kernel
theorem dX1_finish_50 : decode cX1_finish 50 = .ok (.iastore, 1) := by decide +kernel
theorem dX1_finish_51 : decode cX1_finish 51 = .ok (.aload_n 0, 1) := by decide +kernel
theorem dX1_finish_52 : decode cX1_finish 52 = .ok (.dup, 1) := by decide +kernel
theorem dX1_finish_53 : decode cX1_finish 53 = .ok (.getfield 46, 3) := by decide +kernel
theorem dX1_finish_56 : decode cX1_finish 56 = .ok (.iconst 1, 1) := by decide +kernel
theorem dX1_finish_57 : decode cX1_finish 57 = .ok (.isub, 1) := by decide +kernel
theorem dX1_finish_58 : decode cX1_finish 58 = .ok (.putfield 46, 3) := by decide +kernel
theorem dX1_finish_61 : decode cX1_finish 61 = .ok (.aload_n 0, 1) := by decide +kernel
theorem dX1_finish_62 : decode cX1_finish 62 = .ok (.getfield 21, 3) := by decide +kernel
theorem dX1_finish_65 : decode cX1_finish 65 = .ok (.aload_n 0, 1) := by decide +kernel
theorem dX1_finish_66 : decode cX1_finish 66 = .ok (.getfield 15, 3) := by decide +kernel
theorem dX1_finish_69 : decode cX1_finish 69 = .ok (.iload 4, 2) := by decide +kernel
theorem dX1_finish_71 : decode cX1_finish 71 = .ok (.iconst 1, 1) := by decide +kernel
theorem dX1_finish_72 : decode cX1_finish 72 = .ok (.iadd, 1) := by decide +kernel
theorem dX1_finish_73 : decode cX1_finish 73 = .ok (.iaload, 1) := by decide +kernel
theorem dX1_finish_74 : decode cX1_finish 74 = .ok (.bipush 12, 2) := by decide +kernel
theorem dX1_finish_76 : decode cX1_finish 76 = .ok (.imul, 1) := by decide +kernel
theorem dX1_finish_77 : decode cX1_finish 77 = .ok (.aload_n 0, 1) := by decide +kernel
theorem dX1_finish_78 : decode cX1_finish 78 = .ok (.getfield 15, 3) := by decide +kernel
theorem dX1_finish_81 : decode cX1_finish 81 = .ok (.iload 4, 2) := by decide +kernel
theorem dX1_finish_83 : decode cX1_finish 83 = .ok (.iconst 2, 1) := by decide +kernel
theorem dX1_finish_84 : decode cX1_finish 84 = .ok (.iadd, 1) := by decide +kernel
theorem dX1_finish_85 : decode cX1_finish 85 = .ok (.iaload, 1) := by decide +kernel
theorem dX1_finish_86 : decode cX1_finish 86 = .ok (.iadd, 1) := by decide +kernel
theorem dX1_finish_87 : decode cX1_finish 87 = .ok (.dup2, 1) := by decide +kernel
theorem dX1_finish_88 : decode cX1_finish 88 = .ok (.iaload, 1) := by decide +kernel
theorem dX1_finish_89 : decode cX1_finish 89 = .ok (.iconst 1, 1) := by decide +kernel
theorem dX1_finish_90 : decode cX1_finish 90 = .ok (.isub, 1) := by decide +kernel
theorem dX1_finish_91 : decode cX1_finish 91 = .ok (.iastore, 1) := by decide +kernel
theorem dX1_finish_92 : decode cX1_finish 92 = .ok (.aload_n 0, 1) := by decide +kernel
theorem dX1_finish_93 : decode cX1_finish 93 = .ok (.getfield 24, 3) := by decide +kernel
theorem dX1_finish_96 : decode cX1_finish 96 = .ok (.aload_n 0, 1) := by decide +kernel
theorem dX1_finish_97 : decode cX1_finish 97 = .ok (.getfield 15, 3) := by decide +kernel
theorem dX1_finish_100 : decode cX1_finish 100 = .ok (.iload 4, 2) := by decide +kernel
theorem dX1_finish_102 : decode cX1_finish 102 = .ok (.iconst 1, 1) := by decide +kernel
theorem dX1_finish_103 : decode cX1_finish 103 = .ok (.iadd, 1) := by decide +kernel
theorem dX1_finish_104 : decode cX1_finish 104 = .ok (.iaload, 1) := by decide +kernel
theorem dX1_finish_105 : decode cX1_finish 105 = .ok (.dup2, 1) := by decide +kernel
theorem dX1_finish_106 : decode cX1_finish 106 = .ok (.iaload, 1) := by decide +kernel
theorem dX1_finish_107 : decode cX1_finish 107 = .ok (.iconst 1, 1) := by decide +kernel
theorem dX1_finish_108 : decode cX1_finish 108 = .ok (.isub, 1) := by decide +kernel
theorem dX1_finish_109 : decode cX1_finish 109 = .ok (.iastore, 1) := by decide +kernel
theorem dX1_finish_110 : decode cX1_finish 110 = .ok (.return_, 1) := by decide +kernel
theorem dX1_firstWaiting_0 : decode cX1_firstWaiting 0 = .ok (.iconst 0, 1) := by decide +kernel
theorem dX1_firstWaiting_1 : decode cX1_firstWaiting 1 = .ok (.istore 4, 2) := by decide +kernel
theorem dX1_firstWaiting_3 : decode cX1_firstWaiting 3 = .ok (.iload 4, 2) := by decide +kernel
theorem dX1_firstWaiting_5 : decode cX1_firstWaiting 5 = .ok (.aload_n 0, 1) := by decide +kernel
theorem dX1_firstWaiting_6 : decode cX1_firstWaiting 6 = .ok (.getfield 43, 3) := by decide +kernel
theorem dX1_firstWaiting_9 : decode cX1_firstWaiting 9 = .ok (.if_icmp .ge 70, 3) := by decide +kernel
theorem dX1_firstWaiting_12 : decode cX1_firstWaiting 12 = .ok (.iload 4, 2) := by decide +kernel
theorem dX1_firstWaiting_14 : decode cX1_firstWaiting 14 = .ok (.bipush 8, 2) := by decide +kernel
theorem dX1_firstWaiting_16 : decode cX1_firstWaiting 16 = .ok (.imul, 1) := by decide +kernel
theorem dX1_firstWaiting_17 : decode cX1_firstWaiting 17 = .ok (.istore 5, 2) := by decide +kernel
theorem dX1_firstWaiting_19 : decode cX1_firstWaiting 19 = .ok (.aload_n 0, 1) := by decide +kernel
theorem dX1_firstWaiting_20 : decode cX1_firstWaiting 20 = .ok (.getfield 15, 3) := by decide +kernel
theorem dX1_firstWaiting_23 : decode cX1_firstWaiting 23 = .ok (.iload 5, 2) := by decide +kernel
theorem dX1_firstWaiting_25 : decode cX1_firstWaiting 25 = .ok (.iconst 3, 1) := by decide +kernel
theorem dX1_firstWaiting_26 : decode cX1_firstWaiting 26 = .ok (.iadd, 1) := by decide +kernel
theorem dX1_firstWaiting_27 : decode cX1_firstWaiting 27 = .ok (.iaload, 1) := by decide +kernel
theorem dX1_firstWaiting_28 : decode cX1_firstWaiting 28 = .ok (.ifCond .ne 45, 3) := by decide +kernel
theorem dX1_firstWaiting_31 : decode cX1_firstWaiting 31 = .ok (.aload_n 0, 1) := by decide +kernel
theorem dX1_firstWaiting_32 : decode cX1_firstWaiting 32 = .ok (.getfield 15, 3) := by decide +kernel
theorem dX1_firstWaiting_35 : decode cX1_firstWaiting 35 = .ok (.iload 5, 2) := by decide +kernel
theorem dX1_firstWaiting_37 : decode cX1_firstWaiting 37 = .ok (.iconst 0, 1) := by decide +kernel
theorem dX1_firstWaiting_38 : decode cX1_firstWaiting 38 = .ok (.iadd, 1) := by decide +kernel
theorem dX1_firstWaiting_39 : decode cX1_firstWaiting 39 = .ok (.iaload, 1) := by decide +kernel
theorem dX1_firstWaiting_40 : decode cX1_firstWaiting 40 = .ok (.iload_n 1, 1) := by decide +kernel
theorem dX1_firstWaiting_41 : decode cX1_firstWaiting 41 = .ok (.if_icmp .ne 32, 3) := by decide +kernel
theorem dX1_firstWaiting_44 : decode cX1_firstWaiting 44 = .ok (.aload_n 0, 1) := by decide +kernel
theorem dX1_firstWaiting_45 : decode cX1_firstWaiting 45 = .ok (.getfield 15, 3) := by decide +kernel
theorem dX1_firstWaiting_48 : decode cX1_firstWaiting 48 = .ok (.iload 5, 2) := by decide +kernel
theorem dX1_firstWaiting_50 : decode cX1_firstWaiting 50 = .ok (.iconst 1, 1) := by decide +kernel
theorem dX1_firstWaiting_51 : decode cX1_firstWaiting 51 = .ok (.iadd, 1) := by decide +kernel
theorem dX1_firstWaiting_52 : decode cX1_firstWaiting 52 = .ok (.iaload, 1) := by decide +kernel
theorem dX1_firstWaiting_53 : decode cX1_firstWaiting 53 = .ok (.iload_n 2, 1) := by decide +kernel
theorem dX1_firstWaiting_54 : decode cX1_firstWaiting 54 = .ok (.if_icmp .ne 19, 3) := by decide +kernel
theorem dX1_firstWaiting_57 : decode cX1_firstWaiting 57 = .ok (.aload_n 0, 1) := by decide +kernel
theorem dX1_firstWaiting_58 : decode cX1_firstWaiting 58 = .ok (.getfield 15, 3) := by decide +kernel
theorem dX1_firstWaiting_61 : decode cX1_firstWaiting 61 = .ok (.iload 5, 2) := by decide +kernel
theorem dX1_firstWaiting_63 : decode cX1_firstWaiting 63 = .ok (.iconst 2, 1) := by decide +kernel
theorem dX1_firstWaiting_64 : decode cX1_firstWaiting 64 = .ok (.iadd, 1) := by decide +kernel
theorem dX1_firstWaiting_65 : decode cX1_firstWaiting 65 = .ok (.iaload, 1) := by decide +kernel
theorem dX1_firstWaiting_66 : decode cX1_firstWaiting 66 = .ok (.iload_n 3, 1) := by decide +kernel
theorem dX1_firstWaiting_67 : decode cX1_firstWaiting 67 = .ok (.if_icmp .ne 6, 3) := by decide +kernel
theorem dX1_firstWaiting_70 : decode cX1_firstWaiting 70 = .ok (.iload 4, 2) := by decide +kernel
theorem dX1_firstWaiting_72 : decode cX1_firstWaiting 72 = .ok (.ireturn, 1) := by decide +kernel
theorem dX1_firstWaiting_73 : decode cX1_firstWaiting 73 = .ok (.iinc 4 1, 3) := by decide +kernel
theorem dX1_firstWaiting_76 : decode cX1_firstWaiting 76 = .ok (.goto (-73), 3) := by decide +kernel
theorem dX1_firstWaiting_79 : decode cX1_firstWaiting 79 = .ok (.bipush (-9), 2) := by decide +kernel
theorem dX1_firstWaiting_81 : decode cX1_firstWaiting 81 = .ok (.ireturn, 1) := by decide +kernel
set_option maxRecDepth 20000 in
theorem ggX1_letPass_X1_doTick : GoodIn wsX1_letPass wsX1_doTick := goodIn_r _ [7, 8, 9, 1, 10, 11, 12, 6, 13, 14, 15, 16, 17, 18, 19, 20, 21, 22, 23, 24, 25, 26, 27, 28, 29, 30, 31, 32, 33, 34, 35, 36, 37, 38, 39, 40, 41, 42, 43, 44, 45, 46, 47, 48, 49, 50, 51, 52, 53, 54, 55, 56, 57, 58, 59, 60, 61, 62, 63, 64, 65, 66, 67, 68, 2, 69, 70, 71, 72, 73, 74, 75, 76, 77, 78, 79, 80, 81, 82, 83, 84] (by decide +kernel) (by decide +kernel)
set_option maxRecDepth 20000 in
theorem gX1_letPass_X1_doTick : GoodIn wsX1_letPass (wsV RX1 88 RX1 yX1_doTick wsX1_doTick) := goodIn_app (goodIn_of _ (by decide +kernel)) ggX1_letPass_X1_doTick
theorem dX1_letPass_0 : decode cX1_letPass 0 = .ok (.iload_n 1, 1) := by decide +kernel
theorem dX1_letPass_1 : decode cX1_letPass 1 = .ok (.iconst 1, 1) := by decide +kernel
theorem dX1_letPass_2 : decode cX1_letPass 2 = .ok (.if_icmp .lt 10, 3) := by decide +kernel
theorem dX1_letPass_5 : decode cX1_letPass 5 = .ok (.iload_n 1, 1) := by decide +kernel
theorem dX1_letPass_6 : decode cX1_letPass 6 = .ok (.sipush 200, 3) := by decide +kernel
theorem dX1_letPass_9 : decode cX1_letPass 9 = .ok (.if_icmp .le 5, 3) := by decide +kernel
theorem dX1_letPass_12 : decode cX1_letPass 12 = .ok (.iconst (-1), 1) := by decide +kernel
theorem dX1_letPass_13 : decode cX1_letPass 13 = .ok (.ireturn, 1) := by decide +kernel
theorem dX1_letPass_14 : decode cX1_letPass 14 = .ok (.aload_n 0, 1) := by decide +kernel
theorem dX1_letPass_15 : decode cX1_letPass 15 = .ok (.getfield 36, 3) := by decide +kernel
theorem dX1_letPass_18 : decode cX1_letPass 18 = .ok (.iload_n 1, 1) := by decide +kernel
theorem dX1_letPass_19 : decode cX1_letPass 19 = .ok (.iadd, 1) := by decide +kernel
theorem dX1_letPass_20 : decode cX1_letPass 20 = .ok (.sipush 20000, 3) := by decide +kernel
theorem dX1_letPass_23 : decode cX1_letPass 23 = .ok (.if_icmp .le 6, 3) := by decide +kernel
theorem dX1_letPass_26 : decode cX1_letPass 26 = .ok (.bipush (-2), 2) := by decide +kernel
theorem dX1_letPass_28 : decode cX1_letPass 28 = .ok (.ireturn, 1) := by decide +kernel
theorem dX1_letPass_29 : decode cX1_letPass 29 = .ok (.aload_n 0, 1) := by decide +kernel
theorem dX1_letPass_30 : decode cX1_letPass 30 = .ok (.getfield 46, 3) := by decide +kernel
theorem dX1_letPass_33 : decode cX1_letPass 33 = .ok (.istore_n 2, 1) := by decide +kernel
theorem dX1_letPass_34 : decode cX1_letPass 34 = .ok (.iconst 0, 1) := by decide +kernel
theorem dX1_letPass_35 : decode cX1_letPass 35 = .ok (.istore_n 3, 1) := by decide +kernel
theorem dX1_letPass_36 : decode cX1_letPass 36 = .ok (.iload_n 3, 1) := by decide +kernel
theorem dX1_letPass_37 : decode cX1_letPass 37 = .ok (.iload_n 1, 1) := by decide +kernel
theorem dX1_letPass_38 : decode cX1_letPass 38 = .ok (.if_icmp .ge 13, 3) := by decide +kernel
theorem dX1_letPass_41 : decode cX1_letPass 41 = .ok (.aload_n 0, 1) := by decide +kernel
theorem dX1_letPass_42 : decode cX1_letPass 42 = .ok (.invokevirtual 88, 3) := by decide +kernel
theorem dX1_letPass_45 : decode cX1_letPass 45 = .ok (.iinc 3 1, 3) := by decide +kernel
theorem dX1_letPass_48 : decode cX1_letPass 48 = .ok (.goto (-12), 3) := by decide +kernel
theorem dX1_letPass_51 : decode cX1_letPass 51 = .ok (.iload_n 2, 1) := by decide +kernel
theorem dX1_letPass_52 : decode cX1_letPass 52 = .ok (.aload_n 0, 1) := by decide +kernel
theorem dX1_letPass_53 : decode cX1_letPass 53 = .ok (.getfield 46, 3) := by decide +kernel
theorem dX1_letPass_56 : decode cX1_letPass 56 = .ok (.isub, 1) := by decide +kernel
theorem dX1_letPass_57 : decode cX1_letPass 57 = .ok (.ireturn, 1) := by decide +kernel
set_option maxRecDepth 20000 in
theorem ggX1_doTick_X1_forgetWritten : GoodIn wsX1_doTick wsX1_forgetWritten := goodIn_r _ [8, 9, 70, 71, 72, 73, 74, 75, 76, 77, 78, 79, 80] (by decide +kernel) (by decide +kernel)
set_option maxRecDepth 20000 in
theorem gX1_doTick_X1_forgetWritten : GoodIn wsX1_doTick (wsV RX1 27 RX1 yX1_forgetWritten wsX1_forgetWritten) := goodIn_app (goodIn_of _ (by decide +kernel)) ggX1_doTick_X1_forgetWritten
set_option maxRecDepth 20000 in
theorem ggX1_doTick_X1_useHead : GoodIn wsX1_doTick wsX1_useHead := goodIn_r _ [13, 2, 14, 9, 15, 16, 17, 18, 7, 19, 3, 20, 21, 22, 23, 24, 25, 26, 27, 28, 29, 30, 31, 32, 33, 34, 35, 36, 37, 38, 39, 40, 41, 1, 42, 43, 44, 45, 46, 47, 48, 49, 50, 51, 52, 53, 54, 55, 56, 57, 58, 59, 60, 61, 62, 63, 64, 70, 71, 72, 73, 74, 75, 76, 77, 78, 79, 80] (by decide +kernel) (by decide +kernel)
set_option maxRecDepth 20000 in
theorem gX1_doTick_X1_useHead : GoodIn wsX1_doTick (wsV RX1 91 RX1 yX1_useHead wsX1_useHead) := goodIn_app (goodIn_of _ (by decide +kernel)) ggX1_doTick_X1_useHead
set_option maxRecDepth 20000 in
theorem ggX1_doTick_X1_moveArm : GoodIn wsX1_doTick wsX1_moveArm := goodIn_r _ [68, 2, 1, 69, 70, 71, 72, 73, 74, 75, 76, 77, 78, 79, 80] (by decide +kernel) (by decide +kernel)
set_option maxRecDepth 20000 in
theorem gX1_doTick_X1_moveArm : GoodIn wsX1_doTick (wsV RX1 95 RX1 yX1_moveArm wsX1_moveArm) := goodIn_app (goodIn_of _ (by decide +kernel)) ggX1_doTick_X1_moveArm
theorem dX1_doTick_0 : decode cX1_doTick 0 = .ok (.aload_n 0, 1) := by decide +kernel
theorem dX1_doTick_1 : decode cX1_doTick 1 = .ok (.invokevirtual 27, 3) := by decide +kernel
theorem dX1_doTick_4 : decode cX1_doTick 4 = .ok (.aload_n 0, 1) := by decide +kernel
theorem dX1_doTick_5 : decode cX1_doTick 5 = .ok (.getfield 24, 3) := by decide +kernel
theorem dX1_doTick_8 : decode cX1_doTick 8 = .ok (.aload_n 0, 1) := by decide +kernel
theorem dX1_doTick_9 : decode cX1_doTick 9 = .ok (.getfield 40, 3) := by decide +kernel
theorem dX1_doTick_12 : decode cX1_doTick 12 = .ok (.iaload, 1) := by decide +kernel
theorem dX1_doTick_13 : decode cX1_doTick 13 = .ok (.ifCond .le 16, 3) := by decide +kernel
theorem dX1_doTick_16 : decode cX1_doTick 16 = .ok (.aload_n 0, 1) := by decide +kernel
theorem dX1_doTick_17 : decode cX1_doTick 17 = .ok (.iconst 0, 1) := by decide +kernel
theorem dX1_doTick_18 : decode cX1_doTick 18 = .ok (.invokevirtual 91, 3) := by decide +kernel
theorem dX1_doTick_21 : decode cX1_doTick 21 = .ok (.aload_n 0, 1) := by decide +kernel
theorem dX1_doTick_22 : decode cX1_doTick 22 = .ok (.iconst 1, 1) := by decide +kernel
theorem dX1_doTick_23 : decode cX1_doTick 23 = .ok (.invokevirtual 91, 3) := by decide +kernel
theorem dX1_doTick_26 : decode cX1_doTick 26 = .ok (.goto 7, 3) := by decide +kernel
theorem dX1_doTick_29 : decode cX1_doTick 29 = .ok (.aload_n 0, 1) := by decide +kernel
theorem dX1_doTick_30 : decode cX1_doTick 30 = .ok (.invokevirtual 95, 3) := by decide +kernel
theorem dX1_doTick_33 : decode cX1_doTick 33 = .ok (.aload_n 0, 1) := by decide +kernel
theorem dX1_doTick_34 : decode cX1_doTick 34 = .ok (.dup, 1) := by decide +kernel
theorem dX1_doTick_35 : decode cX1_doTick 35 = .ok (.getfield 36, 3) := by decide +kernel
theorem dX1_doTick_38 : decode cX1_doTick 38 = .ok (.iconst 1, 1) := by decide +kernel
theorem dX1_doTick_39 : decode cX1_doTick 39 = .ok (.iadd, 1) := by decide +kernel
theorem dX1_doTick_40 : decode cX1_doTick 40 = .ok (.putfield 36, 3) := by decide +kernel
theorem dX1_doTick_43 : decode cX1_doTick 43 = .ok (.return_, 1) := by decide +kernel
theorem dX1_moveArm_0 : decode cX1_moveArm 0 = .ok (.iconst 1, 1) := by decide +kernel
theorem dX1_moveArm_1 : decode cX1_moveArm 1 = .ok (.istore_n 1, 1) := by decide +kernel
theorem dX1_moveArm_2 : decode cX1_moveArm 2 = .ok (.iload_n 1, 1) := by decide +kernel
theorem dX1_moveArm_3 : decode cX1_moveArm 3 = .ok (.iconst 4, 1) := by decide +kernel
theorem dX1_moveArm_4 : decode cX1_moveArm 4 = .ok (.if_icmp .ge 98, 3) := by decide +kernel
theorem dX1_moveArm_7 : decode cX1_moveArm 7 = .ok (.aload_n 0, 1) := by decide +kernel
theorem dX1_moveArm_8 : decode cX1_moveArm 8 = .ok (.getfield 40, 3) := by decide +kernel
theorem dX1_moveArm_11 : decode cX1_moveArm 11 = .ok (.iload_n 1, 1) := by decide +kernel
theorem dX1_moveArm_12 : decode cX1_moveArm 12 = .ok (.isub, 1) := by decide +kernel
theorem dX1_moveArm_13 : decode cX1_moveArm 13 = .ok (.ifCond .lt 38, 3) := by decide +kernel
theorem dX1_moveArm_16 : decode cX1_moveArm 16 = .ok (.aload_n 0, 1) := by decide +kernel
theorem dX1_moveArm_17 : decode cX1_moveArm 17 = .ok (.getfield 24, 3) := by decide +kernel
theorem dX1_moveArm_20 : decode cX1_moveArm 20 = .ok (.aload_n 0, 1) := by decide +kernel
theorem dX1_moveArm_21 : decode cX1_moveArm 21 = .ok (.getfield 40, 3) := by decide +kernel
theorem dX1_moveArm_24 : decode cX1_moveArm 24 = .ok (.iload_n 1, 1) := by decide +kernel
theorem dX1_moveArm_25 : decode cX1_moveArm 25 = .ok (.isub, 1) := by decide +kernel
theorem dX1_moveArm_26 : decode cX1_moveArm 26 = .ok (.iaload, 1) := by decide +kernel
theorem dX1_moveArm_27 : decode cX1_moveArm 27 = .ok (.ifCond .le 24, 3) := by decide +kernel
theorem dX1_moveArm_30 : decode cX1_moveArm 30 = .ok (.aload_n 0, 1) := by decide +kernel
theorem dX1_moveArm_31 : decode cX1_moveArm 31 = .ok (.dup, 1) := by decide +kernel
theorem dX1_moveArm_32 : decode cX1_moveArm 32 = .ok (.getfield 40, 3) := by decide +kernel
theorem dX1_moveArm_35 : decode cX1_moveArm 35 = .ok (.iconst 1, 1) := by decide +kernel
theorem dX1_moveArm_36 : decode cX1_moveArm 36 = .ok (.isub, 1) := by decide +kernel
theorem dX1_moveArm_37 : decode cX1_moveArm 37 = .ok (.putfield 40, 3) := by decide +kernel
theorem dX1_moveArm_40 : decode cX1_moveArm 40 = .ok (.aload_n 0, 1) := by decide +kernel
theorem dX1_moveArm_41 : decode cX1_moveArm 41 = .ok (.dup, 1) := by decide +kernel
theorem dX1_moveArm_42 : decode cX1_moveArm 42 = .ok (.getfield 52, 3) := by decide +kernel
theorem dX1_moveArm_45 : decode cX1_moveArm 45 = .ok (.iconst 1, 1) := by decide +kernel
theorem dX1_moveArm_46 : decode cX1_moveArm 46 = .ok (.iadd, 1) := by decide +kernel
theorem dX1_moveArm_47 : decode cX1_moveArm 47 = .ok (.putfield 52, 3) := by decide +kernel
theorem dX1_moveArm_50 : decode cX1_moveArm 50 = .ok (.return_, 1) := by decide +kernel
theorem dX1_moveArm_51 : decode cX1_moveArm 51 = .ok (.aload_n 0, 1) := by decide +kernel
theorem dX1_moveArm_52 : decode cX1_moveArm 52 = .ok (.getfield 40, 3) := by decide +kernel
theorem dX1_moveArm_55 : decode cX1_moveArm 55 = .ok (.iload_n 1, 1) := by decide +kernel
theorem dX1_moveArm_56 : decode cX1_moveArm 56 = .ok (.iadd, 1) := by decide +kernel
theorem dX1_moveArm_57 : decode cX1_moveArm 57 = .ok (.iconst 4, 1) := by decide +kernel
theorem dX1_moveArm_58 : decode cX1_moveArm 58 = .ok (.if_icmp .ge 38, 3) := by decide +kernel
theorem dX1_moveArm_61 : decode cX1_moveArm 61 = .ok (.aload_n 0, 1) := by decide +kernel
theorem dX1_moveArm_62 : decode cX1_moveArm 62 = .ok (.getfield 24, 3) := by decide +kernel
theorem dX1_moveArm_65 : decode cX1_moveArm 65 = .ok (.aload_n 0, 1) := by decide +kernel
theorem dX1_moveArm_66 : decode cX1_moveArm 66 = .ok (.getfield 40, 3) := by decide +kernel
theorem dX1_moveArm_69 : decode cX1_moveArm 69 = .ok (.iload_n 1, 1) := by decide +kernel
theorem dX1_moveArm_70 : decode cX1_moveArm 70 = .ok (.iadd, 1) := by decide +kernel
theorem dX1_moveArm_71 : decode cX1_moveArm 71 = .ok (.iaload, 1) := by decide +kernel
theorem dX1_moveArm_72 : decode cX1_moveArm 72 = .ok (.ifCond .le 24, 3) := by decide +kernel
theorem dX1_moveArm_75 : decode cX1_moveArm 75 = .ok (.aload_n 0, 1) := by decide +kernel
theorem dX1_moveArm_76 : decode cX1_moveArm 76 = .ok (.dup, 1) := by decide +kernel
theorem dX1_moveArm_77 : decode cX1_moveArm 77 = .ok (.getfield 40, 3) := by decide +kernel
theorem dX1_moveArm_80 : decode cX1_moveArm 80 = .ok (.iconst 1, 1) := by decide +kernel
theorem dX1_moveArm_81 : decode cX1_moveArm 81 = .ok (.iadd, 1) := by decide +kernel
theorem dX1_moveArm_82 : decode cX1_moveArm 82 = .ok (.putfield 40, 3) := by decide +kernel
theorem dX1_moveArm_85 : decode cX1_moveArm 85 = .ok (.aload_n 0, 1) := by decide +kernel
theorem dX1_moveArm_86 : decode cX1_moveArm 86 = .ok (.dup, 1) := by decide +kernel
theorem dX1_moveArm_87 : decode cX1_moveArm 87 = .ok (.getfield 52, 3) := by decide +kernel
theorem dX1_moveArm_90 : decode cX1_moveArm 90 = .ok (.iconst 1, 1) := by decide +kernel
theorem dX1_moveArm_91 : decode cX1_moveArm 91 = .ok (.iadd, 1) := by decide +kernel
theorem dX1_moveArm_92 : decode cX1_moveArm 92 = .ok (.putfield 52, 3) := by decide +kernel
theorem dX1_moveArm_95 : decode cX1_moveArm 95 = .ok (.return_, 1) := by decide +kernel
theorem dX1_moveArm_96 : decode cX1_moveArm 96 = .ok (.iinc 1 1, 3) := by decide +kernel
theorem dX1_moveArm_99 : decode cX1_moveArm 99 = .ok (.goto (-97), 3) := by decide +kernel
theorem dX1_moveArm_102 : decode cX1_moveArm 102 = .ok (.return_, 1) := by decide +kernel
set_option maxRecDepth 20000 in
theorem ggX1_useHead_X1_sectorUnder : GoodIn wsX1_useHead wsX1_sectorUnder := goodIn_r _ [9, 10, 11, 12, 13, 14, 57, 58, 59, 60, 61, 62, 63, 64, 65, 66, 67] (by decide +kernel) (by decide +kernel)
set_option maxRecDepth 20000 in
theorem gX1_useHead_X1_sectorUnder : GoodIn wsX1_useHead (wsV RX1 61 RX1 yX1_sectorUnder wsX1_sectorUnder) := goodIn_app (goodIn_of _ (by decide +kernel)) ggX1_useHead_X1_sectorUnder
set_option maxRecDepth 20000 in
theorem ggX1_useHead_X1_blockAt : GoodIn wsX1_useHead wsX1_blockAt := goodIn_r _ [17] (by decide +kernel) (by decide +kernel)
set_option maxRecDepth 20000 in
theorem gX1_useHead_X1_blockAt : GoodIn wsX1_useHead (va_wsS RX1 68 yX1_blockAt wsX1_blockAt) := goodIn_app (goodIn_of _ (by decide +kernel)) ggX1_useHead_X1_blockAt
set_option maxRecDepth 20000 in
theorem ggX1_useHead_X1_cellOf : GoodIn wsX1_useHead wsX1_cellOf := goodIn_r _ [20] (by decide +kernel) (by decide +kernel)
set_option maxRecDepth 20000 in
theorem gX1_useHead_X1_cellOf : GoodIn wsX1_useHead (va_wsS RX1 71 yX1_cellOf wsX1_cellOf) := goodIn_app (goodIn_of _ (by decide +kernel)) ggX1_useHead_X1_cellOf
set_option maxRecDepth 20000 in
theorem ggX1_useHead_X1_takeOver : GoodIn wsX1_useHead wsX1_takeOver := goodIn_r _ [24, 2, 25, 26, 27, 8, 28, 57, 58, 59, 60, 61, 62, 63, 64, 65, 66, 67] (by decide +kernel) (by decide +kernel)
set_option maxRecDepth 20000 in
theorem gX1_useHead_X1_takeOver : GoodIn wsX1_useHead (wsV RX1 98 RX1 yX1_takeOver wsX1_takeOver) := goodIn_app (goodIn_of _ (by decide +kernel)) ggX1_useHead_X1_takeOver
set_option maxRecDepth 20000 in
theorem ggX1_useHead_X1_setLate : GoodIn wsX1_useHead wsX1_setLate := goodIn_r _ [32, 33, 1, 2, 57, 58, 59, 60, 61, 62, 63, 64, 65, 66, 67] (by decide +kernel) (by decide +kernel)
set_option maxRecDepth 20000 in
theorem gX1_useHead_X1_setLate : GoodIn wsX1_useHead (wsV RX1 102 RX1 yX1_setLate wsX1_setLate) := goodIn_app (goodIn_of _ (by decide +kernel)) ggX1_useHead_X1_setLate
set_option maxRecDepth 20000 in
theorem ggX1_useHead_X1_firstWaiting : GoodIn wsX1_useHead wsX1_firstWaiting := goodIn_r _ [37, 38, 39, 57, 58, 59, 60, 61, 62, 63, 64, 65, 66, 67] (by decide +kernel) (by decide +kernel)
set_option maxRecDepth 20000 in
theorem gX1_useHead_X1_firstWaiting : GoodIn wsX1_useHead (wsV RX1 105 RX1 yX1_firstWaiting wsX1_firstWaiting) := goodIn_app (goodIn_of _ (by decide +kernel)) ggX1_useHead_X1_firstWaiting
set_option maxRecDepth 20000 in
theorem ggX1_useHead_X1_doWrite : GoodIn wsX1_useHead wsX1_doWrite := goodIn_r _ [43, 2, 44, 45, 46, 47, 3, 48, 49, 50, 8, 51, 39, 25, 26, 27, 28, 29, 30, 31, 32, 33, 1, 52, 53, 54, 55, 10, 56, 4, 57, 58, 59, 60, 61, 62, 63, 64, 65, 66, 67] (by decide +kernel) (by decide +kernel)
set_option maxRecDepth 20000 in
theorem gX1_useHead_X1_doWrite : GoodIn wsX1_useHead (wsV RX1 109 RX1 yX1_doWrite wsX1_doWrite) := goodIn_app (goodIn_of _ (by decide +kernel)) ggX1_useHead_X1_doWrite
set_option maxRecDepth 20000 in
theorem ggX1_useHead_X1_finish : GoodIn wsX1_useHead wsX1_finish := goodIn_r _ [55, 39, 10, 56, 4, 33, 57, 58, 59, 60, 61, 62, 63, 64, 65, 66, 67] (by decide +kernel) (by decide +kernel)
set_option maxRecDepth 20000 in
theorem gX1_useHead_X1_finish : GoodIn wsX1_useHead (wsV RX1 113 RX1 yX1_finish wsX1_finish) := goodIn_app (goodIn_of _ (by decide +kernel)) ggX1_useHead_X1_finish
theorem dX1_useHead_0 : decode cX1_useHead 0 = .ok (.aload_n 0, 1) := by decide +kernel
theorem dX1_useHead_1 : decode cX1_useHead 1 = .ok (.iload_n 1, 1) := by decide +kernel
theorem dX1_useHead_2 : decode cX1_useHead 2 = .ok (.invokevirtual 61, 3) := by decide +kernel
theorem dX1_useHead_5 : decode cX1_useHead 5 = .ok (.istore_n 2, 1) := by decide +kernel
theorem dX1_useHead_6 : decode cX1_useHead 6 = .ok (.aload_n 0, 1) := by decide +kernel
theorem dX1_useHead_7 : decode cX1_useHead 7 = .ok (.getfield 40, 3) := by decide +kernel
theorem dX1_useHead_10 : decode cX1_useHead 10 = .ok (.iload_n 2, 1) := by decide +kernel
theorem dX1_useHead_11 : decode cX1_useHead 11 = .ok (.invokestatic 68, 3) := by decide +kernel
theorem dX1_useHead_14 : decode cX1_useHead 14 = .ok (.istore_n 3, 1) := by decide +kernel
theorem dX1_useHead_15 : decode cX1_useHead 15 = .ok (.iload_n 1, 1) := by decide +kernel
theorem dX1_useHead_16 : decode cX1_useHead 16 = .ok (.iload_n 3, 1) := by decide +kernel
theorem dX1_useHead_17 : decode cX1_useHead 17 = .ok (.invokestatic 71, 3) := by decide +kernel
theorem dX1_useHead_20 : decode cX1_useHead 20 = .ok (.istore 4, 2) := by decide +kernel
theorem dX1_useHead_22 : decode cX1_useHead 22 = .ok (.iconst 1, 1) := by decide +kernel
theorem dX1_useHead_23 : decode cX1_useHead 23 = .ok (.iload_n 1, 1) := by decide +kernel
theorem dX1_useHead_24 : decode cX1_useHead 24 = .ok (.isub, 1) := by decide +kernel
theorem dX1_useHead_25 : decode cX1_useHead 25 = .ok (.iload_n 3, 1) := by decide +kernel
theorem dX1_useHead_26 : decode cX1_useHead 26 = .ok (.invokestatic 71, 3) := by decide +kernel
theorem dX1_useHead_29 : decode cX1_useHead 29 = .ok (.istore 5, 2) := by decide +kernel
theorem dX1_useHead_31 : decode cX1_useHead 31 = .ok (.aload_n 0, 1) := by decide +kernel
theorem dX1_useHead_32 : decode cX1_useHead 32 = .ok (.getfield 11, 3) := by decide +kernel
theorem dX1_useHead_35 : decode cX1_useHead 35 = .ok (.iload 4, 2) := by decide +kernel
theorem dX1_useHead_37 : decode cX1_useHead 37 = .ok (.iconst 3, 1) := by decide +kernel
theorem dX1_useHead_38 : decode cX1_useHead 38 = .ok (.iadd, 1) := by decide +kernel
theorem dX1_useHead_39 : decode cX1_useHead 39 = .ok (.iaload, 1) := by decide +kernel
theorem dX1_useHead_40 : decode cX1_useHead 40 = .ok (.ifCond .eq 39, 3) := by decide +kernel
theorem dX1_useHead_43 : decode cX1_useHead 43 = .ok (.aload_n 0, 1) := by decide +kernel
theorem dX1_useHead_44 : decode cX1_useHead 44 = .ok (.getfield 11, 3) := by decide +kernel
theorem dX1_useHead_47 : decode cX1_useHead 47 = .ok (.iload 5, 2) := by decide +kernel
theorem dX1_useHead_49 : decode cX1_useHead 49 = .ok (.iconst 2, 1) := by decide +kernel
theorem dX1_useHead_50 : decode cX1_useHead 50 = .ok (.iadd, 1) := by decide +kernel
theorem dX1_useHead_51 : decode cX1_useHead 51 = .ok (.iaload, 1) := by decide +kernel
theorem dX1_useHead_52 : decode cX1_useHead 52 = .ok (.ifCond .ne 27, 3) := by decide +kernel
theorem dX1_useHead_55 : decode cX1_useHead 55 = .ok (.aload_n 0, 1) := by decide +kernel
theorem dX1_useHead_56 : decode cX1_useHead 56 = .ok (.iload 4, 2) := by decide +kernel
theorem dX1_useHead_58 : decode cX1_useHead 58 = .ok (.iload 5, 2) := by decide +kernel
theorem dX1_useHead_60 : decode cX1_useHead 60 = .ok (.invokevirtual 98, 3) := by decide +kernel
theorem dX1_useHead_63 : decode cX1_useHead 63 = .ok (.aload_n 0, 1) := by decide +kernel
theorem dX1_useHead_64 : decode cX1_useHead 64 = .ok (.iload 4, 2) := by decide +kernel
theorem dX1_useHead_66 : decode cX1_useHead 66 = .ok (.iconst 0, 1) := by decide +kernel
theorem dX1_useHead_67 : decode cX1_useHead 67 = .ok (.invokevirtual 102, 3) := by decide +kernel
theorem dX1_useHead_70 : decode cX1_useHead 70 = .ok (.aload_n 0, 1) := by decide +kernel
theorem dX1_useHead_71 : decode cX1_useHead 71 = .ok (.getfield 18, 3) := by decide +kernel
theorem dX1_useHead_74 : decode cX1_useHead 74 = .ok (.iload_n 1, 1) := by decide +kernel
theorem dX1_useHead_75 : decode cX1_useHead 75 = .ok (.iload 4, 2) := by decide +kernel
theorem dX1_useHead_77 : decode cX1_useHead 77 = .ok (.iastore, 1) := by decide +kernel
theorem dX1_useHead_78 : decode cX1_useHead 78 = .ok (.return_, 1) := by decide +kernel
theorem dX1_useHead_79 : decode cX1_useHead 79 = .ok (.aload_n 0, 1) := by decide +kernel
theorem dX1_useHead_80 : decode cX1_useHead 80 = .ok (.getfield 21, 3) := by decide +kernel
theorem dX1_useHead_83 : decode cX1_useHead 83 = .ok (.iload_n 3, 1) := by decide +kernel
theorem dX1_useHead_84 : decode cX1_useHead 84 = .ok (.iaload, 1) := by decide +kernel
theorem dX1_useHead_85 : decode cX1_useHead 85 = .ok (.ifCond .ne 4, 3) := by decide +kernel
theorem dX1_useHead_88 : decode cX1_useHead 88 = .ok (.return_, 1) := by decide +kernel
theorem dX1_useHead_89 : decode cX1_useHead 89 = .ok (.aload_n 0, 1) := by decide +kernel
theorem dX1_useHead_90 : decode cX1_useHead 90 = .ok (.iconst 1, 1) := by decide +kernel
theorem dX1_useHead_91 : decode cX1_useHead 91 = .ok (.aload_n 0, 1) := by decide +kernel
theorem dX1_useHead_92 : decode cX1_useHead 92 = .ok (.getfield 40, 3) := by decide +kernel
theorem dX1_useHead_95 : decode cX1_useHead 95 = .ok (.iload_n 2, 1) := by decide +kernel
theorem dX1_useHead_96 : decode cX1_useHead 96 = .ok (.invokevirtual 105, 3) := by decide +kernel
theorem dX1_useHead_99 : decode cX1_useHead 99 = .ok (.istore 6, 2) := by decide +kernel
theorem dX1_useHead_101 : decode cX1_useHead 101 = .ok (.iload 6, 2) := by decide +kernel
theorem dX1_useHead_103 : decode cX1_useHead 103 = .ok (.bipush (-9), 2) := by decide +kernel
theorem dX1_useHead_105 : decode cX1_useHead 105 = .ok (.if_icmp .eq 15, 3) := by decide +kernel
theorem dX1_useHead_108 : decode cX1_useHead 108 = .ok (.aload_n 0, 1) := by decide +kernel
theorem dX1_useHead_109 : decode cX1_useHead 109 = .ok (.iload 6, 2) := by decide +kernel
theorem dX1_useHead_111 : decode cX1_useHead 111 = .ok (.iload_n 1, 1) := by decide +kernel
theorem dX1_useHead_112 : decode cX1_useHead 112 = .ok (.iload 4, 2) := by decide +kernel
theorem dX1_useHead_114 : decode cX1_useHead 114 = .ok (.iload 5, 2) := by decide +kernel
theorem dX1_useHead_116 : decode cX1_useHead 116 = .ok (.invokevirtual 109, 3) := by decide +kernel
theorem dX1_useHead_119 : decode cX1_useHead 119 = .ok (.return_, 1) := by decide +kernel
theorem dX1_useHead_120 : decode cX1_useHead 120 = .ok (.aload_n 0, 1) := by decide +kernel
theorem dX1_useHead_121 : decode cX1_useHead 121 = .ok (.iconst 0, 1) := by decide +kernel
theorem dX1_useHead_122 : decode cX1_useHead 122 = .ok (.aload_n 0, 1) := by decide +kernel
theorem dX1_useHead_123 : decode cX1_useHead 123 = .ok (.getfield 40, 3) := by decide +kernel
theorem dX1_useHead_126 : decode cX1_useHead 126 = .ok (.iload_n 2, 1) := by decide +kernel
theorem dX1_useHead_127 : decode cX1_useHead 127 = .ok (.invokevirtual 105, 3) := by decide +kernel
theorem dX1_useHead_130 : decode cX1_useHead 130 = .ok (.istore 7, 2) := by decide +kernel
theorem dX1_useHead_132 : decode cX1_useHead 132 = .ok (.iload 7, 2) := by decide +kernel
theorem dX1_useHead_134 : decode cX1_useHead 134 = .ok (.bipush (-9), 2) := by decide +kernel
theorem dX1_useHead_136 : decode cX1_useHead 136 = .ok (.if_icmp .eq 43, 3) := by decide +kernel
theorem dX1_useHead_139 : decode cX1_useHead 139 = .ok (.aload_n 0, 1) := by decide +kernel
theorem dX1_useHead_140 : decode cX1_useHead 140 = .ok (.getfield 11, 3) := by decide +kernel
theorem dX1_useHead_143 : decode cX1_useHead 143 = .ok (.iload 4, 2) := by decide +kernel
theorem dX1_useHead_145 : decode cX1_useHead 145 = .ok (.iconst 3, 1) := by decide +kernel
theorem dX1_useHead_146 : decode cX1_useHead 146 = .ok (.iadd, 1) := by decide +kernel
theorem dX1_useHead_147 : decode cX1_useHead 147 = .ok (.iaload, 1) := by decide +kernel
theorem dX1_useHead_148 : decode cX1_useHead 148 = .ok (.ifCond .ne 31, 3) := by decide +kernel
theorem dX1_useHead_151 : decode cX1_useHead 151 = .ok (.aload_n 0, 1) := by decide +kernel
theorem dX1_useHead_152 : decode cX1_useHead 152 = .ok (.getfield 11, 3) := by decide +kernel
theorem dX1_useHead_155 : decode cX1_useHead 155 = .ok (.iload 4, 2) := by decide +kernel
theorem dX1_useHead_157 : decode cX1_useHead 157 = .ok (.iconst 2, 1) := by decide +kernel
theorem dX1_useHead_158 : decode cX1_useHead 158 = .ok (.iadd, 1) := by decide +kernel
theorem dX1_useHead_159 : decode cX1_useHead 159 = .ok (.iaload, 1) := by decide +kernel
theorem dX1_useHead_160 : decode cX1_useHead 160 = .ok (.ifCond .ne 19, 3) := by decide +kernel
theorem dX1_useHead_163 : decode cX1_useHead 163 = .ok (.aload_n 0, 1) := by decide +kernel
theorem dX1_useHead_164 : decode cX1_useHead 164 = .ok (.iload 7, 2) := by decide +kernel
theorem dX1_useHead_166 : decode cX1_useHead 166 = .ok (.iload_n 1, 1) := by decide +kernel
theorem dX1_useHead_167 : decode cX1_useHead 167 = .ok (.aload_n 0, 1) := by decide +kernel
theorem dX1_useHead_168 : decode cX1_useHead 168 = .ok (.getfield 11, 3) := by decide +kernel
theorem dX1_useHead_171 : decode cX1_useHead 171 = .ok (.iload 4, 2) := by decide +kernel
theorem dX1_useHead_173 : decode cX1_useHead 173 = .ok (.iconst 0, 1) := by decide +kernel
theorem dX1_useHead_174 : decode cX1_useHead 174 = .ok (.iadd, 1) := by decide +kernel
theorem dX1_useHead_175 : decode cX1_useHead 175 = .ok (.iaload, 1) := by decide +kernel
theorem dX1_useHead_176 : decode cX1_useHead 176 = .ok (.invokevirtual 113, 3) := by decide +kernel
theorem dX1_useHead_179 : decode cX1_useHead 179 = .ok (.return_, 1) := by decide +kernel
set_option maxRecDepth 20000 in
theorem ggX1_doWrite_X1_ofOrder : GoodIn wsX1_doWrite wsX1_ofOrder := goodIn_r _ [11, 12, 30, 31, 32, 33, 34, 35, 36, 37, 38, 39, 40] (by decide +kernel) (by decide +kernel)
set_option maxRecDepth 20000 in
theorem gX1_doWrite_X1_ofOrder : GoodIn wsX1_doWrite (wsV RX1 65 RX1 yX1_ofOrder wsX1_ofOrder) := goodIn_app (goodIn_of _ (by decide +kernel)) ggX1_doWrite_X1_ofOrder
set_option maxRecDepth 20000 in
theorem ggX1_doWrite_X1_setWhole : GoodIn wsX1_doWrite wsX1_setWhole := goodIn_r _ [16, 1, 30, 31, 32, 33, 34, 35, 36, 37, 38, 39, 40] (by decide +kernel) (by decide +kernel)
set_option maxRecDepth 20000 in
theorem gX1_doWrite_X1_setWhole : GoodIn wsX1_doWrite (wsV RX1 120 RX1 yX1_setWhole wsX1_setWhole) := goodIn_app (goodIn_of _ (by decide +kernel)) ggX1_doWrite_X1_setWhole
set_option maxRecDepth 20000 in
theorem ggX1_doWrite_X1_setLate : GoodIn wsX1_doWrite wsX1_setLate := goodIn_r _ [20, 21, 22, 1, 30, 31, 32, 33, 34, 35, 36, 37, 38, 39, 40] (by decide +kernel) (by decide +kernel)
set_option maxRecDepth 20000 in
theorem gX1_doWrite_X1_setLate : GoodIn wsX1_doWrite (wsV RX1 102 RX1 yX1_setLate wsX1_setLate) := goodIn_app (goodIn_of _ (by decide +kernel)) ggX1_doWrite_X1_setLate
set_option maxRecDepth 20000 in
theorem ggX1_doWrite_X1_finish : GoodIn wsX1_doWrite wsX1_finish := goodIn_r _ [26, 12, 27, 28, 29, 21, 30, 31, 32, 33, 34, 35, 36, 37, 38, 39, 40] (by decide +kernel) (by decide +kernel)
set_option maxRecDepth 20000 in
theorem gX1_doWrite_X1_finish : GoodIn wsX1_doWrite (wsV RX1 113 RX1 yX1_finish wsX1_finish) := goodIn_app (goodIn_of _ (by decide +kernel)) ggX1_doWrite_X1_finish
theorem dX1_doWrite_0 : decode cX1_doWrite 0 = .ok (.aload_n 0, 1) := by decide +kernel
theorem dX1_doWrite_1 : decode cX1_doWrite 1 = .ok (.iload_n 1, 1) := by decide +kernel
theorem dX1_doWrite_2 : decode cX1_doWrite 2 = .ok (.bipush 7, 2) := by decide +kernel
theorem dX1_doWrite_4 : decode cX1_doWrite 4 = .ok (.invokevirtual 65, 3) := by decide +kernel
theorem dX1_doWrite_7 : decode cX1_doWrite 7 = .ok (.istore 5, 2) := by decide +kernel
theorem dX1_doWrite_9 : decode cX1_doWrite 9 = .ok (.aload_n 0, 1) := by decide +kernel
theorem dX1_doWrite_10 : decode cX1_doWrite 10 = .ok (.getfield 11, 3) := by decide +kernel
theorem dX1_doWrite_13 : decode cX1_doWrite 13 = .ok (.iload_n 3, 1) := by decide +kernel
theorem dX1_doWrite_14 : decode cX1_doWrite 14 = .ok (.iconst 1, 1) := by decide +kernel
theorem dX1_doWrite_15 : decode cX1_doWrite 15 = .ok (.iadd, 1) := by decide +kernel
theorem dX1_doWrite_16 : decode cX1_doWrite 16 = .ok (.iaload, 1) := by decide +kernel
theorem dX1_doWrite_17 : decode cX1_doWrite 17 = .ok (.aload_n 0, 1) := by decide +kernel
theorem dX1_doWrite_18 : decode cX1_doWrite 18 = .ok (.getfield 11, 3) := by decide +kernel
theorem dX1_doWrite_21 : decode cX1_doWrite 21 = .ok (.iload 4, 2) := by decide +kernel
theorem dX1_doWrite_23 : decode cX1_doWrite 23 = .ok (.iconst 1, 1) := by decide +kernel
theorem dX1_doWrite_24 : decode cX1_doWrite 24 = .ok (.iadd, 1) := by decide +kernel
theorem dX1_doWrite_25 : decode cX1_doWrite 25 = .ok (.iaload, 1) := by decide +kernel
theorem dX1_doWrite_26 : decode cX1_doWrite 26 = .ok (.invokestatic 117, 3) := by decide +kernel
theorem dX1_doWrite_29 : decode cX1_doWrite 29 = .ok (.iconst 1, 1) := by decide +kernel
theorem dX1_doWrite_30 : decode cX1_doWrite 30 = .ok (.iadd, 1) := by decide +kernel
theorem dX1_doWrite_31 : decode cX1_doWrite 31 = .ok (.istore 6, 2) := by decide +kernel
theorem dX1_doWrite_33 : decode cX1_doWrite 33 = .ok (.aload_n 0, 1) := by decide +kernel
theorem dX1_doWrite_34 : decode cX1_doWrite 34 = .ok (.iload_n 3, 1) := by decide +kernel
theorem dX1_doWrite_35 : decode cX1_doWrite 35 = .ok (.iload 5, 2) := by decide +kernel
theorem dX1_doWrite_37 : decode cX1_doWrite 37 = .ok (.iload 6, 2) := by decide +kernel
theorem dX1_doWrite_39 : decode cX1_doWrite 39 = .ok (.invokevirtual 120, 3) := by decide +kernel
theorem dX1_doWrite_42 : decode cX1_doWrite 42 = .ok (.aload_n 0, 1) := by decide +kernel
theorem dX1_doWrite_43 : decode cX1_doWrite 43 = .ok (.iload_n 3, 1) := by decide +kernel
theorem dX1_doWrite_44 : decode cX1_doWrite 44 = .ok (.iconst 0, 1) := by decide +kernel
theorem dX1_doWrite_45 : decode cX1_doWrite 45 = .ok (.invokevirtual 102, 3) := by decide +kernel
theorem dX1_doWrite_48 : decode cX1_doWrite 48 = .ok (.aload_n 0, 1) := by decide +kernel
theorem dX1_doWrite_49 : decode cX1_doWrite 49 = .ok (.iload 4, 2) := by decide +kernel
theorem dX1_doWrite_51 : decode cX1_doWrite 51 = .ok (.iconst 1, 1) := by decide +kernel
theorem dX1_doWrite_52 : decode cX1_doWrite 52 = .ok (.invokevirtual 102, 3) := by decide +kernel
theorem dX1_doWrite_55 : decode cX1_doWrite 55 = .ok (.aload_n 0, 1) := by decide +kernel
theorem dX1_doWrite_56 : decode cX1_doWrite 56 = .ok (.getfield 18, 3) := by decide +kernel
theorem dX1_doWrite_59 : decode cX1_doWrite 59 = .ok (.iload_n 2, 1) := by decide +kernel
theorem dX1_doWrite_60 : decode cX1_doWrite 60 = .ok (.iload_n 3, 1) := by decide +kernel
theorem dX1_doWrite_61 : decode cX1_doWrite 61 = .ok (.iastore, 1) := by decide +kernel
theorem dX1_doWrite_62 : decode cX1_doWrite 62 = .ok (.aload_n 0, 1) := by decide +kernel
theorem dX1_doWrite_63 : decode cX1_doWrite 63 = .ok (.iload_n 1, 1) := by decide +kernel
theorem dX1_doWrite_64 : decode cX1_doWrite 64 = .ok (.iload_n 2, 1) := by decide +kernel
theorem dX1_doWrite_65 : decode cX1_doWrite 65 = .ok (.iload 5, 2) := by decide +kernel
theorem dX1_doWrite_67 : decode cX1_doWrite 67 = .ok (.invokevirtual 113, 3) := by decide +kernel
theorem dX1_doWrite_70 : decode cX1_doWrite 70 = .ok (.return_, 1) := by decide +kernel
theorem dX1_cellOf_0 : decode cX1_cellOf 0 = .ok (.iload_n 0, 1) := by decide +kernel
theorem dX1_cellOf_1 : decode cX1_cellOf 1 = .ok (.bipush 48, 2) := by decide +kernel
theorem dX1_cellOf_3 : decode cX1_cellOf 3 = .ok (.imul, 1) := by decide +kernel
theorem dX1_cellOf_4 : decode cX1_cellOf 4 = .ok (.iload_n 1, 1) := by decide +kernel
theorem dX1_cellOf_5 : decode cX1_cellOf 5 = .ok (.iadd, 1) := by decide +kernel
theorem dX1_cellOf_6 : decode cX1_cellOf 6 = .ok (.iconst 4, 1) := by decide +kernel
theorem dX1_cellOf_7 : decode cX1_cellOf 7 = .ok (.imul, 1) := by decide +kernel
theorem dX1_cellOf_8 : decode cX1_cellOf 8 = .ok (.ireturn, 1) := by decide +kernel
set_option maxRecDepth 20000 in
theorem ggX1_takeOver_X1_setWhole : GoodIn wsX1_takeOver wsX1_setWhole := goodIn_r _ [6, 1, 7, 8, 9, 10, 11, 12, 13, 14, 15, 16, 17] (by decide +kernel) (by decide +kernel)
set_option maxRecDepth 20000 in
theorem gX1_takeOver_X1_setWhole : GoodIn wsX1_takeOver (wsV RX1 120 RX1 yX1_setWhole wsX1_setWhole) := goodIn_app (goodIn_of _ (by decide +kernel)) ggX1_takeOver_X1_setWhole
theorem dX1_takeOver_0 : decode cX1_takeOver 0 = .ok (.aload_n 0, 1) := by decide +kernel
theorem dX1_takeOver_1 : decode cX1_takeOver 1 = .ok (.iload_n 1, 1) := by decide +kernel
theorem dX1_takeOver_2 : decode cX1_takeOver 2 = .ok (.aload_n 0, 1) := by decide +kernel
theorem dX1_takeOver_3 : decode cX1_takeOver 3 = .ok (.getfield 11, 3) := by decide +kernel
theorem dX1_takeOver_6 : decode cX1_takeOver 6 = .ok (.iload_n 2, 1) := by decide +kernel
theorem dX1_takeOver_7 : decode cX1_takeOver 7 = .ok (.iconst 0, 1) := by decide +kernel
theorem dX1_takeOver_8 : decode cX1_takeOver 8 = .ok (.iadd, 1) := by decide +kernel
theorem dX1_takeOver_9 : decode cX1_takeOver 9 = .ok (.iaload, 1) := by decide +kernel
theorem dX1_takeOver_10 : decode cX1_takeOver 10 = .ok (.aload_n 0, 1) := by decide +kernel
theorem dX1_takeOver_11 : decode cX1_takeOver 11 = .ok (.getfield 11, 3) := by decide +kernel
theorem dX1_takeOver_14 : decode cX1_takeOver 14 = .ok (.iload_n 2, 1) := by decide +kernel
theorem dX1_takeOver_15 : decode cX1_takeOver 15 = .ok (.iconst 1, 1) := by decide +kernel
theorem dX1_takeOver_16 : decode cX1_takeOver 16 = .ok (.iadd, 1) := by decide +kernel
theorem dX1_takeOver_17 : decode cX1_takeOver 17 = .ok (.iaload, 1) := by decide +kernel
theorem dX1_takeOver_18 : decode cX1_takeOver 18 = .ok (.invokevirtual 120, 3) := by decide +kernel
theorem dX1_takeOver_21 : decode cX1_takeOver 21 = .ok (.return_, 1) := by decide +kernel
theorem dX1_setWhole_0 : decode cX1_setWhole 0 = .ok (.aload_n 0, 1) := by decide +kernel
theorem dX1_setWhole_1 : decode cX1_setWhole 1 = .ok (.getfield 11, 3) := by decide +kernel
theorem dX1_setWhole_4 : decode cX1_setWhole 4 = .ok (.iload_n 1, 1) := by decide +kernel
theorem dX1_setWhole_5 : decode cX1_setWhole 5 = .ok (.iconst 0, 1) := by decide +kernel
theorem dX1_setWhole_6 : decode cX1_setWhole 6 = .ok (.iadd, 1) := by decide +kernel
theorem dX1_setWhole_7 : decode cX1_setWhole 7 = .ok (.iload_n 2, 1) := by decide +kernel
theorem dX1_setWhole_8 : decode cX1_setWhole 8 = .ok (.iastore, 1) := by decide +kernel
theorem dX1_setWhole_9 : decode cX1_setWhole 9 = .ok (.aload_n 0, 1) := by decide +kernel
theorem dX1_setWhole_10 : decode cX1_setWhole 10 = .ok (.getfield 11, 3) := by decide +kernel
theorem dX1_setWhole_13 : decode cX1_setWhole 13 = .ok (.iload_n 1, 1) := by decide +kernel
theorem dX1_setWhole_14 : decode cX1_setWhole 14 = .ok (.iconst 1, 1) := by decide +kernel
theorem dX1_setWhole_15 : decode cX1_setWhole 15 = .ok (.iadd, 1) := by decide +kernel
theorem dX1_setWhole_16 : decode cX1_setWhole 16 = .ok (.iload_n 3, 1) := by decide +kernel
theorem dX1_setWhole_17 : decode cX1_setWhole 17 = .ok (.iastore, 1) := by decide +kernel
theorem dX1_setWhole_18 : decode cX1_setWhole 18 = .ok (.aload_n 0, 1) := by decide +kernel
theorem dX1_setWhole_19 : decode cX1_setWhole 19 = .ok (.getfield 11, 3) := by decide +kernel
theorem dX1_setWhole_22 : decode cX1_setWhole 22 = .ok (.iload_n 1, 1) := by decide +kernel
theorem dX1_setWhole_23 : decode cX1_setWhole 23 = .ok (.iconst 2, 1) := by decide +kernel
theorem dX1_setWhole_24 : decode cX1_setWhole 24 = .ok (.iadd, 1) := by decide +kernel
theorem dX1_setWhole_25 : decode cX1_setWhole 25 = .ok (.iconst 0, 1) := by decide +kernel
theorem dX1_setWhole_26 : decode cX1_setWhole 26 = .ok (.iastore, 1) := by decide +kernel
theorem dX1_setWhole_27 : decode cX1_setWhole 27 = .ok (.return_, 1) := by decide +kernel
theorem dX1_setLate_0 : decode cX1_setLate 0 = .ok (.aload_n 0, 1) := by decide +kernel
theorem dX1_setLate_1 : decode cX1_setLate 1 = .ok (.getfield 24, 3) := by decide +kernel
theorem dX1_setLate_4 : decode cX1_setLate 4 = .ok (.aload_n 0, 1) := by decide +kernel
theorem dX1_setLate_5 : decode cX1_setLate 5 = .ok (.getfield 40, 3) := by decide +kernel
theorem dX1_setLate_8 : decode cX1_setLate 8 = .ok (.dup2, 1) := by decide +kernel
theorem dX1_setLate_9 : decode cX1_setLate 9 = .ok (.iaload, 1) := by decide +kernel
theorem dX1_setLate_10 : decode cX1_setLate 10 = .ok (.iload_n 2, 1) := by decide +kernel
theorem dX1_setLate_11 : decode cX1_setLate 11 = .ok (.aload_n 0, 1) := by decide +kernel
theorem dX1_setLate_12 : decode cX1_setLate 12 = .ok (.getfield 11, 3) := by decide +kernel
theorem dX1_setLate_15 : decode cX1_setLate 15 = .ok (.iload_n 1, 1) := by decide +kernel
theorem dX1_setLate_16 : decode cX1_setLate 16 = .ok (.iconst 3, 1) := by decide +kernel
theorem dX1_setLate_17 : decode cX1_setLate 17 = .ok (.iadd, 1) := by decide +kernel
theorem dX1_setLate_18 : decode cX1_setLate 18 = .ok (.iaload, 1) := by decide +kernel
theorem dX1_setLate_19 : decode cX1_setLate 19 = .ok (.isub, 1) := by decide +kernel
theorem dX1_setLate_20 : decode cX1_setLate 20 = .ok (.iadd, 1) := by decide +kernel
theorem dX1_setLate_21 : decode cX1_setLate 21 = .ok (.iastore, 1) := by decide +kernel
theorem dX1_setLate_22 : decode cX1_setLate 22 = .ok (.aload_n 0, 1) := by decide +kernel
theorem dX1_setLate_23 : decode cX1_setLate 23 = .ok (.getfield 11, 3) := by decide +kernel
theorem dX1_setLate_26 : decode cX1_setLate 26 = .ok (.iload_n 1, 1) := by decide +kernel
theorem dX1_setLate_27 : decode cX1_setLate 27 = .ok (.iconst 3, 1) := by decide +kernel
theorem dX1_setLate_28 : decode cX1_setLate 28 = .ok (.iadd, 1) := by decide +kernel
theorem dX1_setLate_29 : decode cX1_setLate 29 = .ok (.iload_n 2, 1) := by decide +kernel
theorem dX1_setLate_30 : decode cX1_setLate 30 = .ok (.iastore, 1) := by decide +kernel
theorem dX1_setLate_31 : decode cX1_setLate 31 = .ok (.return_, 1) := by decide +kernel
theorem dX1_forgetWritten_0 : decode cX1_forgetWritten 0 = .ok (.iconst 0, 1) := by decide +kernel
theorem dX1_forgetWritten_1 : decode cX1_forgetWritten 1 = .ok (.istore_n 1, 1) := by decide +kernel
theorem dX1_forgetWritten_2 : decode cX1_forgetWritten 2 = .ok (.iload_n 1, 1) := by decide +kernel
theorem dX1_forgetWritten_3 : decode cX1_forgetWritten 3 = .ok (.iconst 2, 1) := by decide +kernel
theorem dX1_forgetWritten_4 : decode cX1_forgetWritten 4 = .ok (.if_icmp .ge 16, 3) := by decide +kernel
theorem dX1_forgetWritten_7 : decode cX1_forgetWritten 7 = .ok (.aload_n 0, 1) := by decide +kernel
theorem dX1_forgetWritten_8 : decode cX1_forgetWritten 8 = .ok (.getfield 18, 3) := by decide +kernel
theorem dX1_forgetWritten_11 : decode cX1_forgetWritten 11 = .ok (.iload_n 1, 1) := by decide +kernel
theorem dX1_forgetWritten_12 : decode cX1_forgetWritten 12 = .ok (.iconst (-1), 1) := by decide +kernel
theorem dX1_forgetWritten_13 : decode cX1_forgetWritten 13 = .ok (.iastore, 1) := by decide +kernel
theorem dX1_forgetWritten_14 : decode cX1_forgetWritten 14 = .ok (.iinc 1 1, 3) := by decide +kernel
theorem dX1_forgetWritten_17 : decode cX1_forgetWritten 17 = .ok (.goto (-15), 3) := by decide +kernel
theorem dX1_forgetWritten_20 : decode cX1_forgetWritten 20 = .ok (.return_, 1) := by decide +kernel
set_option maxRecDepth 20000 in
theorem ggX1_cutPower_X1_dropWork : GoodIn wsX1_cutPower wsX1_dropWork := goodIn_r _ [7, 8, 9, 10, 2, 11, 12, 13, 14, 15, 6, 16, 17, 18, 19, 20, 21, 22, 23, 24, 25, 26, 27, 28, 29, 30, 31, 32, 33, 34] (by decide +kernel) (by decide +kernel)
set_option maxRecDepth 20000 in
theorem gX1_cutPower_X1_dropWork : GoodIn wsX1_cutPower (wsV RX1 123 RX1 yX1_dropWork wsX1_dropWork) := goodIn_app (goodIn_of _ (by decide +kernel)) ggX1_cutPower_X1_dropWork
theorem dX1_cutPower_0 : decode cX1_cutPower 0 = .ok (.iconst 0, 1) := by decide +kernel
theorem dX1_cutPower_1 : decode cX1_cutPower 1 = .ok (.istore_n 1, 1) := by decide +kernel
theorem dX1_cutPower_2 : decode cX1_cutPower 2 = .ok (.iconst 0, 1) := by decide +kernel
theorem dX1_cutPower_3 : decode cX1_cutPower 3 = .ok (.istore_n 2, 1) := by decide +kernel
theorem dX1_cutPower_4 : decode cX1_cutPower 4 = .ok (.iload_n 2, 1) := by decide +kernel
theorem dX1_cutPower_5 : decode cX1_cutPower 5 = .ok (.iconst 2, 1) := by decide +kernel
theorem dX1_cutPower_6 : decode cX1_cutPower 6 = .ok (.if_icmp .ge 44, 3) := by decide +kernel
theorem dX1_cutPower_9 : decode cX1_cutPower 9 = .ok (.aload_n 0, 1) := by decide +kernel
theorem dX1_cutPower_10 : decode cX1_cutPower 10 = .ok (.getfield 18, 3) := by decide +kernel
theorem dX1_cutPower_13 : decode cX1_cutPower 13 = .ok (.iload_n 2, 1) := by decide +kernel
theorem dX1_cutPower_14 : decode cX1_cutPower 14 = .ok (.iaload, 1) := by decide +kernel
theorem dX1_cutPower_15 : decode cX1_cutPower 15 = .ok (.istore_n 3, 1) := by decide +kernel
theorem dX1_cutPower_16 : decode cX1_cutPower 16 = .ok (.iload_n 3, 1) := by decide +kernel
theorem dX1_cutPower_17 : decode cX1_cutPower 17 = .ok (.iconst (-1), 1) := by decide +kernel
theorem dX1_cutPower_18 : decode cX1_cutPower 18 = .ok (.if_icmp .eq 26, 3) := by decide +kernel
theorem dX1_cutPower_21 : decode cX1_cutPower 21 = .ok (.aload_n 0, 1) := by decide +kernel
theorem dX1_cutPower_22 : decode cX1_cutPower 22 = .ok (.getfield 11, 3) := by decide +kernel
theorem dX1_cutPower_25 : decode cX1_cutPower 25 = .ok (.iload_n 3, 1) := by decide +kernel
theorem dX1_cutPower_26 : decode cX1_cutPower 26 = .ok (.iconst 2, 1) := by decide +kernel
theorem dX1_cutPower_27 : decode cX1_cutPower 27 = .ok (.iadd, 1) := by decide +kernel
theorem dX1_cutPower_28 : decode cX1_cutPower 28 = .ok (.iaload, 1) := by decide +kernel
theorem dX1_cutPower_29 : decode cX1_cutPower 29 = .ok (.ifCond .ne 15, 3) := by decide +kernel
theorem dX1_cutPower_32 : decode cX1_cutPower 32 = .ok (.aload_n 0, 1) := by decide +kernel
theorem dX1_cutPower_33 : decode cX1_cutPower 33 = .ok (.getfield 11, 3) := by decide +kernel
theorem dX1_cutPower_36 : decode cX1_cutPower 36 = .ok (.iload_n 3, 1) := by decide +kernel
theorem dX1_cutPower_37 : decode cX1_cutPower 37 = .ok (.iconst 2, 1) := by decide +kernel
theorem dX1_cutPower_38 : decode cX1_cutPower 38 = .ok (.iadd, 1) := by decide +kernel
theorem dX1_cutPower_39 : decode cX1_cutPower 39 = .ok (.iconst 1, 1) := by decide +kernel
theorem dX1_cutPower_40 : decode cX1_cutPower 40 = .ok (.iastore, 1) := by decide +kernel
theorem dX1_cutPower_41 : decode cX1_cutPower 41 = .ok (.iinc 1 1, 3) := by decide +kernel
theorem dX1_cutPower_44 : decode cX1_cutPower 44 = .ok (.iinc 2 1, 3) := by decide +kernel
theorem dX1_cutPower_47 : decode cX1_cutPower 47 = .ok (.goto (-43), 3) := by decide +kernel
theorem dX1_cutPower_50 : decode cX1_cutPower 50 = .ok (.aload_n 0, 1) := by decide +kernel
theorem dX1_cutPower_51 : decode cX1_cutPower 51 = .ok (.invokevirtual 123, 3) := by decide +kernel
theorem dX1_cutPower_54 : decode cX1_cutPower 54 = .ok (.iload_n 1, 1) := by decide +kernel
theorem dX1_cutPower_55 : decode cX1_cutPower 55 = .ok (.ireturn, 1) := by decide +kernel
set_option maxRecDepth 20000 in
theorem ggX1_dropWork_X1_statusOf : GoodIn wsX1_dropWork wsX1_statusOf := goodIn_r _ [11, 12, 13, 14, 10, 15, 2, 19, 20, 21, 22, 23, 24, 25, 26, 27, 28, 29] (by decide +kernel) (by decide +kernel)
set_option maxRecDepth 20000 in
theorem gX1_dropWork_X1_statusOf : GoodIn wsX1_dropWork (wsV RX1 74 RX1 yX1_statusOf wsX1_statusOf) := goodIn_app (goodIn_of _ (by decide +kernel)) ggX1_dropWork_X1_statusOf
set_option maxRecDepth 20000 in
theorem ggX1_dropWork_X1_cellOf : GoodIn wsX1_dropWork wsX1_cellOf := goodIn_r _ [18] (by decide +kernel) (by decide +kernel)
set_option maxRecDepth 20000 in
theorem gX1_dropWork_X1_cellOf : GoodIn wsX1_dropWork (va_wsS RX1 71 yX1_cellOf wsX1_cellOf) := goodIn_app (goodIn_of _ (by decide +kernel)) ggX1_dropWork_X1_cellOf
theorem dX1_dropWork_0 : decode cX1_dropWork 0 = .ok (.iconst 0, 1) := by decide +kernel
theorem dX1_dropWork_1 : decode cX1_dropWork 1 = .ok (.istore_n 1, 1) := by decide +kernel
theorem dX1_dropWork_2 : decode cX1_dropWork 2 = .ok (.iload_n 1, 1) := by decide +kernel
theorem dX1_dropWork_3 : decode cX1_dropWork 3 = .ok (.aload_n 0, 1) := by decide +kernel
theorem dX1_dropWork_4 : decode cX1_dropWork 4 = .ok (.getfield 43, 3) := by decide +kernel
theorem dX1_dropWork_7 : decode cX1_dropWork 7 = .ok (.if_icmp .ge 29, 3) := by decide +kernel
theorem dX1_dropWork_10 : decode cX1_dropWork 10 = .ok (.aload_n 0, 1) := by decide +kernel
theorem dX1_dropWork_11 : decode cX1_dropWork 11 = .ok (.iload_n 1, 1) := by decide +kernel
theorem dX1_dropWork_12 : decode cX1_dropWork 12 = .ok (.invokevirtual 74, 3) := by decide +kernel
theorem dX1_dropWork_15 : decode cX1_dropWork 15 = .ok (.ifCond .ne 15, 3) := by decide +kernel
theorem dX1_dropWork_18 : decode cX1_dropWork 18 = .ok (.aload_n 0, 1) := by decide +kernel
theorem dX1_dropWork_19 : decode cX1_dropWork 19 = .ok (.getfield 15, 3) := by decide +kernel
theorem dX1_dropWork_22 : decode cX1_dropWork 22 = .ok (.iload_n 1, 1) := by decide +kernel
end
section
theorem dX1_dropWork_23 : decode cX1_dropWork 23 = .ok (.bipush 8, 2) := by decide +kernel
theorem dX1_dropWork_25 : decode cX1_dropWork 25 = .ok (.imul, 1) := by decide +kernel
theorem dX1_dropWork_26 : decode cX1_dropWork 26 = .ok (.iconst 3, 1) := by decide +kernel
theorem dX1_dropWork_27 : decode cX1_dropWork 27 = .ok (.iadd, 1) := by decide +kernel
theorem dX1_dropWork_28 : decode cX1_dropWork 28 = .ok (.iconst 2, 1) := by decide +kernel
theorem dX1_dropWork_29 : decode cX1_dropWork 29 = .ok (.iastore, 1) := by decide +kernel
theorem dX1_dropWork_30 : decode cX1_dropWork 30 = .ok (.iinc 1 1, 3) := by decide +kernel
theorem dX1_dropWork_33 : decode cX1_dropWork 33 = .ok (.goto (-31), 3) := by decide +kernel
theorem dX1_dropWork_36 : decode cX1_dropWork 36 = .ok (.aload_n 0, 1) := by decide +kernel
theorem dX1_dropWork_37 : decode cX1_dropWork 37 = .ok (.iconst 0, 1) := by decide +kernel
theorem dX1_dropWork_38 : decode cX1_dropWork 38 = .ok (.putfield 46, 3) := by decide +kernel
theorem dX1_dropWork_41 : decode cX1_dropWork 41 = .ok (.iconst 0, 1) := by decide +kernel
theorem dX1_dropWork_42 : decode cX1_dropWork 42 = .ok (.istore_n 1, 1) := by decide +kernel
theorem dX1_dropWork_43 : decode cX1_dropWork 43 = .ok (.iload_n 1, 1) := by decide +kernel
theorem dX1_dropWork_44 : decode cX1_dropWork 44 = .ok (.bipush 48, 2) := by decide +kernel
theorem dX1_dropWork_46 : decode cX1_dropWork 46 = .ok (.if_icmp .ge 42, 3) := by decide +kernel
theorem dX1_dropWork_49 : decode cX1_dropWork 49 = .ok (.aload_n 0, 1) := by decide +kernel
theorem dX1_dropWork_50 : decode cX1_dropWork 50 = .ok (.getfield 11, 3) := by decide +kernel
theorem dX1_dropWork_53 : decode cX1_dropWork 53 = .ok (.iconst 0, 1) := by decide +kernel
theorem dX1_dropWork_54 : decode cX1_dropWork 54 = .ok (.iload_n 1, 1) := by decide +kernel
theorem dX1_dropWork_55 : decode cX1_dropWork 55 = .ok (.invokestatic 71, 3) := by decide +kernel
theorem dX1_dropWork_58 : decode cX1_dropWork 58 = .ok (.iconst 3, 1) := by decide +kernel
theorem dX1_dropWork_59 : decode cX1_dropWork 59 = .ok (.iadd, 1) := by decide +kernel
theorem dX1_dropWork_60 : decode cX1_dropWork 60 = .ok (.iconst 0, 1) := by decide +kernel
theorem dX1_dropWork_61 : decode cX1_dropWork 61 = .ok (.iastore, 1) := by decide +kernel
theorem dX1_dropWork_62 : decode cX1_dropWork 62 = .ok (.aload_n 0, 1) := by decide +kernel
theorem dX1_dropWork_63 : decode cX1_dropWork 63 = .ok (.getfield 11, 3) := by decide +kernel
theorem dX1_dropWork_66 : decode cX1_dropWork 66 = .ok (.iconst 1, 1) := by decide +kernel
theorem dX1_dropWork_67 : decode cX1_dropWork 67 = .ok (.iload_n 1, 1) := by decide +kernel
theorem dX1_dropWork_68 : decode cX1_dropWork 68 = .ok (.invokestatic 71, 3) := by decide +kernel
theorem dX1_dropWork_71 : decode cX1_dropWork 71 = .ok (.iconst 3, 1) := by decide +kernel
theorem dX1_dropWork_72 : decode cX1_dropWork 72 = .ok (.iadd, 1) := by decide +kernel
theorem dX1_dropWork_73 : decode cX1_dropWork 73 = .ok (.iconst 0, 1) := by decide +kernel
theorem dX1_dropWork_74 : decode cX1_dropWork 74 = .ok (.iastore, 1) := by decide +kernel
theorem dX1_dropWork_75 : decode cX1_dropWork 75 = .ok (.aload_n 0, 1) := by decide +kernel
theorem dX1_dropWork_76 : decode cX1_dropWork 76 = .ok (.getfield 21, 3) := by decide +kernel
theorem dX1_dropWork_79 : decode cX1_dropWork 79 = .ok (.iload_n 1, 1) := by decide +kernel
theorem dX1_dropWork_80 : decode cX1_dropWork 80 = .ok (.iconst 0, 1) := by decide +kernel
theorem dX1_dropWork_81 : decode cX1_dropWork 81 = .ok (.iastore, 1) := by decide +kernel
theorem dX1_dropWork_82 : decode cX1_dropWork 82 = .ok (.iinc 1 1, 3) := by decide +kernel
theorem dX1_dropWork_85 : decode cX1_dropWork 85 = .ok (.goto (-42), 3) := by decide +kernel
theorem dX1_dropWork_88 : decode cX1_dropWork 88 = .ok (.iconst 0, 1) := by decide +kernel
theorem dX1_dropWork_89 : decode cX1_dropWork 89 = .ok (.istore_n 1, 1) := by decide +kernel
theorem dX1_dropWork_90 : decode cX1_dropWork 90 = .ok (.iload_n 1, 1) := by decide +kernel
theorem dX1_dropWork_91 : decode cX1_dropWork 91 = .ok (.iconst 4, 1) := by decide +kernel
theorem dX1_dropWork_92 : decode cX1_dropWork 92 = .ok (.if_icmp .ge 16, 3) := by decide +kernel
theorem dX1_dropWork_95 : decode cX1_dropWork 95 = .ok (.aload_n 0, 1) := by decide +kernel
theorem dX1_dropWork_96 : decode cX1_dropWork 96 = .ok (.getfield 24, 3) := by decide +kernel
theorem dX1_dropWork_99 : decode cX1_dropWork 99 = .ok (.iload_n 1, 1) := by decide +kernel
theorem dX1_dropWork_100 : decode cX1_dropWork 100 = .ok (.iconst 0, 1) := by decide +kernel
theorem dX1_dropWork_101 : decode cX1_dropWork 101 = .ok (.iastore, 1) := by decide +kernel
theorem dX1_dropWork_102 : decode cX1_dropWork 102 = .ok (.iinc 1 1, 3) := by decide +kernel
theorem dX1_dropWork_105 : decode cX1_dropWork 105 = .ok (.goto (-15), 3) := by decide +kernel
theorem dX1_dropWork_108 : decode cX1_dropWork 108 = .ok (.return_, 1) := by decide +kernel
set_option maxRecDepth 20000 in
theorem ggX1_sweepBlocks_X1_hasWork : GoodIn wsX1_sweepBlocks wsX1_hasWork := goodIn_r _ [6, 7, 35, 36, 37, 38, 39, 40, 41, 42, 43, 44, 45] (by decide +kernel) (by decide +kernel)
set_option maxRecDepth 20000 in
theorem gX1_sweepBlocks_X1_hasWork : GoodIn wsX1_sweepBlocks (wsV RX1 126 RX1 yX1_hasWork wsX1_hasWork) := goodIn_app (goodIn_of _ (by decide +kernel)) ggX1_sweepBlocks_X1_hasWork
set_option maxRecDepth 20000 in
theorem ggX1_sweepBlocks_X1_repairBlocks : GoodIn wsX1_sweepBlocks wsX1_repairBlocks := goodIn_r _ [11, 1, 12, 13, 14, 5, 15, 16, 17, 18, 19, 20, 21, 22, 23, 24, 25, 26, 27, 28, 29, 30, 31, 32, 33, 34, 35, 36, 37, 38, 39, 40, 41, 42, 43, 44, 45] (by decide +kernel) (by decide +kernel)
set_option maxRecDepth 20000 in
theorem gX1_sweepBlocks_X1_repairBlocks : GoodIn wsX1_sweepBlocks (wsV RX1 130 RX1 yX1_repairBlocks wsX1_repairBlocks) := goodIn_app (goodIn_of _ (by decide +kernel)) ggX1_sweepBlocks_X1_repairBlocks
theorem dX1_sweepBlocks_0 : decode cX1_sweepBlocks 0 = .ok (.aload_n 0, 1) := by decide +kernel
theorem dX1_sweepBlocks_1 : decode cX1_sweepBlocks 1 = .ok (.invokevirtual 126, 3) := by decide +kernel
theorem dX1_sweepBlocks_4 : decode cX1_sweepBlocks 4 = .ok (.ifCond .ne 16, 3) := by decide +kernel
theorem dX1_sweepBlocks_7 : decode cX1_sweepBlocks 7 = .ok (.aload_n 0, 1) := by decide +kernel
theorem dX1_sweepBlocks_8 : decode cX1_sweepBlocks 8 = .ok (.getfield 36, 3) := by decide +kernel
theorem dX1_sweepBlocks_11 : decode cX1_sweepBlocks 11 = .ok (.bipush 48, 2) := by decide +kernel
theorem dX1_sweepBlocks_13 : decode cX1_sweepBlocks 13 = .ok (.iadd, 1) := by decide +kernel
theorem dX1_sweepBlocks_14 : decode cX1_sweepBlocks 14 = .ok (.sipush 20000, 3) := by decide +kernel
theorem dX1_sweepBlocks_17 : decode cX1_sweepBlocks 17 = .ok (.if_icmp .le 6, 3) := by decide +kernel
theorem dX1_sweepBlocks_20 : decode cX1_sweepBlocks 20 = .ok (.bipush (-2), 2) := by decide +kernel
theorem dX1_sweepBlocks_22 : decode cX1_sweepBlocks 22 = .ok (.ireturn, 1) := by decide +kernel
theorem dX1_sweepBlocks_23 : decode cX1_sweepBlocks 23 = .ok (.aload_n 0, 1) := by decide +kernel
theorem dX1_sweepBlocks_24 : decode cX1_sweepBlocks 24 = .ok (.invokevirtual 130, 3) := by decide +kernel
theorem dX1_sweepBlocks_27 : decode cX1_sweepBlocks 27 = .ok (.ireturn, 1) := by decide +kernel
set_option maxRecDepth 20000 in
theorem ggX1_repairBlocks_X1_cellOf : GoodIn wsX1_repairBlocks wsX1_cellOf := goodIn_r _ [6] (by decide +kernel) (by decide +kernel)
set_option maxRecDepth 20000 in
theorem gX1_repairBlocks_X1_cellOf : GoodIn wsX1_repairBlocks (va_wsS RX1 71 yX1_cellOf wsX1_cellOf) := goodIn_app (goodIn_of _ (by decide +kernel)) ggX1_repairBlocks_X1_cellOf
set_option maxRecDepth 20000 in
theorem ggX1_repairBlocks_X1_repair : GoodIn wsX1_repairBlocks wsX1_repair := goodIn_r _ [10, 11, 12, 13, 14, 15, 5, 16, 17, 18, 19, 20, 26, 27, 28, 29, 30, 31, 32, 33, 34, 35, 36] (by decide +kernel) (by decide +kernel)
set_option maxRecDepth 20000 in
theorem gX1_repairBlocks_X1_repair : GoodIn wsX1_repairBlocks (wsV RX1 134 RX1 yX1_repair wsX1_repair) := goodIn_app (goodIn_of _ (by decide +kernel)) ggX1_repairBlocks_X1_repair
set_option maxRecDepth 20000 in
theorem ggX1_repairBlocks_X1_forgetWritten : GoodIn wsX1_repairBlocks wsX1_forgetWritten := goodIn_r _ [24, 25, 26, 27, 28, 29, 30, 31, 32, 33, 34, 35, 36] (by decide +kernel) (by decide +kernel)
set_option maxRecDepth 20000 in
theorem gX1_repairBlocks_X1_forgetWritten : GoodIn wsX1_repairBlocks (wsV RX1 27 RX1 yX1_forgetWritten wsX1_forgetWritten) := goodIn_app (goodIn_of _ (by decide +kernel)) ggX1_repairBlocks_X1_forgetWritten
theorem dX1_repairBlocks_0 : decode cX1_repairBlocks 0 = .ok (.iconst 0, 1) := by decide +kernel
theorem dX1_repairBlocks_1 : decode cX1_repairBlocks 1 = .ok (.istore_n 1, 1) := by decide +kernel
theorem dX1_repairBlocks_2 : decode cX1_repairBlocks 2 = .ok (.iconst 0, 1) := by decide +kernel
theorem dX1_repairBlocks_3 : decode cX1_repairBlocks 3 = .ok (.istore_n 2, 1) := by decide +kernel
theorem dX1_repairBlocks_4 : decode cX1_repairBlocks 4 = .ok (.iload_n 2, 1) := by decide +kernel
theorem dX1_repairBlocks_5 : decode cX1_repairBlocks 5 = .ok (.bipush 48, 2) := by decide +kernel
theorem dX1_repairBlocks_7 : decode cX1_repairBlocks 7 = .ok (.if_icmp .ge 26, 3) := by decide +kernel
theorem dX1_repairBlocks_10 : decode cX1_repairBlocks 10 = .ok (.iload_n 1, 1) := by decide +kernel
theorem dX1_repairBlocks_11 : decode cX1_repairBlocks 11 = .ok (.aload_n 0, 1) := by decide +kernel
theorem dX1_repairBlocks_12 : decode cX1_repairBlocks 12 = .ok (.iconst 0, 1) := by decide +kernel
theorem dX1_repairBlocks_13 : decode cX1_repairBlocks 13 = .ok (.iload_n 2, 1) := by decide +kernel
theorem dX1_repairBlocks_14 : decode cX1_repairBlocks 14 = .ok (.invokestatic 71, 3) := by decide +kernel
theorem dX1_repairBlocks_17 : decode cX1_repairBlocks 17 = .ok (.iconst 1, 1) := by decide +kernel
theorem dX1_repairBlocks_18 : decode cX1_repairBlocks 18 = .ok (.iload_n 2, 1) := by decide +kernel
theorem dX1_repairBlocks_19 : decode cX1_repairBlocks 19 = .ok (.invokestatic 71, 3) := by decide +kernel
theorem dX1_repairBlocks_22 : decode cX1_repairBlocks 22 = .ok (.invokevirtual 134, 3) := by decide +kernel
theorem dX1_repairBlocks_25 : decode cX1_repairBlocks 25 = .ok (.iadd, 1) := by decide +kernel
theorem dX1_repairBlocks_26 : decode cX1_repairBlocks 26 = .ok (.istore_n 1, 1) := by decide +kernel
theorem dX1_repairBlocks_27 : decode cX1_repairBlocks 27 = .ok (.iinc 2 1, 3) := by decide +kernel
theorem dX1_repairBlocks_30 : decode cX1_repairBlocks 30 = .ok (.goto (-26), 3) := by decide +kernel
theorem dX1_repairBlocks_33 : decode cX1_repairBlocks 33 = .ok (.aload_n 0, 1) := by decide +kernel
theorem dX1_repairBlocks_34 : decode cX1_repairBlocks 34 = .ok (.invokevirtual 27, 3) := by decide +kernel
theorem dX1_repairBlocks_37 : decode cX1_repairBlocks 37 = .ok (.aload_n 0, 1) := by decide +kernel
theorem dX1_repairBlocks_38 : decode cX1_repairBlocks 38 = .ok (.dup, 1) := by decide +kernel
theorem dX1_repairBlocks_39 : decode cX1_repairBlocks 39 = .ok (.getfield 36, 3) := by decide +kernel
theorem dX1_repairBlocks_42 : decode cX1_repairBlocks 42 = .ok (.bipush 48, 2) := by decide +kernel
theorem dX1_repairBlocks_44 : decode cX1_repairBlocks 44 = .ok (.iadd, 1) := by decide +kernel
theorem dX1_repairBlocks_45 : decode cX1_repairBlocks 45 = .ok (.putfield 36, 3) := by decide +kernel
theorem dX1_repairBlocks_48 : decode cX1_repairBlocks 48 = .ok (.aload_n 0, 1) := by decide +kernel
theorem dX1_repairBlocks_49 : decode cX1_repairBlocks 49 = .ok (.iconst 3, 1) := by decide +kernel
theorem dX1_repairBlocks_50 : decode cX1_repairBlocks 50 = .ok (.putfield 40, 3) := by decide +kernel
theorem dX1_repairBlocks_53 : decode cX1_repairBlocks 53 = .ok (.iload_n 1, 1) := by decide +kernel
theorem dX1_repairBlocks_54 : decode cX1_repairBlocks 54 = .ok (.ireturn, 1) := by decide +kernel
set_option maxRecDepth 20000 in
theorem ggX1_repair_X1_setWhole : GoodIn wsX1_repair wsX1_setWhole := goodIn_r _ [7, 1, 12, 13, 14, 15, 16, 17, 18, 19, 20, 21, 22] (by decide +kernel) (by decide +kernel)
set_option maxRecDepth 20000 in
theorem gX1_repair_X1_setWhole : GoodIn wsX1_repair (wsV RX1 120 RX1 yX1_setWhole wsX1_setWhole) := goodIn_app (goodIn_of _ (by decide +kernel)) ggX1_repair_X1_setWhole
set_option maxRecDepth 20000 in
theorem ggX1_repair_X1_takeOver : GoodIn wsX1_repair wsX1_takeOver := goodIn_r _ [11, 1, 3, 4, 5, 6, 7, 12, 13, 14, 15, 16, 17, 18, 19, 20, 21, 22] (by decide +kernel) (by decide +kernel)
set_option maxRecDepth 20000 in
theorem gX1_repair_X1_takeOver : GoodIn wsX1_repair (wsV RX1 98 RX1 yX1_takeOver wsX1_takeOver) := goodIn_app (goodIn_of _ (by decide +kernel)) ggX1_repair_X1_takeOver
theorem dX1_repair_0 : decode cX1_repair 0 = .ok (.aload_n 0, 1) := by decide +kernel
theorem dX1_repair_1 : decode cX1_repair 1 = .ok (.getfield 11, 3) := by decide +kernel
theorem dX1_repair_4 : decode cX1_repair 4 = .ok (.iload_n 1, 1) := by decide +kernel
theorem dX1_repair_5 : decode cX1_repair 5 = .ok (.iconst 2, 1) := by decide +kernel
theorem dX1_repair_6 : decode cX1_repair 6 = .ok (.iadd, 1) := by decide +kernel
theorem dX1_repair_7 : decode cX1_repair 7 = .ok (.iaload, 1) := by decide +kernel
theorem dX1_repair_8 : decode cX1_repair 8 = .ok (.ifCond .eq 7, 3) := by decide +kernel
theorem dX1_repair_11 : decode cX1_repair 11 = .ok (.iconst 1, 1) := by decide +kernel
theorem dX1_repair_12 : decode cX1_repair 12 = .ok (.goto 4, 3) := by decide +kernel
theorem dX1_repair_15 : decode cX1_repair 15 = .ok (.iconst 0, 1) := by decide +kernel
theorem dX1_repair_16 : decode cX1_repair 16 = .ok (.istore_n 3, 1) := by decide +kernel
theorem dX1_repair_17 : decode cX1_repair 17 = .ok (.aload_n 0, 1) := by decide +kernel
theorem dX1_repair_18 : decode cX1_repair 18 = .ok (.getfield 11, 3) := by decide +kernel
theorem dX1_repair_21 : decode cX1_repair 21 = .ok (.iload_n 2, 1) := by decide +kernel
theorem dX1_repair_22 : decode cX1_repair 22 = .ok (.iconst 2, 1) := by decide +kernel
theorem dX1_repair_23 : decode cX1_repair 23 = .ok (.iadd, 1) := by decide +kernel
theorem dX1_repair_24 : decode cX1_repair 24 = .ok (.iaload, 1) := by decide +kernel
theorem dX1_repair_25 : decode cX1_repair 25 = .ok (.ifCond .eq 7, 3) := by decide +kernel
theorem dX1_repair_28 : decode cX1_repair 28 = .ok (.iconst 1, 1) := by decide +kernel
theorem dX1_repair_29 : decode cX1_repair 29 = .ok (.goto 4, 3) := by decide +kernel
theorem dX1_repair_32 : decode cX1_repair 32 = .ok (.iconst 0, 1) := by decide +kernel
theorem dX1_repair_33 : decode cX1_repair 33 = .ok (.istore 4, 2) := by decide +kernel
theorem dX1_repair_35 : decode cX1_repair 35 = .ok (.iload_n 3, 1) := by decide +kernel
theorem dX1_repair_36 : decode cX1_repair 36 = .ok (.ifCond .eq 34, 3) := by decide +kernel
theorem dX1_repair_39 : decode cX1_repair 39 = .ok (.iload 4, 2) := by decide +kernel
theorem dX1_repair_41 : decode cX1_repair 41 = .ok (.ifCond .eq 29, 3) := by decide +kernel
theorem dX1_repair_44 : decode cX1_repair 44 = .ok (.aload_n 0, 1) := by decide +kernel
theorem dX1_repair_45 : decode cX1_repair 45 = .ok (.iload_n 1, 1) := by decide +kernel
theorem dX1_repair_46 : decode cX1_repair 46 = .ok (.iconst 0, 1) := by decide +kernel
theorem dX1_repair_47 : decode cX1_repair 47 = .ok (.iconst 0, 1) := by decide +kernel
theorem dX1_repair_48 : decode cX1_repair 48 = .ok (.invokevirtual 120, 3) := by decide +kernel
theorem dX1_repair_51 : decode cX1_repair 51 = .ok (.aload_n 0, 1) := by decide +kernel
theorem dX1_repair_52 : decode cX1_repair 52 = .ok (.iload_n 2, 1) := by decide +kernel
theorem dX1_repair_53 : decode cX1_repair 53 = .ok (.iconst 0, 1) := by decide +kernel
theorem dX1_repair_54 : decode cX1_repair 54 = .ok (.iconst 0, 1) := by decide +kernel
theorem dX1_repair_55 : decode cX1_repair 55 = .ok (.invokevirtual 120, 3) := by decide +kernel
theorem dX1_repair_58 : decode cX1_repair 58 = .ok (.aload_n 0, 1) := by decide +kernel
theorem dX1_repair_59 : decode cX1_repair 59 = .ok (.dup, 1) := by decide +kernel
theorem dX1_repair_60 : decode cX1_repair 60 = .ok (.getfield 49, 3) := by decide +kernel
theorem dX1_repair_63 : decode cX1_repair 63 = .ok (.iconst 1, 1) := by decide +kernel
theorem dX1_repair_64 : decode cX1_repair 64 = .ok (.iadd, 1) := by decide +kernel
theorem dX1_repair_65 : decode cX1_repair 65 = .ok (.putfield 49, 3) := by decide +kernel
theorem dX1_repair_68 : decode cX1_repair 68 = .ok (.iconst 0, 1) := by decide +kernel
theorem dX1_repair_69 : decode cX1_repair 69 = .ok (.ireturn, 1) := by decide +kernel
theorem dX1_repair_70 : decode cX1_repair 70 = .ok (.iload_n 3, 1) := by decide +kernel
theorem dX1_repair_71 : decode cX1_repair 71 = .ok (.ifCond .ne 12, 3) := by decide +kernel
theorem dX1_repair_74 : decode cX1_repair 74 = .ok (.iload 4, 2) := by decide +kernel
theorem dX1_repair_76 : decode cX1_repair 76 = .ok (.ifCond .ne 7, 3) := by decide +kernel
theorem dX1_repair_79 : decode cX1_repair 79 = .ok (.iconst 1, 1) := by decide +kernel
theorem dX1_repair_80 : decode cX1_repair 80 = .ok (.goto 4, 3) := by decide +kernel
theorem dX1_repair_83 : decode cX1_repair 83 = .ok (.iconst 0, 1) := by decide +kernel
theorem dX1_repair_84 : decode cX1_repair 84 = .ok (.istore 5, 2) := by decide +kernel
theorem dX1_repair_86 : decode cX1_repair 86 = .ok (.aload_n 0, 1) := by decide +kernel
theorem dX1_repair_87 : decode cX1_repair 87 = .ok (.getfield 11, 3) := by decide +kernel
theorem dX1_repair_90 : decode cX1_repair 90 = .ok (.iload_n 1, 1) := by decide +kernel
theorem dX1_repair_91 : decode cX1_repair 91 = .ok (.iconst 1, 1) := by decide +kernel
theorem dX1_repair_92 : decode cX1_repair 92 = .ok (.iadd, 1) := by decide +kernel
theorem dX1_repair_93 : decode cX1_repair 93 = .ok (.iaload, 1) := by decide +kernel
theorem dX1_repair_94 : decode cX1_repair 94 = .ok (.aload_n 0, 1) := by decide +kernel
theorem dX1_repair_95 : decode cX1_repair 95 = .ok (.getfield 11, 3) := by decide +kernel
theorem dX1_repair_98 : decode cX1_repair 98 = .ok (.iload_n 2, 1) := by decide +kernel
theorem dX1_repair_99 : decode cX1_repair 99 = .ok (.iconst 1, 1) := by decide +kernel
theorem dX1_repair_100 : decode cX1_repair 100 = .ok (.iadd, 1) := by decide +kernel
theorem dX1_repair_101 : decode cX1_repair 101 = .ok (.iaload, 1) := by decide +kernel
theorem dX1_repair_102 : decode cX1_repair 102 = .ok (.isub, 1) := by decide +kernel
theorem dX1_repair_103 : decode cX1_repair 103 = .ok (.istore 6, 2) := by decide +kernel
theorem dX1_repair_105 : decode cX1_repair 105 = .ok (.iload_n 3, 1) := by decide +kernel
theorem dX1_repair_106 : decode cX1_repair 106 = .ok (.ifCond .ne 13, 3) := by decide +kernel
theorem dX1_repair_109 : decode cX1_repair 109 = .ok (.iload 5, 2) := by decide +kernel
theorem dX1_repair_111 : decode cX1_repair 111 = .ok (.ifCond .eq 16, 3) := by decide +kernel
theorem dX1_repair_114 : decode cX1_repair 114 = .ok (.iload 6, 2) := by decide +kernel
theorem dX1_repair_116 : decode cX1_repair 116 = .ok (.ifCond .ge 11, 3) := by decide +kernel
theorem dX1_repair_119 : decode cX1_repair 119 = .ok (.aload_n 0, 1) := by decide +kernel
theorem dX1_repair_120 : decode cX1_repair 120 = .ok (.iload_n 1, 1) := by decide +kernel
theorem dX1_repair_121 : decode cX1_repair 121 = .ok (.iload_n 2, 1) := by decide +kernel
theorem dX1_repair_122 : decode cX1_repair 122 = .ok (.invokevirtual 98, 3) := by decide +kernel
theorem dX1_repair_125 : decode cX1_repair 125 = .ok (.iconst 1, 1) := by decide +kernel
theorem dX1_repair_126 : decode cX1_repair 126 = .ok (.ireturn, 1) := by decide +kernel
theorem dX1_repair_127 : decode cX1_repair 127 = .ok (.iload 4, 2) := by decide +kernel
theorem dX1_repair_129 : decode cX1_repair 129 = .ok (.ifCond .ne 13, 3) := by decide +kernel
theorem dX1_repair_132 : decode cX1_repair 132 = .ok (.iload 5, 2) := by decide +kernel
theorem dX1_repair_134 : decode cX1_repair 134 = .ok (.ifCond .eq 16, 3) := by decide +kernel
theorem dX1_repair_137 : decode cX1_repair 137 = .ok (.iload 6, 2) := by decide +kernel
theorem dX1_repair_139 : decode cX1_repair 139 = .ok (.ifCond .le 11, 3) := by decide +kernel
theorem dX1_repair_142 : decode cX1_repair 142 = .ok (.aload_n 0, 1) := by decide +kernel
theorem dX1_repair_143 : decode cX1_repair 143 = .ok (.iload_n 2, 1) := by decide +kernel
theorem dX1_repair_144 : decode cX1_repair 144 = .ok (.iload_n 1, 1) := by decide +kernel
theorem dX1_repair_145 : decode cX1_repair 145 = .ok (.invokevirtual 98, 3) := by decide +kernel
theorem dX1_repair_148 : decode cX1_repair 148 = .ok (.iconst 1, 1) := by decide +kernel
theorem dX1_repair_149 : decode cX1_repair 149 = .ok (.ireturn, 1) := by decide +kernel
theorem dX1_repair_150 : decode cX1_repair 150 = .ok (.iconst 0, 1) := by decide +kernel
theorem dX1_repair_151 : decode cX1_repair 151 = .ok (.ireturn, 1) := by decide +kernel
theorem dX2_init_0 : decode cX2_init 0 = .ok (.aload_n 0, 1) := by decide +kernel
theorem dX2_init_1 : decode cX2_init 1 = .ok (.invokespecial 1, 3) := by decide +kernel
theorem dX2_init_4 : decode cX2_init 4 = .ok (.aload_n 0, 1) := by decide +kernel
theorem dX2_init_5 : decode cX2_init 5 = .ok (.bipush 80, 2) := by decide +kernel
theorem dX2_init_7 : decode cX2_init 7 = .ok (.newarray .int, 2) := by decide +kernel
theorem dX2_init_9 : decode cX2_init 9 = .ok (.putfield 9, 3) := by decide +kernel
theorem dX2_init_12 : decode cX2_init 12 = .ok (.aload_n 0, 1) := by decide +kernel
theorem dX2_init_13 : decode cX2_init 13 = .ok (.sipush 240, 3) := by decide +kernel
theorem dX2_init_16 : decode cX2_init 16 = .ok (.newarray .int, 2) := by decide +kernel
theorem dX2_init_18 : decode cX2_init 18 = .ok (.putfield 13, 3) := by decide +kernel
theorem dX2_init_21 : decode cX2_init 21 = .ok (.aload_n 0, 1) := by decide +kernel
theorem dX2_init_22 : decode cX2_init 22 = .ok (.bipush 101, 2) := by decide +kernel
theorem dX2_init_24 : decode cX2_init 24 = .ok (.newarray .int, 2) := by decide +kernel
theorem dX2_init_26 : decode cX2_init 26 = .ok (.putfield 16, 3) := by decide +kernel
theorem dX2_init_29 : decode cX2_init 29 = .ok (.aload_n 0, 1) := by decide +kernel
theorem dX2_init_30 : decode cX2_init 30 = .ok (.iconst 3, 1) := by decide +kernel
theorem dX2_init_31 : decode cX2_init 31 = .ok (.newarray .int, 2) := by decide +kernel
theorem dX2_init_33 : decode cX2_init 33 = .ok (.putfield 19, 3) := by decide +kernel
theorem dX2_init_36 : decode cX2_init 36 = .ok (.aload_n 0, 1) := by decide +kernel
theorem dX2_init_37 : decode cX2_init 37 = .ok (.iconst 3, 1) := by decide +kernel
theorem dX2_init_38 : decode cX2_init 38 = .ok (.newarray .int, 2) := by decide +kernel
theorem dX2_init_40 : decode cX2_init 40 = .ok (.putfield 22, 3) := by decide +kernel
theorem dX2_init_43 : decode cX2_init 43 = .ok (.return_, 1) := by decide +kernel
theorem dX2_length_0 : decode cX2_length 0 = .ok (.aload_n 0, 1) := by decide +kernel
theorem dX2_length_1 : decode cX2_length 1 = .ok (.getfield 25, 3) := by decide +kernel
theorem dX2_length_4 : decode cX2_length 4 = .ok (.ireturn, 1) := by decide +kernel
theorem dX2_isFull_0 : decode cX2_isFull 0 = .ok (.aload_n 0, 1) := by decide +kernel
theorem dX2_isFull_1 : decode cX2_isFull 1 = .ok (.getfield 25, 3) := by decide +kernel
theorem dX2_isFull_4 : decode cX2_isFull 4 = .ok (.bipush 80, 2) := by decide +kernel
theorem dX2_isFull_6 : decode cX2_isFull 6 = .ok (.if_icmp .lt 7, 3) := by decide +kernel
theorem dX2_isFull_9 : decode cX2_isFull 9 = .ok (.iconst 1, 1) := by decide +kernel
theorem dX2_isFull_10 : decode cX2_isFull 10 = .ok (.goto 4, 3) := by decide +kernel
theorem dX2_isFull_13 : decode cX2_isFull 13 = .ok (.iconst 0, 1) := by decide +kernel
theorem dX2_isFull_14 : decode cX2_isFull 14 = .ok (.ireturn, 1) := by decide +kernel
set_option maxRecDepth 20000 in
theorem ggX2_addSign_X2_isFull : GoodIn wsX2_addSign wsX2_isFull := goodIn_r _ [7, 2, 8, 9, 10, 11, 12, 13, 14, 15, 16] (by decide +kernel) (by decide +kernel)
set_option maxRecDepth 20000 in
theorem gX2_addSign_X2_isFull : GoodIn wsX2_addSign (wsV RX2 29 RX2 yX2_isFull wsX2_isFull) := goodIn_app (goodIn_of _ (by decide +kernel)) ggX2_addSign_X2_isFull
theorem dX2_addSign_0 : decode cX2_addSign 0 = .ok (.aload_n 0, 1) := by decide +kernel
theorem dX2_addSign_1 : decode cX2_addSign 1 = .ok (.invokevirtual 29, 3) := by decide +kernel
theorem dX2_addSign_4 : decode cX2_addSign 4 = .ok (.ifCond .ne 23, 3) := by decide +kernel
theorem dX2_addSign_7 : decode cX2_addSign 7 = .ok (.aload_n 0, 1) := by decide +kernel
theorem dX2_addSign_8 : decode cX2_addSign 8 = .ok (.getfield 9, 3) := by decide +kernel
theorem dX2_addSign_11 : decode cX2_addSign 11 = .ok (.aload_n 0, 1) := by decide +kernel
theorem dX2_addSign_12 : decode cX2_addSign 12 = .ok (.getfield 25, 3) := by decide +kernel
theorem dX2_addSign_15 : decode cX2_addSign 15 = .ok (.iload_n 1, 1) := by decide +kernel
theorem dX2_addSign_16 : decode cX2_addSign 16 = .ok (.iastore, 1) := by decide +kernel
theorem dX2_addSign_17 : decode cX2_addSign 17 = .ok (.aload_n 0, 1) := by decide +kernel
theorem dX2_addSign_18 : decode cX2_addSign 18 = .ok (.dup, 1) := by decide +kernel
theorem dX2_addSign_19 : decode cX2_addSign 19 = .ok (.getfield 25, 3) := by decide +kernel
theorem dX2_addSign_22 : decode cX2_addSign 22 = .ok (.iconst 1, 1) := by decide +kernel
theorem dX2_addSign_23 : decode cX2_addSign 23 = .ok (.iadd, 1) := by decide +kernel
theorem dX2_addSign_24 : decode cX2_addSign 24 = .ok (.putfield 25, 3) := by decide +kernel
theorem dX2_addSign_27 : decode cX2_addSign 27 = .ok (.return_, 1) := by decide +kernel
theorem dX2_makeEmpty_0 : decode cX2_makeEmpty 0 = .ok (.aload_n 0, 1) := by decide +kernel
theorem dX2_makeEmpty_1 : decode cX2_makeEmpty 1 = .ok (.iconst 0, 1) := by decide +kernel
theorem dX2_makeEmpty_2 : decode cX2_makeEmpty 2 = .ok (.putfield 25, 3) := by decide +kernel
theorem dX2_makeEmpty_5 : decode cX2_makeEmpty 5 = .ok (.return_, 1) := by decide +kernel
theorem dX2_signAt_0 : decode cX2_signAt 0 = .ok (.iload_n 1, 1) := by decide +kernel
theorem dX2_signAt_1 : decode cX2_signAt 1 = .ok (.ifCond .lt 20, 3) := by decide +kernel
theorem dX2_signAt_4 : decode cX2_signAt 4 = .ok (.iload_n 1, 1) := by decide +kernel
theorem dX2_signAt_5 : decode cX2_signAt 5 = .ok (.aload_n 0, 1) := by decide +kernel
theorem dX2_signAt_6 : decode cX2_signAt 6 = .ok (.getfield 25, 3) := by decide +kernel
theorem dX2_signAt_9 : decode cX2_signAt 9 = .ok (.if_icmp .ge 12, 3) := by decide +kernel
theorem dX2_signAt_12 : decode cX2_signAt 12 = .ok (.aload_n 0, 1) := by decide +kernel
theorem dX2_signAt_13 : decode cX2_signAt 13 = .ok (.getfield 9, 3) := by decide +kernel
theorem dX2_signAt_16 : decode cX2_signAt 16 = .ok (.iload_n 1, 1) := by decide +kernel
theorem dX2_signAt_17 : decode cX2_signAt 17 = .ok (.iaload, 1) := by decide +kernel
theorem dX2_signAt_18 : decode cX2_signAt 18 = .ok (.goto 4, 3) := by decide +kernel
theorem dX2_signAt_21 : decode cX2_signAt 21 = .ok (.iconst 0, 1) := by decide +kernel
theorem dX2_signAt_22 : decode cX2_signAt 22 = .ok (.ireturn, 1) := by decide +kernel
theorem dX2_steps_0 : decode cX2_steps 0 = .ok (.aload_n 0, 1) := by decide +kernel
theorem dX2_steps_1 : decode cX2_steps 1 = .ok (.getfield 33, 3) := by decide +kernel
theorem dX2_steps_4 : decode cX2_steps 4 = .ok (.ireturn, 1) := by decide +kernel
theorem dX2_hasTooManySteps_0 : decode cX2_hasTooManySteps 0 = .ok (.aload_n 0, 1) := by decide +kernel
theorem dX2_hasTooManySteps_1 : decode cX2_hasTooManySteps 1 = .ok (.getfield 33, 3) := by decide +kernel
theorem dX2_hasTooManySteps_4 : decode cX2_hasTooManySteps 4 = .ok (.bipush 100, 2) := by decide +kernel
theorem dX2_hasTooManySteps_6 : decode cX2_hasTooManySteps 6 = .ok (.if_icmp .le 7, 3) := by decide +kernel
theorem dX2_hasTooManySteps_9 : decode cX2_hasTooManySteps 9 = .ok (.iconst 1, 1) := by decide +kernel
theorem dX2_hasTooManySteps_10 : decode cX2_hasTooManySteps 10 = .ok (.goto 4, 3) := by decide +kernel
theorem dX2_hasTooManySteps_13 : decode cX2_hasTooManySteps 13 = .ok (.iconst 0, 1) := by decide +kernel
theorem dX2_hasTooManySteps_14 : decode cX2_hasTooManySteps 14 = .ok (.ireturn, 1) := by decide +kernel
theorem dX2_letterOfStep_0 : decode cX2_letterOfStep 0 = .ok (.iload_n 1, 1) := by decide +kernel
theorem dX2_letterOfStep_1 : decode cX2_letterOfStep 1 = .ok (.ifCond .lt 20, 3) := by decide +kernel
theorem dX2_letterOfStep_4 : decode cX2_letterOfStep 4 = .ok (.iload_n 1, 1) := by decide +kernel
theorem dX2_letterOfStep_5 : decode cX2_letterOfStep 5 = .ok (.aload_n 0, 1) := by decide +kernel
theorem dX2_letterOfStep_6 : decode cX2_letterOfStep 6 = .ok (.getfield 33, 3) := by decide +kernel
theorem dX2_letterOfStep_9 : decode cX2_letterOfStep 9 = .ok (.if_icmp .ge 12, 3) := by decide +kernel
theorem dX2_letterOfStep_12 : decode cX2_letterOfStep 12 = .ok (.aload_n 0, 1) := by decide +kernel
theorem dX2_letterOfStep_13 : decode cX2_letterOfStep 13 = .ok (.getfield 16, 3) := by decide +kernel
theorem dX2_letterOfStep_16 : decode cX2_letterOfStep 16 = .ok (.iload_n 1, 1) := by decide +kernel
theorem dX2_letterOfStep_17 : decode cX2_letterOfStep 17 = .ok (.iaload, 1) := by decide +kernel
theorem dX2_letterOfStep_18 : decode cX2_letterOfStep 18 = .ok (.goto 4, 3) := by decide +kernel
theorem dX2_letterOfStep_21 : decode cX2_letterOfStep 21 = .ok (.iconst 0, 1) := by decide +kernel
theorem dX2_letterOfStep_22 : decode cX2_letterOfStep 22 = .ok (.ireturn, 1) := by decide +kernel
theorem dX2_numberBehind_0 : decode cX2_numberBehind 0 = .ok (.aload_n 0, 1) := by decide +kernel
theorem dX2_numberBehind_1 : decode cX2_numberBehind 1 = .ok (.getfield 13, 3) := by decide +kernel
theorem dX2_numberBehind_4 : decode cX2_numberBehind 4 = .ok (.iload_n 1, 1) := by decide +kernel
theorem dX2_numberBehind_5 : decode cX2_numberBehind 5 = .ok (.iconst 3, 1) := by decide +kernel
theorem dX2_numberBehind_6 : decode cX2_numberBehind 6 = .ok (.imul, 1) := by decide +kernel
theorem dX2_numberBehind_7 : decode cX2_numberBehind 7 = .ok (.iload_n 2, 1) := by decide +kernel
theorem dX2_numberBehind_8 : decode cX2_numberBehind 8 = .ok (.iadd, 1) := by decide +kernel
theorem dX2_numberBehind_9 : decode cX2_numberBehind 9 = .ok (.iaload, 1) := by decide +kernel
theorem dX2_numberBehind_10 : decode cX2_numberBehind 10 = .ok (.ireturn, 1) := by decide +kernel
theorem dX2_place_0 : decode cX2_place 0 = .ok (.aload_n 0, 1) := by decide +kernel
theorem dX2_place_1 : decode cX2_place 1 = .ok (.getfield 36, 3) := by decide +kernel
theorem dX2_place_4 : decode cX2_place 4 = .ok (.ireturn, 1) := by decide +kernel
set_option maxRecDepth 20000 in
theorem ggX2_isUnderstood_X2_readPiece : GoodIn wsX2_isUnderstood wsX2_readPiece := goodIn_r _ [9, 1, 10, 11, 12, 8, 13, 4, 14, 15, 16, 17, 18, 3, 19, 20, 2, 21, 22, 23, 24, 25, 26, 27, 28, 29, 30, 31, 32, 33, 34, 35, 36, 37, 38, 39, 40, 41, 42, 43, 44, 45, 46, 47, 48, 49, 50, 51, 52, 53, 54] (by decide +kernel) (by decide +kernel)
set_option maxRecDepth 20000 in
theorem gX2_isUnderstood_X2_readPiece : GoodIn wsX2_isUnderstood (wsV RX2 42 RX2 yX2_readPiece wsX2_readPiece) := goodIn_app (goodIn_of _ (by decide +kernel)) ggX2_isUnderstood_X2_readPiece
theorem dX2_isUnderstood_0 : decode cX2_isUnderstood 0 = .ok (.aload_n 0, 1) := by decide +kernel
theorem dX2_isUnderstood_1 : decode cX2_isUnderstood 1 = .ok (.iconst 0, 1) := by decide +kernel
theorem dX2_isUnderstood_2 : decode cX2_isUnderstood 2 = .ok (.putfield 36, 3) := by decide +kernel
theorem dX2_isUnderstood_5 : decode cX2_isUnderstood 5 = .ok (.aload_n 0, 1) := by decide +kernel
theorem dX2_isUnderstood_6 : decode cX2_isUnderstood 6 = .ok (.iconst 0, 1) := by decide +kernel
theorem dX2_isUnderstood_7 : decode cX2_isUnderstood 7 = .ok (.putfield 33, 3) := by decide +kernel
theorem dX2_isUnderstood_10 : decode cX2_isUnderstood 10 = .ok (.aload_n 0, 1) := by decide +kernel
theorem dX2_isUnderstood_11 : decode cX2_isUnderstood 11 = .ok (.iconst 0, 1) := by decide +kernel
theorem dX2_isUnderstood_12 : decode cX2_isUnderstood 12 = .ok (.putfield 39, 3) := by decide +kernel
theorem dX2_isUnderstood_15 : decode cX2_isUnderstood 15 = .ok (.iconst 0, 1) := by decide +kernel
theorem dX2_isUnderstood_16 : decode cX2_isUnderstood 16 = .ok (.istore_n 1, 1) := by decide +kernel
theorem dX2_isUnderstood_17 : decode cX2_isUnderstood 17 = .ok (.iload_n 1, 1) := by decide +kernel
theorem dX2_isUnderstood_18 : decode cX2_isUnderstood 18 = .ok (.bipush 80, 2) := by decide +kernel
theorem dX2_isUnderstood_20 : decode cX2_isUnderstood 20 = .ok (.if_icmp .ge 29, 3) := by decide +kernel
theorem dX2_isUnderstood_23 : decode cX2_isUnderstood 23 = .ok (.aload_n 0, 1) := by decide +kernel
theorem dX2_isUnderstood_24 : decode cX2_isUnderstood 24 = .ok (.getfield 36, 3) := by decide +kernel
theorem dX2_isUnderstood_27 : decode cX2_isUnderstood 27 = .ok (.aload_n 0, 1) := by decide +kernel
theorem dX2_isUnderstood_28 : decode cX2_isUnderstood 28 = .ok (.getfield 25, 3) := by decide +kernel
theorem dX2_isUnderstood_31 : decode cX2_isUnderstood 31 = .ok (.if_icmp .ge 18, 3) := by decide +kernel
theorem dX2_isUnderstood_34 : decode cX2_isUnderstood 34 = .ok (.aload_n 0, 1) := by decide +kernel
theorem dX2_isUnderstood_35 : decode cX2_isUnderstood 35 = .ok (.invokevirtual 42, 3) := by decide +kernel
theorem dX2_isUnderstood_38 : decode cX2_isUnderstood 38 = .ok (.ifCond .ne 5, 3) := by decide +kernel
theorem dX2_isUnderstood_41 : decode cX2_isUnderstood 41 = .ok (.iconst 0, 1) := by decide +kernel
theorem dX2_isUnderstood_42 : decode cX2_isUnderstood 42 = .ok (.ireturn, 1) := by decide +kernel
theorem dX2_isUnderstood_43 : decode cX2_isUnderstood 43 = .ok (.iinc 1 1, 3) := by decide +kernel
theorem dX2_isUnderstood_46 : decode cX2_isUnderstood 46 = .ok (.goto (-29), 3) := by decide +kernel
theorem dX2_isUnderstood_49 : decode cX2_isUnderstood 49 = .ok (.aload_n 0, 1) := by decide +kernel
theorem dX2_isUnderstood_50 : decode cX2_isUnderstood 50 = .ok (.getfield 39, 3) := by decide +kernel
theorem dX2_isUnderstood_53 : decode cX2_isUnderstood 53 = .ok (.ifCond .ne 7, 3) := by decide +kernel
theorem dX2_isUnderstood_56 : decode cX2_isUnderstood 56 = .ok (.iconst 1, 1) := by decide +kernel
theorem dX2_isUnderstood_57 : decode cX2_isUnderstood 57 = .ok (.goto 4, 3) := by decide +kernel
theorem dX2_isUnderstood_60 : decode cX2_isUnderstood 60 = .ok (.iconst 0, 1) := by decide +kernel
theorem dX2_isUnderstood_61 : decode cX2_isUnderstood 61 = .ok (.ireturn, 1) := by decide +kernel
set_option maxRecDepth 20000 in
theorem ggX2_readPiece_X2_signAt : GoodIn wsX2_readPiece wsX2_signAt := goodIn_r _ [6, 7, 8, 42, 43, 44, 45, 46, 47, 48, 49, 50] (by decide +kernel) (by decide +kernel)
set_option maxRecDepth 20000 in
theorem gX2_readPiece_X2_signAt : GoodIn wsX2_readPiece (wsV RX2 45 RX2 yX2_signAt wsX2_signAt) := goodIn_app (goodIn_of _ (by decide +kernel)) ggX2_readPiece_X2_signAt
set_option maxRecDepth 20000 in
theorem ggX2_readPiece_X2_openGroup : GoodIn wsX2_readPiece wsX2_openGroup := goodIn_r _ [12, 1, 13, 14, 15, 16, 2, 3, 4, 5, 6, 7, 8, 42, 43, 44, 45, 46, 47, 48, 49, 50] (by decide +kernel) (by decide +kernel)
set_option maxRecDepth 20000 in
theorem gX2_readPiece_X2_openGroup : GoodIn wsX2_readPiece (wsV RX2 49 RX2 yX2_openGroup wsX2_openGroup) := goodIn_app (goodIn_of _ (by decide +kernel)) ggX2_readPiece_X2_openGroup
set_option maxRecDepth 20000 in
theorem ggX2_readPiece_X2_closeGroup : GoodIn wsX2_readPiece wsX2_closeGroup := goodIn_r _ [20, 13, 15, 16, 14, 21, 1, 22, 23, 24, 5, 25, 42, 43, 44, 45, 46, 47, 48, 49, 50] (by decide +kernel) (by decide +kernel)
set_option maxRecDepth 20000 in
theorem gX2_readPiece_X2_closeGroup : GoodIn wsX2_readPiece (wsV RX2 52 RX2 yX2_closeGroup wsX2_closeGroup) := goodIn_app (goodIn_of _ (by decide +kernel)) ggX2_readPiece_X2_closeGroup
set_option maxRecDepth 20000 in
theorem ggX2_readPiece_X2_readAct : GoodIn wsX2_readPiece wsX2_readAct := goodIn_r _ [29, 1, 2, 3, 4, 5, 6, 7, 8, 22, 23, 24, 25, 16, 21, 30, 31, 32, 33, 34, 35, 36, 37, 38, 39, 40, 41, 42, 43, 44, 45, 46, 47, 48, 49, 50] (by decide +kernel) (by decide +kernel)
set_option maxRecDepth 20000 in
theorem gX2_readPiece_X2_readAct : GoodIn wsX2_readPiece (wsV RX2 55 RX2 yX2_readAct wsX2_readAct) := goodIn_app (goodIn_of _ (by decide +kernel)) ggX2_readPiece_X2_readAct
theorem dX2_readPiece_0 : decode cX2_readPiece 0 = .ok (.aload_n 0, 1) := by decide +kernel
theorem dX2_readPiece_1 : decode cX2_readPiece 1 = .ok (.aload_n 0, 1) := by decide +kernel
theorem dX2_readPiece_2 : decode cX2_readPiece 2 = .ok (.getfield 36, 3) := by decide +kernel
theorem dX2_readPiece_5 : decode cX2_readPiece 5 = .ok (.invokevirtual 45, 3) := by decide +kernel
theorem dX2_readPiece_8 : decode cX2_readPiece 8 = .ok (.istore_n 1, 1) := by decide +kernel
theorem dX2_readPiece_9 : decode cX2_readPiece 9 = .ok (.iload_n 1, 1) := by decide +kernel
theorem dX2_readPiece_10 : decode cX2_readPiece 10 = .ok (.bipush 40, 2) := by decide +kernel
theorem dX2_readPiece_12 : decode cX2_readPiece 12 = .ok (.if_icmp .eq 15, 3) := by decide +kernel
theorem dX2_readPiece_15 : decode cX2_readPiece 15 = .ok (.iload_n 1, 1) := by decide +kernel
theorem dX2_readPiece_16 : decode cX2_readPiece 16 = .ok (.bipush 50, 2) := by decide +kernel
theorem dX2_readPiece_18 : decode cX2_readPiece 18 = .ok (.if_icmp .lt 14, 3) := by decide +kernel
theorem dX2_readPiece_21 : decode cX2_readPiece 21 = .ok (.iload_n 1, 1) := by decide +kernel
theorem dX2_readPiece_22 : decode cX2_readPiece 22 = .ok (.bipush 57, 2) := by decide +kernel
theorem dX2_readPiece_24 : decode cX2_readPiece 24 = .ok (.if_icmp .gt 8, 3) := by decide +kernel
theorem dX2_readPiece_27 : decode cX2_readPiece 27 = .ok (.aload_n 0, 1) := by decide +kernel
theorem dX2_readPiece_28 : decode cX2_readPiece 28 = .ok (.invokevirtual 49, 3) := by decide +kernel
theorem dX2_readPiece_31 : decode cX2_readPiece 31 = .ok (.ireturn, 1) := by decide +kernel
theorem dX2_readPiece_32 : decode cX2_readPiece 32 = .ok (.iload_n 1, 1) := by decide +kernel
theorem dX2_readPiece_33 : decode cX2_readPiece 33 = .ok (.bipush 41, 2) := by decide +kernel
theorem dX2_readPiece_35 : decode cX2_readPiece 35 = .ok (.if_icmp .ne 8, 3) := by decide +kernel
theorem dX2_readPiece_38 : decode cX2_readPiece 38 = .ok (.aload_n 0, 1) := by decide +kernel
theorem dX2_readPiece_39 : decode cX2_readPiece 39 = .ok (.invokevirtual 52, 3) := by decide +kernel
theorem dX2_readPiece_42 : decode cX2_readPiece 42 = .ok (.ireturn, 1) := by decide +kernel
theorem dX2_readPiece_43 : decode cX2_readPiece 43 = .ok (.aload_n 0, 1) := by decide +kernel
theorem dX2_readPiece_44 : decode cX2_readPiece 44 = .ok (.invokevirtual 55, 3) := by decide +kernel
theorem dX2_readPiece_47 : decode cX2_readPiece 47 = .ok (.ireturn, 1) := by decide +kernel
set_option maxRecDepth 20000 in
theorem ggX2_openGroup_X2_signAt : GoodIn wsX2_openGroup wsX2_signAt := goodIn_r _ [10, 11, 12, 13, 14, 15, 16, 17, 18, 19, 20, 21] (by decide +kernel) (by decide +kernel)
set_option maxRecDepth 20000 in
theorem gX2_openGroup_X2_signAt : GoodIn wsX2_openGroup (wsV RX2 45 RX2 yX2_signAt wsX2_signAt) := goodIn_app (goodIn_of _ (by decide +kernel)) ggX2_openGroup_X2_signAt
theorem dX2_openGroup_0 : decode cX2_openGroup 0 = .ok (.iconst 1, 1) := by decide +kernel
theorem dX2_openGroup_1 : decode cX2_openGroup 1 = .ok (.istore_n 1, 1) := by decide +kernel
theorem dX2_openGroup_2 : decode cX2_openGroup 2 = .ok (.aload_n 0, 1) := by decide +kernel
theorem dX2_openGroup_3 : decode cX2_openGroup 3 = .ok (.aload_n 0, 1) := by decide +kernel
theorem dX2_openGroup_4 : decode cX2_openGroup 4 = .ok (.getfield 36, 3) := by decide +kernel
theorem dX2_openGroup_7 : decode cX2_openGroup 7 = .ok (.invokevirtual 45, 3) := by decide +kernel
theorem dX2_openGroup_10 : decode cX2_openGroup 10 = .ok (.bipush 40, 2) := by decide +kernel
theorem dX2_openGroup_12 : decode cX2_openGroup 12 = .ok (.if_icmp .eq 25, 3) := by decide +kernel
theorem dX2_openGroup_15 : decode cX2_openGroup 15 = .ok (.aload_n 0, 1) := by decide +kernel
theorem dX2_openGroup_16 : decode cX2_openGroup 16 = .ok (.aload_n 0, 1) := by decide +kernel
theorem dX2_openGroup_17 : decode cX2_openGroup 17 = .ok (.getfield 36, 3) := by decide +kernel
theorem dX2_openGroup_20 : decode cX2_openGroup 20 = .ok (.invokevirtual 45, 3) := by decide +kernel
theorem dX2_openGroup_23 : decode cX2_openGroup 23 = .ok (.bipush 48, 2) := by decide +kernel
theorem dX2_openGroup_25 : decode cX2_openGroup 25 = .ok (.isub, 1) := by decide +kernel
theorem dX2_openGroup_26 : decode cX2_openGroup 26 = .ok (.istore_n 1, 1) := by decide +kernel
theorem dX2_openGroup_27 : decode cX2_openGroup 27 = .ok (.aload_n 0, 1) := by decide +kernel
theorem dX2_openGroup_28 : decode cX2_openGroup 28 = .ok (.dup, 1) := by decide +kernel
theorem dX2_openGroup_29 : decode cX2_openGroup 29 = .ok (.getfield 36, 3) := by decide +kernel
theorem dX2_openGroup_32 : decode cX2_openGroup 32 = .ok (.iconst 1, 1) := by decide +kernel
theorem dX2_openGroup_33 : decode cX2_openGroup 33 = .ok (.iadd, 1) := by decide +kernel
theorem dX2_openGroup_34 : decode cX2_openGroup 34 = .ok (.putfield 36, 3) := by decide +kernel
theorem dX2_openGroup_37 : decode cX2_openGroup 37 = .ok (.aload_n 0, 1) := by decide +kernel
theorem dX2_openGroup_38 : decode cX2_openGroup 38 = .ok (.aload_n 0, 1) := by decide +kernel
theorem dX2_openGroup_39 : decode cX2_openGroup 39 = .ok (.getfield 36, 3) := by decide +kernel
theorem dX2_openGroup_42 : decode cX2_openGroup 42 = .ok (.invokevirtual 45, 3) := by decide +kernel
theorem dX2_openGroup_45 : decode cX2_openGroup 45 = .ok (.bipush 40, 2) := by decide +kernel
theorem dX2_openGroup_47 : decode cX2_openGroup 47 = .ok (.if_icmp .ne 11, 3) := by decide +kernel
theorem dX2_openGroup_50 : decode cX2_openGroup 50 = .ok (.aload_n 0, 1) := by decide +kernel
theorem dX2_openGroup_51 : decode cX2_openGroup 51 = .ok (.getfield 39, 3) := by decide +kernel
theorem dX2_openGroup_54 : decode cX2_openGroup 54 = .ok (.iconst 3, 1) := by decide +kernel
theorem dX2_openGroup_55 : decode cX2_openGroup 55 = .ok (.if_icmp .lt 5, 3) := by decide +kernel
theorem dX2_openGroup_58 : decode cX2_openGroup 58 = .ok (.iconst 0, 1) := by decide +kernel
theorem dX2_openGroup_59 : decode cX2_openGroup 59 = .ok (.ireturn, 1) := by decide +kernel
theorem dX2_openGroup_60 : decode cX2_openGroup 60 = .ok (.aload_n 0, 1) := by decide +kernel
theorem dX2_openGroup_61 : decode cX2_openGroup 61 = .ok (.getfield 19, 3) := by decide +kernel
theorem dX2_openGroup_64 : decode cX2_openGroup 64 = .ok (.aload_n 0, 1) := by decide +kernel
theorem dX2_openGroup_65 : decode cX2_openGroup 65 = .ok (.getfield 39, 3) := by decide +kernel
theorem dX2_openGroup_68 : decode cX2_openGroup 68 = .ok (.iload_n 1, 1) := by decide +kernel
theorem dX2_openGroup_69 : decode cX2_openGroup 69 = .ok (.iastore, 1) := by decide +kernel
theorem dX2_openGroup_70 : decode cX2_openGroup 70 = .ok (.aload_n 0, 1) := by decide +kernel
theorem dX2_openGroup_71 : decode cX2_openGroup 71 = .ok (.getfield 22, 3) := by decide +kernel
theorem dX2_openGroup_74 : decode cX2_openGroup 74 = .ok (.aload_n 0, 1) := by decide +kernel
theorem dX2_openGroup_75 : decode cX2_openGroup 75 = .ok (.getfield 39, 3) := by decide +kernel
theorem dX2_openGroup_78 : decode cX2_openGroup 78 = .ok (.aload_n 0, 1) := by decide +kernel
theorem dX2_openGroup_79 : decode cX2_openGroup 79 = .ok (.getfield 33, 3) := by decide +kernel
theorem dX2_openGroup_82 : decode cX2_openGroup 82 = .ok (.iastore, 1) := by decide +kernel
theorem dX2_openGroup_83 : decode cX2_openGroup 83 = .ok (.aload_n 0, 1) := by decide +kernel
theorem dX2_openGroup_84 : decode cX2_openGroup 84 = .ok (.dup, 1) := by decide +kernel
theorem dX2_openGroup_85 : decode cX2_openGroup 85 = .ok (.getfield 39, 3) := by decide +kernel
theorem dX2_openGroup_88 : decode cX2_openGroup 88 = .ok (.iconst 1, 1) := by decide +kernel
theorem dX2_openGroup_89 : decode cX2_openGroup 89 = .ok (.iadd, 1) := by decide +kernel
theorem dX2_openGroup_90 : decode cX2_openGroup 90 = .ok (.putfield 39, 3) := by decide +kernel
theorem dX2_openGroup_93 : decode cX2_openGroup 93 = .ok (.aload_n 0, 1) := by decide +kernel
theorem dX2_openGroup_94 : decode cX2_openGroup 94 = .ok (.dup, 1) := by decide +kernel
theorem dX2_openGroup_95 : decode cX2_openGroup 95 = .ok (.getfield 36, 3) := by decide +kernel
theorem dX2_openGroup_98 : decode cX2_openGroup 98 = .ok (.iconst 1, 1) := by decide +kernel
theorem dX2_openGroup_99 : decode cX2_openGroup 99 = .ok (.iadd, 1) := by decide +kernel
theorem dX2_openGroup_100 : decode cX2_openGroup 100 = .ok (.putfield 36, 3) := by decide +kernel
theorem dX2_openGroup_103 : decode cX2_openGroup 103 = .ok (.iconst 1, 1) := by decide +kernel
theorem dX2_openGroup_104 : decode cX2_openGroup 104 = .ok (.ireturn, 1) := by decide +kernel
set_option maxRecDepth 20000 in
theorem ggX2_closeGroup_X2_addStep : GoodIn wsX2_closeGroup wsX2_addStep := goodIn_r _ [11, 3, 5, 12, 13, 14, 15, 16, 17, 18, 19, 20] (by decide +kernel) (by decide +kernel)
set_option maxRecDepth 20000 in
theorem gX2_closeGroup_X2_addStep : GoodIn wsX2_closeGroup (wsV RX2 58 RX2 yX2_addStep wsX2_addStep) := goodIn_app (goodIn_of _ (by decide +kernel)) ggX2_closeGroup_X2_addStep
theorem dX2_closeGroup_0 : decode cX2_closeGroup 0 = .ok (.aload_n 0, 1) := by decide +kernel
theorem dX2_closeGroup_1 : decode cX2_closeGroup 1 = .ok (.getfield 39, 3) := by decide +kernel
theorem dX2_closeGroup_4 : decode cX2_closeGroup 4 = .ok (.ifCond .ne 5, 3) := by decide +kernel
theorem dX2_closeGroup_7 : decode cX2_closeGroup 7 = .ok (.iconst 0, 1) := by decide +kernel
theorem dX2_closeGroup_8 : decode cX2_closeGroup 8 = .ok (.ireturn, 1) := by decide +kernel
theorem dX2_closeGroup_9 : decode cX2_closeGroup 9 = .ok (.aload_n 0, 1) := by decide +kernel
theorem dX2_closeGroup_10 : decode cX2_closeGroup 10 = .ok (.dup, 1) := by decide +kernel
theorem dX2_closeGroup_11 : decode cX2_closeGroup 11 = .ok (.getfield 39, 3) := by decide +kernel
theorem dX2_closeGroup_14 : decode cX2_closeGroup 14 = .ok (.iconst 1, 1) := by decide +kernel
theorem dX2_closeGroup_15 : decode cX2_closeGroup 15 = .ok (.isub, 1) := by decide +kernel
theorem dX2_closeGroup_16 : decode cX2_closeGroup 16 = .ok (.putfield 39, 3) := by decide +kernel
theorem dX2_closeGroup_19 : decode cX2_closeGroup 19 = .ok (.aload_n 0, 1) := by decide +kernel
theorem dX2_closeGroup_20 : decode cX2_closeGroup 20 = .ok (.getfield 22, 3) := by decide +kernel
theorem dX2_closeGroup_23 : decode cX2_closeGroup 23 = .ok (.aload_n 0, 1) := by decide +kernel
theorem dX2_closeGroup_24 : decode cX2_closeGroup 24 = .ok (.getfield 39, 3) := by decide +kernel
theorem dX2_closeGroup_27 : decode cX2_closeGroup 27 = .ok (.iaload, 1) := by decide +kernel
theorem dX2_closeGroup_28 : decode cX2_closeGroup 28 = .ok (.istore_n 1, 1) := by decide +kernel
theorem dX2_closeGroup_29 : decode cX2_closeGroup 29 = .ok (.aload_n 0, 1) := by decide +kernel
theorem dX2_closeGroup_30 : decode cX2_closeGroup 30 = .ok (.getfield 33, 3) := by decide +kernel
theorem dX2_closeGroup_33 : decode cX2_closeGroup 33 = .ok (.istore_n 2, 1) := by decide +kernel
theorem dX2_closeGroup_34 : decode cX2_closeGroup 34 = .ok (.iconst 1, 1) := by decide +kernel
theorem dX2_closeGroup_35 : decode cX2_closeGroup 35 = .ok (.istore_n 3, 1) := by decide +kernel
theorem dX2_closeGroup_36 : decode cX2_closeGroup 36 = .ok (.iload_n 3, 1) := by decide +kernel
theorem dX2_closeGroup_37 : decode cX2_closeGroup 37 = .ok (.aload_n 0, 1) := by decide +kernel
theorem dX2_closeGroup_38 : decode cX2_closeGroup 38 = .ok (.getfield 19, 3) := by decide +kernel
theorem dX2_closeGroup_41 : decode cX2_closeGroup 41 = .ok (.aload_n 0, 1) := by decide +kernel
theorem dX2_closeGroup_42 : decode cX2_closeGroup 42 = .ok (.getfield 39, 3) := by decide +kernel
theorem dX2_closeGroup_45 : decode cX2_closeGroup 45 = .ok (.iaload, 1) := by decide +kernel
theorem dX2_closeGroup_46 : decode cX2_closeGroup 46 = .ok (.if_icmp .ge 35, 3) := by decide +kernel
theorem dX2_closeGroup_49 : decode cX2_closeGroup 49 = .ok (.iload_n 1, 1) := by decide +kernel
theorem dX2_closeGroup_50 : decode cX2_closeGroup 50 = .ok (.istore 4, 2) := by decide +kernel
theorem dX2_closeGroup_52 : decode cX2_closeGroup 52 = .ok (.iload 4, 2) := by decide +kernel
theorem dX2_closeGroup_54 : decode cX2_closeGroup 54 = .ok (.iload_n 2, 1) := by decide +kernel
theorem dX2_closeGroup_55 : decode cX2_closeGroup 55 = .ok (.if_icmp .ge 20, 3) := by decide +kernel
theorem dX2_closeGroup_58 : decode cX2_closeGroup 58 = .ok (.aload_n 0, 1) := by decide +kernel
theorem dX2_closeGroup_59 : decode cX2_closeGroup 59 = .ok (.aload_n 0, 1) := by decide +kernel
theorem dX2_closeGroup_60 : decode cX2_closeGroup 60 = .ok (.getfield 16, 3) := by decide +kernel
theorem dX2_closeGroup_63 : decode cX2_closeGroup 63 = .ok (.iload 4, 2) := by decide +kernel
theorem dX2_closeGroup_65 : decode cX2_closeGroup 65 = .ok (.iaload, 1) := by decide +kernel
theorem dX2_closeGroup_66 : decode cX2_closeGroup 66 = .ok (.invokevirtual 58, 3) := by decide +kernel
theorem dX2_closeGroup_69 : decode cX2_closeGroup 69 = .ok (.iinc 4 1, 3) := by decide +kernel
theorem dX2_closeGroup_72 : decode cX2_closeGroup 72 = .ok (.goto (-20), 3) := by decide +kernel
theorem dX2_closeGroup_75 : decode cX2_closeGroup 75 = .ok (.iinc 3 1, 3) := by decide +kernel
theorem dX2_closeGroup_78 : decode cX2_closeGroup 78 = .ok (.goto (-42), 3) := by decide +kernel
theorem dX2_closeGroup_81 : decode cX2_closeGroup 81 = .ok (.aload_n 0, 1) := by decide +kernel
theorem dX2_closeGroup_82 : decode cX2_closeGroup 82 = .ok (.dup, 1) := by decide +kernel
theorem dX2_closeGroup_83 : decode cX2_closeGroup 83 = .ok (.getfield 36, 3) := by decide +kernel
theorem dX2_closeGroup_86 : decode cX2_closeGroup 86 = .ok (.iconst 1, 1) := by decide +kernel
theorem dX2_closeGroup_87 : decode cX2_closeGroup 87 = .ok (.iadd, 1) := by decide +kernel
theorem dX2_closeGroup_88 : decode cX2_closeGroup 88 = .ok (.putfield 36, 3) := by decide +kernel
theorem dX2_closeGroup_91 : decode cX2_closeGroup 91 = .ok (.iconst 1, 1) := by decide +kernel
theorem dX2_closeGroup_92 : decode cX2_closeGroup 92 = .ok (.ireturn, 1) := by decide +kernel
theorem dX2_addStep_0 : decode cX2_addStep 0 = .ok (.aload_n 0, 1) := by decide +kernel
theorem dX2_addStep_1 : decode cX2_addStep 1 = .ok (.getfield 33, 3) := by decide +kernel
theorem dX2_addStep_4 : decode cX2_addStep 4 = .ok (.aload_n 0, 1) := by decide +kernel
theorem dX2_addStep_5 : decode cX2_addStep 5 = .ok (.getfield 16, 3) := by decide +kernel
theorem dX2_addStep_8 : decode cX2_addStep 8 = .ok (.arraylength, 1) := by decide +kernel
theorem dX2_addStep_9 : decode cX2_addStep 9 = .ok (.if_icmp .ge 23, 3) := by decide +kernel
theorem dX2_addStep_12 : decode cX2_addStep 12 = .ok (.aload_n 0, 1) := by decide +kernel
theorem dX2_addStep_13 : decode cX2_addStep 13 = .ok (.getfield 16, 3) := by decide +kernel
theorem dX2_addStep_16 : decode cX2_addStep 16 = .ok (.aload_n 0, 1) := by decide +kernel
theorem dX2_addStep_17 : decode cX2_addStep 17 = .ok (.getfield 33, 3) := by decide +kernel
theorem dX2_addStep_20 : decode cX2_addStep 20 = .ok (.iload_n 1, 1) := by decide +kernel
theorem dX2_addStep_21 : decode cX2_addStep 21 = .ok (.iastore, 1) := by decide +kernel
theorem dX2_addStep_22 : decode cX2_addStep 22 = .ok (.aload_n 0, 1) := by decide +kernel
theorem dX2_addStep_23 : decode cX2_addStep 23 = .ok (.dup, 1) := by decide +kernel
theorem dX2_addStep_24 : decode cX2_addStep 24 = .ok (.getfield 33, 3) := by decide +kernel
theorem dX2_addStep_27 : decode cX2_addStep 27 = .ok (.iconst 1, 1) := by decide +kernel
theorem dX2_addStep_28 : decode cX2_addStep 28 = .ok (.iadd, 1) := by decide +kernel
theorem dX2_addStep_29 : decode cX2_addStep 29 = .ok (.putfield 33, 3) := by decide +kernel
theorem dX2_addStep_32 : decode cX2_addStep 32 = .ok (.return_, 1) := by decide +kernel
set_option maxRecDepth 20000 in
theorem ggX2_readAct_X2_signAt : GoodIn wsX2_readAct wsX2_signAt := goodIn_r _ [6, 7, 8, 27, 28, 29, 30, 31, 32, 33, 34, 35] (by decide +kernel) (by decide +kernel)
set_option maxRecDepth 20000 in
theorem gX2_readAct_X2_signAt : GoodIn wsX2_readAct (wsV RX2 45 RX2 yX2_signAt wsX2_signAt) := goodIn_app (goodIn_of _ (by decide +kernel)) ggX2_readAct_X2_signAt
set_option maxRecDepth 20000 in
theorem ggX2_readAct_X2_addStep : GoodIn wsX2_readAct wsX2_addStep := goodIn_r _ [12, 13, 14, 27, 28, 29, 30, 31, 32, 33, 34, 35] (by decide +kernel) (by decide +kernel)
set_option maxRecDepth 20000 in
theorem gX2_readAct_X2_addStep : GoodIn wsX2_readAct (wsV RX2 58 RX2 yX2_addStep wsX2_addStep) := goodIn_app (goodIn_of _ (by decide +kernel)) ggX2_readAct_X2_addStep
set_option maxRecDepth 20000 in
theorem ggX2_readAct_X2_readNumber : GoodIn wsX2_readAct wsX2_readNumber := goodIn_r _ [18, 1, 19, 2, 3, 4, 5, 6, 7, 8, 20, 21, 22, 23, 24, 25, 26, 27, 28, 29, 30, 31, 32, 33, 34, 35] (by decide +kernel) (by decide +kernel)
set_option maxRecDepth 20000 in
theorem gX2_readAct_X2_readNumber : GoodIn wsX2_readAct (wsV RX2 62 RX2 yX2_readNumber wsX2_readNumber) := goodIn_app (goodIn_of _ (by decide +kernel)) ggX2_readAct_X2_readNumber
set_option maxRecDepth 20000 in
theorem ggX2_readAct_X2_readSign : GoodIn wsX2_readAct wsX2_readSign := goodIn_r _ [26, 1, 2, 3, 4, 5, 6, 7, 8, 27, 28, 29, 30, 31, 32, 33, 34, 35] (by decide +kernel) (by decide +kernel)
set_option maxRecDepth 20000 in
theorem gX2_readAct_X2_readSign : GoodIn wsX2_readAct (wsV RX2 66 RX2 yX2_readSign wsX2_readSign) := goodIn_app (goodIn_of _ (by decide +kernel)) ggX2_readAct_X2_readSign
theorem dX2_readAct_0 : decode cX2_readAct 0 = .ok (.aload_n 0, 1) := by decide +kernel
theorem dX2_readAct_1 : decode cX2_readAct 1 = .ok (.getfield 36, 3) := by decide +kernel
theorem dX2_readAct_4 : decode cX2_readAct 4 = .ok (.istore_n 1, 1) := by decide +kernel
theorem dX2_readAct_5 : decode cX2_readAct 5 = .ok (.aload_n 0, 1) := by decide +kernel
theorem dX2_readAct_6 : decode cX2_readAct 6 = .ok (.iload_n 1, 1) := by decide +kernel
theorem dX2_readAct_7 : decode cX2_readAct 7 = .ok (.invokevirtual 45, 3) := by decide +kernel
theorem dX2_readAct_10 : decode cX2_readAct 10 = .ok (.tableswitch 185 114 120 #[42, 185, 139, 185, 185, 85, 163], 42) := by decide +kernel
theorem dX2_readAct_52 : decode cX2_readAct 52 = .ok (.aload_n 0, 1) := by decide +kernel
theorem dX2_readAct_53 : decode cX2_readAct 53 = .ok (.dup, 1) := by decide +kernel
theorem dX2_readAct_54 : decode cX2_readAct 54 = .ok (.getfield 36, 3) := by decide +kernel
theorem dX2_readAct_57 : decode cX2_readAct 57 = .ok (.iconst 1, 1) := by decide +kernel
theorem dX2_readAct_58 : decode cX2_readAct 58 = .ok (.iadd, 1) := by decide +kernel
theorem dX2_readAct_59 : decode cX2_readAct 59 = .ok (.putfield 36, 3) := by decide +kernel
theorem dX2_readAct_62 : decode cX2_readAct 62 = .ok (.aload_n 0, 1) := by decide +kernel
theorem dX2_readAct_63 : decode cX2_readAct 63 = .ok (.iload_n 1, 1) := by decide +kernel
theorem dX2_readAct_64 : decode cX2_readAct 64 = .ok (.invokevirtual 58, 3) := by decide +kernel
theorem dX2_readAct_67 : decode cX2_readAct 67 = .ok (.aload_n 0, 1) := by decide +kernel
theorem dX2_readAct_68 : decode cX2_readAct 68 = .ok (.iload_n 1, 1) := by decide +kernel
theorem dX2_readAct_69 : decode cX2_readAct 69 = .ok (.iconst 0, 1) := by decide +kernel
theorem dX2_readAct_70 : decode cX2_readAct 70 = .ok (.bipush 44, 2) := by decide +kernel
theorem dX2_readAct_72 : decode cX2_readAct 72 = .ok (.invokevirtual 62, 3) := by decide +kernel
theorem dX2_readAct_75 : decode cX2_readAct 75 = .ok (.ifCond .eq 18, 3) := by decide +kernel
theorem dX2_readAct_78 : decode cX2_readAct 78 = .ok (.aload_n 0, 1) := by decide +kernel
theorem dX2_readAct_79 : decode cX2_readAct 79 = .ok (.iload_n 1, 1) := by decide +kernel
theorem dX2_readAct_80 : decode cX2_readAct 80 = .ok (.iconst 1, 1) := by decide +kernel
theorem dX2_readAct_81 : decode cX2_readAct 81 = .ok (.bipush 59, 2) := by decide +kernel
theorem dX2_readAct_83 : decode cX2_readAct 83 = .ok (.invokevirtual 62, 3) := by decide +kernel
theorem dX2_readAct_86 : decode cX2_readAct 86 = .ok (.ifCond .eq 7, 3) := by decide +kernel
theorem dX2_readAct_89 : decode cX2_readAct 89 = .ok (.iconst 1, 1) := by decide +kernel
theorem dX2_readAct_90 : decode cX2_readAct 90 = .ok (.goto 4, 3) := by decide +kernel
theorem dX2_readAct_93 : decode cX2_readAct 93 = .ok (.iconst 0, 1) := by decide +kernel
theorem dX2_readAct_94 : decode cX2_readAct 94 = .ok (.ireturn, 1) := by decide +kernel
theorem dX2_readAct_95 : decode cX2_readAct 95 = .ok (.aload_n 0, 1) := by decide +kernel
theorem dX2_readAct_96 : decode cX2_readAct 96 = .ok (.dup, 1) := by decide +kernel
theorem dX2_readAct_97 : decode cX2_readAct 97 = .ok (.getfield 36, 3) := by decide +kernel
theorem dX2_readAct_100 : decode cX2_readAct 100 = .ok (.iconst 1, 1) := by decide +kernel
theorem dX2_readAct_101 : decode cX2_readAct 101 = .ok (.iadd, 1) := by decide +kernel
theorem dX2_readAct_102 : decode cX2_readAct 102 = .ok (.putfield 36, 3) := by decide +kernel
theorem dX2_readAct_105 : decode cX2_readAct 105 = .ok (.aload_n 0, 1) := by decide +kernel
theorem dX2_readAct_106 : decode cX2_readAct 106 = .ok (.iload_n 1, 1) := by decide +kernel
theorem dX2_readAct_107 : decode cX2_readAct 107 = .ok (.invokevirtual 58, 3) := by decide +kernel
theorem dX2_readAct_110 : decode cX2_readAct 110 = .ok (.aload_n 0, 1) := by decide +kernel
theorem dX2_readAct_111 : decode cX2_readAct 111 = .ok (.iload_n 1, 1) := by decide +kernel
theorem dX2_readAct_112 : decode cX2_readAct 112 = .ok (.iconst 0, 1) := by decide +kernel
theorem dX2_readAct_113 : decode cX2_readAct 113 = .ok (.bipush 44, 2) := by decide +kernel
theorem dX2_readAct_115 : decode cX2_readAct 115 = .ok (.invokevirtual 62, 3) := by decide +kernel
theorem dX2_readAct_118 : decode cX2_readAct 118 = .ok (.ifCond .eq 29, 3) := by decide +kernel
theorem dX2_readAct_121 : decode cX2_readAct 121 = .ok (.aload_n 0, 1) := by decide +kernel
theorem dX2_readAct_122 : decode cX2_readAct 122 = .ok (.iload_n 1, 1) := by decide +kernel
theorem dX2_readAct_123 : decode cX2_readAct 123 = .ok (.iconst 1, 1) := by decide +kernel
theorem dX2_readAct_124 : decode cX2_readAct 124 = .ok (.bipush 61, 2) := by decide +kernel
theorem dX2_readAct_126 : decode cX2_readAct 126 = .ok (.invokevirtual 62, 3) := by decide +kernel
theorem dX2_readAct_129 : decode cX2_readAct 129 = .ok (.ifCond .eq 18, 3) := by decide +kernel
theorem dX2_readAct_132 : decode cX2_readAct 132 = .ok (.aload_n 0, 1) := by decide +kernel
theorem dX2_readAct_133 : decode cX2_readAct 133 = .ok (.iload_n 1, 1) := by decide +kernel
theorem dX2_readAct_134 : decode cX2_readAct 134 = .ok (.iconst 2, 1) := by decide +kernel
theorem dX2_readAct_135 : decode cX2_readAct 135 = .ok (.bipush 59, 2) := by decide +kernel
theorem dX2_readAct_137 : decode cX2_readAct 137 = .ok (.invokevirtual 62, 3) := by decide +kernel
theorem dX2_readAct_140 : decode cX2_readAct 140 = .ok (.ifCond .eq 7, 3) := by decide +kernel
theorem dX2_readAct_143 : decode cX2_readAct 143 = .ok (.iconst 1, 1) := by decide +kernel
theorem dX2_readAct_144 : decode cX2_readAct 144 = .ok (.goto 4, 3) := by decide +kernel
theorem dX2_readAct_147 : decode cX2_readAct 147 = .ok (.iconst 0, 1) := by decide +kernel
theorem dX2_readAct_148 : decode cX2_readAct 148 = .ok (.ireturn, 1) := by decide +kernel
theorem dX2_readAct_149 : decode cX2_readAct 149 = .ok (.aload_n 0, 1) := by decide +kernel
theorem dX2_readAct_150 : decode cX2_readAct 150 = .ok (.dup, 1) := by decide +kernel
theorem dX2_readAct_151 : decode cX2_readAct 151 = .ok (.getfield 36, 3) := by decide +kernel
theorem dX2_readAct_154 : decode cX2_readAct 154 = .ok (.iconst 1, 1) := by decide +kernel
theorem dX2_readAct_155 : decode cX2_readAct 155 = .ok (.iadd, 1) := by decide +kernel
theorem dX2_readAct_156 : decode cX2_readAct 156 = .ok (.putfield 36, 3) := by decide +kernel
theorem dX2_readAct_159 : decode cX2_readAct 159 = .ok (.aload_n 0, 1) := by decide +kernel
theorem dX2_readAct_160 : decode cX2_readAct 160 = .ok (.iload_n 1, 1) := by decide +kernel
theorem dX2_readAct_161 : decode cX2_readAct 161 = .ok (.invokevirtual 58, 3) := by decide +kernel
theorem dX2_readAct_164 : decode cX2_readAct 164 = .ok (.aload_n 0, 1) := by decide +kernel
theorem dX2_readAct_165 : decode cX2_readAct 165 = .ok (.iload_n 1, 1) := by decide +kernel
theorem dX2_readAct_166 : decode cX2_readAct 166 = .ok (.iconst 0, 1) := by decide +kernel
theorem dX2_readAct_167 : decode cX2_readAct 167 = .ok (.bipush 59, 2) := by decide +kernel
theorem dX2_readAct_169 : decode cX2_readAct 169 = .ok (.invokevirtual 62, 3) := by decide +kernel
theorem dX2_readAct_172 : decode cX2_readAct 172 = .ok (.ireturn, 1) := by decide +kernel
end
section
theorem dX2_readAct_173 : decode cX2_readAct 173 = .ok (.aload_n 0, 1) := by decide +kernel
theorem dX2_readAct_174 : decode cX2_readAct 174 = .ok (.dup, 1) := by decide +kernel
theorem dX2_readAct_175 : decode cX2_readAct 175 = .ok (.getfield 36, 3) := by decide +kernel
theorem dX2_readAct_178 : decode cX2_readAct 178 = .ok (.iconst 1, 1) := by decide +kernel
theorem dX2_readAct_179 : decode cX2_readAct 179 = .ok (.iadd, 1) := by decide +kernel
theorem dX2_readAct_180 : decode cX2_readAct 180 = .ok (.putfield 36, 3) := by decide +kernel
theorem dX2_readAct_183 : decode cX2_readAct 183 = .ok (.aload_n 0, 1) := by decide +kernel
theorem dX2_readAct_184 : decode cX2_readAct 184 = .ok (.iload_n 1, 1) := by decide +kernel
theorem dX2_readAct_185 : decode cX2_readAct 185 = .ok (.invokevirtual 58, 3) := by decide +kernel
theorem dX2_readAct_188 : decode cX2_readAct 188 = .ok (.aload_n 0, 1) := by decide +kernel
theorem dX2_readAct_189 : decode cX2_readAct 189 = .ok (.bipush 59, 2) := by decide +kernel
theorem dX2_readAct_191 : decode cX2_readAct 191 = .ok (.invokevirtual 66, 3) := by decide +kernel
theorem dX2_readAct_194 : decode cX2_readAct 194 = .ok (.ireturn, 1) := by decide +kernel
theorem dX2_readAct_195 : decode cX2_readAct 195 = .ok (.iconst 0, 1) := by decide +kernel
theorem dX2_readAct_196 : decode cX2_readAct 196 = .ok (.ireturn, 1) := by decide +kernel
set_option maxRecDepth 20000 in
theorem ggX2_readSign_X2_signAt : GoodIn wsX2_readSign wsX2_signAt := goodIn_r _ [6, 7, 8, 9, 10, 11, 12, 13, 14, 15, 16, 17] (by decide +kernel) (by decide +kernel)
set_option maxRecDepth 20000 in
theorem gX2_readSign_X2_signAt : GoodIn wsX2_readSign (wsV RX2 45 RX2 yX2_signAt wsX2_signAt) := goodIn_app (goodIn_of _ (by decide +kernel)) ggX2_readSign_X2_signAt
theorem dX2_readSign_0 : decode cX2_readSign 0 = .ok (.aload_n 0, 1) := by decide +kernel
theorem dX2_readSign_1 : decode cX2_readSign 1 = .ok (.aload_n 0, 1) := by decide +kernel
theorem dX2_readSign_2 : decode cX2_readSign 2 = .ok (.getfield 36, 3) := by decide +kernel
theorem dX2_readSign_5 : decode cX2_readSign 5 = .ok (.invokevirtual 45, 3) := by decide +kernel
theorem dX2_readSign_8 : decode cX2_readSign 8 = .ok (.iload_n 1, 1) := by decide +kernel
theorem dX2_readSign_9 : decode cX2_readSign 9 = .ok (.if_icmp .eq 5, 3) := by decide +kernel
theorem dX2_readSign_12 : decode cX2_readSign 12 = .ok (.iconst 0, 1) := by decide +kernel
theorem dX2_readSign_13 : decode cX2_readSign 13 = .ok (.ireturn, 1) := by decide +kernel
theorem dX2_readSign_14 : decode cX2_readSign 14 = .ok (.aload_n 0, 1) := by decide +kernel
theorem dX2_readSign_15 : decode cX2_readSign 15 = .ok (.dup, 1) := by decide +kernel
theorem dX2_readSign_16 : decode cX2_readSign 16 = .ok (.getfield 36, 3) := by decide +kernel
theorem dX2_readSign_19 : decode cX2_readSign 19 = .ok (.iconst 1, 1) := by decide +kernel
theorem dX2_readSign_20 : decode cX2_readSign 20 = .ok (.iadd, 1) := by decide +kernel
theorem dX2_readSign_21 : decode cX2_readSign 21 = .ok (.putfield 36, 3) := by decide +kernel
theorem dX2_readSign_24 : decode cX2_readSign 24 = .ok (.iconst 1, 1) := by decide +kernel
theorem dX2_readSign_25 : decode cX2_readSign 25 = .ok (.ireturn, 1) := by decide +kernel
set_option maxRecDepth 20000 in
theorem ggX2_readNumber_X2_signAt : GoodIn wsX2_readNumber wsX2_signAt := goodIn_r _ [7, 8, 9, 17, 18, 19, 20, 21, 22, 23, 24, 25] (by decide +kernel) (by decide +kernel)
set_option maxRecDepth 20000 in
theorem gX2_readNumber_X2_signAt : GoodIn wsX2_readNumber (wsV RX2 45 RX2 yX2_signAt wsX2_signAt) := goodIn_app (goodIn_of _ (by decide +kernel)) ggX2_readNumber_X2_signAt
set_option maxRecDepth 20000 in
theorem ggX2_readNumber_X2_isDigit : GoodIn wsX2_readNumber wsX2_isDigit := goodIn_r _ [12] (by decide +kernel) (by decide +kernel)
set_option maxRecDepth 20000 in
theorem gX2_readNumber_X2_isDigit : GoodIn wsX2_readNumber (va_wsS RX2 70 yX2_isDigit wsX2_isDigit) := goodIn_app (goodIn_of _ (by decide +kernel)) ggX2_readNumber_X2_isDigit
set_option maxRecDepth 20000 in
theorem ggX2_readNumber_X2_readSign : GoodIn wsX2_readNumber wsX2_readSign := goodIn_r _ [16, 1, 3, 4, 5, 6, 7, 8, 9, 17, 18, 19, 20, 21, 22, 23, 24, 25] (by decide +kernel) (by decide +kernel)
set_option maxRecDepth 20000 in
theorem gX2_readNumber_X2_readSign : GoodIn wsX2_readNumber (wsV RX2 66 RX2 yX2_readSign wsX2_readSign) := goodIn_app (goodIn_of _ (by decide +kernel)) ggX2_readNumber_X2_readSign
theorem dX2_readNumber_0 : decode cX2_readNumber 0 = .ok (.iconst 0, 1) := by decide +kernel
theorem dX2_readNumber_1 : decode cX2_readNumber 1 = .ok (.istore 4, 2) := by decide +kernel
theorem dX2_readNumber_3 : decode cX2_readNumber 3 = .ok (.iconst 0, 1) := by decide +kernel
theorem dX2_readNumber_4 : decode cX2_readNumber 4 = .ok (.istore 5, 2) := by decide +kernel
theorem dX2_readNumber_6 : decode cX2_readNumber 6 = .ok (.iload 5, 2) := by decide +kernel
theorem dX2_readNumber_8 : decode cX2_readNumber 8 = .ok (.iconst 3, 1) := by decide +kernel
theorem dX2_readNumber_9 : decode cX2_readNumber 9 = .ok (.if_icmp .ge 62, 3) := by decide +kernel
theorem dX2_readNumber_12 : decode cX2_readNumber 12 = .ok (.aload_n 0, 1) := by decide +kernel
theorem dX2_readNumber_13 : decode cX2_readNumber 13 = .ok (.aload_n 0, 1) := by decide +kernel
theorem dX2_readNumber_14 : decode cX2_readNumber 14 = .ok (.getfield 36, 3) := by decide +kernel
theorem dX2_readNumber_17 : decode cX2_readNumber 17 = .ok (.invokevirtual 45, 3) := by decide +kernel
theorem dX2_readNumber_20 : decode cX2_readNumber 20 = .ok (.invokestatic 70, 3) := by decide +kernel
theorem dX2_readNumber_23 : decode cX2_readNumber 23 = .ok (.ifCond .eq 48, 3) := by decide +kernel
theorem dX2_readNumber_26 : decode cX2_readNumber 26 = .ok (.iload 5, 2) := by decide +kernel
theorem dX2_readNumber_28 : decode cX2_readNumber 28 = .ok (.ifCond .eq 8, 3) := by decide +kernel
theorem dX2_readNumber_31 : decode cX2_readNumber 31 = .ok (.iload 4, 2) := by decide +kernel
theorem dX2_readNumber_33 : decode cX2_readNumber 33 = .ok (.ifCond .le 38, 3) := by decide +kernel
theorem dX2_readNumber_36 : decode cX2_readNumber 36 = .ok (.iload 4, 2) := by decide +kernel
theorem dX2_readNumber_38 : decode cX2_readNumber 38 = .ok (.bipush 10, 2) := by decide +kernel
theorem dX2_readNumber_40 : decode cX2_readNumber 40 = .ok (.imul, 1) := by decide +kernel
theorem dX2_readNumber_41 : decode cX2_readNumber 41 = .ok (.aload_n 0, 1) := by decide +kernel
theorem dX2_readNumber_42 : decode cX2_readNumber 42 = .ok (.aload_n 0, 1) := by decide +kernel
theorem dX2_readNumber_43 : decode cX2_readNumber 43 = .ok (.getfield 36, 3) := by decide +kernel
theorem dX2_readNumber_46 : decode cX2_readNumber 46 = .ok (.invokevirtual 45, 3) := by decide +kernel
theorem dX2_readNumber_49 : decode cX2_readNumber 49 = .ok (.iadd, 1) := by decide +kernel
theorem dX2_readNumber_50 : decode cX2_readNumber 50 = .ok (.bipush 48, 2) := by decide +kernel
theorem dX2_readNumber_52 : decode cX2_readNumber 52 = .ok (.isub, 1) := by decide +kernel
theorem dX2_readNumber_53 : decode cX2_readNumber 53 = .ok (.istore 4, 2) := by decide +kernel
theorem dX2_readNumber_55 : decode cX2_readNumber 55 = .ok (.iinc 5 1, 3) := by decide +kernel
theorem dX2_readNumber_58 : decode cX2_readNumber 58 = .ok (.aload_n 0, 1) := by decide +kernel
theorem dX2_readNumber_59 : decode cX2_readNumber 59 = .ok (.dup, 1) := by decide +kernel
theorem dX2_readNumber_60 : decode cX2_readNumber 60 = .ok (.getfield 36, 3) := by decide +kernel
theorem dX2_readNumber_63 : decode cX2_readNumber 63 = .ok (.iconst 1, 1) := by decide +kernel
theorem dX2_readNumber_64 : decode cX2_readNumber 64 = .ok (.iadd, 1) := by decide +kernel
theorem dX2_readNumber_65 : decode cX2_readNumber 65 = .ok (.putfield 36, 3) := by decide +kernel
theorem dX2_readNumber_68 : decode cX2_readNumber 68 = .ok (.goto (-62), 3) := by decide +kernel
theorem dX2_readNumber_71 : decode cX2_readNumber 71 = .ok (.aload_n 0, 1) := by decide +kernel
theorem dX2_readNumber_72 : decode cX2_readNumber 72 = .ok (.getfield 13, 3) := by decide +kernel
theorem dX2_readNumber_75 : decode cX2_readNumber 75 = .ok (.iload_n 1, 1) := by decide +kernel
theorem dX2_readNumber_76 : decode cX2_readNumber 76 = .ok (.iconst 3, 1) := by decide +kernel
theorem dX2_readNumber_77 : decode cX2_readNumber 77 = .ok (.imul, 1) := by decide +kernel
theorem dX2_readNumber_78 : decode cX2_readNumber 78 = .ok (.iload_n 2, 1) := by decide +kernel
theorem dX2_readNumber_79 : decode cX2_readNumber 79 = .ok (.iadd, 1) := by decide +kernel
theorem dX2_readNumber_80 : decode cX2_readNumber 80 = .ok (.iload 4, 2) := by decide +kernel
theorem dX2_readNumber_82 : decode cX2_readNumber 82 = .ok (.iastore, 1) := by decide +kernel
theorem dX2_readNumber_83 : decode cX2_readNumber 83 = .ok (.iload 5, 2) := by decide +kernel
theorem dX2_readNumber_85 : decode cX2_readNumber 85 = .ok (.ifCond .le 15, 3) := by decide +kernel
theorem dX2_readNumber_88 : decode cX2_readNumber 88 = .ok (.aload_n 0, 1) := by decide +kernel
theorem dX2_readNumber_89 : decode cX2_readNumber 89 = .ok (.iload_n 3, 1) := by decide +kernel
theorem dX2_readNumber_90 : decode cX2_readNumber 90 = .ok (.invokevirtual 66, 3) := by decide +kernel
theorem dX2_readNumber_93 : decode cX2_readNumber 93 = .ok (.ifCond .eq 7, 3) := by decide +kernel
theorem dX2_readNumber_96 : decode cX2_readNumber 96 = .ok (.iconst 1, 1) := by decide +kernel
theorem dX2_readNumber_97 : decode cX2_readNumber 97 = .ok (.goto 4, 3) := by decide +kernel
theorem dX2_readNumber_100 : decode cX2_readNumber 100 = .ok (.iconst 0, 1) := by decide +kernel
theorem dX2_readNumber_101 : decode cX2_readNumber 101 = .ok (.ireturn, 1) := by decide +kernel
theorem dX2_isDigit_0 : decode cX2_isDigit 0 = .ok (.iload_n 0, 1) := by decide +kernel
theorem dX2_isDigit_1 : decode cX2_isDigit 1 = .ok (.bipush 48, 2) := by decide +kernel
theorem dX2_isDigit_3 : decode cX2_isDigit 3 = .ok (.if_icmp .lt 13, 3) := by decide +kernel
theorem dX2_isDigit_6 : decode cX2_isDigit 6 = .ok (.iload_n 0, 1) := by decide +kernel
theorem dX2_isDigit_7 : decode cX2_isDigit 7 = .ok (.bipush 57, 2) := by decide +kernel
theorem dX2_isDigit_9 : decode cX2_isDigit 9 = .ok (.if_icmp .gt 7, 3) := by decide +kernel
theorem dX2_isDigit_12 : decode cX2_isDigit 12 = .ok (.iconst 1, 1) := by decide +kernel
theorem dX2_isDigit_13 : decode cX2_isDigit 13 = .ok (.goto 4, 3) := by decide +kernel
theorem dX2_isDigit_16 : decode cX2_isDigit 16 = .ok (.iconst 0, 1) := by decide +kernel
theorem dX2_isDigit_17 : decode cX2_isDigit 17 = .ok (.ireturn, 1) := by decide +kernel
set_option maxRecDepth 20000 in
theorem ggX3_init_X1_init : GoodIn wsX3_init wsX1_init := goodIn_r _ [19, 20, 2, 3, 21, 22, 23, 24, 25, 26, 27, 28, 29, 6, 30, 46, 47, 48, 49, 50, 51, 52, 53, 54, 55, 56] (by decide +kernel) (by decide +kernel)
set_option maxRecDepth 20000 in
theorem gX3_init_X1_init : GoodIn wsX3_init (wsX1_init) := ggX3_init_X1_init
set_option maxRecDepth 20000 in
theorem ggX3_init_X0_init : GoodIn wsX3_init wsX0_init := goodIn_r _ [33, 34, 2, 3, 35, 36, 5, 6, 37, 18, 19, 20, 21, 22, 23, 24, 25, 26, 27, 28, 29, 30, 61, 62, 63, 46, 47, 48, 49, 50, 51, 52, 53, 54, 55, 56] (by decide +kernel) (by decide +kernel)
set_option maxRecDepth 20000 in
theorem gX3_init_X0_init : GoodIn wsX3_init (wsX0_init) := ggX3_init_X0_init
set_option maxRecDepth 20000 in
theorem ggX3_init_X2_init : GoodIn wsX3_init wsX2_init := goodIn_r _ [39, 40, 2, 3, 21, 41, 42, 43, 44, 45, 64, 65, 66, 67, 68, 69, 70, 71, 72] (by decide +kernel) (by decide +kernel)
set_option maxRecDepth 20000 in
theorem gX3_init_X2_init_n28 : GoodIn wsX3_init (wsX2_init) := ggX3_init_X2_init
theorem dX3_init_0 : decode cX3_init 0 = .ok (.aload_n 0, 1) := by decide +kernel
theorem dX3_init_1 : decode cX3_init 1 = .ok (.invokespecial 1, 3) := by decide +kernel
theorem dX3_init_4 : decode cX3_init 4 = .ok (.aload_n 0, 1) := by decide +kernel
theorem dX3_init_5 : decode cX3_init 5 = .ok (.new 7, 3) := by decide +kernel
theorem dX3_init_8 : decode cX3_init 8 = .ok (.dup, 1) := by decide +kernel
theorem dX3_init_9 : decode cX3_init 9 = .ok (.invokespecial 9, 3) := by decide +kernel
theorem dX3_init_12 : decode cX3_init 12 = .ok (.putfield 10, 3) := by decide +kernel
theorem dX3_init_15 : decode cX3_init 15 = .ok (.aload_n 0, 1) := by decide +kernel
theorem dX3_init_16 : decode cX3_init 16 = .ok (.new 7, 3) := by decide +kernel
theorem dX3_init_19 : decode cX3_init 19 = .ok (.dup, 1) := by decide +kernel
theorem dX3_init_20 : decode cX3_init 20 = .ok (.invokespecial 9, 3) := by decide +kernel
theorem dX3_init_23 : decode cX3_init 23 = .ok (.putfield 16, 3) := by decide +kernel
theorem dX3_init_26 : decode cX3_init 26 = .ok (.aload_n 0, 1) := by decide +kernel
theorem dX3_init_27 : decode cX3_init 27 = .ok (.new 19, 3) := by decide +kernel
theorem dX3_init_30 : decode cX3_init 30 = .ok (.dup, 1) := by decide +kernel
theorem dX3_init_31 : decode cX3_init 31 = .ok (.invokespecial 21, 3) := by decide +kernel
theorem dX3_init_34 : decode cX3_init 34 = .ok (.putfield 22, 3) := by decide +kernel
theorem dX3_init_37 : decode cX3_init 37 = .ok (.aload_n 0, 1) := by decide +kernel
theorem dX3_init_38 : decode cX3_init 38 = .ok (.new 26, 3) := by decide +kernel
theorem dX3_init_41 : decode cX3_init 41 = .ok (.dup, 1) := by decide +kernel
theorem dX3_init_42 : decode cX3_init 42 = .ok (.invokespecial 28, 3) := by decide +kernel
theorem dX3_init_45 : decode cX3_init 45 = .ok (.putfield 29, 3) := by decide +kernel
theorem dX3_init_48 : decode cX3_init 48 = .ok (.return_, 1) := by decide +kernel
set_option maxRecDepth 20000 in
theorem ggX3_read_X0_note : GoodIn wsX3_read wsX0_note := goodIn_r _ [7, 8, 9, 10, 6, 11, 12, 13, 14, 15, 16, 17, 18, 19, 20, 21, 22, 23, 24, 25, 26, 27, 28, 29, 30, 31, 32, 33, 34, 35, 36, 37, 38, 66, 67, 68, 69, 70, 71, 72, 73, 74, 75, 76, 77, 78, 79] (by decide +kernel) (by decide +kernel)
set_option maxRecDepth 20000 in
theorem gX3_read_X0_note : GoodIn wsX3_read (wsV RX3 33 RX0 yX0_note wsX0_note) := goodIn_app (goodIn_of _ (by decide +kernel)) ggX3_read_X0_note
set_option maxRecDepth 20000 in
theorem ggX3_read_X1_takeRead : GoodIn wsX3_read wsX1_takeRead := goodIn_r _ [42, 43, 44, 22, 45, 46, 47, 48, 49, 35, 36, 29, 33, 31, 32, 50, 51, 52, 69, 70, 71, 72, 73, 74, 75, 76, 77, 78, 79] (by decide +kernel) (by decide +kernel)
set_option maxRecDepth 20000 in
theorem gX3_read_X1_takeRead : GoodIn wsX3_read (wsV RX3 37 RX1 yX1_takeRead wsX1_takeRead) := goodIn_app (goodIn_of _ (by decide +kernel)) ggX3_read_X1_takeRead
set_option maxRecDepth 20000 in
theorem ggX3_read_X3_settle : GoodIn wsX3_read wsX3_settle := goodIn_r _ [57, 1, 58, 59, 60, 6, 61, 14, 13, 15, 16, 17, 18, 62, 63, 64, 65, 66, 67, 68] (by decide +kernel) (by decide +kernel)
set_option maxRecDepth 20000 in
theorem gX3_read_X3_settle : GoodIn wsX3_read (wsV RX3 41 RX3 yX3_settle wsX3_settle) := goodIn_app (goodIn_of _ (by decide +kernel)) ggX3_read_X3_settle
theorem dX3_read_0 : decode cX3_read 0 = .ok (.aload_n 0, 1) := by decide +kernel
theorem dX3_read_1 : decode cX3_read 1 = .ok (.getfield 22, 3) := by decide +kernel
theorem dX3_read_4 : decode cX3_read 4 = .ok (.aload_n 0, 1) := by decide +kernel
theorem dX3_read_5 : decode cX3_read 5 = .ok (.getfield 10, 3) := by decide +kernel
theorem dX3_read_8 : decode cX3_read 8 = .ok (.invokevirtual 33, 3) := by decide +kernel
theorem dX3_read_11 : decode cX3_read 11 = .ok (.aload_n 0, 1) := by decide +kernel
theorem dX3_read_12 : decode cX3_read 12 = .ok (.aload_n 0, 1) := by decide +kernel
theorem dX3_read_13 : decode cX3_read 13 = .ok (.getfield 10, 3) := by decide +kernel
theorem dX3_read_16 : decode cX3_read 16 = .ok (.iload_n 1, 1) := by decide +kernel
theorem dX3_read_17 : decode cX3_read 17 = .ok (.iload_n 2, 1) := by decide +kernel
theorem dX3_read_18 : decode cX3_read 18 = .ok (.invokevirtual 37, 3) := by decide +kernel
theorem dX3_read_21 : decode cX3_read 21 = .ok (.invokevirtual 41, 3) := by decide +kernel
theorem dX3_read_24 : decode cX3_read 24 = .ok (.ireturn, 1) := by decide +kernel
set_option maxRecDepth 20000 in
theorem ggX3_write_X0_note : GoodIn wsX3_write wsX0_note := goodIn_r _ [7, 8, 9, 10, 6, 11, 12, 13, 14, 15, 16, 17, 18, 19, 20, 21, 22, 23, 24, 25, 26, 27, 28, 29, 30, 31, 32, 33, 34, 35, 36, 37, 38, 66, 67, 68, 69, 70, 71, 72, 73, 74, 75, 76, 77, 78, 79] (by decide +kernel) (by decide +kernel)
set_option maxRecDepth 20000 in
theorem gX3_write_X0_note : GoodIn wsX3_write (wsV RX3 33 RX0 yX0_note wsX0_note) := goodIn_app (goodIn_of _ (by decide +kernel)) ggX3_write_X0_note
set_option maxRecDepth 20000 in
theorem ggX3_write_X1_takeWrite : GoodIn wsX3_write wsX1_takeWrite := goodIn_r _ [42, 43, 44, 22, 45, 46, 47, 48, 49, 35, 36, 29, 33, 31, 32, 50, 51, 52, 69, 70, 71, 72, 73, 74, 75, 76, 77, 78, 79] (by decide +kernel) (by decide +kernel)
set_option maxRecDepth 20000 in
theorem gX3_write_X1_takeWrite : GoodIn wsX3_write (wsV RX3 45 RX1 yX1_takeWrite wsX1_takeWrite) := goodIn_app (goodIn_of _ (by decide +kernel)) ggX3_write_X1_takeWrite
set_option maxRecDepth 20000 in
theorem ggX3_write_X3_settle : GoodIn wsX3_write wsX3_settle := goodIn_r _ [57, 1, 58, 59, 60, 6, 61, 14, 13, 15, 16, 17, 18, 62, 63, 64, 65, 66, 67, 68] (by decide +kernel) (by decide +kernel)
set_option maxRecDepth 20000 in
theorem gX3_write_X3_settle : GoodIn wsX3_write (wsV RX3 41 RX3 yX3_settle wsX3_settle) := goodIn_app (goodIn_of _ (by decide +kernel)) ggX3_write_X3_settle
theorem dX3_write_0 : decode cX3_write 0 = .ok (.aload_n 0, 1) := by decide +kernel
theorem dX3_write_1 : decode cX3_write 1 = .ok (.getfield 22, 3) := by decide +kernel
theorem dX3_write_4 : decode cX3_write 4 = .ok (.aload_n 0, 1) := by decide +kernel
theorem dX3_write_5 : decode cX3_write 5 = .ok (.getfield 10, 3) := by decide +kernel
theorem dX3_write_8 : decode cX3_write 8 = .ok (.invokevirtual 33, 3) := by decide +kernel
theorem dX3_write_11 : decode cX3_write 11 = .ok (.aload_n 0, 1) := by decide +kernel
theorem dX3_write_12 : decode cX3_write 12 = .ok (.aload_n 0, 1) := by decide +kernel
theorem dX3_write_13 : decode cX3_write 13 = .ok (.getfield 10, 3) := by decide +kernel
theorem dX3_write_16 : decode cX3_write 16 = .ok (.iload_n 1, 1) := by decide +kernel
theorem dX3_write_17 : decode cX3_write 17 = .ok (.iload_n 2, 1) := by decide +kernel
theorem dX3_write_18 : decode cX3_write 18 = .ok (.iload_n 3, 1) := by decide +kernel
theorem dX3_write_19 : decode cX3_write 19 = .ok (.invokevirtual 45, 3) := by decide +kernel
theorem dX3_write_22 : decode cX3_write 22 = .ok (.invokevirtual 41, 3) := by decide +kernel
theorem dX3_write_25 : decode cX3_write 25 = .ok (.ireturn, 1) := by decide +kernel
set_option maxRecDepth 20000 in
theorem ggX3_pass_X0_note : GoodIn wsX3_pass wsX0_note := goodIn_r _ [7, 8, 9, 10, 6, 11, 12, 13, 14, 15, 16, 17, 18, 19, 20, 21, 22, 23, 24, 25, 26, 27, 28, 29, 30, 31, 32, 33, 34, 35, 36, 37, 38, 115, 116, 117, 118, 119, 120, 121, 122, 123, 124, 125, 126, 127, 128] (by decide +kernel) (by decide +kernel)
set_option maxRecDepth 20000 in
theorem gX3_pass_X0_note : GoodIn wsX3_pass (wsV RX3 33 RX0 yX0_note wsX0_note) := goodIn_app (goodIn_of _ (by decide +kernel)) ggX3_pass_X0_note
set_option maxRecDepth 20000 in
theorem ggX3_pass_X1_letPass : GoodIn wsX3_pass wsX1_letPass := goodIn_r _ [42, 33, 36, 43, 44, 45, 22, 46, 32, 34, 47, 48, 49, 50, 30, 51, 52, 53, 54, 24, 31, 55, 56, 57, 58, 59, 16, 17, 18, 60, 61, 62, 63, 64, 65, 66, 67, 68, 69, 70, 71, 72, 73, 74, 75, 76, 77, 78, 79, 80, 81, 35, 29, 82, 83, 84, 85, 86, 87, 88, 89, 90, 91, 92, 93, 94, 95, 96, 97, 98, 99, 100, 101, 38, 118, 119, 120, 121, 122, 123, 124, 125, 126, 127, 128] (by decide +kernel) (by decide +kernel)
set_option maxRecDepth 20000 in
theorem gX3_pass_X1_letPass : GoodIn wsX3_pass (wsV RX3 49 RX1 yX1_letPass wsX1_letPass) := goodIn_app (goodIn_of _ (by decide +kernel)) ggX3_pass_X1_letPass
set_option maxRecDepth 20000 in
theorem ggX3_pass_X3_settle : GoodIn wsX3_pass wsX3_settle := goodIn_r _ [106, 1, 107, 108, 109, 6, 110, 14, 13, 15, 16, 17, 18, 111, 112, 113, 114, 115, 116, 117] (by decide +kernel) (by decide +kernel)
set_option maxRecDepth 20000 in
theorem gX3_pass_X3_settle : GoodIn wsX3_pass (wsV RX3 41 RX3 yX3_settle wsX3_settle) := goodIn_app (goodIn_of _ (by decide +kernel)) ggX3_pass_X3_settle
theorem dX3_pass_0 : decode cX3_pass 0 = .ok (.aload_n 0, 1) := by decide +kernel
theorem dX3_pass_1 : decode cX3_pass 1 = .ok (.getfield 22, 3) := by decide +kernel
theorem dX3_pass_4 : decode cX3_pass 4 = .ok (.aload_n 0, 1) := by decide +kernel
theorem dX3_pass_5 : decode cX3_pass 5 = .ok (.getfield 10, 3) := by decide +kernel
theorem dX3_pass_8 : decode cX3_pass 8 = .ok (.invokevirtual 33, 3) := by decide +kernel
theorem dX3_pass_11 : decode cX3_pass 11 = .ok (.aload_n 0, 1) := by decide +kernel
theorem dX3_pass_12 : decode cX3_pass 12 = .ok (.aload_n 0, 1) := by decide +kernel
theorem dX3_pass_13 : decode cX3_pass 13 = .ok (.getfield 10, 3) := by decide +kernel
theorem dX3_pass_16 : decode cX3_pass 16 = .ok (.iload_n 1, 1) := by decide +kernel
theorem dX3_pass_17 : decode cX3_pass 17 = .ok (.invokevirtual 49, 3) := by decide +kernel
theorem dX3_pass_20 : decode cX3_pass 20 = .ok (.invokevirtual 41, 3) := by decide +kernel
theorem dX3_pass_23 : decode cX3_pass 23 = .ok (.ireturn, 1) := by decide +kernel
set_option maxRecDepth 20000 in
theorem ggX3_cut_X0_note : GoodIn wsX3_cut wsX0_note := goodIn_r _ [7, 8, 9, 10, 6, 11, 12, 13, 14, 15, 16, 17, 18, 19, 20, 21, 22, 23, 24, 25, 26, 27, 28, 29, 30, 31, 32, 33, 34, 35, 36, 37, 38, 71, 72, 73, 74, 75, 76, 77, 78, 79, 80, 81, 82, 83, 84] (by decide +kernel) (by decide +kernel)
set_option maxRecDepth 20000 in
theorem gX3_cut_X0_note : GoodIn wsX3_cut (wsV RX3 33 RX0 yX0_note wsX0_note) := goodIn_app (goodIn_of _ (by decide +kernel)) ggX3_cut_X0_note
set_option maxRecDepth 20000 in
theorem ggX3_cut_X1_cutPower : GoodIn wsX3_cut wsX1_cutPower := goodIn_r _ [42, 30, 24, 43, 44, 45, 22, 46, 35, 29, 36, 31, 32, 47, 48, 49, 50, 51, 52, 53, 54, 55, 56, 57, 74, 75, 76, 77, 78, 79, 80, 81, 82, 83, 84] (by decide +kernel) (by decide +kernel)
set_option maxRecDepth 20000 in
theorem gX3_cut_X1_cutPower : GoodIn wsX3_cut (wsV RX3 52 RX1 yX1_cutPower wsX1_cutPower) := goodIn_app (goodIn_of _ (by decide +kernel)) ggX3_cut_X1_cutPower
set_option maxRecDepth 20000 in
theorem ggX3_cut_X3_settle : GoodIn wsX3_cut wsX3_settle := goodIn_r _ [62, 1, 63, 64, 65, 6, 66, 14, 13, 15, 16, 17, 18, 67, 68, 69, 70, 71, 72, 73] (by decide +kernel) (by decide +kernel)
set_option maxRecDepth 20000 in
theorem gX3_cut_X3_settle : GoodIn wsX3_cut (wsV RX3 41 RX3 yX3_settle wsX3_settle) := goodIn_app (goodIn_of _ (by decide +kernel)) ggX3_cut_X3_settle
theorem dX3_cut_0 : decode cX3_cut 0 = .ok (.aload_n 0, 1) := by decide +kernel
theorem dX3_cut_1 : decode cX3_cut 1 = .ok (.getfield 22, 3) := by decide +kernel
theorem dX3_cut_4 : decode cX3_cut 4 = .ok (.aload_n 0, 1) := by decide +kernel
theorem dX3_cut_5 : decode cX3_cut 5 = .ok (.getfield 10, 3) := by decide +kernel
theorem dX3_cut_8 : decode cX3_cut 8 = .ok (.invokevirtual 33, 3) := by decide +kernel
theorem dX3_cut_11 : decode cX3_cut 11 = .ok (.aload_n 0, 1) := by decide +kernel
theorem dX3_cut_12 : decode cX3_cut 12 = .ok (.aload_n 0, 1) := by decide +kernel
theorem dX3_cut_13 : decode cX3_cut 13 = .ok (.getfield 10, 3) := by decide +kernel
theorem dX3_cut_16 : decode cX3_cut 16 = .ok (.invokevirtual 52, 3) := by decide +kernel
theorem dX3_cut_19 : decode cX3_cut 19 = .ok (.invokevirtual 41, 3) := by decide +kernel
theorem dX3_cut_22 : decode cX3_cut 22 = .ok (.ireturn, 1) := by decide +kernel
set_option maxRecDepth 20000 in
theorem ggX3_sweep_X0_note : GoodIn wsX3_sweep wsX0_note := goodIn_r _ [7, 8, 9, 10, 6, 11, 12, 13, 14, 15, 16, 17, 18, 19, 20, 21, 22, 23, 24, 25, 26, 27, 28, 29, 30, 31, 32, 33, 34, 35, 36, 37, 38, 83, 84, 85, 86, 87, 88, 89, 90, 91, 92, 93, 94, 95, 96] (by decide +kernel) (by decide +kernel)
set_option maxRecDepth 20000 in
theorem gX3_sweep_X0_note : GoodIn wsX3_sweep (wsV RX3 33 RX0 yX0_note wsX0_note) := goodIn_app (goodIn_of _ (by decide +kernel)) ggX3_sweep_X0_note
set_option maxRecDepth 20000 in
theorem ggX3_sweep_X1_sweepBlocks : GoodIn wsX3_sweep wsX1_sweepBlocks := goodIn_r _ [42, 33, 43, 44, 45, 22, 46, 32, 47, 48, 49, 50, 34, 51, 52, 53, 54, 55, 56, 57, 24, 37, 58, 59, 60, 61, 62, 63, 64, 65, 66, 67, 68, 69, 30, 86, 87, 88, 89, 90, 91, 92, 93, 94, 95, 96] (by decide +kernel) (by decide +kernel)
set_option maxRecDepth 20000 in
theorem gX3_sweep_X1_sweepBlocks : GoodIn wsX3_sweep (wsV RX3 56 RX1 yX1_sweepBlocks wsX1_sweepBlocks) := goodIn_app (goodIn_of _ (by decide +kernel)) ggX3_sweep_X1_sweepBlocks
set_option maxRecDepth 20000 in
theorem ggX3_sweep_X3_settle : GoodIn wsX3_sweep wsX3_settle := goodIn_r _ [74, 1, 75, 76, 77, 6, 78, 14, 13, 15, 16, 17, 18, 79, 80, 81, 82, 83, 84, 85] (by decide +kernel) (by decide +kernel)
set_option maxRecDepth 20000 in
theorem gX3_sweep_X3_settle : GoodIn wsX3_sweep (wsV RX3 41 RX3 yX3_settle wsX3_settle) := goodIn_app (goodIn_of _ (by decide +kernel)) ggX3_sweep_X3_settle
theorem dX3_sweep_0 : decode cX3_sweep 0 = .ok (.aload_n 0, 1) := by decide +kernel
theorem dX3_sweep_1 : decode cX3_sweep 1 = .ok (.getfield 22, 3) := by decide +kernel
theorem dX3_sweep_4 : decode cX3_sweep 4 = .ok (.aload_n 0, 1) := by decide +kernel
theorem dX3_sweep_5 : decode cX3_sweep 5 = .ok (.getfield 10, 3) := by decide +kernel
theorem dX3_sweep_8 : decode cX3_sweep 8 = .ok (.invokevirtual 33, 3) := by decide +kernel
theorem dX3_sweep_11 : decode cX3_sweep 11 = .ok (.aload_n 0, 1) := by decide +kernel
theorem dX3_sweep_12 : decode cX3_sweep 12 = .ok (.aload_n 0, 1) := by decide +kernel
theorem dX3_sweep_13 : decode cX3_sweep 13 = .ok (.getfield 10, 3) := by decide +kernel
theorem dX3_sweep_16 : decode cX3_sweep 16 = .ok (.invokevirtual 56, 3) := by decide +kernel
theorem dX3_sweep_19 : decode cX3_sweep 19 = .ok (.invokevirtual 41, 3) := by decide +kernel
theorem dX3_sweep_22 : decode cX3_sweep 22 = .ok (.ireturn, 1) := by decide +kernel
set_option maxRecDepth 20000 in
theorem ggX3_undo_X0_size : GoodIn wsX3_undo wsX0_size := goodIn_r _ [7, 8, 51, 52, 53] (by decide +kernel) (by decide +kernel)
set_option maxRecDepth 20000 in
theorem gX3_undo_X0_size : GoodIn wsX3_undo (wsV RX3 59 RX0 yX0_size wsX0_size) := goodIn_app (goodIn_of _ (by decide +kernel)) ggX3_undo_X0_size
set_option maxRecDepth 20000 in
theorem ggX3_undo_X0_dropLatest : GoodIn wsX3_undo wsX0_dropLatest := goodIn_r _ [12, 8, 51, 52, 53] (by decide +kernel) (by decide +kernel)
set_option maxRecDepth 20000 in
theorem gX3_undo_X0_dropLatest : GoodIn wsX3_undo (wsV RX3 62 RX0 yX0_dropLatest wsX0_dropLatest) := goodIn_app (goodIn_of _ (by decide +kernel)) ggX3_undo_X0_dropLatest
set_option maxRecDepth 20000 in
theorem ggX3_undo_X0_restoreNoted : GoodIn wsX3_undo wsX0_restoreNoted := goodIn_r _ [16, 17, 18, 19, 6, 20, 21, 22, 8, 23, 24, 25, 26, 27, 28, 29, 30, 31, 32, 33, 34, 35, 36, 37, 38, 39, 40, 41, 42, 43, 44, 45, 46, 51, 52, 53, 54, 55, 56, 57, 58, 59, 60, 61, 62, 63, 64] (by decide +kernel) (by decide +kernel)
set_option maxRecDepth 20000 in
theorem gX3_undo_X0_restoreNoted : GoodIn wsX3_undo (wsV RX3 65 RX0 yX0_restoreNoted wsX0_restoreNoted) := goodIn_app (goodIn_of _ (by decide +kernel)) ggX3_undo_X0_restoreNoted
theorem dX3_undo_0 : decode cX3_undo 0 = .ok (.aload_n 0, 1) := by decide +kernel
theorem dX3_undo_1 : decode cX3_undo 1 = .ok (.getfield 22, 3) := by decide +kernel
theorem dX3_undo_4 : decode cX3_undo 4 = .ok (.invokevirtual 59, 3) := by decide +kernel
theorem dX3_undo_7 : decode cX3_undo 7 = .ok (.ifCond .ne 6, 3) := by decide +kernel
theorem dX3_undo_10 : decode cX3_undo 10 = .ok (.bipush (-2), 2) := by decide +kernel
theorem dX3_undo_12 : decode cX3_undo 12 = .ok (.ireturn, 1) := by decide +kernel
theorem dX3_undo_13 : decode cX3_undo 13 = .ok (.aload_n 0, 1) := by decide +kernel
theorem dX3_undo_14 : decode cX3_undo 14 = .ok (.getfield 22, 3) := by decide +kernel
theorem dX3_undo_17 : decode cX3_undo 17 = .ok (.invokevirtual 62, 3) := by decide +kernel
theorem dX3_undo_20 : decode cX3_undo 20 = .ok (.aload_n 0, 1) := by decide +kernel
theorem dX3_undo_21 : decode cX3_undo 21 = .ok (.getfield 22, 3) := by decide +kernel
theorem dX3_undo_24 : decode cX3_undo 24 = .ok (.aload_n 0, 1) := by decide +kernel
theorem dX3_undo_25 : decode cX3_undo 25 = .ok (.getfield 10, 3) := by decide +kernel
theorem dX3_undo_28 : decode cX3_undo 28 = .ok (.invokevirtual 65, 3) := by decide +kernel
theorem dX3_undo_31 : decode cX3_undo 31 = .ok (.aload_n 0, 1) := by decide +kernel
theorem dX3_undo_32 : decode cX3_undo 32 = .ok (.getfield 22, 3) := by decide +kernel
theorem dX3_undo_35 : decode cX3_undo 35 = .ok (.invokevirtual 59, 3) := by decide +kernel
theorem dX3_undo_38 : decode cX3_undo 38 = .ok (.ireturn, 1) := by decide +kernel
set_option maxRecDepth 20000 in
theorem ggX3_append_X2_isFull : GoodIn wsX3_append wsX2_isFull := goodIn_r _ [6, 7, 22, 23, 24, 25, 26, 27, 28, 29, 30] (by decide +kernel) (by decide +kernel)
set_option maxRecDepth 20000 in
theorem gX3_append_X2_isFull : GoodIn wsX3_append (wsV RX3 68 RX2 yX2_isFull wsX2_isFull) := goodIn_app (goodIn_of _ (by decide +kernel)) ggX3_append_X2_isFull
set_option maxRecDepth 20000 in
theorem ggX3_append_X2_addSign : GoodIn wsX3_append wsX2_addSign := goodIn_r _ [11, 12, 7, 13, 3, 4, 5, 6, 22, 23, 24, 25, 26, 27, 28, 29, 30] (by decide +kernel) (by decide +kernel)
set_option maxRecDepth 20000 in
theorem gX3_append_X2_addSign : GoodIn wsX3_append (wsV RX3 72 RX2 yX2_addSign wsX2_addSign) := goodIn_app (goodIn_of _ (by decide +kernel)) ggX3_append_X2_addSign
set_option maxRecDepth 20000 in
theorem ggX3_append_X2_length : GoodIn wsX3_append wsX2_length := goodIn_r _ [17, 7, 22, 23, 24, 25, 26, 27, 28, 29, 30] (by decide +kernel) (by decide +kernel)
set_option maxRecDepth 20000 in
theorem gX3_append_X2_length : GoodIn wsX3_append (wsV RX3 76 RX2 yX2_length wsX2_length) := goodIn_app (goodIn_of _ (by decide +kernel)) ggX3_append_X2_length
theorem dX3_append_0 : decode cX3_append 0 = .ok (.iload_n 1, 1) := by decide +kernel
theorem dX3_append_1 : decode cX3_append 1 = .ok (.iconst 1, 1) := by decide +kernel
theorem dX3_append_2 : decode cX3_append 2 = .ok (.if_icmp .lt 10, 3) := by decide +kernel
theorem dX3_append_5 : decode cX3_append 5 = .ok (.iload_n 1, 1) := by decide +kernel
theorem dX3_append_6 : decode cX3_append 6 = .ok (.sipush 255, 3) := by decide +kernel
theorem dX3_append_9 : decode cX3_append 9 = .ok (.if_icmp .le 5, 3) := by decide +kernel
theorem dX3_append_12 : decode cX3_append 12 = .ok (.iconst (-1), 1) := by decide +kernel
theorem dX3_append_13 : decode cX3_append 13 = .ok (.ireturn, 1) := by decide +kernel
theorem dX3_append_14 : decode cX3_append 14 = .ok (.aload_n 0, 1) := by decide +kernel
theorem dX3_append_15 : decode cX3_append 15 = .ok (.getfield 29, 3) := by decide +kernel
theorem dX3_append_18 : decode cX3_append 18 = .ok (.invokevirtual 68, 3) := by decide +kernel
theorem dX3_append_21 : decode cX3_append 21 = .ok (.ifCond .eq 6, 3) := by decide +kernel
theorem dX3_append_24 : decode cX3_append 24 = .ok (.bipush (-3), 2) := by decide +kernel
theorem dX3_append_26 : decode cX3_append 26 = .ok (.ireturn, 1) := by decide +kernel
theorem dX3_append_27 : decode cX3_append 27 = .ok (.aload_n 0, 1) := by decide +kernel
theorem dX3_append_28 : decode cX3_append 28 = .ok (.getfield 29, 3) := by decide +kernel
theorem dX3_append_31 : decode cX3_append 31 = .ok (.iload_n 1, 1) := by decide +kernel
theorem dX3_append_32 : decode cX3_append 32 = .ok (.invokevirtual 72, 3) := by decide +kernel
theorem dX3_append_35 : decode cX3_append 35 = .ok (.aload_n 0, 1) := by decide +kernel
theorem dX3_append_36 : decode cX3_append 36 = .ok (.getfield 29, 3) := by decide +kernel
theorem dX3_append_39 : decode cX3_append 39 = .ok (.invokevirtual 76, 3) := by decide +kernel
theorem dX3_append_42 : decode cX3_append 42 = .ok (.ireturn, 1) := by decide +kernel
set_option maxRecDepth 20000 in
theorem ggX3_clearText_X2_length : GoodIn wsX3_clearText wsX2_length := goodIn_r _ [6, 7, 16, 17, 18, 19, 20, 21, 22, 23, 24] (by decide +kernel) (by decide +kernel)
set_option maxRecDepth 20000 in
theorem gX3_clearText_X2_length : GoodIn wsX3_clearText (wsV RX3 76 RX2 yX2_length wsX2_length) := goodIn_app (goodIn_of _ (by decide +kernel)) ggX3_clearText_X2_length
set_option maxRecDepth 20000 in
theorem ggX3_clearText_X2_makeEmpty : GoodIn wsX3_clearText wsX2_makeEmpty := goodIn_r _ [11, 7, 16, 17, 18, 19, 20, 21, 22, 23, 24] (by decide +kernel) (by decide +kernel)
set_option maxRecDepth 20000 in
theorem gX3_clearText_X2_makeEmpty : GoodIn wsX3_clearText (wsV RX3 79 RX2 yX2_makeEmpty wsX2_makeEmpty) := goodIn_app (goodIn_of _ (by decide +kernel)) ggX3_clearText_X2_makeEmpty
theorem dX3_clearText_0 : decode cX3_clearText 0 = .ok (.aload_n 0, 1) := by decide +kernel
theorem dX3_clearText_1 : decode cX3_clearText 1 = .ok (.getfield 29, 3) := by decide +kernel
theorem dX3_clearText_4 : decode cX3_clearText 4 = .ok (.invokevirtual 76, 3) := by decide +kernel
theorem dX3_clearText_7 : decode cX3_clearText 7 = .ok (.istore_n 1, 1) := by decide +kernel
theorem dX3_clearText_8 : decode cX3_clearText 8 = .ok (.aload_n 0, 1) := by decide +kernel
theorem dX3_clearText_9 : decode cX3_clearText 9 = .ok (.getfield 29, 3) := by decide +kernel
theorem dX3_clearText_12 : decode cX3_clearText 12 = .ok (.invokevirtual 79, 3) := by decide +kernel
theorem dX3_clearText_15 : decode cX3_clearText 15 = .ok (.iload_n 1, 1) := by decide +kernel
theorem dX3_clearText_16 : decode cX3_clearText 16 = .ok (.ireturn, 1) := by decide +kernel
set_option maxRecDepth 20000 in
theorem ggX3_run_X2_isUnderstood : GoodIn wsX3_run wsX2_isUnderstood := goodIn_r _ [8, 9, 10, 11, 12, 13, 14, 15, 7, 16, 17, 18, 19, 20, 21, 22, 23, 24, 25, 26, 27, 28, 29, 30, 31, 32, 33, 34, 35, 36, 37, 38, 39, 40, 41, 42, 43, 44, 45, 46, 47, 48, 49, 50, 51, 52, 217, 218, 219, 220, 221, 222, 223, 224, 225] (by decide +kernel) (by decide +kernel)
set_option maxRecDepth 20000 in
theorem gX3_run_X2_isUnderstood : GoodIn wsX3_run (wsV RX3 82 RX2 yX2_isUnderstood wsX2_isUnderstood) := goodIn_app (goodIn_of _ (by decide +kernel)) ggX3_run_X2_isUnderstood
set_option maxRecDepth 20000 in
theorem ggX3_run_X2_place : GoodIn wsX3_run wsX2_place := goodIn_r _ [56, 9, 217, 218, 219, 220, 221, 222, 223, 224, 225] (by decide +kernel) (by decide +kernel)
set_option maxRecDepth 20000 in
theorem gX3_run_X2_place : GoodIn wsX3_run (wsV RX3 85 RX2 yX2_place wsX2_place) := goodIn_app (goodIn_of _ (by decide +kernel)) ggX3_run_X2_place
set_option maxRecDepth 20000 in
theorem ggX3_run_X2_hasTooManySteps : GoodIn wsX3_run wsX2_hasTooManySteps := goodIn_r _ [60, 10, 217, 218, 219, 220, 221, 222, 223, 224, 225] (by decide +kernel) (by decide +kernel)
set_option maxRecDepth 20000 in
theorem gX3_run_X2_hasTooManySteps : GoodIn wsX3_run (wsV RX3 88 RX2 yX2_hasTooManySteps wsX2_hasTooManySteps) := goodIn_app (goodIn_of _ (by decide +kernel)) ggX3_run_X2_hasTooManySteps
set_option maxRecDepth 20000 in
theorem ggX3_run_X2_letterOfStep : GoodIn wsX3_run wsX2_letterOfStep := goodIn_r _ [64, 10, 32, 217, 218, 219, 220, 221, 222, 223, 224, 225] (by decide +kernel) (by decide +kernel)
set_option maxRecDepth 20000 in
theorem gX3_run_X2_letterOfStep : GoodIn wsX3_run (wsV RX3 91 RX2 yX2_letterOfStep wsX2_letterOfStep) := goodIn_app (goodIn_of _ (by decide +kernel)) ggX3_run_X2_letterOfStep
set_option maxRecDepth 20000 in
theorem ggX3_run_X0_note : GoodIn wsX3_run wsX0_note := goodIn_r _ [69, 70, 71, 72, 68, 73, 74, 75, 76, 77, 78, 79, 80, 81, 82, 83, 84, 85, 86, 87, 88, 89, 90, 91, 92, 93, 94, 95, 96, 97, 98, 99, 100, 226, 227, 228, 229, 230, 231, 232, 233, 234, 235, 236, 237, 238, 239] (by decide +kernel) (by decide +kernel)
set_option maxRecDepth 20000 in
theorem gX3_run_X0_note : GoodIn wsX3_run (wsV RX3 33 RX0 yX0_note wsX0_note) := goodIn_app (goodIn_of _ (by decide +kernel)) ggX3_run_X0_note
set_option maxRecDepth 20000 in
theorem ggX3_run_X2_steps : GoodIn wsX3_run wsX2_steps := goodIn_r _ [104, 10, 217, 218, 219, 220, 221, 222, 223, 224, 225] (by decide +kernel) (by decide +kernel)
set_option maxRecDepth 20000 in
theorem gX3_run_X2_steps : GoodIn wsX3_run (wsV RX3 94 RX2 yX2_steps wsX2_steps) := goodIn_app (goodIn_of _ (by decide +kernel)) ggX3_run_X2_steps
set_option maxRecDepth 20000 in
theorem ggX3_run_X3_perform : GoodIn wsX3_run wsX3_perform := goodIn_r _ [109, 1, 3, 110, 111, 112, 7, 113, 45, 114, 18, 19, 20, 12, 21, 115, 116, 117, 84, 118, 119, 120, 121, 122, 123, 124, 125, 97, 98, 91, 95, 93, 94, 126, 127, 128, 129, 130, 131, 132, 133, 134, 135, 136, 137, 138, 139, 140, 96, 141, 142, 143, 144, 92, 145, 146, 147, 148, 86, 149, 150, 151, 152, 153, 78, 79, 80, 154, 155, 156, 157, 158, 159, 160, 161, 162, 163, 164, 165, 166, 167, 168, 169, 170, 171, 172, 173, 174, 175, 176, 177, 178, 179, 180, 181, 182, 183, 184, 185, 186, 187, 188, 189, 190, 191, 192, 100, 193, 194, 195, 196, 197, 198, 199, 200, 201, 202, 203, 204, 213, 214, 215, 216, 217, 218, 219, 220, 221, 222, 223, 224, 225, 229, 230, 231, 232, 233, 234, 235, 236, 237, 238, 239] (by decide +kernel) (by decide +kernel)
set_option maxRecDepth 20000 in
theorem gX3_run_X3_perform : GoodIn wsX3_run (wsV RX3 97 RX3 yX3_perform wsX3_perform) := goodIn_app (goodIn_of _ (by decide +kernel)) ggX3_run_X3_perform
set_option maxRecDepth 20000 in
theorem ggX3_run_X0_restoreNoted : GoodIn wsX3_run wsX0_restoreNoted := goodIn_r _ [208, 70, 71, 72, 68, 73, 74, 75, 76, 77, 78, 79, 80, 81, 82, 83, 84, 85, 86, 87, 88, 89, 90, 91, 92, 93, 94, 95, 96, 97, 98, 99, 100, 226, 227, 228, 229, 230, 231, 232, 233, 234, 235, 236, 237, 238, 239] (by decide +kernel) (by decide +kernel)
set_option maxRecDepth 20000 in
theorem gX3_run_X0_restoreNoted : GoodIn wsX3_run (wsV RX3 65 RX0 yX0_restoreNoted wsX0_restoreNoted) := goodIn_app (goodIn_of _ (by decide +kernel)) ggX3_run_X0_restoreNoted
set_option maxRecDepth 20000 in
theorem ggX3_run_X0_keepNoted : GoodIn wsX3_run wsX0_keepNoted := goodIn_r _ [212, 76, 75, 77, 78, 79, 80, 226, 227, 228] (by decide +kernel) (by decide +kernel)
set_option maxRecDepth 20000 in
theorem gX3_run_X0_keepNoted : GoodIn wsX3_run (wsV RX3 100 RX0 yX0_keepNoted wsX0_keepNoted) := goodIn_app (goodIn_of _ (by decide +kernel)) ggX3_run_X0_keepNoted
theorem dX3_run_0 : decode cX3_run 0 = .ok (.aload_n 0, 1) := by decide +kernel
theorem dX3_run_1 : decode cX3_run 1 = .ok (.getfield 29, 3) := by decide +kernel
theorem dX3_run_4 : decode cX3_run 4 = .ok (.invokevirtual 82, 3) := by decide +kernel
theorem dX3_run_7 : decode cX3_run 7 = .ok (.ifCond .ne 15, 3) := by decide +kernel
theorem dX3_run_10 : decode cX3_run 10 = .ok (.sipush (-1000), 3) := by decide +kernel
theorem dX3_run_13 : decode cX3_run 13 = .ok (.aload_n 0, 1) := by decide +kernel
theorem dX3_run_14 : decode cX3_run 14 = .ok (.getfield 29, 3) := by decide +kernel
theorem dX3_run_17 : decode cX3_run 17 = .ok (.invokevirtual 85, 3) := by decide +kernel
theorem dX3_run_20 : decode cX3_run 20 = .ok (.isub, 1) := by decide +kernel
theorem dX3_run_21 : decode cX3_run 21 = .ok (.ireturn, 1) := by decide +kernel
theorem dX3_run_22 : decode cX3_run 22 = .ok (.aload_n 0, 1) := by decide +kernel
theorem dX3_run_23 : decode cX3_run 23 = .ok (.getfield 29, 3) := by decide +kernel
theorem dX3_run_26 : decode cX3_run 26 = .ok (.invokevirtual 88, 3) := by decide +kernel
theorem dX3_run_29 : decode cX3_run 29 = .ok (.ifCond .eq 17, 3) := by decide +kernel
theorem dX3_run_32 : decode cX3_run 32 = .ok (.sipush (-1000), 3) := by decide +kernel
theorem dX3_run_35 : decode cX3_run 35 = .ok (.aload_n 0, 1) := by decide +kernel
theorem dX3_run_36 : decode cX3_run 36 = .ok (.getfield 29, 3) := by decide +kernel
theorem dX3_run_39 : decode cX3_run 39 = .ok (.bipush 100, 2) := by decide +kernel
theorem dX3_run_41 : decode cX3_run 41 = .ok (.invokevirtual 91, 3) := by decide +kernel
theorem dX3_run_44 : decode cX3_run 44 = .ok (.isub, 1) := by decide +kernel
theorem dX3_run_45 : decode cX3_run 45 = .ok (.ireturn, 1) := by decide +kernel
theorem dX3_run_46 : decode cX3_run 46 = .ok (.aload_n 0, 1) := by decide +kernel
theorem dX3_run_47 : decode cX3_run 47 = .ok (.getfield 22, 3) := by decide +kernel
theorem dX3_run_50 : decode cX3_run 50 = .ok (.aload_n 0, 1) := by decide +kernel
theorem dX3_run_51 : decode cX3_run 51 = .ok (.getfield 10, 3) := by decide +kernel
theorem dX3_run_54 : decode cX3_run 54 = .ok (.invokevirtual 33, 3) := by decide +kernel
theorem dX3_run_57 : decode cX3_run 57 = .ok (.aload_n 0, 1) := by decide +kernel
theorem dX3_run_58 : decode cX3_run 58 = .ok (.getfield 29, 3) := by decide +kernel
theorem dX3_run_61 : decode cX3_run 61 = .ok (.invokevirtual 94, 3) := by decide +kernel
theorem dX3_run_64 : decode cX3_run 64 = .ok (.istore_n 1, 1) := by decide +kernel
theorem dX3_run_65 : decode cX3_run 65 = .ok (.iconst 0, 1) := by decide +kernel
theorem dX3_run_66 : decode cX3_run 66 = .ok (.istore_n 2, 1) := by decide +kernel
theorem dX3_run_67 : decode cX3_run 67 = .ok (.iload_n 2, 1) := by decide +kernel
theorem dX3_run_68 : decode cX3_run 68 = .ok (.iload_n 1, 1) := by decide +kernel
theorem dX3_run_69 : decode cX3_run 69 = .ok (.if_icmp .ge 43, 3) := by decide +kernel
theorem dX3_run_72 : decode cX3_run 72 = .ok (.aload_n 0, 1) := by decide +kernel
theorem dX3_run_73 : decode cX3_run 73 = .ok (.getfield 29, 3) := by decide +kernel
theorem dX3_run_76 : decode cX3_run 76 = .ok (.iload_n 2, 1) := by decide +kernel
theorem dX3_run_77 : decode cX3_run 77 = .ok (.invokevirtual 91, 3) := by decide +kernel
theorem dX3_run_80 : decode cX3_run 80 = .ok (.istore_n 3, 1) := by decide +kernel
theorem dX3_run_81 : decode cX3_run 81 = .ok (.aload_n 0, 1) := by decide +kernel
theorem dX3_run_82 : decode cX3_run 82 = .ok (.iload_n 3, 1) := by decide +kernel
theorem dX3_run_83 : decode cX3_run 83 = .ok (.invokevirtual 97, 3) := by decide +kernel
theorem dX3_run_86 : decode cX3_run 86 = .ok (.ifCond .ge 20, 3) := by decide +kernel
theorem dX3_run_89 : decode cX3_run 89 = .ok (.aload_n 0, 1) := by decide +kernel
theorem dX3_run_90 : decode cX3_run 90 = .ok (.getfield 22, 3) := by decide +kernel
theorem dX3_run_93 : decode cX3_run 93 = .ok (.aload_n 0, 1) := by decide +kernel
theorem dX3_run_94 : decode cX3_run 94 = .ok (.getfield 10, 3) := by decide +kernel
theorem dX3_run_97 : decode cX3_run 97 = .ok (.invokevirtual 65, 3) := by decide +kernel
theorem dX3_run_100 : decode cX3_run 100 = .ok (.sipush (-1000), 3) := by decide +kernel
theorem dX3_run_103 : decode cX3_run 103 = .ok (.iload_n 3, 1) := by decide +kernel
theorem dX3_run_104 : decode cX3_run 104 = .ok (.isub, 1) := by decide +kernel
theorem dX3_run_105 : decode cX3_run 105 = .ok (.ireturn, 1) := by decide +kernel
theorem dX3_run_106 : decode cX3_run 106 = .ok (.iinc 2 1, 3) := by decide +kernel
theorem dX3_run_109 : decode cX3_run 109 = .ok (.goto (-42), 3) := by decide +kernel
theorem dX3_run_112 : decode cX3_run 112 = .ok (.aload_n 0, 1) := by decide +kernel
theorem dX3_run_113 : decode cX3_run 113 = .ok (.getfield 22, 3) := by decide +kernel
theorem dX3_run_116 : decode cX3_run 116 = .ok (.invokevirtual 100, 3) := by decide +kernel
theorem dX3_run_119 : decode cX3_run 119 = .ok (.iload_n 1, 1) := by decide +kernel
theorem dX3_run_120 : decode cX3_run 120 = .ok (.ireturn, 1) := by decide +kernel
set_option maxRecDepth 20000 in
theorem ggX3_count_X1_tick : GoodIn wsX3_count wsX1_tick := goodIn_r _ [8, 9, 79, 80, 81, 82, 83, 84, 85, 86, 87, 88, 89] (by decide +kernel) (by decide +kernel)
set_option maxRecDepth 20000 in
theorem gX3_count_X1_tick : GoodIn wsX3_count (wsV RX3 103 RX1 yX1_tick wsX1_tick) := goodIn_app (goodIn_of _ (by decide +kernel)) ggX3_count_X1_tick
set_option maxRecDepth 20000 in
theorem ggX3_count_X1_arm : GoodIn wsX3_count wsX1_arm := goodIn_r _ [13, 14, 79, 80, 81, 82, 83, 84, 85, 86, 87, 88, 89] (by decide +kernel) (by decide +kernel)
set_option maxRecDepth 20000 in
theorem gX3_count_X1_arm : GoodIn wsX3_count (wsV RX3 106 RX1 yX1_arm wsX1_arm) := goodIn_app (goodIn_of _ (by decide +kernel)) ggX3_count_X1_arm
set_option maxRecDepth 20000 in
theorem ggX3_count_X1_sectorUnder : GoodIn wsX3_count wsX1_sectorUnder := goodIn_r _ [18, 9, 19, 20, 21, 22, 79, 80, 81, 82, 83, 84, 85, 86, 87, 88, 89] (by decide +kernel) (by decide +kernel)
set_option maxRecDepth 20000 in
theorem gX3_count_X1_sectorUnder : GoodIn wsX3_count (wsV RX3 109 RX1 yX1_sectorUnder wsX1_sectorUnder) := goodIn_app (goodIn_of _ (by decide +kernel)) ggX3_count_X1_sectorUnder
set_option maxRecDepth 20000 in
theorem ggX3_count_X1_taken : GoodIn wsX3_count wsX1_taken := goodIn_r _ [26, 27, 79, 80, 81, 82, 83, 84, 85, 86, 87, 88, 89] (by decide +kernel) (by decide +kernel)
set_option maxRecDepth 20000 in
theorem gX3_count_X1_taken : GoodIn wsX3_count (wsV RX3 112 RX1 yX1_taken wsX1_taken) := goodIn_app (goodIn_of _ (by decide +kernel)) ggX3_count_X1_taken
set_option maxRecDepth 20000 in
theorem ggX3_count_X1_countOrders : GoodIn wsX3_count wsX1_countOrders := goodIn_r _ [31, 27, 32, 33, 34, 7, 35, 36, 37, 38, 39, 40, 79, 80, 81, 82, 83, 84, 85, 86, 87, 88, 89] (by decide +kernel) (by decide +kernel)
set_option maxRecDepth 20000 in
theorem gX3_count_X1_countOrders : GoodIn wsX3_count (wsV RX3 115 RX1 yX1_countOrders wsX1_countOrders) := goodIn_app (goodIn_of _ (by decide +kernel)) ggX3_count_X1_countOrders
set_option maxRecDepth 20000 in
theorem ggX3_count_X1_countCopies : GoodIn wsX3_count wsX1_countCopies := goodIn_r _ [44, 45, 46, 47, 7, 48, 79, 80, 81, 82, 83, 84, 85, 86, 87, 88, 89] (by decide +kernel) (by decide +kernel)
set_option maxRecDepth 20000 in
theorem gX3_count_X1_countCopies : GoodIn wsX3_count (wsV RX3 118 RX1 yX1_countCopies wsX1_countCopies) := goodIn_app (goodIn_of _ (by decide +kernel)) ggX3_count_X1_countCopies
set_option maxRecDepth 20000 in
theorem ggX3_count_X1_countUnlikeBlocks : GoodIn wsX3_count wsX1_countUnlikeBlocks := goodIn_r _ [52, 45, 46, 47, 7, 48, 79, 80, 81, 82, 83, 84, 85, 86, 87, 88, 89] (by decide +kernel) (by decide +kernel)
set_option maxRecDepth 20000 in
theorem gX3_count_X1_countUnlikeBlocks : GoodIn wsX3_count (wsV RX3 121 RX1 yX1_countUnlikeBlocks wsX1_countUnlikeBlocks) := goodIn_app (goodIn_of _ (by decide +kernel)) ggX3_count_X1_countUnlikeBlocks
set_option maxRecDepth 20000 in
theorem ggX3_count_X1_wiped : GoodIn wsX3_count wsX1_wiped := goodIn_r _ [56, 57, 79, 80, 81, 82, 83, 84, 85, 86, 87, 88, 89] (by decide +kernel) (by decide +kernel)
set_option maxRecDepth 20000 in
theorem gX3_count_X1_wiped : GoodIn wsX3_count (wsV RX3 124 RX1 yX1_wiped wsX1_wiped) := goodIn_app (goodIn_of _ (by decide +kernel)) ggX3_count_X1_wiped
set_option maxRecDepth 20000 in
theorem ggX3_count_X1_moves : GoodIn wsX3_count wsX1_moves := goodIn_r _ [61, 62, 79, 80, 81, 82, 83, 84, 85, 86, 87, 88, 89] (by decide +kernel) (by decide +kernel)
set_option maxRecDepth 20000 in
theorem gX3_count_X1_moves : GoodIn wsX3_count (wsV RX3 127 RX1 yX1_moves wsX1_moves) := goodIn_app (goodIn_of _ (by decide +kernel)) ggX3_count_X1_moves
set_option maxRecDepth 20000 in
theorem ggX3_count_X0_size : GoodIn wsX3_count wsX0_size := goodIn_r _ [67, 68, 90, 91, 92] (by decide +kernel) (by decide +kernel)
set_option maxRecDepth 20000 in
theorem gX3_count_X0_size : GoodIn wsX3_count (wsV RX3 59 RX0 yX0_size wsX0_size) := goodIn_app (goodIn_of _ (by decide +kernel)) ggX3_count_X0_size
set_option maxRecDepth 20000 in
theorem ggX3_count_X2_length : GoodIn wsX3_count wsX2_length := goodIn_r _ [73, 74, 93, 94, 95, 96, 97, 98, 99, 100, 101] (by decide +kernel) (by decide +kernel)
set_option maxRecDepth 20000 in
theorem gX3_count_X2_length : GoodIn wsX3_count (wsV RX3 76 RX2 yX2_length wsX2_length) := goodIn_app (goodIn_of _ (by decide +kernel)) ggX3_count_X2_length
theorem dX3_count_0 : decode cX3_count 0 = .ok (.iload_n 1, 1) := by decide +kernel
theorem dX3_count_1 : decode cX3_count 1 = .ok (.tableswitch 202 0 14 #[75, 83, 91, 100, 109, 117, 126, 135, 144, 153, 162, 170, 178, 186, 194], 75) := by decide +kernel
theorem dX3_count_76 : decode cX3_count 76 = .ok (.aload_n 0, 1) := by decide +kernel
theorem dX3_count_77 : decode cX3_count 77 = .ok (.getfield 10, 3) := by decide +kernel
theorem dX3_count_80 : decode cX3_count 80 = .ok (.invokevirtual 103, 3) := by decide +kernel
theorem dX3_count_83 : decode cX3_count 83 = .ok (.ireturn, 1) := by decide +kernel
theorem dX3_count_84 : decode cX3_count 84 = .ok (.aload_n 0, 1) := by decide +kernel
theorem dX3_count_85 : decode cX3_count 85 = .ok (.getfield 10, 3) := by decide +kernel
theorem dX3_count_88 : decode cX3_count 88 = .ok (.invokevirtual 106, 3) := by decide +kernel
theorem dX3_count_91 : decode cX3_count 91 = .ok (.ireturn, 1) := by decide +kernel
theorem dX3_count_92 : decode cX3_count 92 = .ok (.aload_n 0, 1) := by decide +kernel
theorem dX3_count_93 : decode cX3_count 93 = .ok (.getfield 10, 3) := by decide +kernel
theorem dX3_count_96 : decode cX3_count 96 = .ok (.iconst 0, 1) := by decide +kernel
theorem dX3_count_97 : decode cX3_count 97 = .ok (.invokevirtual 109, 3) := by decide +kernel
theorem dX3_count_100 : decode cX3_count 100 = .ok (.ireturn, 1) := by decide +kernel
theorem dX3_count_101 : decode cX3_count 101 = .ok (.aload_n 0, 1) := by decide +kernel
theorem dX3_count_102 : decode cX3_count 102 = .ok (.getfield 10, 3) := by decide +kernel
theorem dX3_count_105 : decode cX3_count 105 = .ok (.iconst 1, 1) := by decide +kernel
theorem dX3_count_106 : decode cX3_count 106 = .ok (.invokevirtual 109, 3) := by decide +kernel
theorem dX3_count_109 : decode cX3_count 109 = .ok (.ireturn, 1) := by decide +kernel
theorem dX3_count_110 : decode cX3_count 110 = .ok (.aload_n 0, 1) := by decide +kernel
theorem dX3_count_111 : decode cX3_count 111 = .ok (.getfield 10, 3) := by decide +kernel
theorem dX3_count_114 : decode cX3_count 114 = .ok (.invokevirtual 112, 3) := by decide +kernel
theorem dX3_count_117 : decode cX3_count 117 = .ok (.ireturn, 1) := by decide +kernel
theorem dX3_count_118 : decode cX3_count 118 = .ok (.aload_n 0, 1) := by decide +kernel
theorem dX3_count_119 : decode cX3_count 119 = .ok (.getfield 10, 3) := by decide +kernel
theorem dX3_count_122 : decode cX3_count 122 = .ok (.iconst 0, 1) := by decide +kernel
theorem dX3_count_123 : decode cX3_count 123 = .ok (.invokevirtual 115, 3) := by decide +kernel
theorem dX3_count_126 : decode cX3_count 126 = .ok (.ireturn, 1) := by decide +kernel
theorem dX3_count_127 : decode cX3_count 127 = .ok (.aload_n 0, 1) := by decide +kernel
theorem dX3_count_128 : decode cX3_count 128 = .ok (.getfield 10, 3) := by decide +kernel
theorem dX3_count_131 : decode cX3_count 131 = .ok (.iconst 1, 1) := by decide +kernel
theorem dX3_count_132 : decode cX3_count 132 = .ok (.invokevirtual 115, 3) := by decide +kernel
theorem dX3_count_135 : decode cX3_count 135 = .ok (.ireturn, 1) := by decide +kernel
theorem dX3_count_136 : decode cX3_count 136 = .ok (.aload_n 0, 1) := by decide +kernel
theorem dX3_count_137 : decode cX3_count 137 = .ok (.getfield 10, 3) := by decide +kernel
theorem dX3_count_140 : decode cX3_count 140 = .ok (.iconst 2, 1) := by decide +kernel
theorem dX3_count_141 : decode cX3_count 141 = .ok (.invokevirtual 115, 3) := by decide +kernel
theorem dX3_count_144 : decode cX3_count 144 = .ok (.ireturn, 1) := by decide +kernel
theorem dX3_count_145 : decode cX3_count 145 = .ok (.aload_n 0, 1) := by decide +kernel
theorem dX3_count_146 : decode cX3_count 146 = .ok (.getfield 10, 3) := by decide +kernel
theorem dX3_count_149 : decode cX3_count 149 = .ok (.iconst 3, 1) := by decide +kernel
theorem dX3_count_150 : decode cX3_count 150 = .ok (.invokevirtual 118, 3) := by decide +kernel
theorem dX3_count_153 : decode cX3_count 153 = .ok (.ireturn, 1) := by decide +kernel
theorem dX3_count_154 : decode cX3_count 154 = .ok (.aload_n 0, 1) := by decide +kernel
theorem dX3_count_155 : decode cX3_count 155 = .ok (.getfield 10, 3) := by decide +kernel
theorem dX3_count_158 : decode cX3_count 158 = .ok (.iconst 2, 1) := by decide +kernel
theorem dX3_count_159 : decode cX3_count 159 = .ok (.invokevirtual 118, 3) := by decide +kernel
theorem dX3_count_162 : decode cX3_count 162 = .ok (.ireturn, 1) := by decide +kernel
theorem dX3_count_163 : decode cX3_count 163 = .ok (.aload_n 0, 1) := by decide +kernel
theorem dX3_count_164 : decode cX3_count 164 = .ok (.getfield 10, 3) := by decide +kernel
theorem dX3_count_167 : decode cX3_count 167 = .ok (.invokevirtual 121, 3) := by decide +kernel
theorem dX3_count_170 : decode cX3_count 170 = .ok (.ireturn, 1) := by decide +kernel
theorem dX3_count_171 : decode cX3_count 171 = .ok (.aload_n 0, 1) := by decide +kernel
theorem dX3_count_172 : decode cX3_count 172 = .ok (.getfield 10, 3) := by decide +kernel
theorem dX3_count_175 : decode cX3_count 175 = .ok (.invokevirtual 124, 3) := by decide +kernel
theorem dX3_count_178 : decode cX3_count 178 = .ok (.ireturn, 1) := by decide +kernel
theorem dX3_count_179 : decode cX3_count 179 = .ok (.aload_n 0, 1) := by decide +kernel
theorem dX3_count_180 : decode cX3_count 180 = .ok (.getfield 10, 3) := by decide +kernel
theorem dX3_count_183 : decode cX3_count 183 = .ok (.invokevirtual 127, 3) := by decide +kernel
theorem dX3_count_186 : decode cX3_count 186 = .ok (.ireturn, 1) := by decide +kernel
theorem dX3_count_187 : decode cX3_count 187 = .ok (.aload_n 0, 1) := by decide +kernel
theorem dX3_count_188 : decode cX3_count 188 = .ok (.getfield 22, 3) := by decide +kernel
theorem dX3_count_191 : decode cX3_count 191 = .ok (.invokevirtual 59, 3) := by decide +kernel
theorem dX3_count_194 : decode cX3_count 194 = .ok (.ireturn, 1) := by decide +kernel
theorem dX3_count_195 : decode cX3_count 195 = .ok (.aload_n 0, 1) := by decide +kernel
theorem dX3_count_196 : decode cX3_count 196 = .ok (.getfield 29, 3) := by decide +kernel
theorem dX3_count_199 : decode cX3_count 199 = .ok (.invokevirtual 76, 3) := by decide +kernel
theorem dX3_count_202 : decode cX3_count 202 = .ok (.ireturn, 1) := by decide +kernel
theorem dX3_count_203 : decode cX3_count 203 = .ok (.iconst (-1), 1) := by decide +kernel
theorem dX3_count_204 : decode cX3_count 204 = .ok (.ireturn, 1) := by decide +kernel
set_option maxRecDepth 20000 in
theorem ggX3_copy_X1_isBlock : GoodIn wsX3_copy wsX1_isBlock := goodIn_r _ [5] (by decide +kernel) (by decide +kernel)
set_option maxRecDepth 20000 in
theorem gX3_copy_X1_isBlock : GoodIn wsX3_copy (va_wsS RX3 130 yX1_isBlock wsX1_isBlock) := goodIn_app (goodIn_of _ (by decide +kernel)) ggX3_copy_X1_isBlock
set_option maxRecDepth 20000 in
theorem ggX3_copy_X1_ofCopy : GoodIn wsX3_copy wsX1_ofCopy := goodIn_r _ [9, 10, 11, 12, 4, 13, 14, 15, 16, 21, 22, 23, 24, 25, 26, 27, 28, 29, 30, 31] (by decide +kernel) (by decide +kernel)
set_option maxRecDepth 20000 in
theorem gX3_copy_X1_ofCopy : GoodIn wsX3_copy (wsV RX3 134 RX1 yX1_ofCopy wsX1_ofCopy) := goodIn_app (goodIn_of _ (by decide +kernel)) ggX3_copy_X1_ofCopy
theorem dX3_copy_0 : decode cX3_copy 0 = .ok (.iload_n 1, 1) := by decide +kernel
theorem dX3_copy_1 : decode cX3_copy 1 = .ok (.ifCond .lt 27, 3) := by decide +kernel
theorem dX3_copy_4 : decode cX3_copy 4 = .ok (.iload_n 1, 1) := by decide +kernel
theorem dX3_copy_5 : decode cX3_copy 5 = .ok (.iconst 2, 1) := by decide +kernel
theorem dX3_copy_6 : decode cX3_copy 6 = .ok (.if_icmp .ge 22, 3) := by decide +kernel
theorem dX3_copy_9 : decode cX3_copy 9 = .ok (.iload_n 2, 1) := by decide +kernel
theorem dX3_copy_10 : decode cX3_copy 10 = .ok (.iload_n 3, 1) := by decide +kernel
theorem dX3_copy_11 : decode cX3_copy 11 = .ok (.invokestatic 130, 3) := by decide +kernel
theorem dX3_copy_14 : decode cX3_copy 14 = .ok (.ifCond .eq 14, 3) := by decide +kernel
theorem dX3_copy_17 : decode cX3_copy 17 = .ok (.iload 4, 2) := by decide +kernel
theorem dX3_copy_19 : decode cX3_copy 19 = .ok (.ifCond .lt 9, 3) := by decide +kernel
theorem dX3_copy_22 : decode cX3_copy 22 = .ok (.iload 4, 2) := by decide +kernel
theorem dX3_copy_24 : decode cX3_copy 24 = .ok (.iconst 4, 1) := by decide +kernel
theorem dX3_copy_25 : decode cX3_copy 25 = .ok (.if_icmp .lt 5, 3) := by decide +kernel
theorem dX3_copy_28 : decode cX3_copy 28 = .ok (.iconst (-1), 1) := by decide +kernel
theorem dX3_copy_29 : decode cX3_copy 29 = .ok (.ireturn, 1) := by decide +kernel
theorem dX3_copy_30 : decode cX3_copy 30 = .ok (.aload_n 0, 1) := by decide +kernel
theorem dX3_copy_31 : decode cX3_copy 31 = .ok (.getfield 10, 3) := by decide +kernel
theorem dX3_copy_34 : decode cX3_copy 34 = .ok (.iload_n 1, 1) := by decide +kernel
theorem dX3_copy_35 : decode cX3_copy 35 = .ok (.iload_n 2, 1) := by decide +kernel
theorem dX3_copy_36 : decode cX3_copy 36 = .ok (.iload_n 3, 1) := by decide +kernel
theorem dX3_copy_37 : decode cX3_copy 37 = .ok (.iload 4, 2) := by decide +kernel
theorem dX3_copy_39 : decode cX3_copy 39 = .ok (.invokevirtual 134, 3) := by decide +kernel
theorem dX3_copy_42 : decode cX3_copy 42 = .ok (.ireturn, 1) := by decide +kernel
set_option maxRecDepth 20000 in
theorem ggX3_order_X1_hasOrder : GoodIn wsX3_order wsX1_hasOrder := goodIn_r _ [6, 7, 17, 18, 19, 20, 21, 22, 23, 24, 25, 26, 27] (by decide +kernel) (by decide +kernel)
set_option maxRecDepth 20000 in
theorem gX3_order_X1_hasOrder : GoodIn wsX3_order (wsV RX3 138 RX1 yX1_hasOrder wsX1_hasOrder) := goodIn_app (goodIn_of _ (by decide +kernel)) ggX3_order_X1_hasOrder
set_option maxRecDepth 20000 in
theorem ggX3_order_X1_ofOrder : GoodIn wsX3_order wsX1_ofOrder := goodIn_r _ [11, 12, 17, 18, 19, 20, 21, 22, 23, 24, 25, 26, 27] (by decide +kernel) (by decide +kernel)
set_option maxRecDepth 20000 in
theorem gX3_order_X1_ofOrder : GoodIn wsX3_order (wsV RX3 142 RX1 yX1_ofOrder wsX1_ofOrder) := goodIn_app (goodIn_of _ (by decide +kernel)) ggX3_order_X1_ofOrder
theorem dX3_order_0 : decode cX3_order 0 = .ok (.aload_n 0, 1) := by decide +kernel
theorem dX3_order_1 : decode cX3_order 1 = .ok (.getfield 10, 3) := by decide +kernel
theorem dX3_order_4 : decode cX3_order 4 = .ok (.iload_n 1, 1) := by decide +kernel
theorem dX3_order_5 : decode cX3_order 5 = .ok (.invokevirtual 138, 3) := by decide +kernel
theorem dX3_order_8 : decode cX3_order 8 = .ok (.ifCond .eq 13, 3) := by decide +kernel
theorem dX3_order_11 : decode cX3_order 11 = .ok (.iload_n 2, 1) := by decide +kernel
theorem dX3_order_12 : decode cX3_order 12 = .ok (.ifCond .lt 9, 3) := by decide +kernel
theorem dX3_order_15 : decode cX3_order 15 = .ok (.iload_n 2, 1) := by decide +kernel
theorem dX3_order_16 : decode cX3_order 16 = .ok (.bipush 8, 2) := by decide +kernel
theorem dX3_order_18 : decode cX3_order 18 = .ok (.if_icmp .lt 5, 3) := by decide +kernel
theorem dX3_order_21 : decode cX3_order 21 = .ok (.iconst (-1), 1) := by decide +kernel
theorem dX3_order_22 : decode cX3_order 22 = .ok (.ireturn, 1) := by decide +kernel
theorem dX3_order_23 : decode cX3_order 23 = .ok (.aload_n 0, 1) := by decide +kernel
theorem dX3_order_24 : decode cX3_order 24 = .ok (.getfield 10, 3) := by decide +kernel
theorem dX3_order_27 : decode cX3_order 27 = .ok (.iload_n 1, 1) := by decide +kernel
theorem dX3_order_28 : decode cX3_order 28 = .ok (.iload_n 2, 1) := by decide +kernel
theorem dX3_order_29 : decode cX3_order 29 = .ok (.invokevirtual 142, 3) := by decide +kernel
theorem dX3_order_32 : decode cX3_order 32 = .ok (.ireturn, 1) := by decide +kernel
set_option maxRecDepth 20000 in
theorem ggX3_waits_X1_sumOfWaits : GoodIn wsX3_waits wsX1_sumOfWaits := goodIn_r _ [6, 7, 8, 9, 10, 5, 11, 12, 13, 14, 15, 16, 17, 18, 19, 20, 30, 31, 32, 33, 34, 35, 36, 37, 38, 39, 40] (by decide +kernel) (by decide +kernel)
set_option maxRecDepth 20000 in
theorem gX3_waits_X1_sumOfWaits : GoodIn wsX3_waits (wsV RX3 145 RX1 yX1_sumOfWaits wsX1_sumOfWaits) := goodIn_app (goodIn_of _ (by decide +kernel)) ggX3_waits_X1_sumOfWaits
set_option maxRecDepth 20000 in
theorem ggX3_waits_X1_longestWaiter : GoodIn wsX3_waits wsX1_longestWaiter := goodIn_r _ [24, 7, 8, 9, 10, 5, 11, 12, 13, 14, 15, 16, 17, 18, 19, 20, 30, 31, 32, 33, 34, 35, 36, 37, 38, 39, 40] (by decide +kernel) (by decide +kernel)
set_option maxRecDepth 20000 in
theorem gX3_waits_X1_longestWaiter : GoodIn wsX3_waits (wsV RX3 148 RX1 yX1_longestWaiter wsX1_longestWaiter) := goodIn_app (goodIn_of _ (by decide +kernel)) ggX3_waits_X1_longestWaiter
set_option maxRecDepth 20000 in
theorem ggX3_waits_X1_waitOf : GoodIn wsX3_waits wsX1_waitOf := goodIn_r _ [20, 12, 13, 14, 5, 15, 16, 30, 31, 32, 33, 34, 35, 36, 37, 38, 39, 40] (by decide +kernel) (by decide +kernel)
set_option maxRecDepth 20000 in
theorem gX3_waits_X1_waitOf : GoodIn wsX3_waits (wsV RX3 151 RX1 yX1_waitOf wsX1_waitOf) := goodIn_app (goodIn_of _ (by decide +kernel)) ggX3_waits_X1_waitOf
theorem dX3_waits_0 : decode cX3_waits 0 = .ok (.iload_n 1, 1) := by decide +kernel
theorem dX3_waits_1 : decode cX3_waits 1 = .ok (.ifCond .lt 8, 3) := by decide +kernel
theorem dX3_waits_4 : decode cX3_waits 4 = .ok (.iload_n 1, 1) := by decide +kernel
theorem dX3_waits_5 : decode cX3_waits 5 = .ok (.iconst 2, 1) := by decide +kernel
theorem dX3_waits_6 : decode cX3_waits 6 = .ok (.if_icmp .le 5, 3) := by decide +kernel
theorem dX3_waits_9 : decode cX3_waits 9 = .ok (.iconst (-1), 1) := by decide +kernel
theorem dX3_waits_10 : decode cX3_waits 10 = .ok (.ireturn, 1) := by decide +kernel
theorem dX3_waits_11 : decode cX3_waits 11 = .ok (.iload_n 1, 1) := by decide +kernel
theorem dX3_waits_12 : decode cX3_waits 12 = .ok (.ifCond .ne 11, 3) := by decide +kernel
theorem dX3_waits_15 : decode cX3_waits 15 = .ok (.aload_n 0, 1) := by decide +kernel
end
section
theorem dX3_waits_16 : decode cX3_waits 16 = .ok (.getfield 10, 3) := by decide +kernel
theorem dX3_waits_19 : decode cX3_waits 19 = .ok (.invokevirtual 145, 3) := by decide +kernel
theorem dX3_waits_22 : decode cX3_waits 22 = .ok (.ireturn, 1) := by decide +kernel
theorem dX3_waits_23 : decode cX3_waits 23 = .ok (.aload_n 0, 1) := by decide +kernel
theorem dX3_waits_24 : decode cX3_waits 24 = .ok (.getfield 10, 3) := by decide +kernel
theorem dX3_waits_27 : decode cX3_waits 27 = .ok (.invokevirtual 148, 3) := by decide +kernel
theorem dX3_waits_30 : decode cX3_waits 30 = .ok (.istore_n 2, 1) := by decide +kernel
theorem dX3_waits_31 : decode cX3_waits 31 = .ok (.iload_n 1, 1) := by decide +kernel
theorem dX3_waits_32 : decode cX3_waits 32 = .ok (.iconst 2, 1) := by decide +kernel
theorem dX3_waits_33 : decode cX3_waits 33 = .ok (.if_icmp .eq 9, 3) := by decide +kernel
theorem dX3_waits_36 : decode cX3_waits 36 = .ok (.iload_n 2, 1) := by decide +kernel
theorem dX3_waits_37 : decode cX3_waits 37 = .ok (.bipush (-9), 2) := by decide +kernel
theorem dX3_waits_39 : decode cX3_waits 39 = .ok (.if_icmp .ne 5, 3) := by decide +kernel
theorem dX3_waits_42 : decode cX3_waits 42 = .ok (.iload_n 2, 1) := by decide +kernel
theorem dX3_waits_43 : decode cX3_waits 43 = .ok (.ireturn, 1) := by decide +kernel
theorem dX3_waits_44 : decode cX3_waits 44 = .ok (.aload_n 0, 1) := by decide +kernel
theorem dX3_waits_45 : decode cX3_waits 45 = .ok (.getfield 10, 3) := by decide +kernel
theorem dX3_waits_48 : decode cX3_waits 48 = .ok (.iload_n 2, 1) := by decide +kernel
theorem dX3_waits_49 : decode cX3_waits 49 = .ok (.invokevirtual 151, 3) := by decide +kernel
theorem dX3_waits_52 : decode cX3_waits 52 = .ok (.ireturn, 1) := by decide +kernel
set_option maxRecDepth 20000 in
theorem ggX3_nearer_X1_ticksUntilOver : GoodIn wsX3_nearer wsX1_ticksUntilOver := goodIn_r _ [10, 11, 12, 13, 9, 14, 15, 16, 17, 18, 19, 24, 25, 26, 27, 28, 29, 30, 31, 32, 33, 34] (by decide +kernel) (by decide +kernel)
set_option maxRecDepth 20000 in
theorem gX3_nearer_X1_ticksUntilOver : GoodIn wsX3_nearer (wsV RX3 154 RX1 yX1_ticksUntilOver wsX1_ticksUntilOver) := goodIn_app (goodIn_of _ (by decide +kernel)) ggX3_nearer_X1_ticksUntilOver
theorem dX3_nearer_0 : decode cX3_nearer 0 = .ok (.iload_n 1, 1) := by decide +kernel
theorem dX3_nearer_1 : decode cX3_nearer 1 = .ok (.ifCond .lt 18, 3) := by decide +kernel
theorem dX3_nearer_4 : decode cX3_nearer 4 = .ok (.iload_n 1, 1) := by decide +kernel
theorem dX3_nearer_5 : decode cX3_nearer 5 = .ok (.bipush 12, 2) := by decide +kernel
theorem dX3_nearer_7 : decode cX3_nearer 7 = .ok (.if_icmp .ge 12, 3) := by decide +kernel
theorem dX3_nearer_10 : decode cX3_nearer 10 = .ok (.iload_n 2, 1) := by decide +kernel
theorem dX3_nearer_11 : decode cX3_nearer 11 = .ok (.ifCond .lt 8, 3) := by decide +kernel
theorem dX3_nearer_14 : decode cX3_nearer 14 = .ok (.iload_n 2, 1) := by decide +kernel
theorem dX3_nearer_15 : decode cX3_nearer 15 = .ok (.iconst 1, 1) := by decide +kernel
theorem dX3_nearer_16 : decode cX3_nearer 16 = .ok (.if_icmp .le 5, 3) := by decide +kernel
theorem dX3_nearer_19 : decode cX3_nearer 19 = .ok (.iconst (-1), 1) := by decide +kernel
theorem dX3_nearer_20 : decode cX3_nearer 20 = .ok (.ireturn, 1) := by decide +kernel
theorem dX3_nearer_21 : decode cX3_nearer 21 = .ok (.aload_n 0, 1) := by decide +kernel
theorem dX3_nearer_22 : decode cX3_nearer 22 = .ok (.getfield 10, 3) := by decide +kernel
theorem dX3_nearer_25 : decode cX3_nearer 25 = .ok (.iconst 0, 1) := by decide +kernel
theorem dX3_nearer_26 : decode cX3_nearer 26 = .ok (.iload_n 1, 1) := by decide +kernel
theorem dX3_nearer_27 : decode cX3_nearer 27 = .ok (.invokevirtual 154, 3) := by decide +kernel
theorem dX3_nearer_30 : decode cX3_nearer 30 = .ok (.istore_n 3, 1) := by decide +kernel
theorem dX3_nearer_31 : decode cX3_nearer 31 = .ok (.aload_n 0, 1) := by decide +kernel
theorem dX3_nearer_32 : decode cX3_nearer 32 = .ok (.getfield 10, 3) := by decide +kernel
theorem dX3_nearer_35 : decode cX3_nearer 35 = .ok (.iconst 1, 1) := by decide +kernel
theorem dX3_nearer_36 : decode cX3_nearer 36 = .ok (.iload_n 1, 1) := by decide +kernel
theorem dX3_nearer_37 : decode cX3_nearer 37 = .ok (.invokevirtual 154, 3) := by decide +kernel
theorem dX3_nearer_40 : decode cX3_nearer 40 = .ok (.istore 4, 2) := by decide +kernel
theorem dX3_nearer_42 : decode cX3_nearer 42 = .ok (.iload_n 2, 1) := by decide +kernel
theorem dX3_nearer_43 : decode cX3_nearer 43 = .ok (.ifCond .ne 15, 3) := by decide +kernel
theorem dX3_nearer_46 : decode cX3_nearer 46 = .ok (.iload_n 3, 1) := by decide +kernel
theorem dX3_nearer_47 : decode cX3_nearer 47 = .ok (.iload 4, 2) := by decide +kernel
theorem dX3_nearer_49 : decode cX3_nearer 49 = .ok (.if_icmp .ge 7, 3) := by decide +kernel
theorem dX3_nearer_52 : decode cX3_nearer 52 = .ok (.iconst 0, 1) := by decide +kernel
theorem dX3_nearer_53 : decode cX3_nearer 53 = .ok (.goto 4, 3) := by decide +kernel
theorem dX3_nearer_56 : decode cX3_nearer 56 = .ok (.iconst 1, 1) := by decide +kernel
theorem dX3_nearer_57 : decode cX3_nearer 57 = .ok (.ireturn, 1) := by decide +kernel
theorem dX3_nearer_58 : decode cX3_nearer 58 = .ok (.iload_n 3, 1) := by decide +kernel
theorem dX3_nearer_59 : decode cX3_nearer 59 = .ok (.iload 4, 2) := by decide +kernel
theorem dX3_nearer_61 : decode cX3_nearer 61 = .ok (.invokestatic 157, 3) := by decide +kernel
theorem dX3_nearer_64 : decode cX3_nearer 64 = .ok (.ireturn, 1) := by decide +kernel
set_option maxRecDepth 20000 in
theorem ggX3_doneIn_X1_hasOrder : GoodIn wsX3_doneIn wsX1_hasOrder := goodIn_r _ [7, 8, 97, 98, 99, 100, 101, 102, 103, 104, 105, 106, 107] (by decide +kernel) (by decide +kernel)
set_option maxRecDepth 20000 in
theorem gX3_doneIn_X1_hasOrder : GoodIn wsX3_doneIn (wsV RX3 138 RX1 yX1_hasOrder wsX1_hasOrder) := goodIn_app (goodIn_of _ (by decide +kernel)) ggX3_doneIn_X1_hasOrder
set_option maxRecDepth 20000 in
theorem ggX3_doneIn_X1_statusOf : GoodIn wsX3_doneIn wsX1_statusOf := goodIn_r _ [12, 13, 14, 15, 6, 16, 17, 97, 98, 99, 100, 101, 102, 103, 104, 105, 106, 107] (by decide +kernel) (by decide +kernel)
set_option maxRecDepth 20000 in
theorem gX3_doneIn_X1_statusOf : GoodIn wsX3_doneIn (wsV RX3 162 RX1 yX1_statusOf wsX1_statusOf) := goodIn_app (goodIn_of _ (by decide +kernel)) ggX3_doneIn_X1_statusOf
set_option maxRecDepth 20000 in
theorem ggX3_doneIn_X1_become : GoodIn wsX3_doneIn wsX1_become := goodIn_r _ [21, 22, 23, 24, 25, 26, 17, 27, 28, 29, 30, 31, 8, 32, 33, 34, 97, 98, 99, 100, 101, 102, 103, 104, 105, 106, 107] (by decide +kernel) (by decide +kernel)
set_option maxRecDepth 20000 in
theorem gX3_doneIn_X1_become : GoodIn wsX3_doneIn (wsV RX3 165 RX1 yX1_become wsX1_become) := goodIn_app (goodIn_of _ (by decide +kernel)) ggX3_doneIn_X1_become
set_option maxRecDepth 20000 in
theorem ggX3_doneIn_X1_doTick : GoodIn wsX3_doneIn wsX1_doTick := goodIn_r _ [38, 29, 31, 30, 39, 40, 41, 6, 42, 27, 43, 44, 45, 46, 22, 28, 47, 48, 49, 50, 51, 52, 53, 54, 55, 56, 57, 58, 59, 60, 61, 62, 63, 64, 65, 66, 67, 68, 69, 70, 71, 72, 73, 74, 75, 76, 8, 17, 77, 78, 79, 80, 81, 82, 83, 84, 13, 14, 15, 16, 85, 86, 87, 88, 32, 89, 90, 91, 92, 34, 97, 98, 99, 100, 101, 102, 103, 104, 105, 106, 107] (by decide +kernel) (by decide +kernel)
set_option maxRecDepth 20000 in
theorem gX3_doneIn_X1_doTick : GoodIn wsX3_doneIn (wsV RX3 168 RX1 yX1_doTick wsX1_doTick) := goodIn_app (goodIn_of _ (by decide +kernel)) ggX3_doneIn_X1_doTick
theorem dX3_doneIn_0 : decode cX3_doneIn 0 = .ok (.aload_n 0, 1) := by decide +kernel
theorem dX3_doneIn_1 : decode cX3_doneIn 1 = .ok (.getfield 10, 3) := by decide +kernel
theorem dX3_doneIn_4 : decode cX3_doneIn 4 = .ok (.iload_n 1, 1) := by decide +kernel
theorem dX3_doneIn_5 : decode cX3_doneIn 5 = .ok (.invokevirtual 138, 3) := by decide +kernel
theorem dX3_doneIn_8 : decode cX3_doneIn 8 = .ok (.ifCond .ne 5, 3) := by decide +kernel
theorem dX3_doneIn_11 : decode cX3_doneIn 11 = .ok (.iconst (-1), 1) := by decide +kernel
theorem dX3_doneIn_12 : decode cX3_doneIn 12 = .ok (.ireturn, 1) := by decide +kernel
theorem dX3_doneIn_13 : decode cX3_doneIn 13 = .ok (.aload_n 0, 1) := by decide +kernel
theorem dX3_doneIn_14 : decode cX3_doneIn 14 = .ok (.getfield 10, 3) := by decide +kernel
theorem dX3_doneIn_17 : decode cX3_doneIn 17 = .ok (.iload_n 1, 1) := by decide +kernel
theorem dX3_doneIn_18 : decode cX3_doneIn 18 = .ok (.invokevirtual 162, 3) := by decide +kernel
theorem dX3_doneIn_21 : decode cX3_doneIn 21 = .ok (.iconst 1, 1) := by decide +kernel
theorem dX3_doneIn_22 : decode cX3_doneIn 22 = .ok (.if_icmp .ne 5, 3) := by decide +kernel
theorem dX3_doneIn_25 : decode cX3_doneIn 25 = .ok (.iconst 0, 1) := by decide +kernel
theorem dX3_doneIn_26 : decode cX3_doneIn 26 = .ok (.ireturn, 1) := by decide +kernel
theorem dX3_doneIn_27 : decode cX3_doneIn 27 = .ok (.aload_n 0, 1) := by decide +kernel
theorem dX3_doneIn_28 : decode cX3_doneIn 28 = .ok (.getfield 10, 3) := by decide +kernel
theorem dX3_doneIn_31 : decode cX3_doneIn 31 = .ok (.iload_n 1, 1) := by decide +kernel
theorem dX3_doneIn_32 : decode cX3_doneIn 32 = .ok (.invokevirtual 162, 3) := by decide +kernel
theorem dX3_doneIn_35 : decode cX3_doneIn 35 = .ok (.iconst 2, 1) := by decide +kernel
theorem dX3_doneIn_36 : decode cX3_doneIn 36 = .ok (.if_icmp .ne 6, 3) := by decide +kernel
theorem dX3_doneIn_39 : decode cX3_doneIn 39 = .ok (.bipush (-9), 2) := by decide +kernel
theorem dX3_doneIn_41 : decode cX3_doneIn 41 = .ok (.ireturn, 1) := by decide +kernel
theorem dX3_doneIn_42 : decode cX3_doneIn 42 = .ok (.aload_n 0, 1) := by decide +kernel
theorem dX3_doneIn_43 : decode cX3_doneIn 43 = .ok (.getfield 16, 3) := by decide +kernel
theorem dX3_doneIn_46 : decode cX3_doneIn 46 = .ok (.aload_n 0, 1) := by decide +kernel
theorem dX3_doneIn_47 : decode cX3_doneIn 47 = .ok (.getfield 10, 3) := by decide +kernel
theorem dX3_doneIn_50 : decode cX3_doneIn 50 = .ok (.invokevirtual 165, 3) := by decide +kernel
theorem dX3_doneIn_53 : decode cX3_doneIn 53 = .ok (.iconst 1, 1) := by decide +kernel
theorem dX3_doneIn_54 : decode cX3_doneIn 54 = .ok (.istore_n 2, 1) := by decide +kernel
theorem dX3_doneIn_55 : decode cX3_doneIn 55 = .ok (.iload_n 2, 1) := by decide +kernel
theorem dX3_doneIn_56 : decode cX3_doneIn 56 = .ok (.sipush 300, 3) := by decide +kernel
theorem dX3_doneIn_59 : decode cX3_doneIn 59 = .ok (.if_icmp .gt 30, 3) := by decide +kernel
theorem dX3_doneIn_62 : decode cX3_doneIn 62 = .ok (.aload_n 0, 1) := by decide +kernel
theorem dX3_doneIn_63 : decode cX3_doneIn 63 = .ok (.getfield 16, 3) := by decide +kernel
theorem dX3_doneIn_66 : decode cX3_doneIn 66 = .ok (.invokevirtual 168, 3) := by decide +kernel
theorem dX3_doneIn_69 : decode cX3_doneIn 69 = .ok (.aload_n 0, 1) := by decide +kernel
theorem dX3_doneIn_70 : decode cX3_doneIn 70 = .ok (.getfield 16, 3) := by decide +kernel
theorem dX3_doneIn_73 : decode cX3_doneIn 73 = .ok (.iload_n 1, 1) := by decide +kernel
theorem dX3_doneIn_74 : decode cX3_doneIn 74 = .ok (.invokevirtual 162, 3) := by decide +kernel
theorem dX3_doneIn_77 : decode cX3_doneIn 77 = .ok (.iconst 1, 1) := by decide +kernel
theorem dX3_doneIn_78 : decode cX3_doneIn 78 = .ok (.if_icmp .ne 5, 3) := by decide +kernel
theorem dX3_doneIn_81 : decode cX3_doneIn 81 = .ok (.iload_n 2, 1) := by decide +kernel
theorem dX3_doneIn_82 : decode cX3_doneIn 82 = .ok (.ireturn, 1) := by decide +kernel
theorem dX3_doneIn_83 : decode cX3_doneIn 83 = .ok (.iinc 2 1, 3) := by decide +kernel
theorem dX3_doneIn_86 : decode cX3_doneIn 86 = .ok (.goto (-31), 3) := by decide +kernel
theorem dX3_doneIn_89 : decode cX3_doneIn 89 = .ok (.bipush (-9), 2) := by decide +kernel
theorem dX3_doneIn_91 : decode cX3_doneIn 91 = .ok (.ireturn, 1) := by decide +kernel
set_option maxRecDepth 20000 in
theorem ggX3_idleIn_X1_hasWork : GoodIn wsX3_idleIn wsX1_hasWork := goodIn_r _ [7, 8, 93, 94, 95, 96, 97, 98, 99, 100, 101, 102, 103] (by decide +kernel) (by decide +kernel)
set_option maxRecDepth 20000 in
theorem gX3_idleIn_X1_hasWork : GoodIn wsX3_idleIn (wsV RX3 171 RX1 yX1_hasWork wsX1_hasWork) := goodIn_app (goodIn_of _ (by decide +kernel)) ggX3_idleIn_X1_hasWork
set_option maxRecDepth 20000 in
theorem ggX3_idleIn_X1_become : GoodIn wsX3_idleIn wsX1_become := goodIn_r _ [12, 13, 14, 15, 16, 17, 18, 19, 20, 8, 21, 22, 23, 24, 25, 26, 93, 94, 95, 96, 97, 98, 99, 100, 101, 102, 103] (by decide +kernel) (by decide +kernel)
set_option maxRecDepth 20000 in
theorem gX3_idleIn_X1_become : GoodIn wsX3_idleIn (wsV RX3 165 RX1 yX1_become wsX1_become) := goodIn_app (goodIn_of _ (by decide +kernel)) ggX3_idleIn_X1_become
set_option maxRecDepth 20000 in
theorem ggX3_idleIn_X1_doTick : GoodIn wsX3_idleIn wsX1_doTick := goodIn_r _ [30, 8, 22, 21, 31, 32, 33, 6, 34, 19, 35, 36, 37, 38, 13, 20, 39, 40, 41, 42, 43, 44, 45, 46, 47, 48, 49, 50, 51, 52, 53, 54, 55, 56, 57, 58, 59, 60, 61, 62, 63, 64, 65, 66, 67, 68, 23, 18, 69, 70, 71, 72, 73, 74, 75, 76, 77, 78, 79, 80, 81, 82, 83, 84, 24, 85, 86, 87, 88, 26, 93, 94, 95, 96, 97, 98, 99, 100, 101, 102, 103] (by decide +kernel) (by decide +kernel)
set_option maxRecDepth 20000 in
theorem gX3_idleIn_X1_doTick : GoodIn wsX3_idleIn (wsV RX3 168 RX1 yX1_doTick wsX1_doTick) := goodIn_app (goodIn_of _ (by decide +kernel)) ggX3_idleIn_X1_doTick
theorem dX3_idleIn_0 : decode cX3_idleIn 0 = .ok (.aload_n 0, 1) := by decide +kernel
theorem dX3_idleIn_1 : decode cX3_idleIn 1 = .ok (.getfield 10, 3) := by decide +kernel
theorem dX3_idleIn_4 : decode cX3_idleIn 4 = .ok (.invokevirtual 171, 3) := by decide +kernel
theorem dX3_idleIn_7 : decode cX3_idleIn 7 = .ok (.ifCond .ne 5, 3) := by decide +kernel
theorem dX3_idleIn_10 : decode cX3_idleIn 10 = .ok (.iconst 0, 1) := by decide +kernel
theorem dX3_idleIn_11 : decode cX3_idleIn 11 = .ok (.ireturn, 1) := by decide +kernel
theorem dX3_idleIn_12 : decode cX3_idleIn 12 = .ok (.aload_n 0, 1) := by decide +kernel
theorem dX3_idleIn_13 : decode cX3_idleIn 13 = .ok (.getfield 16, 3) := by decide +kernel
theorem dX3_idleIn_16 : decode cX3_idleIn 16 = .ok (.aload_n 0, 1) := by decide +kernel
theorem dX3_idleIn_17 : decode cX3_idleIn 17 = .ok (.getfield 10, 3) := by decide +kernel
theorem dX3_idleIn_20 : decode cX3_idleIn 20 = .ok (.invokevirtual 165, 3) := by decide +kernel
theorem dX3_idleIn_23 : decode cX3_idleIn 23 = .ok (.iconst 1, 1) := by decide +kernel
theorem dX3_idleIn_24 : decode cX3_idleIn 24 = .ok (.istore_n 1, 1) := by decide +kernel
theorem dX3_idleIn_25 : decode cX3_idleIn 25 = .ok (.iload_n 1, 1) := by decide +kernel
theorem dX3_idleIn_26 : decode cX3_idleIn 26 = .ok (.sipush 300, 3) := by decide +kernel
theorem dX3_idleIn_29 : decode cX3_idleIn 29 = .ok (.if_icmp .gt 28, 3) := by decide +kernel
theorem dX3_idleIn_32 : decode cX3_idleIn 32 = .ok (.aload_n 0, 1) := by decide +kernel
theorem dX3_idleIn_33 : decode cX3_idleIn 33 = .ok (.getfield 16, 3) := by decide +kernel
theorem dX3_idleIn_36 : decode cX3_idleIn 36 = .ok (.invokevirtual 168, 3) := by decide +kernel
theorem dX3_idleIn_39 : decode cX3_idleIn 39 = .ok (.aload_n 0, 1) := by decide +kernel
theorem dX3_idleIn_40 : decode cX3_idleIn 40 = .ok (.getfield 16, 3) := by decide +kernel
theorem dX3_idleIn_43 : decode cX3_idleIn 43 = .ok (.invokevirtual 171, 3) := by decide +kernel
theorem dX3_idleIn_46 : decode cX3_idleIn 46 = .ok (.ifCond .ne 5, 3) := by decide +kernel
theorem dX3_idleIn_49 : decode cX3_idleIn 49 = .ok (.iload_n 1, 1) := by decide +kernel
theorem dX3_idleIn_50 : decode cX3_idleIn 50 = .ok (.ireturn, 1) := by decide +kernel
theorem dX3_idleIn_51 : decode cX3_idleIn 51 = .ok (.iinc 1 1, 3) := by decide +kernel
theorem dX3_idleIn_54 : decode cX3_idleIn 54 = .ok (.goto (-29), 3) := by decide +kernel
theorem dX3_idleIn_57 : decode cX3_idleIn 57 = .ok (.bipush (-9), 2) := by decide +kernel
theorem dX3_idleIn_59 : decode cX3_idleIn 59 = .ok (.ireturn, 1) := by decide +kernel
set_option maxRecDepth 20000 in
theorem ggX3_wouldWipe_X1_become : GoodIn wsX3_wouldWipe wsX1_become := goodIn_r _ [7, 8, 9, 10, 11, 12, 13, 14, 15, 16, 17, 18, 19, 20, 21, 22, 70, 71, 72, 73, 74, 75, 76, 77, 78, 79, 80] (by decide +kernel) (by decide +kernel)
set_option maxRecDepth 20000 in
theorem gX3_wouldWipe_X1_become : GoodIn wsX3_wouldWipe (wsV RX3 165 RX1 yX1_become wsX1_become) := goodIn_app (goodIn_of _ (by decide +kernel)) ggX3_wouldWipe_X1_become
set_option maxRecDepth 20000 in
theorem ggX3_wouldWipe_X1_cutPower : GoodIn wsX3_wouldWipe wsX1_cutPower := goodIn_r _ [26, 14, 8, 27, 28, 29, 6, 30, 19, 13, 20, 15, 16, 31, 32, 33, 34, 35, 36, 37, 38, 39, 40, 41, 70, 71, 72, 73, 74, 75, 76, 77, 78, 79, 80] (by decide +kernel) (by decide +kernel)
set_option maxRecDepth 20000 in
theorem gX3_wouldWipe_X1_cutPower : GoodIn wsX3_wouldWipe (wsV RX3 52 RX1 yX1_cutPower wsX1_cutPower) := goodIn_app (goodIn_of _ (by decide +kernel)) ggX3_wouldWipe_X1_cutPower
set_option maxRecDepth 20000 in
theorem ggX3_wouldWipe_X1_repairBlocks : GoodIn wsX3_wouldWipe wsX1_repairBlocks := goodIn_r _ [45, 17, 18, 39, 40, 6, 41, 46, 47, 48, 49, 8, 21, 50, 51, 52, 53, 54, 55, 56, 57, 58, 59, 60, 61, 14, 70, 71, 72, 73, 74, 75, 76, 77, 78, 79, 80] (by decide +kernel) (by decide +kernel)
set_option maxRecDepth 20000 in
theorem gX3_wouldWipe_X1_repairBlocks : GoodIn wsX3_wouldWipe (wsV RX3 174 RX1 yX1_repairBlocks wsX1_repairBlocks) := goodIn_app (goodIn_of _ (by decide +kernel)) ggX3_wouldWipe_X1_repairBlocks
set_option maxRecDepth 20000 in
theorem ggX3_wouldWipe_X1_wiped : GoodIn wsX3_wouldWipe wsX1_wiped := goodIn_r _ [65, 21, 70, 71, 72, 73, 74, 75, 76, 77, 78, 79, 80] (by decide +kernel) (by decide +kernel)
set_option maxRecDepth 20000 in
theorem gX3_wouldWipe_X1_wiped : GoodIn wsX3_wouldWipe (wsV RX3 124 RX1 yX1_wiped wsX1_wiped) := goodIn_app (goodIn_of _ (by decide +kernel)) ggX3_wouldWipe_X1_wiped
theorem dX3_wouldWipe_0 : decode cX3_wouldWipe 0 = .ok (.aload_n 0, 1) := by decide +kernel
theorem dX3_wouldWipe_1 : decode cX3_wouldWipe 1 = .ok (.getfield 16, 3) := by decide +kernel
theorem dX3_wouldWipe_4 : decode cX3_wouldWipe 4 = .ok (.aload_n 0, 1) := by decide +kernel
theorem dX3_wouldWipe_5 : decode cX3_wouldWipe 5 = .ok (.getfield 10, 3) := by decide +kernel
theorem dX3_wouldWipe_8 : decode cX3_wouldWipe 8 = .ok (.invokevirtual 165, 3) := by decide +kernel
theorem dX3_wouldWipe_11 : decode cX3_wouldWipe 11 = .ok (.aload_n 0, 1) := by decide +kernel
theorem dX3_wouldWipe_12 : decode cX3_wouldWipe 12 = .ok (.getfield 16, 3) := by decide +kernel
theorem dX3_wouldWipe_15 : decode cX3_wouldWipe 15 = .ok (.invokevirtual 52, 3) := by decide +kernel
theorem dX3_wouldWipe_18 : decode cX3_wouldWipe 18 = .ok (.pop, 1) := by decide +kernel
theorem dX3_wouldWipe_19 : decode cX3_wouldWipe 19 = .ok (.aload_n 0, 1) := by decide +kernel
theorem dX3_wouldWipe_20 : decode cX3_wouldWipe 20 = .ok (.getfield 16, 3) := by decide +kernel
theorem dX3_wouldWipe_23 : decode cX3_wouldWipe 23 = .ok (.invokevirtual 174, 3) := by decide +kernel
theorem dX3_wouldWipe_26 : decode cX3_wouldWipe 26 = .ok (.pop, 1) := by decide +kernel
theorem dX3_wouldWipe_27 : decode cX3_wouldWipe 27 = .ok (.aload_n 0, 1) := by decide +kernel
theorem dX3_wouldWipe_28 : decode cX3_wouldWipe 28 = .ok (.getfield 16, 3) := by decide +kernel
theorem dX3_wouldWipe_31 : decode cX3_wouldWipe 31 = .ok (.invokevirtual 124, 3) := by decide +kernel
theorem dX3_wouldWipe_34 : decode cX3_wouldWipe 34 = .ok (.aload_n 0, 1) := by decide +kernel
theorem dX3_wouldWipe_35 : decode cX3_wouldWipe 35 = .ok (.getfield 10, 3) := by decide +kernel
theorem dX3_wouldWipe_38 : decode cX3_wouldWipe 38 = .ok (.invokevirtual 124, 3) := by decide +kernel
theorem dX3_wouldWipe_41 : decode cX3_wouldWipe 41 = .ok (.isub, 1) := by decide +kernel
theorem dX3_wouldWipe_42 : decode cX3_wouldWipe 42 = .ok (.ireturn, 1) := by decide +kernel
set_option maxRecDepth 20000 in
theorem ggX3_settle_X0_keepNoted : GoodIn wsX3_settle wsX0_keepNoted := goodIn_r _ [6, 7, 8, 9, 10, 11, 12, 17, 18, 19] (by decide +kernel) (by decide +kernel)
set_option maxRecDepth 20000 in
theorem gX3_settle_X0_keepNoted : GoodIn wsX3_settle (wsV RX3 100 RX0 yX0_keepNoted wsX0_keepNoted) := goodIn_app (goodIn_of _ (by decide +kernel)) ggX3_settle_X0_keepNoted
theorem dX3_settle_0 : decode cX3_settle 0 = .ok (.iload_n 1, 1) := by decide +kernel
theorem dX3_settle_1 : decode cX3_settle 1 = .ok (.ifCond .lt 10, 3) := by decide +kernel
theorem dX3_settle_4 : decode cX3_settle 4 = .ok (.aload_n 0, 1) := by decide +kernel
theorem dX3_settle_5 : decode cX3_settle 5 = .ok (.getfield 22, 3) := by decide +kernel
theorem dX3_settle_8 : decode cX3_settle 8 = .ok (.invokevirtual 100, 3) := by decide +kernel
theorem dX3_settle_11 : decode cX3_settle 11 = .ok (.iload_n 1, 1) := by decide +kernel
theorem dX3_settle_12 : decode cX3_settle 12 = .ok (.ireturn, 1) := by decide +kernel
set_option maxRecDepth 20000 in
theorem ggX3_perform_X2_numberBehind : GoodIn wsX3_perform wsX2_numberBehind := goodIn_r _ [7, 8, 123, 124, 125, 126, 127, 128, 129, 130, 131] (by decide +kernel) (by decide +kernel)
set_option maxRecDepth 20000 in
theorem gX3_perform_X2_numberBehind : GoodIn wsX3_perform (wsV RX3 177 RX2 yX2_numberBehind wsX2_numberBehind) := goodIn_app (goodIn_of _ (by decide +kernel)) ggX3_perform_X2_numberBehind
set_option maxRecDepth 20000 in
theorem ggX3_perform_X2_signAt : GoodIn wsX3_perform wsX2_signAt := goodIn_r _ [12, 13, 14, 123, 124, 125, 126, 127, 128, 129, 130, 131] (by decide +kernel) (by decide +kernel)
set_option maxRecDepth 20000 in
theorem gX3_perform_X2_signAt : GoodIn wsX3_perform (wsV RX3 180 RX2 yX2_signAt wsX2_signAt) := goodIn_app (goodIn_of _ (by decide +kernel)) ggX3_perform_X2_signAt
set_option maxRecDepth 20000 in
theorem ggX3_perform_X1_takeRead : GoodIn wsX3_perform wsX1_takeRead := goodIn_r _ [19, 20, 21, 18, 22, 23, 24, 25, 26, 27, 28, 29, 30, 31, 32, 33, 34, 35, 132, 133, 134, 135, 136, 137, 138, 139, 140, 141, 142] (by decide +kernel) (by decide +kernel)
set_option maxRecDepth 20000 in
theorem gX3_perform_X1_takeRead : GoodIn wsX3_perform (wsV RX3 37 RX1 yX1_takeRead wsX1_takeRead) := goodIn_app (goodIn_of _ (by decide +kernel)) ggX3_perform_X1_takeRead
set_option maxRecDepth 20000 in
theorem ggX3_perform_X1_takeWrite : GoodIn wsX3_perform wsX1_takeWrite := goodIn_r _ [39, 20, 21, 18, 22, 23, 24, 25, 26, 27, 28, 29, 30, 31, 32, 33, 34, 35, 132, 133, 134, 135, 136, 137, 138, 139, 140, 141, 142] (by decide +kernel) (by decide +kernel)
set_option maxRecDepth 20000 in
theorem gX3_perform_X1_takeWrite : GoodIn wsX3_perform (wsV RX3 45 RX1 yX1_takeWrite wsX1_takeWrite) := goodIn_app (goodIn_of _ (by decide +kernel)) ggX3_perform_X1_takeWrite
set_option maxRecDepth 20000 in
theorem ggX3_perform_X1_letPass : GoodIn wsX3_perform wsX1_letPass := goodIn_r _ [43, 30, 28, 44, 45, 46, 18, 47, 32, 48, 49, 50, 51, 52, 53, 54, 55, 56, 57, 58, 31, 59, 60, 61, 62, 63, 64, 65, 66, 33, 34, 35, 67, 68, 69, 70, 71, 72, 73, 74, 75, 76, 77, 78, 79, 80, 81, 82, 83, 84, 85, 27, 29, 86, 87, 88, 89, 90, 91, 92, 93, 94, 95, 96, 97, 98, 99, 100, 101, 102, 103, 104, 105, 106, 132, 133, 134, 135, 136, 137, 138, 139, 140, 141, 142] (by decide +kernel) (by decide +kernel)
set_option maxRecDepth 20000 in
theorem gX3_perform_X1_letPass : GoodIn wsX3_perform (wsV RX3 49 RX1 yX1_letPass wsX1_letPass) := goodIn_app (goodIn_of _ (by decide +kernel)) ggX3_perform_X1_letPass
set_option maxRecDepth 20000 in
theorem ggX3_perform_X1_cutPower : GoodIn wsX3_perform wsX1_cutPower := goodIn_r _ [110, 53, 58, 111, 112, 113, 18, 114, 27, 29, 28, 31, 32, 115, 116, 117, 118, 94, 95, 96, 97, 67, 68, 69, 132, 133, 134, 135, 136, 137, 138, 139, 140, 141, 142] (by decide +kernel) (by decide +kernel)
set_option maxRecDepth 20000 in
theorem gX3_perform_X1_cutPower : GoodIn wsX3_perform (wsV RX3 52 RX1 yX1_cutPower wsX1_cutPower) := goodIn_app (goodIn_of _ (by decide +kernel)) ggX3_perform_X1_cutPower
theorem dX3_perform_0 : decode cX3_perform 0 = .ok (.aload_n 0, 1) := by decide +kernel
theorem dX3_perform_1 : decode cX3_perform 1 = .ok (.getfield 29, 3) := by decide +kernel
theorem dX3_perform_4 : decode cX3_perform 4 = .ok (.iload_n 1, 1) := by decide +kernel
theorem dX3_perform_5 : decode cX3_perform 5 = .ok (.iconst 0, 1) := by decide +kernel
theorem dX3_perform_6 : decode cX3_perform 6 = .ok (.invokevirtual 177, 3) := by decide +kernel
theorem dX3_perform_9 : decode cX3_perform 9 = .ok (.istore_n 2, 1) := by decide +kernel
theorem dX3_perform_10 : decode cX3_perform 10 = .ok (.aload_n 0, 1) := by decide +kernel
theorem dX3_perform_11 : decode cX3_perform 11 = .ok (.getfield 29, 3) := by decide +kernel
theorem dX3_perform_14 : decode cX3_perform 14 = .ok (.iload_n 1, 1) := by decide +kernel
theorem dX3_perform_15 : decode cX3_perform 15 = .ok (.iconst 1, 1) := by decide +kernel
theorem dX3_perform_16 : decode cX3_perform 16 = .ok (.invokevirtual 177, 3) := by decide +kernel
theorem dX3_perform_19 : decode cX3_perform 19 = .ok (.istore_n 3, 1) := by decide +kernel
theorem dX3_perform_20 : decode cX3_perform 20 = .ok (.aload_n 0, 1) := by decide +kernel
theorem dX3_perform_21 : decode cX3_perform 21 = .ok (.getfield 29, 3) := by decide +kernel
theorem dX3_perform_24 : decode cX3_perform 24 = .ok (.iload_n 1, 1) := by decide +kernel
theorem dX3_perform_25 : decode cX3_perform 25 = .ok (.iconst 2, 1) := by decide +kernel
theorem dX3_perform_26 : decode cX3_perform 26 = .ok (.invokevirtual 177, 3) := by decide +kernel
theorem dX3_perform_29 : decode cX3_perform 29 = .ok (.istore 4, 2) := by decide +kernel
theorem dX3_perform_31 : decode cX3_perform 31 = .ok (.aload_n 0, 1) := by decide +kernel
theorem dX3_perform_32 : decode cX3_perform 32 = .ok (.getfield 29, 3) := by decide +kernel
theorem dX3_perform_35 : decode cX3_perform 35 = .ok (.iload_n 1, 1) := by decide +kernel
theorem dX3_perform_36 : decode cX3_perform 36 = .ok (.invokevirtual 180, 3) := by decide +kernel
theorem dX3_perform_39 : decode cX3_perform 39 = .ok (.lookupswitch 64 #[(114, 33), (116, 55), (119, 43)], 33) := by decide +kernel
theorem dX3_perform_72 : decode cX3_perform 72 = .ok (.aload_n 0, 1) := by decide +kernel
theorem dX3_perform_73 : decode cX3_perform 73 = .ok (.getfield 10, 3) := by decide +kernel
theorem dX3_perform_76 : decode cX3_perform 76 = .ok (.iload_n 2, 1) := by decide +kernel
theorem dX3_perform_77 : decode cX3_perform 77 = .ok (.iload_n 3, 1) := by decide +kernel
theorem dX3_perform_78 : decode cX3_perform 78 = .ok (.invokevirtual 37, 3) := by decide +kernel
theorem dX3_perform_81 : decode cX3_perform 81 = .ok (.ireturn, 1) := by decide +kernel
theorem dX3_perform_82 : decode cX3_perform 82 = .ok (.aload_n 0, 1) := by decide +kernel
theorem dX3_perform_83 : decode cX3_perform 83 = .ok (.getfield 10, 3) := by decide +kernel
theorem dX3_perform_86 : decode cX3_perform 86 = .ok (.iload_n 2, 1) := by decide +kernel
theorem dX3_perform_87 : decode cX3_perform 87 = .ok (.iload_n 3, 1) := by decide +kernel
theorem dX3_perform_88 : decode cX3_perform 88 = .ok (.iload 4, 2) := by decide +kernel
theorem dX3_perform_90 : decode cX3_perform 90 = .ok (.invokevirtual 45, 3) := by decide +kernel
theorem dX3_perform_93 : decode cX3_perform 93 = .ok (.ireturn, 1) := by decide +kernel
theorem dX3_perform_94 : decode cX3_perform 94 = .ok (.aload_n 0, 1) := by decide +kernel
theorem dX3_perform_95 : decode cX3_perform 95 = .ok (.getfield 10, 3) := by decide +kernel
theorem dX3_perform_98 : decode cX3_perform 98 = .ok (.iload_n 2, 1) := by decide +kernel
theorem dX3_perform_99 : decode cX3_perform 99 = .ok (.invokevirtual 49, 3) := by decide +kernel
theorem dX3_perform_102 : decode cX3_perform 102 = .ok (.ireturn, 1) := by decide +kernel
theorem dX3_perform_103 : decode cX3_perform 103 = .ok (.aload_n 0, 1) := by decide +kernel
theorem dX3_perform_104 : decode cX3_perform 104 = .ok (.getfield 10, 3) := by decide +kernel
theorem dX3_perform_107 : decode cX3_perform 107 = .ok (.invokevirtual 52, 3) := by decide +kernel
theorem dX3_perform_110 : decode cX3_perform 110 = .ok (.ireturn, 1) := by decide +kernel
theorem dX4_init_0 : decode cX4_init 0 = .ok (.aload_n 0, 1) := by decide +kernel
theorem dX4_init_1 : decode cX4_init 1 = .ok (.invokespecial 1, 3) := by decide +kernel
theorem dX4_init_4 : decode cX4_init 4 = .ok (.aload_n 0, 1) := by decide +kernel
theorem dX4_init_5 : decode cX4_init 5 = .ok (.sipush 965, 3) := by decide +kernel
theorem dX4_init_8 : decode cX4_init 8 = .ok (.newarray .int, 2) := by decide +kernel
theorem dX4_init_10 : decode cX4_init 10 = .ok (.putfield 7, 3) := by decide +kernel
theorem dX4_init_13 : decode cX4_init 13 = .ok (.aload_n 0, 1) := by decide +kernel
theorem dX4_init_14 : decode cX4_init 14 = .ok (.sipush 4825, 3) := by decide +kernel
theorem dX4_init_17 : decode cX4_init 17 = .ok (.newarray .int, 2) := by decide +kernel
theorem dX4_init_19 : decode cX4_init 19 = .ok (.putfield 13, 3) := by decide +kernel
theorem dX4_init_22 : decode cX4_init 22 = .ok (.aload_n 0, 1) := by decide +kernel
theorem dX4_init_23 : decode cX4_init 23 = .ok (.sipush 965, 3) := by decide +kernel
theorem dX4_init_26 : decode cX4_init 26 = .ok (.newarray .int, 2) := by decide +kernel
theorem dX4_init_28 : decode cX4_init 28 = .ok (.putfield 16, 3) := by decide +kernel
theorem dX4_init_31 : decode cX4_init 31 = .ok (.aload_n 0, 1) := by decide +kernel
theorem dX4_init_32 : decode cX4_init 32 = .ok (.bipush 80, 2) := by decide +kernel
theorem dX4_init_34 : decode cX4_init 34 = .ok (.newarray .int, 2) := by decide +kernel
theorem dX4_init_36 : decode cX4_init 36 = .ok (.putfield 19, 3) := by decide +kernel
theorem dX4_init_39 : decode cX4_init 39 = .ok (.aload_n 0, 1) := by decide +kernel
theorem dX4_init_40 : decode cX4_init 40 = .ok (.iconst 4, 1) := by decide +kernel
theorem dX4_init_41 : decode cX4_init 41 = .ok (.newarray .int, 2) := by decide +kernel
theorem dX4_init_43 : decode cX4_init 43 = .ok (.putfield 22, 3) := by decide +kernel
theorem dX4_init_46 : decode cX4_init 46 = .ok (.aload_n 0, 1) := by decide +kernel
theorem dX4_init_47 : decode cX4_init 47 = .ok (.iconst 4, 1) := by decide +kernel
theorem dX4_init_48 : decode cX4_init 48 = .ok (.newarray .int, 2) := by decide +kernel
theorem dX4_init_50 : decode cX4_init 50 = .ok (.putfield 25, 3) := by decide +kernel
theorem dX4_init_53 : decode cX4_init 53 = .ok (.aload_n 0, 1) := by decide +kernel
theorem dX4_init_54 : decode cX4_init 54 = .ok (.iconst 3, 1) := by decide +kernel
theorem dX4_init_55 : decode cX4_init 55 = .ok (.newarray .int, 2) := by decide +kernel
theorem dX4_init_57 : decode cX4_init 57 = .ok (.putfield 28, 3) := by decide +kernel
theorem dX4_init_60 : decode cX4_init 60 = .ok (.iconst 0, 1) := by decide +kernel
theorem dX4_init_61 : decode cX4_init 61 = .ok (.istore_n 1, 1) := by decide +kernel
theorem dX4_init_62 : decode cX4_init 62 = .ok (.iload_n 1, 1) := by decide +kernel
theorem dX4_init_63 : decode cX4_init 63 = .ok (.bipush 96, 2) := by decide +kernel
theorem dX4_init_65 : decode cX4_init 65 = .ok (.if_icmp .ge 23, 3) := by decide +kernel
theorem dX4_init_68 : decode cX4_init 68 = .ok (.aload_n 0, 1) := by decide +kernel
theorem dX4_init_69 : decode cX4_init 69 = .ok (.getfield 7, 3) := by decide +kernel
theorem dX4_init_72 : decode cX4_init 72 = .ok (.iconst 5, 1) := by decide +kernel
theorem dX4_init_73 : decode cX4_init 73 = .ok (.iconst 5, 1) := by decide +kernel
theorem dX4_init_74 : decode cX4_init 74 = .ok (.iload_n 1, 1) := by decide +kernel
theorem dX4_init_75 : decode cX4_init 75 = .ok (.imul, 1) := by decide +kernel
theorem dX4_init_76 : decode cX4_init 76 = .ok (.iadd, 1) := by decide +kernel
theorem dX4_init_77 : decode cX4_init 77 = .ok (.iconst 4, 1) := by decide +kernel
theorem dX4_init_78 : decode cX4_init 78 = .ok (.iadd, 1) := by decide +kernel
theorem dX4_init_79 : decode cX4_init 79 = .ok (.bipush (-2), 2) := by decide +kernel
theorem dX4_init_81 : decode cX4_init 81 = .ok (.iastore, 1) := by decide +kernel
theorem dX4_init_82 : decode cX4_init 82 = .ok (.iinc 1 1, 3) := by decide +kernel
theorem dX4_init_85 : decode cX4_init 85 = .ok (.goto (-23), 3) := by decide +kernel
theorem dX4_init_88 : decode cX4_init 88 = .ok (.return_, 1) := by decide +kernel
theorem dX4_within_0 : decode cX4_within 0 = .ok (.iload_n 0, 1) := by decide +kernel
theorem dX4_within_1 : decode cX4_within 1 = .ok (.iload_n 1, 1) := by decide +kernel
theorem dX4_within_2 : decode cX4_within 2 = .ok (.if_icmp .lt 12, 3) := by decide +kernel
theorem dX4_within_5 : decode cX4_within 5 = .ok (.iload_n 0, 1) := by decide +kernel
theorem dX4_within_6 : decode cX4_within 6 = .ok (.iload_n 2, 1) := by decide +kernel
theorem dX4_within_7 : decode cX4_within 7 = .ok (.if_icmp .gt 7, 3) := by decide +kernel
theorem dX4_within_10 : decode cX4_within 10 = .ok (.iconst 1, 1) := by decide +kernel
theorem dX4_within_11 : decode cX4_within 11 = .ok (.goto 4, 3) := by decide +kernel
theorem dX4_within_14 : decode cX4_within 14 = .ok (.iconst 0, 1) := by decide +kernel
theorem dX4_within_15 : decode cX4_within 15 = .ok (.ireturn, 1) := by decide +kernel
theorem dX4_saves_0 : decode cX4_saves 0 = .ok (.aload_n 0, 1) := by decide +kernel
theorem dX4_saves_1 : decode cX4_saves 1 = .ok (.getfield 31, 3) := by decide +kernel
theorem dX4_saves_4 : decode cX4_saves 4 = .ok (.ifCond .eq 4, 3) := by decide +kernel
theorem dX4_saves_7 : decode cX4_saves 7 = .ok (.return_, 1) := by decide +kernel
theorem dX4_saves_8 : decode cX4_saves 8 = .ok (.aload_n 0, 1) := by decide +kernel
theorem dX4_saves_9 : decode cX4_saves 9 = .ok (.getfield 35, 3) := by decide +kernel
theorem dX4_saves_12 : decode cX4_saves 12 = .ok (.iconst 5, 1) := by decide +kernel
theorem dX4_saves_13 : decode cX4_saves 13 = .ok (.if_icmp .ne 44, 3) := by decide +kernel
theorem dX4_saves_16 : decode cX4_saves 16 = .ok (.iconst 0, 1) := by decide +kernel
theorem dX4_saves_17 : decode cX4_saves 17 = .ok (.istore_n 1, 1) := by decide +kernel
theorem dX4_saves_18 : decode cX4_saves 18 = .ok (.iload_n 1, 1) := by decide +kernel
theorem dX4_saves_19 : decode cX4_saves 19 = .ok (.sipush 3860, 3) := by decide +kernel
theorem dX4_saves_22 : decode cX4_saves 22 = .ok (.if_icmp .ge 25, 3) := by decide +kernel
theorem dX4_saves_25 : decode cX4_saves 25 = .ok (.aload_n 0, 1) := by decide +kernel
theorem dX4_saves_26 : decode cX4_saves 26 = .ok (.getfield 13, 3) := by decide +kernel
theorem dX4_saves_29 : decode cX4_saves 29 = .ok (.iload_n 1, 1) := by decide +kernel
theorem dX4_saves_30 : decode cX4_saves 30 = .ok (.aload_n 0, 1) := by decide +kernel
theorem dX4_saves_31 : decode cX4_saves 31 = .ok (.getfield 13, 3) := by decide +kernel
theorem dX4_saves_34 : decode cX4_saves 34 = .ok (.iload_n 1, 1) := by decide +kernel
theorem dX4_saves_35 : decode cX4_saves 35 = .ok (.sipush 965, 3) := by decide +kernel
theorem dX4_saves_38 : decode cX4_saves 38 = .ok (.iadd, 1) := by decide +kernel
theorem dX4_saves_39 : decode cX4_saves 39 = .ok (.iaload, 1) := by decide +kernel
theorem dX4_saves_40 : decode cX4_saves 40 = .ok (.iastore, 1) := by decide +kernel
theorem dX4_saves_41 : decode cX4_saves 41 = .ok (.iinc 1 1, 3) := by decide +kernel
theorem dX4_saves_44 : decode cX4_saves 44 = .ok (.goto (-26), 3) := by decide +kernel
theorem dX4_saves_47 : decode cX4_saves 47 = .ok (.aload_n 0, 1) := by decide +kernel
theorem dX4_saves_48 : decode cX4_saves 48 = .ok (.dup, 1) := by decide +kernel
theorem dX4_saves_49 : decode cX4_saves 49 = .ok (.getfield 35, 3) := by decide +kernel
theorem dX4_saves_52 : decode cX4_saves 52 = .ok (.iconst 1, 1) := by decide +kernel
theorem dX4_saves_53 : decode cX4_saves 53 = .ok (.isub, 1) := by decide +kernel
theorem dX4_saves_54 : decode cX4_saves 54 = .ok (.putfield 35, 3) := by decide +kernel
theorem dX4_saves_57 : decode cX4_saves 57 = .ok (.iconst 0, 1) := by decide +kernel
theorem dX4_saves_58 : decode cX4_saves 58 = .ok (.istore_n 1, 1) := by decide +kernel
theorem dX4_saves_59 : decode cX4_saves 59 = .ok (.iload_n 1, 1) := by decide +kernel
theorem dX4_saves_60 : decode cX4_saves 60 = .ok (.sipush 965, 3) := by decide +kernel
theorem dX4_saves_63 : decode cX4_saves 63 = .ok (.if_icmp .ge 30, 3) := by decide +kernel
theorem dX4_saves_66 : decode cX4_saves 66 = .ok (.aload_n 0, 1) := by decide +kernel
theorem dX4_saves_67 : decode cX4_saves 67 = .ok (.getfield 13, 3) := by decide +kernel
theorem dX4_saves_70 : decode cX4_saves 70 = .ok (.sipush 965, 3) := by decide +kernel
theorem dX4_saves_73 : decode cX4_saves 73 = .ok (.aload_n 0, 1) := by decide +kernel
theorem dX4_saves_74 : decode cX4_saves 74 = .ok (.getfield 35, 3) := by decide +kernel
theorem dX4_saves_77 : decode cX4_saves 77 = .ok (.imul, 1) := by decide +kernel
theorem dX4_saves_78 : decode cX4_saves 78 = .ok (.iload_n 1, 1) := by decide +kernel
theorem dX4_saves_79 : decode cX4_saves 79 = .ok (.iadd, 1) := by decide +kernel
theorem dX4_saves_80 : decode cX4_saves 80 = .ok (.aload_n 0, 1) := by decide +kernel
theorem dX4_saves_81 : decode cX4_saves 81 = .ok (.getfield 7, 3) := by decide +kernel
theorem dX4_saves_84 : decode cX4_saves 84 = .ok (.iload_n 1, 1) := by decide +kernel
theorem dX4_saves_85 : decode cX4_saves 85 = .ok (.iaload, 1) := by decide +kernel
theorem dX4_saves_86 : decode cX4_saves 86 = .ok (.iastore, 1) := by decide +kernel
theorem dX4_saves_87 : decode cX4_saves 87 = .ok (.iinc 1 1, 3) := by decide +kernel
theorem dX4_saves_90 : decode cX4_saves 90 = .ok (.goto (-31), 3) := by decide +kernel
theorem dX4_saves_93 : decode cX4_saves 93 = .ok (.aload_n 0, 1) := by decide +kernel
theorem dX4_saves_94 : decode cX4_saves 94 = .ok (.dup, 1) := by decide +kernel
theorem dX4_saves_95 : decode cX4_saves 95 = .ok (.getfield 35, 3) := by decide +kernel
theorem dX4_saves_98 : decode cX4_saves 98 = .ok (.iconst 1, 1) := by decide +kernel
theorem dX4_saves_99 : decode cX4_saves 99 = .ok (.iadd, 1) := by decide +kernel
theorem dX4_saves_100 : decode cX4_saves 100 = .ok (.putfield 35, 3) := by decide +kernel
theorem dX4_saves_103 : decode cX4_saves 103 = .ok (.return_, 1) := by decide +kernel
theorem dX4_undo_0 : decode cX4_undo 0 = .ok (.aload_n 0, 1) := by decide +kernel
theorem dX4_undo_1 : decode cX4_undo 1 = .ok (.getfield 35, 3) := by decide +kernel
theorem dX4_undo_4 : decode cX4_undo 4 = .ok (.ifCond .ne 6, 3) := by decide +kernel
theorem dX4_undo_7 : decode cX4_undo 7 = .ok (.bipush (-2), 2) := by decide +kernel
theorem dX4_undo_9 : decode cX4_undo 9 = .ok (.ireturn, 1) := by decide +kernel
theorem dX4_undo_10 : decode cX4_undo 10 = .ok (.aload_n 0, 1) := by decide +kernel
theorem dX4_undo_11 : decode cX4_undo 11 = .ok (.dup, 1) := by decide +kernel
theorem dX4_undo_12 : decode cX4_undo 12 = .ok (.getfield 35, 3) := by decide +kernel
theorem dX4_undo_15 : decode cX4_undo 15 = .ok (.iconst 1, 1) := by decide +kernel
theorem dX4_undo_16 : decode cX4_undo 16 = .ok (.isub, 1) := by decide +kernel
theorem dX4_undo_17 : decode cX4_undo 17 = .ok (.putfield 35, 3) := by decide +kernel
theorem dX4_undo_20 : decode cX4_undo 20 = .ok (.iconst 0, 1) := by decide +kernel
theorem dX4_undo_21 : decode cX4_undo 21 = .ok (.istore_n 1, 1) := by decide +kernel
theorem dX4_undo_22 : decode cX4_undo 22 = .ok (.iload_n 1, 1) := by decide +kernel
theorem dX4_undo_23 : decode cX4_undo 23 = .ok (.sipush 965, 3) := by decide +kernel
theorem dX4_undo_26 : decode cX4_undo 26 = .ok (.if_icmp .ge 30, 3) := by decide +kernel
theorem dX4_undo_29 : decode cX4_undo 29 = .ok (.aload_n 0, 1) := by decide +kernel
theorem dX4_undo_30 : decode cX4_undo 30 = .ok (.getfield 7, 3) := by decide +kernel
theorem dX4_undo_33 : decode cX4_undo 33 = .ok (.iload_n 1, 1) := by decide +kernel
theorem dX4_undo_34 : decode cX4_undo 34 = .ok (.aload_n 0, 1) := by decide +kernel
theorem dX4_undo_35 : decode cX4_undo 35 = .ok (.getfield 13, 3) := by decide +kernel
theorem dX4_undo_38 : decode cX4_undo 38 = .ok (.sipush 965, 3) := by decide +kernel
theorem dX4_undo_41 : decode cX4_undo 41 = .ok (.aload_n 0, 1) := by decide +kernel
theorem dX4_undo_42 : decode cX4_undo 42 = .ok (.getfield 35, 3) := by decide +kernel
theorem dX4_undo_45 : decode cX4_undo 45 = .ok (.imul, 1) := by decide +kernel
theorem dX4_undo_46 : decode cX4_undo 46 = .ok (.iload_n 1, 1) := by decide +kernel
theorem dX4_undo_47 : decode cX4_undo 47 = .ok (.iadd, 1) := by decide +kernel
theorem dX4_undo_48 : decode cX4_undo 48 = .ok (.iaload, 1) := by decide +kernel
theorem dX4_undo_49 : decode cX4_undo 49 = .ok (.iastore, 1) := by decide +kernel
theorem dX4_undo_50 : decode cX4_undo 50 = .ok (.iinc 1 1, 3) := by decide +kernel
theorem dX4_undo_53 : decode cX4_undo 53 = .ok (.goto (-31), 3) := by decide +kernel
theorem dX4_undo_56 : decode cX4_undo 56 = .ok (.aload_n 0, 1) := by decide +kernel
theorem dX4_undo_57 : decode cX4_undo 57 = .ok (.getfield 35, 3) := by decide +kernel
theorem dX4_undo_60 : decode cX4_undo 60 = .ok (.ireturn, 1) := by decide +kernel
theorem dX4_puts_0 : decode cX4_puts 0 = .ok (.iconst 0, 1) := by decide +kernel
theorem dX4_puts_1 : decode cX4_puts 1 = .ok (.istore_n 1, 1) := by decide +kernel
theorem dX4_puts_2 : decode cX4_puts 2 = .ok (.iload_n 1, 1) := by decide +kernel
theorem dX4_puts_3 : decode cX4_puts 3 = .ok (.sipush 965, 3) := by decide +kernel
theorem dX4_puts_6 : decode cX4_puts 6 = .ok (.if_icmp .ge 21, 3) := by decide +kernel
theorem dX4_puts_9 : decode cX4_puts 9 = .ok (.aload_n 0, 1) := by decide +kernel
theorem dX4_puts_10 : decode cX4_puts 10 = .ok (.getfield 16, 3) := by decide +kernel
theorem dX4_puts_13 : decode cX4_puts 13 = .ok (.iload_n 1, 1) := by decide +kernel
theorem dX4_puts_14 : decode cX4_puts 14 = .ok (.aload_n 0, 1) := by decide +kernel
theorem dX4_puts_15 : decode cX4_puts 15 = .ok (.getfield 7, 3) := by decide +kernel
theorem dX4_puts_18 : decode cX4_puts 18 = .ok (.iload_n 1, 1) := by decide +kernel
theorem dX4_puts_19 : decode cX4_puts 19 = .ok (.iaload, 1) := by decide +kernel
theorem dX4_puts_20 : decode cX4_puts 20 = .ok (.iastore, 1) := by decide +kernel
theorem dX4_puts_21 : decode cX4_puts 21 = .ok (.iinc 1 1, 3) := by decide +kernel
theorem dX4_puts_24 : decode cX4_puts 24 = .ok (.goto (-22), 3) := by decide +kernel
theorem dX4_puts_27 : decode cX4_puts 27 = .ok (.return_, 1) := by decide +kernel
theorem dX4_back_0 : decode cX4_back 0 = .ok (.iconst 0, 1) := by decide +kernel
theorem dX4_back_1 : decode cX4_back 1 = .ok (.istore_n 1, 1) := by decide +kernel
theorem dX4_back_2 : decode cX4_back 2 = .ok (.iload_n 1, 1) := by decide +kernel
theorem dX4_back_3 : decode cX4_back 3 = .ok (.sipush 965, 3) := by decide +kernel
theorem dX4_back_6 : decode cX4_back 6 = .ok (.if_icmp .ge 21, 3) := by decide +kernel
theorem dX4_back_9 : decode cX4_back 9 = .ok (.aload_n 0, 1) := by decide +kernel
theorem dX4_back_10 : decode cX4_back 10 = .ok (.getfield 7, 3) := by decide +kernel
theorem dX4_back_13 : decode cX4_back 13 = .ok (.iload_n 1, 1) := by decide +kernel
theorem dX4_back_14 : decode cX4_back 14 = .ok (.aload_n 0, 1) := by decide +kernel
theorem dX4_back_15 : decode cX4_back 15 = .ok (.getfield 16, 3) := by decide +kernel
theorem dX4_back_18 : decode cX4_back 18 = .ok (.iload_n 1, 1) := by decide +kernel
theorem dX4_back_19 : decode cX4_back 19 = .ok (.iaload, 1) := by decide +kernel
theorem dX4_back_20 : decode cX4_back 20 = .ok (.iastore, 1) := by decide +kernel
theorem dX4_back_21 : decode cX4_back 21 = .ok (.iinc 1 1, 3) := by decide +kernel
theorem dX4_back_24 : decode cX4_back 24 = .ok (.goto (-22), 3) := by decide +kernel
theorem dX4_back_27 : decode cX4_back 27 = .ok (.return_, 1) := by decide +kernel
set_option maxRecDepth 20000 in
theorem ggX4_isBlock_X4_within : GoodIn wsX4_isBlock wsX4_within := goodIn_r _ [4] (by decide +kernel) (by decide +kernel)
set_option maxRecDepth 20000 in
theorem gX4_isBlock_X4_within : GoodIn wsX4_isBlock (va_wsS RX4 39 yX4_within wsX4_within) := goodIn_app (goodIn_of _ (by decide +kernel)) ggX4_isBlock_X4_within
theorem dX4_isBlock_0 : decode cX4_isBlock 0 = .ok (.iload_n 0, 1) := by decide +kernel
theorem dX4_isBlock_1 : decode cX4_isBlock 1 = .ok (.iconst 0, 1) := by decide +kernel
theorem dX4_isBlock_2 : decode cX4_isBlock 2 = .ok (.iconst 3, 1) := by decide +kernel
theorem dX4_isBlock_3 : decode cX4_isBlock 3 = .ok (.invokestatic 39, 3) := by decide +kernel
theorem dX4_isBlock_6 : decode cX4_isBlock 6 = .ok (.ifCond .eq 17, 3) := by decide +kernel
theorem dX4_isBlock_9 : decode cX4_isBlock 9 = .ok (.iload_n 1, 1) := by decide +kernel
theorem dX4_isBlock_10 : decode cX4_isBlock 10 = .ok (.iconst 0, 1) := by decide +kernel
theorem dX4_isBlock_11 : decode cX4_isBlock 11 = .ok (.bipush 11, 2) := by decide +kernel
theorem dX4_isBlock_13 : decode cX4_isBlock 13 = .ok (.invokestatic 39, 3) := by decide +kernel
theorem dX4_isBlock_16 : decode cX4_isBlock 16 = .ok (.ifCond .eq 7, 3) := by decide +kernel
theorem dX4_isBlock_19 : decode cX4_isBlock 19 = .ok (.iconst 1, 1) := by decide +kernel
theorem dX4_isBlock_20 : decode cX4_isBlock 20 = .ok (.goto 4, 3) := by decide +kernel
theorem dX4_isBlock_23 : decode cX4_isBlock 23 = .ok (.iconst 0, 1) := by decide +kernel
theorem dX4_isBlock_24 : decode cX4_isBlock 24 = .ok (.ireturn, 1) := by decide +kernel
theorem dX4_of_0 : decode cX4_of 0 = .ok (.aload_n 0, 1) := by decide +kernel
theorem dX4_of_1 : decode cX4_of 1 = .ok (.getfield 7, 3) := by decide +kernel
theorem dX4_of_4 : decode cX4_of 4 = .ok (.iconst 5, 1) := by decide +kernel
theorem dX4_of_5 : decode cX4_of 5 = .ok (.iconst 5, 1) := by decide +kernel
theorem dX4_of_6 : decode cX4_of 6 = .ok (.bipush 48, 2) := by decide +kernel
theorem dX4_of_8 : decode cX4_of 8 = .ok (.iload_n 1, 1) := by decide +kernel
theorem dX4_of_9 : decode cX4_of 9 = .ok (.imul, 1) := by decide +kernel
theorem dX4_of_10 : decode cX4_of 10 = .ok (.iload_n 2, 1) := by decide +kernel
theorem dX4_of_11 : decode cX4_of 11 = .ok (.iadd, 1) := by decide +kernel
theorem dX4_of_12 : decode cX4_of 12 = .ok (.imul, 1) := by decide +kernel
theorem dX4_of_13 : decode cX4_of 13 = .ok (.iadd, 1) := by decide +kernel
theorem dX4_of_14 : decode cX4_of 14 = .ok (.iload_n 3, 1) := by decide +kernel
theorem dX4_of_15 : decode cX4_of 15 = .ok (.iadd, 1) := by decide +kernel
theorem dX4_of_16 : decode cX4_of 16 = .ok (.iaload, 1) := by decide +kernel
theorem dX4_of_17 : decode cX4_of 17 = .ok (.ireturn, 1) := by decide +kernel
theorem dX4_put_0 : decode cX4_put 0 = .ok (.aload_n 0, 1) := by decide +kernel
theorem dX4_put_1 : decode cX4_put 1 = .ok (.getfield 7, 3) := by decide +kernel
theorem dX4_put_4 : decode cX4_put 4 = .ok (.iconst 5, 1) := by decide +kernel
theorem dX4_put_5 : decode cX4_put 5 = .ok (.iconst 5, 1) := by decide +kernel
theorem dX4_put_6 : decode cX4_put 6 = .ok (.bipush 48, 2) := by decide +kernel
theorem dX4_put_8 : decode cX4_put 8 = .ok (.iload_n 1, 1) := by decide +kernel
theorem dX4_put_9 : decode cX4_put 9 = .ok (.imul, 1) := by decide +kernel
theorem dX4_put_10 : decode cX4_put 10 = .ok (.iload_n 2, 1) := by decide +kernel
theorem dX4_put_11 : decode cX4_put 11 = .ok (.iadd, 1) := by decide +kernel
theorem dX4_put_12 : decode cX4_put 12 = .ok (.imul, 1) := by decide +kernel
theorem dX4_put_13 : decode cX4_put 13 = .ok (.iadd, 1) := by decide +kernel
theorem dX4_put_14 : decode cX4_put 14 = .ok (.iload_n 3, 1) := by decide +kernel
theorem dX4_put_15 : decode cX4_put 15 = .ok (.iadd, 1) := by decide +kernel
theorem dX4_put_16 : decode cX4_put 16 = .ok (.iload 4, 2) := by decide +kernel
theorem dX4_put_18 : decode cX4_put 18 = .ok (.iastore, 1) := by decide +kernel
theorem dX4_put_19 : decode cX4_put 19 = .ok (.return_, 1) := by decide +kernel
theorem dX4_told_0 : decode cX4_told 0 = .ok (.aload_n 0, 1) := by decide +kernel
theorem dX4_told_1 : decode cX4_told 1 = .ok (.getfield 7, 3) := by decide +kernel
theorem dX4_told_4 : decode cX4_told 4 = .ok (.sipush 485, 3) := by decide +kernel
theorem dX4_told_7 : decode cX4_told 7 = .ok (.bipush 8, 2) := by decide +kernel
theorem dX4_told_9 : decode cX4_told 9 = .ok (.iload_n 1, 1) := by decide +kernel
theorem dX4_told_10 : decode cX4_told 10 = .ok (.imul, 1) := by decide +kernel
theorem dX4_told_11 : decode cX4_told 11 = .ok (.iadd, 1) := by decide +kernel
theorem dX4_told_12 : decode cX4_told 12 = .ok (.iload_n 2, 1) := by decide +kernel
theorem dX4_told_13 : decode cX4_told 13 = .ok (.iadd, 1) := by decide +kernel
theorem dX4_told_14 : decode cX4_told 14 = .ok (.iaload, 1) := by decide +kernel
theorem dX4_told_15 : decode cX4_told 15 = .ok (.ireturn, 1) := by decide +kernel
theorem dX4_tell_0 : decode cX4_tell 0 = .ok (.aload_n 0, 1) := by decide +kernel
theorem dX4_tell_1 : decode cX4_tell 1 = .ok (.getfield 7, 3) := by decide +kernel
theorem dX4_tell_4 : decode cX4_tell 4 = .ok (.sipush 485, 3) := by decide +kernel
theorem dX4_tell_7 : decode cX4_tell 7 = .ok (.bipush 8, 2) := by decide +kernel
theorem dX4_tell_9 : decode cX4_tell 9 = .ok (.iload_n 1, 1) := by decide +kernel
theorem dX4_tell_10 : decode cX4_tell 10 = .ok (.imul, 1) := by decide +kernel
theorem dX4_tell_11 : decode cX4_tell 11 = .ok (.iadd, 1) := by decide +kernel
theorem dX4_tell_12 : decode cX4_tell 12 = .ok (.iload_n 2, 1) := by decide +kernel
theorem dX4_tell_13 : decode cX4_tell 13 = .ok (.iadd, 1) := by decide +kernel
theorem dX4_tell_14 : decode cX4_tell 14 = .ok (.iload_n 3, 1) := by decide +kernel
theorem dX4_tell_15 : decode cX4_tell 15 = .ok (.iastore, 1) := by decide +kernel
theorem dX4_tell_16 : decode cX4_tell 16 = .ok (.return_, 1) := by decide +kernel
set_option maxRecDepth 20000 in
theorem ggX4_inState_X4_told : GoodIn wsX4_inState wsX4_told := goodIn_r _ [6, 1, 7, 8, 9, 10, 11, 12, 13, 14, 15, 16, 17] (by decide +kernel) (by decide +kernel)
set_option maxRecDepth 20000 in
theorem gX4_inState_X4_told : GoodIn wsX4_inState (wsV RX4 43 RX4 yX4_told wsX4_told) := goodIn_app (goodIn_of _ (by decide +kernel)) ggX4_inState_X4_told
theorem dX4_inState_0 : decode cX4_inState 0 = .ok (.iconst 0, 1) := by decide +kernel
theorem dX4_inState_1 : decode cX4_inState 1 = .ok (.istore_n 2, 1) := by decide +kernel
theorem dX4_inState_2 : decode cX4_inState 2 = .ok (.iconst 0, 1) := by decide +kernel
theorem dX4_inState_3 : decode cX4_inState 3 = .ok (.istore_n 3, 1) := by decide +kernel
theorem dX4_inState_4 : decode cX4_inState 4 = .ok (.iload_n 3, 1) := by decide +kernel
theorem dX4_inState_5 : decode cX4_inState 5 = .ok (.aload_n 0, 1) := by decide +kernel
theorem dX4_inState_6 : decode cX4_inState 6 = .ok (.getfield 7, 3) := by decide +kernel
theorem dX4_inState_9 : decode cX4_inState 9 = .ok (.iconst 2, 1) := by decide +kernel
theorem dX4_inState_10 : decode cX4_inState 10 = .ok (.iaload, 1) := by decide +kernel
theorem dX4_inState_11 : decode cX4_inState 11 = .ok (.if_icmp .ge 27, 3) := by decide +kernel
theorem dX4_inState_14 : decode cX4_inState 14 = .ok (.iload_n 2, 1) := by decide +kernel
theorem dX4_inState_15 : decode cX4_inState 15 = .ok (.aload_n 0, 1) := by decide +kernel
theorem dX4_inState_16 : decode cX4_inState 16 = .ok (.iload_n 3, 1) := by decide +kernel
theorem dX4_inState_17 : decode cX4_inState 17 = .ok (.iconst 3, 1) := by decide +kernel
theorem dX4_inState_18 : decode cX4_inState 18 = .ok (.invokevirtual 43, 3) := by decide +kernel
theorem dX4_inState_21 : decode cX4_inState 21 = .ok (.iload_n 1, 1) := by decide +kernel
theorem dX4_inState_22 : decode cX4_inState 22 = .ok (.if_icmp .ne 7, 3) := by decide +kernel
theorem dX4_inState_25 : decode cX4_inState 25 = .ok (.iconst 1, 1) := by decide +kernel
theorem dX4_inState_26 : decode cX4_inState 26 = .ok (.goto 4, 3) := by decide +kernel
theorem dX4_inState_29 : decode cX4_inState 29 = .ok (.iconst 0, 1) := by decide +kernel
theorem dX4_inState_30 : decode cX4_inState 30 = .ok (.iadd, 1) := by decide +kernel
theorem dX4_inState_31 : decode cX4_inState 31 = .ok (.istore_n 2, 1) := by decide +kernel
theorem dX4_inState_32 : decode cX4_inState 32 = .ok (.iinc 3 1, 3) := by decide +kernel
theorem dX4_inState_35 : decode cX4_inState 35 = .ok (.goto (-31), 3) := by decide +kernel
theorem dX4_inState_38 : decode cX4_inState 38 = .ok (.iload_n 2, 1) := by decide +kernel
theorem dX4_inState_39 : decode cX4_inState 39 = .ok (.ireturn, 1) := by decide +kernel
set_option maxRecDepth 20000 in
theorem ggX4_takes_X4_inState : GoodIn wsX4_takes wsX4_inState := goodIn_r _ [6, 1, 7, 8, 9, 5, 10, 22, 23, 24, 25, 26, 27, 28, 29, 30, 31, 32] (by decide +kernel) (by decide +kernel)
set_option maxRecDepth 20000 in
theorem gX4_takes_X4_inState : GoodIn wsX4_takes (wsV RX4 47 RX4 yX4_inState wsX4_inState) := goodIn_app (goodIn_of _ (by decide +kernel)) ggX4_takes_X4_inState
set_option maxRecDepth 20000 in
theorem ggX4_takes_X4_saves : GoodIn wsX4_takes wsX4_saves := goodIn_r _ [14, 15, 16, 17, 1, 22, 23, 24, 25, 26, 27, 28, 29, 30, 31, 32] (by decide +kernel) (by decide +kernel)
set_option maxRecDepth 20000 in
theorem gX4_takes_X4_saves : GoodIn wsX4_takes (wsV RX4 51 RX4 yX4_saves wsX4_saves) := goodIn_app (goodIn_of _ (by decide +kernel)) ggX4_takes_X4_saves
set_option maxRecDepth 20000 in
theorem ggX4_takes_X4_tell : GoodIn wsX4_takes wsX4_tell := goodIn_r _ [21, 1, 22, 23, 24, 25, 26, 27, 28, 29, 30, 31, 32] (by decide +kernel) (by decide +kernel)
set_option maxRecDepth 20000 in
theorem gX4_takes_X4_tell : GoodIn wsX4_takes (wsV RX4 54 RX4 yX4_tell wsX4_tell) := goodIn_app (goodIn_of _ (by decide +kernel)) ggX4_takes_X4_tell
theorem dX4_takes_0 : decode cX4_takes 0 = .ok (.aload_n 0, 1) := by decide +kernel
theorem dX4_takes_1 : decode cX4_takes 1 = .ok (.getfield 7, 3) := by decide +kernel
theorem dX4_takes_4 : decode cX4_takes 4 = .ok (.iconst 2, 1) := by decide +kernel
theorem dX4_takes_5 : decode cX4_takes 5 = .ok (.iaload, 1) := by decide +kernel
theorem dX4_takes_6 : decode cX4_takes 6 = .ok (.bipush 60, 2) := by decide +kernel
theorem dX4_takes_8 : decode cX4_takes 8 = .ok (.if_icmp .eq 13, 3) := by decide +kernel
theorem dX4_takes_11 : decode cX4_takes 11 = .ok (.aload_n 0, 1) := by decide +kernel
theorem dX4_takes_12 : decode cX4_takes 12 = .ok (.iconst 0, 1) := by decide +kernel
theorem dX4_takes_13 : decode cX4_takes 13 = .ok (.invokevirtual 47, 3) := by decide +kernel
theorem dX4_takes_16 : decode cX4_takes 16 = .ok (.bipush 20, 2) := by decide +kernel
theorem dX4_takes_18 : decode cX4_takes 18 = .ok (.if_icmp .lt 6, 3) := by decide +kernel
theorem dX4_takes_21 : decode cX4_takes 21 = .ok (.bipush (-3), 2) := by decide +kernel
theorem dX4_takes_23 : decode cX4_takes 23 = .ok (.ireturn, 1) := by decide +kernel
theorem dX4_takes_24 : decode cX4_takes 24 = .ok (.aload_n 0, 1) := by decide +kernel
theorem dX4_takes_25 : decode cX4_takes 25 = .ok (.invokevirtual 51, 3) := by decide +kernel
theorem dX4_takes_28 : decode cX4_takes 28 = .ok (.aload_n 0, 1) := by decide +kernel
theorem dX4_takes_29 : decode cX4_takes 29 = .ok (.getfield 7, 3) := by decide +kernel
theorem dX4_takes_32 : decode cX4_takes 32 = .ok (.iconst 2, 1) := by decide +kernel
theorem dX4_takes_33 : decode cX4_takes 33 = .ok (.iaload, 1) := by decide +kernel
theorem dX4_takes_34 : decode cX4_takes 34 = .ok (.istore 5, 2) := by decide +kernel
theorem dX4_takes_36 : decode cX4_takes 36 = .ok (.aload_n 0, 1) := by decide +kernel
theorem dX4_takes_37 : decode cX4_takes 37 = .ok (.getfield 7, 3) := by decide +kernel
theorem dX4_takes_40 : decode cX4_takes 40 = .ok (.iconst 2, 1) := by decide +kernel
theorem dX4_takes_41 : decode cX4_takes 41 = .ok (.dup2, 1) := by decide +kernel
theorem dX4_takes_42 : decode cX4_takes 42 = .ok (.iaload, 1) := by decide +kernel
theorem dX4_takes_43 : decode cX4_takes 43 = .ok (.iconst 1, 1) := by decide +kernel
theorem dX4_takes_44 : decode cX4_takes 44 = .ok (.iadd, 1) := by decide +kernel
theorem dX4_takes_45 : decode cX4_takes 45 = .ok (.iastore, 1) := by decide +kernel
theorem dX4_takes_46 : decode cX4_takes 46 = .ok (.aload_n 0, 1) := by decide +kernel
theorem dX4_takes_47 : decode cX4_takes 47 = .ok (.iload 5, 2) := by decide +kernel
theorem dX4_takes_49 : decode cX4_takes 49 = .ok (.iconst 0, 1) := by decide +kernel
theorem dX4_takes_50 : decode cX4_takes 50 = .ok (.iload_n 1, 1) := by decide +kernel
theorem dX4_takes_51 : decode cX4_takes 51 = .ok (.invokevirtual 54, 3) := by decide +kernel
theorem dX4_takes_54 : decode cX4_takes 54 = .ok (.aload_n 0, 1) := by decide +kernel
theorem dX4_takes_55 : decode cX4_takes 55 = .ok (.iload 5, 2) := by decide +kernel
theorem dX4_takes_57 : decode cX4_takes 57 = .ok (.iconst 1, 1) := by decide +kernel
theorem dX4_takes_58 : decode cX4_takes 58 = .ok (.iload_n 2, 1) := by decide +kernel
theorem dX4_takes_59 : decode cX4_takes 59 = .ok (.invokevirtual 54, 3) := by decide +kernel
theorem dX4_takes_62 : decode cX4_takes 62 = .ok (.aload_n 0, 1) := by decide +kernel
theorem dX4_takes_63 : decode cX4_takes 63 = .ok (.iload 5, 2) := by decide +kernel
theorem dX4_takes_65 : decode cX4_takes 65 = .ok (.iconst 2, 1) := by decide +kernel
theorem dX4_takes_66 : decode cX4_takes 66 = .ok (.iload_n 3, 1) := by decide +kernel
theorem dX4_takes_67 : decode cX4_takes 67 = .ok (.invokevirtual 54, 3) := by decide +kernel
theorem dX4_takes_70 : decode cX4_takes 70 = .ok (.aload_n 0, 1) := by decide +kernel
theorem dX4_takes_71 : decode cX4_takes 71 = .ok (.iload 5, 2) := by decide +kernel
theorem dX4_takes_73 : decode cX4_takes 73 = .ok (.iconst 3, 1) := by decide +kernel
theorem dX4_takes_74 : decode cX4_takes 74 = .ok (.iconst 0, 1) := by decide +kernel
theorem dX4_takes_75 : decode cX4_takes 75 = .ok (.invokevirtual 54, 3) := by decide +kernel
theorem dX4_takes_78 : decode cX4_takes 78 = .ok (.aload_n 0, 1) := by decide +kernel
theorem dX4_takes_79 : decode cX4_takes 79 = .ok (.iload 5, 2) := by decide +kernel
theorem dX4_takes_81 : decode cX4_takes 81 = .ok (.iconst 4, 1) := by decide +kernel
theorem dX4_takes_82 : decode cX4_takes 82 = .ok (.aload_n 0, 1) := by decide +kernel
theorem dX4_takes_83 : decode cX4_takes 83 = .ok (.getfield 7, 3) := by decide +kernel
theorem dX4_takes_86 : decode cX4_takes 86 = .ok (.iconst 0, 1) := by decide +kernel
theorem dX4_takes_87 : decode cX4_takes 87 = .ok (.iaload, 1) := by decide +kernel
theorem dX4_takes_88 : decode cX4_takes 88 = .ok (.invokevirtual 54, 3) := by decide +kernel
theorem dX4_takes_91 : decode cX4_takes 91 = .ok (.aload_n 0, 1) := by decide +kernel
theorem dX4_takes_92 : decode cX4_takes 92 = .ok (.iload 5, 2) := by decide +kernel
theorem dX4_takes_94 : decode cX4_takes 94 = .ok (.iconst 5, 1) := by decide +kernel
theorem dX4_takes_95 : decode cX4_takes 95 = .ok (.bipush (-9), 2) := by decide +kernel
end
section
theorem dX4_takes_97 : decode cX4_takes 97 = .ok (.invokevirtual 54, 3) := by decide +kernel
theorem dX4_takes_100 : decode cX4_takes 100 = .ok (.aload_n 0, 1) := by decide +kernel
theorem dX4_takes_101 : decode cX4_takes 101 = .ok (.iload 5, 2) := by decide +kernel
theorem dX4_takes_103 : decode cX4_takes 103 = .ok (.bipush 6, 2) := by decide +kernel
theorem dX4_takes_105 : decode cX4_takes 105 = .ok (.bipush (-9), 2) := by decide +kernel
theorem dX4_takes_107 : decode cX4_takes 107 = .ok (.invokevirtual 54, 3) := by decide +kernel
theorem dX4_takes_110 : decode cX4_takes 110 = .ok (.aload_n 0, 1) := by decide +kernel
theorem dX4_takes_111 : decode cX4_takes 111 = .ok (.iload 5, 2) := by decide +kernel
theorem dX4_takes_113 : decode cX4_takes 113 = .ok (.bipush 7, 2) := by decide +kernel
theorem dX4_takes_115 : decode cX4_takes 115 = .ok (.iload_n 1, 1) := by decide +kernel
theorem dX4_takes_116 : decode cX4_takes 116 = .ok (.iconst 1, 1) := by decide +kernel
theorem dX4_takes_117 : decode cX4_takes 117 = .ok (.if_icmp .ne 8, 3) := by decide +kernel
theorem dX4_takes_120 : decode cX4_takes 120 = .ok (.iload 4, 2) := by decide +kernel
theorem dX4_takes_122 : decode cX4_takes 122 = .ok (.goto 5, 3) := by decide +kernel
theorem dX4_takes_125 : decode cX4_takes 125 = .ok (.bipush (-9), 2) := by decide +kernel
theorem dX4_takes_127 : decode cX4_takes 127 = .ok (.invokevirtual 54, 3) := by decide +kernel
theorem dX4_takes_130 : decode cX4_takes 130 = .ok (.iload 5, 2) := by decide +kernel
theorem dX4_takes_132 : decode cX4_takes 132 = .ok (.ireturn, 1) := by decide +kernel
set_option maxRecDepth 20000 in
theorem ggX4_read_X4_isBlock : GoodIn wsX4_read wsX4_isBlock := goodIn_r _ [4, 5, 6, 3, 7] (by decide +kernel) (by decide +kernel)
set_option maxRecDepth 20000 in
theorem gX4_read_X4_isBlock : GoodIn wsX4_read (va_wsS RX4 58 yX4_isBlock wsX4_isBlock) := goodIn_app (goodIn_of _ (by decide +kernel)) ggX4_read_X4_isBlock
set_option maxRecDepth 20000 in
theorem ggX4_read_X4_takes : GoodIn wsX4_read wsX4_takes := goodIn_r _ [11, 12, 13, 14, 15, 3, 16, 17, 18, 19, 20, 21, 22, 23, 24, 25, 26, 27, 28, 29, 30, 31, 32, 33, 34, 35, 36, 37, 38, 39, 40, 41, 42] (by decide +kernel) (by decide +kernel)
set_option maxRecDepth 20000 in
theorem gX4_read_X4_takes : GoodIn wsX4_read (wsV RX4 62 RX4 yX4_takes wsX4_takes) := goodIn_app (goodIn_of _ (by decide +kernel)) ggX4_read_X4_takes
theorem dX4_read_0 : decode cX4_read 0 = .ok (.iload_n 1, 1) := by decide +kernel
theorem dX4_read_1 : decode cX4_read 1 = .ok (.iload_n 2, 1) := by decide +kernel
theorem dX4_read_2 : decode cX4_read 2 = .ok (.invokestatic 58, 3) := by decide +kernel
theorem dX4_read_5 : decode cX4_read 5 = .ok (.ifCond .eq 14, 3) := by decide +kernel
theorem dX4_read_8 : decode cX4_read 8 = .ok (.aload_n 0, 1) := by decide +kernel
theorem dX4_read_9 : decode cX4_read 9 = .ok (.iconst 0, 1) := by decide +kernel
theorem dX4_read_10 : decode cX4_read 10 = .ok (.iload_n 1, 1) := by decide +kernel
theorem dX4_read_11 : decode cX4_read 11 = .ok (.iload_n 2, 1) := by decide +kernel
theorem dX4_read_12 : decode cX4_read 12 = .ok (.iconst 0, 1) := by decide +kernel
theorem dX4_read_13 : decode cX4_read 13 = .ok (.invokevirtual 62, 3) := by decide +kernel
theorem dX4_read_16 : decode cX4_read 16 = .ok (.goto 4, 3) := by decide +kernel
theorem dX4_read_19 : decode cX4_read 19 = .ok (.iconst (-1), 1) := by decide +kernel
theorem dX4_read_20 : decode cX4_read 20 = .ok (.ireturn, 1) := by decide +kernel
set_option maxRecDepth 20000 in
theorem ggX4_write_X4_isBlock : GoodIn wsX4_write wsX4_isBlock := goodIn_r _ [4, 5, 6, 3, 7] (by decide +kernel) (by decide +kernel)
set_option maxRecDepth 20000 in
theorem gX4_write_X4_isBlock : GoodIn wsX4_write (va_wsS RX4 58 yX4_isBlock wsX4_isBlock) := goodIn_app (goodIn_of _ (by decide +kernel)) ggX4_write_X4_isBlock
set_option maxRecDepth 20000 in
theorem ggX4_write_X4_within : GoodIn wsX4_write wsX4_within := goodIn_r _ [7] (by decide +kernel) (by decide +kernel)
set_option maxRecDepth 20000 in
theorem gX4_write_X4_within : GoodIn wsX4_write (va_wsS RX4 39 yX4_within wsX4_within) := goodIn_app (goodIn_of _ (by decide +kernel)) ggX4_write_X4_within
set_option maxRecDepth 20000 in
theorem ggX4_write_X4_takes : GoodIn wsX4_write wsX4_takes := goodIn_r _ [11, 12, 13, 14, 15, 3, 16, 17, 18, 19, 20, 21, 22, 23, 24, 25, 26, 27, 28, 29, 30, 31, 32, 33, 34, 35, 36, 37, 38, 39, 40, 41, 42] (by decide +kernel) (by decide +kernel)
set_option maxRecDepth 20000 in
theorem gX4_write_X4_takes : GoodIn wsX4_write (wsV RX4 62 RX4 yX4_takes wsX4_takes) := goodIn_app (goodIn_of _ (by decide +kernel)) ggX4_write_X4_takes
theorem dX4_write_0 : decode cX4_write 0 = .ok (.iload_n 1, 1) := by decide +kernel
theorem dX4_write_1 : decode cX4_write 1 = .ok (.iload_n 2, 1) := by decide +kernel
theorem dX4_write_2 : decode cX4_write 2 = .ok (.invokestatic 58, 3) := by decide +kernel
theorem dX4_write_5 : decode cX4_write 5 = .ok (.ifCond .eq 25, 3) := by decide +kernel
theorem dX4_write_8 : decode cX4_write 8 = .ok (.iload_n 3, 1) := by decide +kernel
theorem dX4_write_9 : decode cX4_write 9 = .ok (.iconst 0, 1) := by decide +kernel
theorem dX4_write_10 : decode cX4_write 10 = .ok (.sipush 999, 3) := by decide +kernel
theorem dX4_write_13 : decode cX4_write 13 = .ok (.invokestatic 39, 3) := by decide +kernel
theorem dX4_write_16 : decode cX4_write 16 = .ok (.ifCond .eq 14, 3) := by decide +kernel
theorem dX4_write_19 : decode cX4_write 19 = .ok (.aload_n 0, 1) := by decide +kernel
theorem dX4_write_20 : decode cX4_write 20 = .ok (.iconst 1, 1) := by decide +kernel
theorem dX4_write_21 : decode cX4_write 21 = .ok (.iload_n 1, 1) := by decide +kernel
theorem dX4_write_22 : decode cX4_write 22 = .ok (.iload_n 2, 1) := by decide +kernel
theorem dX4_write_23 : decode cX4_write 23 = .ok (.iload_n 3, 1) := by decide +kernel
theorem dX4_write_24 : decode cX4_write 24 = .ok (.invokevirtual 62, 3) := by decide +kernel
theorem dX4_write_27 : decode cX4_write 27 = .ok (.goto 4, 3) := by decide +kernel
theorem dX4_write_30 : decode cX4_write 30 = .ok (.iconst (-1), 1) := by decide +kernel
theorem dX4_write_31 : decode cX4_write 31 = .ok (.ireturn, 1) := by decide +kernel
set_option maxRecDepth 20000 in
theorem ggX4_hasWork_X4_told : GoodIn wsX4_hasWork wsX4_told := goodIn_r _ [6, 1, 11, 12, 13, 14, 15, 16, 17, 18, 19, 20, 21] (by decide +kernel) (by decide +kernel)
set_option maxRecDepth 20000 in
theorem gX4_hasWork_X4_told : GoodIn wsX4_hasWork (wsV RX4 43 RX4 yX4_told wsX4_told) := goodIn_app (goodIn_of _ (by decide +kernel)) ggX4_hasWork_X4_told
set_option maxRecDepth 20000 in
theorem ggX4_hasWork_X4_of : GoodIn wsX4_hasWork wsX4_of := goodIn_r _ [10, 1, 11, 12, 13, 14, 15, 16, 17, 18, 19, 20, 21] (by decide +kernel) (by decide +kernel)
set_option maxRecDepth 20000 in
theorem gX4_hasWork_X4_of : GoodIn wsX4_hasWork (wsV RX4 66 RX4 yX4_of wsX4_of) := goodIn_app (goodIn_of _ (by decide +kernel)) ggX4_hasWork_X4_of
theorem dX4_hasWork_0 : decode cX4_hasWork 0 = .ok (.iconst 0, 1) := by decide +kernel
theorem dX4_hasWork_1 : decode cX4_hasWork 1 = .ok (.istore_n 2, 1) := by decide +kernel
theorem dX4_hasWork_2 : decode cX4_hasWork 2 = .ok (.iconst 0, 1) := by decide +kernel
theorem dX4_hasWork_3 : decode cX4_hasWork 3 = .ok (.istore_n 3, 1) := by decide +kernel
theorem dX4_hasWork_4 : decode cX4_hasWork 4 = .ok (.iload_n 3, 1) := by decide +kernel
theorem dX4_hasWork_5 : decode cX4_hasWork 5 = .ok (.aload_n 0, 1) := by decide +kernel
theorem dX4_hasWork_6 : decode cX4_hasWork 6 = .ok (.getfield 7, 3) := by decide +kernel
theorem dX4_hasWork_9 : decode cX4_hasWork 9 = .ok (.iconst 2, 1) := by decide +kernel
theorem dX4_hasWork_10 : decode cX4_hasWork 10 = .ok (.iaload, 1) := by decide +kernel
theorem dX4_hasWork_11 : decode cX4_hasWork 11 = .ok (.if_icmp .ge 38, 3) := by decide +kernel
theorem dX4_hasWork_14 : decode cX4_hasWork 14 = .ok (.iload_n 2, 1) := by decide +kernel
theorem dX4_hasWork_15 : decode cX4_hasWork 15 = .ok (.ifCond .ne 22, 3) := by decide +kernel
theorem dX4_hasWork_18 : decode cX4_hasWork 18 = .ok (.aload_n 0, 1) := by decide +kernel
theorem dX4_hasWork_19 : decode cX4_hasWork 19 = .ok (.iload_n 3, 1) := by decide +kernel
theorem dX4_hasWork_20 : decode cX4_hasWork 20 = .ok (.iconst 3, 1) := by decide +kernel
theorem dX4_hasWork_21 : decode cX4_hasWork 21 = .ok (.invokevirtual 43, 3) := by decide +kernel
theorem dX4_hasWork_24 : decode cX4_hasWork 24 = .ok (.ifCond .ne 17, 3) := by decide +kernel
theorem dX4_hasWork_27 : decode cX4_hasWork 27 = .ok (.aload_n 0, 1) := by decide +kernel
theorem dX4_hasWork_28 : decode cX4_hasWork 28 = .ok (.iload_n 3, 1) := by decide +kernel
theorem dX4_hasWork_29 : decode cX4_hasWork 29 = .ok (.iconst 1, 1) := by decide +kernel
theorem dX4_hasWork_30 : decode cX4_hasWork 30 = .ok (.invokevirtual 43, 3) := by decide +kernel
theorem dX4_hasWork_33 : decode cX4_hasWork 33 = .ok (.iload_n 1, 1) := by decide +kernel
theorem dX4_hasWork_34 : decode cX4_hasWork 34 = .ok (.if_icmp .ne 7, 3) := by decide +kernel
theorem dX4_hasWork_37 : decode cX4_hasWork 37 = .ok (.iconst 1, 1) := by decide +kernel
theorem dX4_hasWork_38 : decode cX4_hasWork 38 = .ok (.goto 4, 3) := by decide +kernel
theorem dX4_hasWork_41 : decode cX4_hasWork 41 = .ok (.iconst 0, 1) := by decide +kernel
theorem dX4_hasWork_42 : decode cX4_hasWork 42 = .ok (.istore_n 2, 1) := by decide +kernel
theorem dX4_hasWork_43 : decode cX4_hasWork 43 = .ok (.iinc 3 1, 3) := by decide +kernel
theorem dX4_hasWork_46 : decode cX4_hasWork 46 = .ok (.goto (-42), 3) := by decide +kernel
theorem dX4_hasWork_49 : decode cX4_hasWork 49 = .ok (.iconst 0, 1) := by decide +kernel
theorem dX4_hasWork_50 : decode cX4_hasWork 50 = .ok (.istore_n 3, 1) := by decide +kernel
theorem dX4_hasWork_51 : decode cX4_hasWork 51 = .ok (.iload_n 3, 1) := by decide +kernel
theorem dX4_hasWork_52 : decode cX4_hasWork 52 = .ok (.bipush 12, 2) := by decide +kernel
theorem dX4_hasWork_54 : decode cX4_hasWork 54 = .ok (.if_icmp .ge 51, 3) := by decide +kernel
theorem dX4_hasWork_57 : decode cX4_hasWork 57 = .ok (.iload_n 2, 1) := by decide +kernel
theorem dX4_hasWork_58 : decode cX4_hasWork 58 = .ok (.ifCond .ne 35, 3) := by decide +kernel
theorem dX4_hasWork_61 : decode cX4_hasWork 61 = .ok (.aload_n 0, 1) := by decide +kernel
theorem dX4_hasWork_62 : decode cX4_hasWork 62 = .ok (.iconst 0, 1) := by decide +kernel
theorem dX4_hasWork_63 : decode cX4_hasWork 63 = .ok (.bipush 12, 2) := by decide +kernel
theorem dX4_hasWork_65 : decode cX4_hasWork 65 = .ok (.iload_n 1, 1) := by decide +kernel
theorem dX4_hasWork_66 : decode cX4_hasWork 66 = .ok (.imul, 1) := by decide +kernel
theorem dX4_hasWork_67 : decode cX4_hasWork 67 = .ok (.iload_n 3, 1) := by decide +kernel
theorem dX4_hasWork_68 : decode cX4_hasWork 68 = .ok (.iadd, 1) := by decide +kernel
theorem dX4_hasWork_69 : decode cX4_hasWork 69 = .ok (.iconst 3, 1) := by decide +kernel
theorem dX4_hasWork_70 : decode cX4_hasWork 70 = .ok (.invokevirtual 66, 3) := by decide +kernel
theorem dX4_hasWork_73 : decode cX4_hasWork 73 = .ok (.iconst 1, 1) := by decide +kernel
theorem dX4_hasWork_74 : decode cX4_hasWork 74 = .ok (.if_icmp .eq 19, 3) := by decide +kernel
theorem dX4_hasWork_77 : decode cX4_hasWork 77 = .ok (.aload_n 0, 1) := by decide +kernel
theorem dX4_hasWork_78 : decode cX4_hasWork 78 = .ok (.iconst 1, 1) := by decide +kernel
theorem dX4_hasWork_79 : decode cX4_hasWork 79 = .ok (.bipush 12, 2) := by decide +kernel
theorem dX4_hasWork_81 : decode cX4_hasWork 81 = .ok (.iload_n 1, 1) := by decide +kernel
theorem dX4_hasWork_82 : decode cX4_hasWork 82 = .ok (.imul, 1) := by decide +kernel
theorem dX4_hasWork_83 : decode cX4_hasWork 83 = .ok (.iload_n 3, 1) := by decide +kernel
theorem dX4_hasWork_84 : decode cX4_hasWork 84 = .ok (.iadd, 1) := by decide +kernel
theorem dX4_hasWork_85 : decode cX4_hasWork 85 = .ok (.iconst 3, 1) := by decide +kernel
theorem dX4_hasWork_86 : decode cX4_hasWork 86 = .ok (.invokevirtual 66, 3) := by decide +kernel
theorem dX4_hasWork_89 : decode cX4_hasWork 89 = .ok (.iconst 1, 1) := by decide +kernel
theorem dX4_hasWork_90 : decode cX4_hasWork 90 = .ok (.if_icmp .ne 7, 3) := by decide +kernel
theorem dX4_hasWork_93 : decode cX4_hasWork 93 = .ok (.iconst 1, 1) := by decide +kernel
theorem dX4_hasWork_94 : decode cX4_hasWork 94 = .ok (.goto 4, 3) := by decide +kernel
theorem dX4_hasWork_97 : decode cX4_hasWork 97 = .ok (.iconst 0, 1) := by decide +kernel
theorem dX4_hasWork_98 : decode cX4_hasWork 98 = .ok (.istore_n 2, 1) := by decide +kernel
theorem dX4_hasWork_99 : decode cX4_hasWork 99 = .ok (.iinc 3 1, 3) := by decide +kernel
theorem dX4_hasWork_102 : decode cX4_hasWork 102 = .ok (.goto (-51), 3) := by decide +kernel
theorem dX4_hasWork_105 : decode cX4_hasWork 105 = .ok (.iload_n 2, 1) := by decide +kernel
theorem dX4_hasWork_106 : decode cX4_hasWork 106 = .ok (.ireturn, 1) := by decide +kernel
theorem dX4_size_0 : decode cX4_size 0 = .ok (.iload_n 0, 1) := by decide +kernel
theorem dX4_size_1 : decode cX4_size 1 = .ok (.ifCond .ge 8, 3) := by decide +kernel
theorem dX4_size_4 : decode cX4_size 4 = .ok (.iload_n 0, 1) := by decide +kernel
theorem dX4_size_5 : decode cX4_size 5 = .ok (.ineg, 1) := by decide +kernel
theorem dX4_size_6 : decode cX4_size 6 = .ok (.goto 4, 3) := by decide +kernel
theorem dX4_size_9 : decode cX4_size 9 = .ok (.iload_n 0, 1) := by decide +kernel
theorem dX4_size_10 : decode cX4_size 10 = .ok (.ireturn, 1) := by decide +kernel
set_option maxRecDepth 20000 in
theorem ggX4_nearest_X4_size : GoodIn wsX4_nearest wsX4_size := goodIn_r _ [5] (by decide +kernel) (by decide +kernel)
set_option maxRecDepth 20000 in
theorem gX4_nearest_X4_size : GoodIn wsX4_nearest (va_wsS RX4 70 yX4_size wsX4_size) := goodIn_app (goodIn_of _ (by decide +kernel)) ggX4_nearest_X4_size
set_option maxRecDepth 20000 in
theorem ggX4_nearest_X4_hasWork : GoodIn wsX4_nearest wsX4_hasWork := goodIn_r _ [9, 1, 10, 11, 12, 4, 13, 14, 15, 16, 17, 18, 19, 20, 21, 22, 23, 24, 25, 26, 27, 28] (by decide +kernel) (by decide +kernel)
set_option maxRecDepth 20000 in
theorem gX4_nearest_X4_hasWork : GoodIn wsX4_nearest (wsV RX4 73 RX4 yX4_hasWork wsX4_hasWork) := goodIn_app (goodIn_of _ (by decide +kernel)) ggX4_nearest_X4_hasWork
theorem dX4_nearest_0 : decode cX4_nearest 0 = .ok (.bipush (-9), 2) := by decide +kernel
theorem dX4_nearest_2 : decode cX4_nearest 2 = .ok (.istore_n 1, 1) := by decide +kernel
theorem dX4_nearest_3 : decode cX4_nearest 3 = .ok (.iconst 0, 1) := by decide +kernel
theorem dX4_nearest_4 : decode cX4_nearest 4 = .ok (.istore_n 2, 1) := by decide +kernel
theorem dX4_nearest_5 : decode cX4_nearest 5 = .ok (.iload_n 2, 1) := by decide +kernel
theorem dX4_nearest_6 : decode cX4_nearest 6 = .ok (.iconst 4, 1) := by decide +kernel
theorem dX4_nearest_7 : decode cX4_nearest 7 = .ok (.if_icmp .ge 64, 3) := by decide +kernel
theorem dX4_nearest_10 : decode cX4_nearest 10 = .ok (.iload_n 1, 1) := by decide +kernel
theorem dX4_nearest_11 : decode cX4_nearest 11 = .ok (.bipush (-9), 2) := by decide +kernel
theorem dX4_nearest_13 : decode cX4_nearest 13 = .ok (.if_icmp .eq 28, 3) := by decide +kernel
theorem dX4_nearest_16 : decode cX4_nearest 16 = .ok (.iload_n 2, 1) := by decide +kernel
theorem dX4_nearest_17 : decode cX4_nearest 17 = .ok (.aload_n 0, 1) := by decide +kernel
theorem dX4_nearest_18 : decode cX4_nearest 18 = .ok (.getfield 7, 3) := by decide +kernel
theorem dX4_nearest_21 : decode cX4_nearest 21 = .ok (.iconst 1, 1) := by decide +kernel
theorem dX4_nearest_22 : decode cX4_nearest 22 = .ok (.iaload, 1) := by decide +kernel
theorem dX4_nearest_23 : decode cX4_nearest 23 = .ok (.isub, 1) := by decide +kernel
theorem dX4_nearest_24 : decode cX4_nearest 24 = .ok (.invokestatic 70, 3) := by decide +kernel
theorem dX4_nearest_27 : decode cX4_nearest 27 = .ok (.iload_n 1, 1) := by decide +kernel
theorem dX4_nearest_28 : decode cX4_nearest 28 = .ok (.aload_n 0, 1) := by decide +kernel
theorem dX4_nearest_29 : decode cX4_nearest 29 = .ok (.getfield 7, 3) := by decide +kernel
theorem dX4_nearest_32 : decode cX4_nearest 32 = .ok (.iconst 1, 1) := by decide +kernel
theorem dX4_nearest_33 : decode cX4_nearest 33 = .ok (.iaload, 1) := by decide +kernel
theorem dX4_nearest_34 : decode cX4_nearest 34 = .ok (.isub, 1) := by decide +kernel
theorem dX4_nearest_35 : decode cX4_nearest 35 = .ok (.invokestatic 70, 3) := by decide +kernel
theorem dX4_nearest_38 : decode cX4_nearest 38 = .ok (.if_icmp .ge 7, 3) := by decide +kernel
theorem dX4_nearest_41 : decode cX4_nearest 41 = .ok (.iconst 1, 1) := by decide +kernel
theorem dX4_nearest_42 : decode cX4_nearest 42 = .ok (.goto 4, 3) := by decide +kernel
theorem dX4_nearest_45 : decode cX4_nearest 45 = .ok (.iconst 0, 1) := by decide +kernel
theorem dX4_nearest_46 : decode cX4_nearest 46 = .ok (.istore_n 3, 1) := by decide +kernel
theorem dX4_nearest_47 : decode cX4_nearest 47 = .ok (.aload_n 0, 1) := by decide +kernel
theorem dX4_nearest_48 : decode cX4_nearest 48 = .ok (.iload_n 2, 1) := by decide +kernel
theorem dX4_nearest_49 : decode cX4_nearest 49 = .ok (.invokevirtual 73, 3) := by decide +kernel
theorem dX4_nearest_52 : decode cX4_nearest 52 = .ok (.ifCond .eq 11, 3) := by decide +kernel
theorem dX4_nearest_55 : decode cX4_nearest 55 = .ok (.iload_n 3, 1) := by decide +kernel
theorem dX4_nearest_56 : decode cX4_nearest 56 = .ok (.ifCond .eq 7, 3) := by decide +kernel
theorem dX4_nearest_59 : decode cX4_nearest 59 = .ok (.iload_n 2, 1) := by decide +kernel
theorem dX4_nearest_60 : decode cX4_nearest 60 = .ok (.goto 4, 3) := by decide +kernel
theorem dX4_nearest_63 : decode cX4_nearest 63 = .ok (.iload_n 1, 1) := by decide +kernel
theorem dX4_nearest_64 : decode cX4_nearest 64 = .ok (.istore_n 1, 1) := by decide +kernel
theorem dX4_nearest_65 : decode cX4_nearest 65 = .ok (.iinc 2 1, 3) := by decide +kernel
theorem dX4_nearest_68 : decode cX4_nearest 68 = .ok (.goto (-63), 3) := by decide +kernel
theorem dX4_nearest_71 : decode cX4_nearest 71 = .ok (.iload_n 1, 1) := by decide +kernel
theorem dX4_nearest_72 : decode cX4_nearest 72 = .ok (.ireturn, 1) := by decide +kernel
set_option maxRecDepth 20000 in
theorem ggX4_firstFor_X4_told : GoodIn wsX4_firstFor wsX4_told := goodIn_r _ [6, 1, 7, 8, 9, 10, 11, 12, 13, 14, 15, 16, 17] (by decide +kernel) (by decide +kernel)
set_option maxRecDepth 20000 in
theorem gX4_firstFor_X4_told : GoodIn wsX4_firstFor (wsV RX4 43 RX4 yX4_told wsX4_told) := goodIn_app (goodIn_of _ (by decide +kernel)) ggX4_firstFor_X4_told
theorem dX4_firstFor_0 : decode cX4_firstFor 0 = .ok (.iconst 0, 1) := by decide +kernel
theorem dX4_firstFor_1 : decode cX4_firstFor 1 = .ok (.istore_n 3, 1) := by decide +kernel
theorem dX4_firstFor_2 : decode cX4_firstFor 2 = .ok (.iload_n 3, 1) := by decide +kernel
theorem dX4_firstFor_3 : decode cX4_firstFor 3 = .ok (.aload_n 0, 1) := by decide +kernel
theorem dX4_firstFor_4 : decode cX4_firstFor 4 = .ok (.getfield 7, 3) := by decide +kernel
theorem dX4_firstFor_7 : decode cX4_firstFor 7 = .ok (.iconst 2, 1) := by decide +kernel
theorem dX4_firstFor_8 : decode cX4_firstFor 8 = .ok (.iaload, 1) := by decide +kernel
theorem dX4_firstFor_9 : decode cX4_firstFor 9 = .ok (.if_icmp .ge 50, 3) := by decide +kernel
theorem dX4_firstFor_12 : decode cX4_firstFor 12 = .ok (.aload_n 0, 1) := by decide +kernel
theorem dX4_firstFor_13 : decode cX4_firstFor 13 = .ok (.iload_n 3, 1) := by decide +kernel
theorem dX4_firstFor_14 : decode cX4_firstFor 14 = .ok (.iconst 3, 1) := by decide +kernel
theorem dX4_firstFor_15 : decode cX4_firstFor 15 = .ok (.invokevirtual 43, 3) := by decide +kernel
theorem dX4_firstFor_18 : decode cX4_firstFor 18 = .ok (.ifCond .ne 35, 3) := by decide +kernel
theorem dX4_firstFor_21 : decode cX4_firstFor 21 = .ok (.aload_n 0, 1) := by decide +kernel
theorem dX4_firstFor_22 : decode cX4_firstFor 22 = .ok (.iload_n 3, 1) := by decide +kernel
theorem dX4_firstFor_23 : decode cX4_firstFor 23 = .ok (.iconst 0, 1) := by decide +kernel
theorem dX4_firstFor_24 : decode cX4_firstFor 24 = .ok (.invokevirtual 43, 3) := by decide +kernel
theorem dX4_firstFor_27 : decode cX4_firstFor 27 = .ok (.iload_n 1, 1) := by decide +kernel
theorem dX4_firstFor_28 : decode cX4_firstFor 28 = .ok (.if_icmp .ne 25, 3) := by decide +kernel
theorem dX4_firstFor_31 : decode cX4_firstFor 31 = .ok (.bipush 12, 2) := by decide +kernel
theorem dX4_firstFor_33 : decode cX4_firstFor 33 = .ok (.aload_n 0, 1) := by decide +kernel
theorem dX4_firstFor_34 : decode cX4_firstFor 34 = .ok (.iload_n 3, 1) := by decide +kernel
theorem dX4_firstFor_35 : decode cX4_firstFor 35 = .ok (.iconst 1, 1) := by decide +kernel
theorem dX4_firstFor_36 : decode cX4_firstFor 36 = .ok (.invokevirtual 43, 3) := by decide +kernel
theorem dX4_firstFor_39 : decode cX4_firstFor 39 = .ok (.imul, 1) := by decide +kernel
theorem dX4_firstFor_40 : decode cX4_firstFor 40 = .ok (.aload_n 0, 1) := by decide +kernel
theorem dX4_firstFor_41 : decode cX4_firstFor 41 = .ok (.iload_n 3, 1) := by decide +kernel
theorem dX4_firstFor_42 : decode cX4_firstFor 42 = .ok (.iconst 2, 1) := by decide +kernel
theorem dX4_firstFor_43 : decode cX4_firstFor 43 = .ok (.invokevirtual 43, 3) := by decide +kernel
theorem dX4_firstFor_46 : decode cX4_firstFor 46 = .ok (.iadd, 1) := by decide +kernel
theorem dX4_firstFor_47 : decode cX4_firstFor 47 = .ok (.iload_n 2, 1) := by decide +kernel
theorem dX4_firstFor_48 : decode cX4_firstFor 48 = .ok (.if_icmp .ne 5, 3) := by decide +kernel
theorem dX4_firstFor_51 : decode cX4_firstFor 51 = .ok (.iload_n 3, 1) := by decide +kernel
theorem dX4_firstFor_52 : decode cX4_firstFor 52 = .ok (.ireturn, 1) := by decide +kernel
theorem dX4_firstFor_53 : decode cX4_firstFor 53 = .ok (.iinc 3 1, 3) := by decide +kernel
theorem dX4_firstFor_56 : decode cX4_firstFor 56 = .ok (.goto (-54), 3) := by decide +kernel
theorem dX4_firstFor_59 : decode cX4_firstFor 59 = .ok (.bipush (-9), 2) := by decide +kernel
theorem dX4_firstFor_61 : decode cX4_firstFor 61 = .ok (.ireturn, 1) := by decide +kernel
set_option maxRecDepth 20000 in
theorem ggX4_ends_X4_tell : GoodIn wsX4_ends wsX4_tell := goodIn_r _ [6, 1, 7, 8, 9, 10, 11, 12, 13, 14, 15, 16, 17] (by decide +kernel) (by decide +kernel)
set_option maxRecDepth 20000 in
theorem gX4_ends_X4_tell : GoodIn wsX4_ends (wsV RX4 54 RX4 yX4_tell wsX4_tell) := goodIn_app (goodIn_of _ (by decide +kernel)) ggX4_ends_X4_tell
theorem dX4_ends_0 : decode cX4_ends 0 = .ok (.aload_n 0, 1) := by decide +kernel
theorem dX4_ends_1 : decode cX4_ends 1 = .ok (.iload_n 1, 1) := by decide +kernel
theorem dX4_ends_2 : decode cX4_ends 2 = .ok (.iconst 3, 1) := by decide +kernel
theorem dX4_ends_3 : decode cX4_ends 3 = .ok (.iconst 1, 1) := by decide +kernel
theorem dX4_ends_4 : decode cX4_ends 4 = .ok (.invokevirtual 54, 3) := by decide +kernel
theorem dX4_ends_7 : decode cX4_ends 7 = .ok (.aload_n 0, 1) := by decide +kernel
theorem dX4_ends_8 : decode cX4_ends 8 = .ok (.iload_n 1, 1) := by decide +kernel
theorem dX4_ends_9 : decode cX4_ends 9 = .ok (.iconst 5, 1) := by decide +kernel
theorem dX4_ends_10 : decode cX4_ends 10 = .ok (.aload_n 0, 1) := by decide +kernel
theorem dX4_ends_11 : decode cX4_ends 11 = .ok (.getfield 7, 3) := by decide +kernel
theorem dX4_ends_14 : decode cX4_ends 14 = .ok (.iconst 0, 1) := by decide +kernel
theorem dX4_ends_15 : decode cX4_ends 15 = .ok (.iaload, 1) := by decide +kernel
theorem dX4_ends_16 : decode cX4_ends 16 = .ok (.invokevirtual 54, 3) := by decide +kernel
theorem dX4_ends_19 : decode cX4_ends 19 = .ok (.aload_n 0, 1) := by decide +kernel
theorem dX4_ends_20 : decode cX4_ends 20 = .ok (.iload_n 1, 1) := by decide +kernel
theorem dX4_ends_21 : decode cX4_ends 21 = .ok (.bipush 6, 2) := by decide +kernel
theorem dX4_ends_23 : decode cX4_ends 23 = .ok (.iload_n 2, 1) := by decide +kernel
theorem dX4_ends_24 : decode cX4_ends 24 = .ok (.invokevirtual 54, 3) := by decide +kernel
theorem dX4_ends_27 : decode cX4_ends 27 = .ok (.return_, 1) := by decide +kernel
set_option maxRecDepth 20000 in
theorem ggX4_writes_X4_put : GoodIn wsX4_writes wsX4_put := goodIn_r _ [6, 1, 7, 8, 9, 10, 11, 12, 13, 14, 15, 16, 17] (by decide +kernel) (by decide +kernel)
set_option maxRecDepth 20000 in
theorem gX4_writes_X4_put : GoodIn wsX4_writes (wsV RX4 77 RX4 yX4_put wsX4_put) := goodIn_app (goodIn_of _ (by decide +kernel)) ggX4_writes_X4_put
theorem dX4_writes_0 : decode cX4_writes 0 = .ok (.aload_n 0, 1) := by decide +kernel
theorem dX4_writes_1 : decode cX4_writes 1 = .ok (.iload_n 1, 1) := by decide +kernel
theorem dX4_writes_2 : decode cX4_writes 2 = .ok (.iload_n 2, 1) := by decide +kernel
theorem dX4_writes_3 : decode cX4_writes 3 = .ok (.iconst 0, 1) := by decide +kernel
theorem dX4_writes_4 : decode cX4_writes 4 = .ok (.iload_n 3, 1) := by decide +kernel
theorem dX4_writes_5 : decode cX4_writes 5 = .ok (.invokevirtual 77, 3) := by decide +kernel
theorem dX4_writes_8 : decode cX4_writes 8 = .ok (.aload_n 0, 1) := by decide +kernel
theorem dX4_writes_9 : decode cX4_writes 9 = .ok (.iload_n 1, 1) := by decide +kernel
theorem dX4_writes_10 : decode cX4_writes 10 = .ok (.iload_n 2, 1) := by decide +kernel
theorem dX4_writes_11 : decode cX4_writes 11 = .ok (.iconst 1, 1) := by decide +kernel
theorem dX4_writes_12 : decode cX4_writes 12 = .ok (.iload 4, 2) := by decide +kernel
theorem dX4_writes_14 : decode cX4_writes 14 = .ok (.invokevirtual 77, 3) := by decide +kernel
theorem dX4_writes_17 : decode cX4_writes 17 = .ok (.aload_n 0, 1) := by decide +kernel
theorem dX4_writes_18 : decode cX4_writes 18 = .ok (.iload_n 1, 1) := by decide +kernel
theorem dX4_writes_19 : decode cX4_writes 19 = .ok (.iload_n 2, 1) := by decide +kernel
theorem dX4_writes_20 : decode cX4_writes 20 = .ok (.iconst 2, 1) := by decide +kernel
theorem dX4_writes_21 : decode cX4_writes 21 = .ok (.iconst 0, 1) := by decide +kernel
theorem dX4_writes_22 : decode cX4_writes 22 = .ok (.invokevirtual 77, 3) := by decide +kernel
theorem dX4_writes_25 : decode cX4_writes 25 = .ok (.aload_n 0, 1) := by decide +kernel
theorem dX4_writes_26 : decode cX4_writes 26 = .ok (.iload_n 1, 1) := by decide +kernel
theorem dX4_writes_27 : decode cX4_writes 27 = .ok (.iload_n 2, 1) := by decide +kernel
theorem dX4_writes_28 : decode cX4_writes 28 = .ok (.iconst 3, 1) := by decide +kernel
theorem dX4_writes_29 : decode cX4_writes 29 = .ok (.iconst 0, 1) := by decide +kernel
theorem dX4_writes_30 : decode cX4_writes 30 = .ok (.invokevirtual 77, 3) := by decide +kernel
theorem dX4_writes_33 : decode cX4_writes 33 = .ok (.aload_n 0, 1) := by decide +kernel
theorem dX4_writes_34 : decode cX4_writes 34 = .ok (.iload_n 1, 1) := by decide +kernel
theorem dX4_writes_35 : decode cX4_writes 35 = .ok (.iload_n 2, 1) := by decide +kernel
theorem dX4_writes_36 : decode cX4_writes 36 = .ok (.iconst 4, 1) := by decide +kernel
theorem dX4_writes_37 : decode cX4_writes 37 = .ok (.aload_n 0, 1) := by decide +kernel
theorem dX4_writes_38 : decode cX4_writes 38 = .ok (.getfield 7, 3) := by decide +kernel
theorem dX4_writes_41 : decode cX4_writes 41 = .ok (.iconst 0, 1) := by decide +kernel
theorem dX4_writes_42 : decode cX4_writes 42 = .ok (.iaload, 1) := by decide +kernel
theorem dX4_writes_43 : decode cX4_writes 43 = .ok (.invokevirtual 77, 3) := by decide +kernel
theorem dX4_writes_46 : decode cX4_writes 46 = .ok (.return_, 1) := by decide +kernel
theorem dX4_sectorUnder_0 : decode cX4_sectorUnder 0 = .ok (.aload_n 0, 1) := by decide +kernel
theorem dX4_sectorUnder_1 : decode cX4_sectorUnder 1 = .ok (.getfield 7, 3) := by decide +kernel
theorem dX4_sectorUnder_4 : decode cX4_sectorUnder 4 = .ok (.iconst 0, 1) := by decide +kernel
theorem dX4_sectorUnder_5 : decode cX4_sectorUnder 5 = .ok (.iaload, 1) := by decide +kernel
theorem dX4_sectorUnder_6 : decode cX4_sectorUnder 6 = .ok (.bipush 6, 2) := by decide +kernel
theorem dX4_sectorUnder_8 : decode cX4_sectorUnder 8 = .ok (.iload_n 1, 1) := by decide +kernel
theorem dX4_sectorUnder_9 : decode cX4_sectorUnder 9 = .ok (.imul, 1) := by decide +kernel
theorem dX4_sectorUnder_10 : decode cX4_sectorUnder 10 = .ok (.iadd, 1) := by decide +kernel
theorem dX4_sectorUnder_11 : decode cX4_sectorUnder 11 = .ok (.bipush 12, 2) := by decide +kernel
theorem dX4_sectorUnder_13 : decode cX4_sectorUnder 13 = .ok (.irem, 1) := by decide +kernel
theorem dX4_sectorUnder_14 : decode cX4_sectorUnder 14 = .ok (.ireturn, 1) := by decide +kernel
theorem dX4_most_0 : decode cX4_most 0 = .ok (.iload_n 0, 1) := by decide +kernel
theorem dX4_most_1 : decode cX4_most 1 = .ok (.iload_n 1, 1) := by decide +kernel
theorem dX4_most_2 : decode cX4_most 2 = .ok (.if_icmp .le 7, 3) := by decide +kernel
theorem dX4_most_5 : decode cX4_most 5 = .ok (.iload_n 0, 1) := by decide +kernel
theorem dX4_most_6 : decode cX4_most 6 = .ok (.goto 4, 3) := by decide +kernel
theorem dX4_most_9 : decode cX4_most 9 = .ok (.iload_n 1, 1) := by decide +kernel
theorem dX4_most_10 : decode cX4_most 10 = .ok (.ireturn, 1) := by decide +kernel
set_option maxRecDepth 20000 in
theorem ggX4_heads_X4_sectorUnder : GoodIn wsX4_heads wsX4_sectorUnder := goodIn_r _ [6, 1, 38, 39, 40, 41, 42, 43, 44, 45, 46, 47, 48] (by decide +kernel) (by decide +kernel)
set_option maxRecDepth 20000 in
theorem gX4_heads_X4_sectorUnder : GoodIn wsX4_heads (wsV RX4 81 RX4 yX4_sectorUnder wsX4_sectorUnder) := goodIn_app (goodIn_of _ (by decide +kernel)) ggX4_heads_X4_sectorUnder
set_option maxRecDepth 20000 in
theorem ggX4_heads_X4_firstFor : GoodIn wsX4_heads wsX4_firstFor := goodIn_r _ [10, 1, 11, 12, 13, 5, 14, 38, 39, 40, 41, 42, 43, 44, 45, 46, 47, 48] (by decide +kernel) (by decide +kernel)
set_option maxRecDepth 20000 in
theorem gX4_heads_X4_firstFor : GoodIn wsX4_heads (wsV RX4 84 RX4 yX4_firstFor wsX4_firstFor) := goodIn_app (goodIn_of _ (by decide +kernel)) ggX4_heads_X4_firstFor
set_option maxRecDepth 20000 in
theorem ggX4_heads_X4_of : GoodIn wsX4_heads wsX4_of := goodIn_r _ [18, 1, 38, 39, 40, 41, 42, 43, 44, 45, 46, 47, 48] (by decide +kernel) (by decide +kernel)
set_option maxRecDepth 20000 in
theorem gX4_heads_X4_of : GoodIn wsX4_heads (wsV RX4 66 RX4 yX4_of wsX4_of) := goodIn_app (goodIn_of _ (by decide +kernel)) ggX4_heads_X4_of
set_option maxRecDepth 20000 in
theorem ggX4_heads_X4_writes : GoodIn wsX4_heads wsX4_writes := goodIn_r _ [22, 1, 23, 24, 25, 5, 26, 38, 39, 40, 41, 42, 43, 44, 45, 46, 47, 48] (by decide +kernel) (by decide +kernel)
set_option maxRecDepth 20000 in
theorem gX4_heads_X4_writes : GoodIn wsX4_heads (wsV RX4 87 RX4 yX4_writes wsX4_writes) := goodIn_app (goodIn_of _ (by decide +kernel)) ggX4_heads_X4_writes
set_option maxRecDepth 20000 in
theorem ggX4_heads_X4_told : GoodIn wsX4_heads wsX4_told := goodIn_r _ [14, 1, 38, 39, 40, 41, 42, 43, 44, 45, 46, 47, 48] (by decide +kernel) (by decide +kernel)
set_option maxRecDepth 20000 in
theorem gX4_heads_X4_told : GoodIn wsX4_heads (wsV RX4 43 RX4 yX4_told wsX4_told) := goodIn_app (goodIn_of _ (by decide +kernel)) ggX4_heads_X4_told
set_option maxRecDepth 20000 in
theorem ggX4_heads_X4_most : GoodIn wsX4_heads wsX4_most := goodIn_r _ [29] (by decide +kernel) (by decide +kernel)
set_option maxRecDepth 20000 in
theorem gX4_heads_X4_most : GoodIn wsX4_heads (va_wsS RX4 90 yX4_most wsX4_most) := goodIn_app (goodIn_of _ (by decide +kernel)) ggX4_heads_X4_most
set_option maxRecDepth 20000 in
theorem ggX4_heads_X4_put : GoodIn wsX4_heads wsX4_put := goodIn_r _ [26, 1, 38, 39, 40, 41, 42, 43, 44, 45, 46, 47, 48] (by decide +kernel) (by decide +kernel)
set_option maxRecDepth 20000 in
theorem gX4_heads_X4_put : GoodIn wsX4_heads (wsV RX4 77 RX4 yX4_put wsX4_put) := goodIn_app (goodIn_of _ (by decide +kernel)) ggX4_heads_X4_put
set_option maxRecDepth 20000 in
theorem ggX4_heads_X4_ends : GoodIn wsX4_heads wsX4_ends := goodIn_r _ [33, 1, 34, 35, 36, 5, 37, 38, 39, 40, 41, 42, 43, 44, 45, 46, 47, 48] (by decide +kernel) (by decide +kernel)
set_option maxRecDepth 20000 in
theorem gX4_heads_X4_ends : GoodIn wsX4_heads (wsV RX4 93 RX4 yX4_ends wsX4_ends) := goodIn_app (goodIn_of _ (by decide +kernel)) ggX4_heads_X4_ends
set_option maxRecDepth 20000 in
theorem ggX4_heads_X4_tell : GoodIn wsX4_heads wsX4_tell := goodIn_r _ [37, 1, 38, 39, 40, 41, 42, 43, 44, 45, 46, 47, 48] (by decide +kernel) (by decide +kernel)
set_option maxRecDepth 20000 in
theorem gX4_heads_X4_tell : GoodIn wsX4_heads (wsV RX4 54 RX4 yX4_tell wsX4_tell) := goodIn_app (goodIn_of _ (by decide +kernel)) ggX4_heads_X4_tell
theorem dX4_heads_0 : decode cX4_heads 0 = .ok (.bipush 12, 2) := by decide +kernel
theorem dX4_heads_2 : decode cX4_heads 2 = .ok (.aload_n 0, 1) := by decide +kernel
theorem dX4_heads_3 : decode cX4_heads 3 = .ok (.getfield 7, 3) := by decide +kernel
theorem dX4_heads_6 : decode cX4_heads 6 = .ok (.iconst 1, 1) := by decide +kernel
theorem dX4_heads_7 : decode cX4_heads 7 = .ok (.iaload, 1) := by decide +kernel
theorem dX4_heads_8 : decode cX4_heads 8 = .ok (.imul, 1) := by decide +kernel
theorem dX4_heads_9 : decode cX4_heads 9 = .ok (.aload_n 0, 1) := by decide +kernel
theorem dX4_heads_10 : decode cX4_heads 10 = .ok (.iload_n 1, 1) := by decide +kernel
theorem dX4_heads_11 : decode cX4_heads 11 = .ok (.invokevirtual 81, 3) := by decide +kernel
theorem dX4_heads_14 : decode cX4_heads 14 = .ok (.iadd, 1) := by decide +kernel
theorem dX4_heads_15 : decode cX4_heads 15 = .ok (.istore_n 2, 1) := by decide +kernel
theorem dX4_heads_16 : decode cX4_heads 16 = .ok (.iconst 1, 1) := by decide +kernel
theorem dX4_heads_17 : decode cX4_heads 17 = .ok (.iload_n 1, 1) := by decide +kernel
theorem dX4_heads_18 : decode cX4_heads 18 = .ok (.isub, 1) := by decide +kernel
theorem dX4_heads_19 : decode cX4_heads 19 = .ok (.istore_n 3, 1) := by decide +kernel
theorem dX4_heads_20 : decode cX4_heads 20 = .ok (.aload_n 0, 1) := by decide +kernel
theorem dX4_heads_21 : decode cX4_heads 21 = .ok (.iconst 1, 1) := by decide +kernel
theorem dX4_heads_22 : decode cX4_heads 22 = .ok (.iload_n 2, 1) := by decide +kernel
theorem dX4_heads_23 : decode cX4_heads 23 = .ok (.invokevirtual 84, 3) := by decide +kernel
theorem dX4_heads_26 : decode cX4_heads 26 = .ok (.istore 4, 2) := by decide +kernel
theorem dX4_heads_28 : decode cX4_heads 28 = .ok (.aload_n 0, 1) := by decide +kernel
theorem dX4_heads_29 : decode cX4_heads 29 = .ok (.iconst 0, 1) := by decide +kernel
theorem dX4_heads_30 : decode cX4_heads 30 = .ok (.iload_n 2, 1) := by decide +kernel
theorem dX4_heads_31 : decode cX4_heads 31 = .ok (.invokevirtual 84, 3) := by decide +kernel
theorem dX4_heads_34 : decode cX4_heads 34 = .ok (.istore 5, 2) := by decide +kernel
theorem dX4_heads_36 : decode cX4_heads 36 = .ok (.aload_n 0, 1) := by decide +kernel
theorem dX4_heads_37 : decode cX4_heads 37 = .ok (.iload_n 1, 1) := by decide +kernel
theorem dX4_heads_38 : decode cX4_heads 38 = .ok (.iload_n 2, 1) := by decide +kernel
theorem dX4_heads_39 : decode cX4_heads 39 = .ok (.iconst 3, 1) := by decide +kernel
theorem dX4_heads_40 : decode cX4_heads 40 = .ok (.invokevirtual 66, 3) := by decide +kernel
theorem dX4_heads_43 : decode cX4_heads 43 = .ok (.iconst 1, 1) := by decide +kernel
theorem dX4_heads_44 : decode cX4_heads 44 = .ok (.if_icmp .ne 36, 3) := by decide +kernel
theorem dX4_heads_47 : decode cX4_heads 47 = .ok (.aload_n 0, 1) := by decide +kernel
theorem dX4_heads_48 : decode cX4_heads 48 = .ok (.iload_n 3, 1) := by decide +kernel
theorem dX4_heads_49 : decode cX4_heads 49 = .ok (.iload_n 2, 1) := by decide +kernel
theorem dX4_heads_50 : decode cX4_heads 50 = .ok (.iconst 2, 1) := by decide +kernel
theorem dX4_heads_51 : decode cX4_heads 51 = .ok (.invokevirtual 66, 3) := by decide +kernel
theorem dX4_heads_54 : decode cX4_heads 54 = .ok (.ifCond .ne 26, 3) := by decide +kernel
theorem dX4_heads_57 : decode cX4_heads 57 = .ok (.aload_n 0, 1) := by decide +kernel
theorem dX4_heads_58 : decode cX4_heads 58 = .ok (.iload_n 1, 1) := by decide +kernel
theorem dX4_heads_59 : decode cX4_heads 59 = .ok (.iload_n 2, 1) := by decide +kernel
theorem dX4_heads_60 : decode cX4_heads 60 = .ok (.aload_n 0, 1) := by decide +kernel
theorem dX4_heads_61 : decode cX4_heads 61 = .ok (.iload_n 3, 1) := by decide +kernel
theorem dX4_heads_62 : decode cX4_heads 62 = .ok (.iload_n 2, 1) := by decide +kernel
theorem dX4_heads_63 : decode cX4_heads 63 = .ok (.iconst 0, 1) := by decide +kernel
theorem dX4_heads_64 : decode cX4_heads 64 = .ok (.invokevirtual 66, 3) := by decide +kernel
theorem dX4_heads_67 : decode cX4_heads 67 = .ok (.aload_n 0, 1) := by decide +kernel
theorem dX4_heads_68 : decode cX4_heads 68 = .ok (.iload_n 3, 1) := by decide +kernel
theorem dX4_heads_69 : decode cX4_heads 69 = .ok (.iload_n 2, 1) := by decide +kernel
theorem dX4_heads_70 : decode cX4_heads 70 = .ok (.iconst 1, 1) := by decide +kernel
theorem dX4_heads_71 : decode cX4_heads 71 = .ok (.invokevirtual 66, 3) := by decide +kernel
theorem dX4_heads_74 : decode cX4_heads 74 = .ok (.invokevirtual 87, 3) := by decide +kernel
theorem dX4_heads_77 : decode cX4_heads 77 = .ok (.goto 110, 3) := by decide +kernel
theorem dX4_heads_80 : decode cX4_heads 80 = .ok (.iload 4, 2) := by decide +kernel
theorem dX4_heads_82 : decode cX4_heads 82 = .ok (.bipush (-9), 2) := by decide +kernel
theorem dX4_heads_84 : decode cX4_heads 84 = .ok (.if_icmp .eq 54, 3) := by decide +kernel
theorem dX4_heads_87 : decode cX4_heads 87 = .ok (.aload_n 0, 1) := by decide +kernel
theorem dX4_heads_88 : decode cX4_heads 88 = .ok (.iload_n 1, 1) := by decide +kernel
theorem dX4_heads_89 : decode cX4_heads 89 = .ok (.iload_n 2, 1) := by decide +kernel
theorem dX4_heads_90 : decode cX4_heads 90 = .ok (.aload_n 0, 1) := by decide +kernel
theorem dX4_heads_91 : decode cX4_heads 91 = .ok (.iload 4, 2) := by decide +kernel
theorem dX4_heads_93 : decode cX4_heads 93 = .ok (.bipush 7, 2) := by decide +kernel
theorem dX4_heads_95 : decode cX4_heads 95 = .ok (.invokevirtual 43, 3) := by decide +kernel
theorem dX4_heads_98 : decode cX4_heads 98 = .ok (.aload_n 0, 1) := by decide +kernel
theorem dX4_heads_99 : decode cX4_heads 99 = .ok (.iconst 0, 1) := by decide +kernel
theorem dX4_heads_100 : decode cX4_heads 100 = .ok (.iload_n 2, 1) := by decide +kernel
theorem dX4_heads_101 : decode cX4_heads 101 = .ok (.iconst 1, 1) := by decide +kernel
theorem dX4_heads_102 : decode cX4_heads 102 = .ok (.invokevirtual 66, 3) := by decide +kernel
theorem dX4_heads_105 : decode cX4_heads 105 = .ok (.aload_n 0, 1) := by decide +kernel
theorem dX4_heads_106 : decode cX4_heads 106 = .ok (.iconst 1, 1) := by decide +kernel
theorem dX4_heads_107 : decode cX4_heads 107 = .ok (.iload_n 2, 1) := by decide +kernel
theorem dX4_heads_108 : decode cX4_heads 108 = .ok (.iconst 1, 1) := by decide +kernel
theorem dX4_heads_109 : decode cX4_heads 109 = .ok (.invokevirtual 66, 3) := by decide +kernel
theorem dX4_heads_112 : decode cX4_heads 112 = .ok (.invokestatic 90, 3) := by decide +kernel
theorem dX4_heads_115 : decode cX4_heads 115 = .ok (.iconst 1, 1) := by decide +kernel
theorem dX4_heads_116 : decode cX4_heads 116 = .ok (.iadd, 1) := by decide +kernel
theorem dX4_heads_117 : decode cX4_heads 117 = .ok (.invokevirtual 87, 3) := by decide +kernel
theorem dX4_heads_120 : decode cX4_heads 120 = .ok (.aload_n 0, 1) := by decide +kernel
theorem dX4_heads_121 : decode cX4_heads 121 = .ok (.iload_n 3, 1) := by decide +kernel
theorem dX4_heads_122 : decode cX4_heads 122 = .ok (.iload_n 2, 1) := by decide +kernel
theorem dX4_heads_123 : decode cX4_heads 123 = .ok (.iconst 3, 1) := by decide +kernel
theorem dX4_heads_124 : decode cX4_heads 124 = .ok (.iconst 1, 1) := by decide +kernel
theorem dX4_heads_125 : decode cX4_heads 125 = .ok (.invokevirtual 77, 3) := by decide +kernel
theorem dX4_heads_128 : decode cX4_heads 128 = .ok (.aload_n 0, 1) := by decide +kernel
theorem dX4_heads_129 : decode cX4_heads 129 = .ok (.iload 4, 2) := by decide +kernel
theorem dX4_heads_131 : decode cX4_heads 131 = .ok (.iload_n 1, 1) := by decide +kernel
theorem dX4_heads_132 : decode cX4_heads 132 = .ok (.invokevirtual 93, 3) := by decide +kernel
theorem dX4_heads_135 : decode cX4_heads 135 = .ok (.goto 52, 3) := by decide +kernel
theorem dX4_heads_138 : decode cX4_heads 138 = .ok (.iload 5, 2) := by decide +kernel
theorem dX4_heads_140 : decode cX4_heads 140 = .ok (.bipush (-9), 2) := by decide +kernel
theorem dX4_heads_142 : decode cX4_heads 142 = .ok (.if_icmp .eq 45, 3) := by decide +kernel
theorem dX4_heads_145 : decode cX4_heads 145 = .ok (.aload_n 0, 1) := by decide +kernel
theorem dX4_heads_146 : decode cX4_heads 146 = .ok (.iload_n 1, 1) := by decide +kernel
theorem dX4_heads_147 : decode cX4_heads 147 = .ok (.iload_n 2, 1) := by decide +kernel
theorem dX4_heads_148 : decode cX4_heads 148 = .ok (.iconst 3, 1) := by decide +kernel
theorem dX4_heads_149 : decode cX4_heads 149 = .ok (.invokevirtual 66, 3) := by decide +kernel
theorem dX4_heads_152 : decode cX4_heads 152 = .ok (.ifCond .ne 35, 3) := by decide +kernel
theorem dX4_heads_155 : decode cX4_heads 155 = .ok (.aload_n 0, 1) := by decide +kernel
theorem dX4_heads_156 : decode cX4_heads 156 = .ok (.iload_n 1, 1) := by decide +kernel
theorem dX4_heads_157 : decode cX4_heads 157 = .ok (.iload_n 2, 1) := by decide +kernel
theorem dX4_heads_158 : decode cX4_heads 158 = .ok (.iconst 2, 1) := by decide +kernel
theorem dX4_heads_159 : decode cX4_heads 159 = .ok (.invokevirtual 66, 3) := by decide +kernel
theorem dX4_heads_162 : decode cX4_heads 162 = .ok (.ifCond .ne 25, 3) := by decide +kernel
theorem dX4_heads_165 : decode cX4_heads 165 = .ok (.aload_n 0, 1) := by decide +kernel
theorem dX4_heads_166 : decode cX4_heads 166 = .ok (.iload 5, 2) := by decide +kernel
theorem dX4_heads_168 : decode cX4_heads 168 = .ok (.bipush 7, 2) := by decide +kernel
theorem dX4_heads_170 : decode cX4_heads 170 = .ok (.aload_n 0, 1) := by decide +kernel
theorem dX4_heads_171 : decode cX4_heads 171 = .ok (.iload_n 1, 1) := by decide +kernel
theorem dX4_heads_172 : decode cX4_heads 172 = .ok (.iload_n 2, 1) := by decide +kernel
theorem dX4_heads_173 : decode cX4_heads 173 = .ok (.iconst 0, 1) := by decide +kernel
theorem dX4_heads_174 : decode cX4_heads 174 = .ok (.invokevirtual 66, 3) := by decide +kernel
theorem dX4_heads_177 : decode cX4_heads 177 = .ok (.invokevirtual 54, 3) := by decide +kernel
theorem dX4_heads_180 : decode cX4_heads 180 = .ok (.aload_n 0, 1) := by decide +kernel
theorem dX4_heads_181 : decode cX4_heads 181 = .ok (.iload 5, 2) := by decide +kernel
theorem dX4_heads_183 : decode cX4_heads 183 = .ok (.iload_n 1, 1) := by decide +kernel
theorem dX4_heads_184 : decode cX4_heads 184 = .ok (.invokevirtual 93, 3) := by decide +kernel
theorem dX4_heads_187 : decode cX4_heads 187 = .ok (.return_, 1) := by decide +kernel
set_option maxRecDepth 20000 in
theorem ggX4_passes_X4_hasWork : GoodIn wsX4_passes wsX4_hasWork := goodIn_r _ [6, 1, 7, 8, 9, 5, 10, 11, 12, 13, 14, 53, 54, 55, 56, 57, 58, 59, 60, 61, 62, 63] (by decide +kernel) (by decide +kernel)
set_option maxRecDepth 20000 in
theorem gX4_passes_X4_hasWork : GoodIn wsX4_passes (wsV RX4 73 RX4 yX4_hasWork wsX4_hasWork) := goodIn_app (goodIn_of _ (by decide +kernel)) ggX4_passes_X4_hasWork
set_option maxRecDepth 20000 in
theorem ggX4_passes_X4_heads : GoodIn wsX4_passes wsX4_heads := goodIn_r _ [18, 1, 19, 20, 21, 5, 22, 23, 24, 25, 26, 7, 8, 9, 10, 11, 12, 13, 14, 27, 28, 29, 30, 31, 32, 33, 34, 35, 36, 37, 38, 39, 40, 41, 42, 43, 44, 45, 53, 54, 55, 56, 57, 58, 59, 60, 61, 62, 63] (by decide +kernel) (by decide +kernel)
set_option maxRecDepth 20000 in
theorem gX4_passes_X4_heads : GoodIn wsX4_passes (wsV RX4 97 RX4 yX4_heads wsX4_heads) := goodIn_app (goodIn_of _ (by decide +kernel)) ggX4_passes_X4_heads
set_option maxRecDepth 20000 in
theorem ggX4_passes_X4_nearest : GoodIn wsX4_passes wsX4_nearest := goodIn_r _ [49, 1, 50, 51, 5, 52, 2, 3, 4, 6, 7, 8, 9, 10, 11, 12, 13, 14, 53, 54, 55, 56, 57, 58, 59, 60, 61, 62, 63] (by decide +kernel) (by decide +kernel)
set_option maxRecDepth 20000 in
theorem gX4_passes_X4_nearest : GoodIn wsX4_passes (wsV RX4 101 RX4 yX4_nearest wsX4_nearest) := goodIn_app (goodIn_of _ (by decide +kernel)) ggX4_passes_X4_nearest
theorem dX4_passes_0 : decode cX4_passes 0 = .ok (.aload_n 0, 1) := by decide +kernel
theorem dX4_passes_1 : decode cX4_passes 1 = .ok (.aload_n 0, 1) := by decide +kernel
theorem dX4_passes_2 : decode cX4_passes 2 = .ok (.getfield 7, 3) := by decide +kernel
theorem dX4_passes_5 : decode cX4_passes 5 = .ok (.iconst 1, 1) := by decide +kernel
theorem dX4_passes_6 : decode cX4_passes 6 = .ok (.iaload, 1) := by decide +kernel
theorem dX4_passes_7 : decode cX4_passes 7 = .ok (.invokevirtual 73, 3) := by decide +kernel
theorem dX4_passes_10 : decode cX4_passes 10 = .ok (.ifCond .eq 16, 3) := by decide +kernel
theorem dX4_passes_13 : decode cX4_passes 13 = .ok (.aload_n 0, 1) := by decide +kernel
theorem dX4_passes_14 : decode cX4_passes 14 = .ok (.iconst 0, 1) := by decide +kernel
theorem dX4_passes_15 : decode cX4_passes 15 = .ok (.invokevirtual 97, 3) := by decide +kernel
theorem dX4_passes_18 : decode cX4_passes 18 = .ok (.aload_n 0, 1) := by decide +kernel
theorem dX4_passes_19 : decode cX4_passes 19 = .ok (.iconst 1, 1) := by decide +kernel
theorem dX4_passes_20 : decode cX4_passes 20 = .ok (.invokevirtual 97, 3) := by decide +kernel
theorem dX4_passes_23 : decode cX4_passes 23 = .ok (.goto 48, 3) := by decide +kernel
theorem dX4_passes_26 : decode cX4_passes 26 = .ok (.aload_n 0, 1) := by decide +kernel
theorem dX4_passes_27 : decode cX4_passes 27 = .ok (.invokevirtual 101, 3) := by decide +kernel
theorem dX4_passes_30 : decode cX4_passes 30 = .ok (.istore_n 1, 1) := by decide +kernel
theorem dX4_passes_31 : decode cX4_passes 31 = .ok (.iload_n 1, 1) := by decide +kernel
theorem dX4_passes_32 : decode cX4_passes 32 = .ok (.bipush (-9), 2) := by decide +kernel
theorem dX4_passes_34 : decode cX4_passes 34 = .ok (.if_icmp .eq 37, 3) := by decide +kernel
theorem dX4_passes_37 : decode cX4_passes 37 = .ok (.aload_n 0, 1) := by decide +kernel
theorem dX4_passes_38 : decode cX4_passes 38 = .ok (.getfield 7, 3) := by decide +kernel
theorem dX4_passes_41 : decode cX4_passes 41 = .ok (.iconst 1, 1) := by decide +kernel
theorem dX4_passes_42 : decode cX4_passes 42 = .ok (.dup2, 1) := by decide +kernel
theorem dX4_passes_43 : decode cX4_passes 43 = .ok (.iaload, 1) := by decide +kernel
theorem dX4_passes_44 : decode cX4_passes 44 = .ok (.iload_n 1, 1) := by decide +kernel
theorem dX4_passes_45 : decode cX4_passes 45 = .ok (.aload_n 0, 1) := by decide +kernel
theorem dX4_passes_46 : decode cX4_passes 46 = .ok (.getfield 7, 3) := by decide +kernel
theorem dX4_passes_49 : decode cX4_passes 49 = .ok (.iconst 1, 1) := by decide +kernel
theorem dX4_passes_50 : decode cX4_passes 50 = .ok (.iaload, 1) := by decide +kernel
theorem dX4_passes_51 : decode cX4_passes 51 = .ok (.if_icmp .le 7, 3) := by decide +kernel
theorem dX4_passes_54 : decode cX4_passes 54 = .ok (.iconst 1, 1) := by decide +kernel
theorem dX4_passes_55 : decode cX4_passes 55 = .ok (.goto 4, 3) := by decide +kernel
theorem dX4_passes_58 : decode cX4_passes 58 = .ok (.iconst (-1), 1) := by decide +kernel
theorem dX4_passes_59 : decode cX4_passes 59 = .ok (.iadd, 1) := by decide +kernel
theorem dX4_passes_60 : decode cX4_passes 60 = .ok (.iastore, 1) := by decide +kernel
theorem dX4_passes_61 : decode cX4_passes 61 = .ok (.aload_n 0, 1) := by decide +kernel
theorem dX4_passes_62 : decode cX4_passes 62 = .ok (.getfield 7, 3) := by decide +kernel
theorem dX4_passes_65 : decode cX4_passes 65 = .ok (.iconst 4, 1) := by decide +kernel
theorem dX4_passes_66 : decode cX4_passes 66 = .ok (.dup2, 1) := by decide +kernel
theorem dX4_passes_67 : decode cX4_passes 67 = .ok (.iaload, 1) := by decide +kernel
theorem dX4_passes_68 : decode cX4_passes 68 = .ok (.iconst 1, 1) := by decide +kernel
theorem dX4_passes_69 : decode cX4_passes 69 = .ok (.iadd, 1) := by decide +kernel
theorem dX4_passes_70 : decode cX4_passes 70 = .ok (.iastore, 1) := by decide +kernel
theorem dX4_passes_71 : decode cX4_passes 71 = .ok (.aload_n 0, 1) := by decide +kernel
theorem dX4_passes_72 : decode cX4_passes 72 = .ok (.getfield 7, 3) := by decide +kernel
theorem dX4_passes_75 : decode cX4_passes 75 = .ok (.iconst 0, 1) := by decide +kernel
theorem dX4_passes_76 : decode cX4_passes 76 = .ok (.dup2, 1) := by decide +kernel
theorem dX4_passes_77 : decode cX4_passes 77 = .ok (.iaload, 1) := by decide +kernel
theorem dX4_passes_78 : decode cX4_passes 78 = .ok (.iconst 1, 1) := by decide +kernel
theorem dX4_passes_79 : decode cX4_passes 79 = .ok (.iadd, 1) := by decide +kernel
theorem dX4_passes_80 : decode cX4_passes 80 = .ok (.iastore, 1) := by decide +kernel
theorem dX4_passes_81 : decode cX4_passes 81 = .ok (.return_, 1) := by decide +kernel
set_option maxRecDepth 20000 in
theorem ggX4_pass_X4_within : GoodIn wsX4_pass wsX4_within := goodIn_r _ [5] (by decide +kernel) (by decide +kernel)
set_option maxRecDepth 20000 in
theorem gX4_pass_X4_within : GoodIn wsX4_pass (va_wsS RX4 39 yX4_within wsX4_within) := goodIn_app (goodIn_of _ (by decide +kernel)) ggX4_pass_X4_within
set_option maxRecDepth 20000 in
theorem ggX4_pass_X4_saves : GoodIn wsX4_pass wsX4_saves := goodIn_r _ [9, 10, 11, 12, 1, 71, 72, 73, 74, 75, 76, 77, 78, 79, 80, 81] (by decide +kernel) (by decide +kernel)
set_option maxRecDepth 20000 in
theorem gX4_pass_X4_saves : GoodIn wsX4_pass (wsV RX4 51 RX4 yX4_saves wsX4_saves) := goodIn_app (goodIn_of _ (by decide +kernel)) ggX4_pass_X4_saves
set_option maxRecDepth 20000 in
theorem ggX4_pass_X4_inState : GoodIn wsX4_pass wsX4_inState := goodIn_r _ [16, 1, 17, 18, 19, 4, 20, 71, 72, 73, 74, 75, 76, 77, 78, 79, 80, 81] (by decide +kernel) (by decide +kernel)
set_option maxRecDepth 20000 in
theorem gX4_pass_X4_inState : GoodIn wsX4_pass (wsV RX4 47 RX4 yX4_inState wsX4_inState) := goodIn_app (goodIn_of _ (by decide +kernel)) ggX4_pass_X4_inState
set_option maxRecDepth 20000 in
theorem ggX4_pass_X4_passes : GoodIn wsX4_pass wsX4_passes := goodIn_r _ [24, 1, 25, 26, 27, 4, 28, 17, 18, 19, 20, 29, 30, 31, 32, 33, 34, 35, 36, 37, 38, 39, 40, 41, 42, 43, 44, 45, 46, 47, 48, 49, 50, 51, 52, 53, 54, 55, 56, 57, 58, 59, 60, 61, 62, 63, 64, 65, 66, 67, 68, 69, 70, 71, 72, 73, 74, 75, 76, 77, 78, 79, 80, 81] (by decide +kernel) (by decide +kernel)
set_option maxRecDepth 20000 in
theorem gX4_pass_X4_passes : GoodIn wsX4_pass (wsV RX4 105 RX4 yX4_passes wsX4_passes) := goodIn_app (goodIn_of _ (by decide +kernel)) ggX4_pass_X4_passes
theorem dX4_pass_0 : decode cX4_pass 0 = .ok (.iload_n 1, 1) := by decide +kernel
theorem dX4_pass_1 : decode cX4_pass 1 = .ok (.iconst 1, 1) := by decide +kernel
theorem dX4_pass_2 : decode cX4_pass 2 = .ok (.sipush 200, 3) := by decide +kernel
theorem dX4_pass_5 : decode cX4_pass 5 = .ok (.invokestatic 39, 3) := by decide +kernel
theorem dX4_pass_8 : decode cX4_pass 8 = .ok (.ifCond .ne 5, 3) := by decide +kernel
theorem dX4_pass_11 : decode cX4_pass 11 = .ok (.iconst (-1), 1) := by decide +kernel
theorem dX4_pass_12 : decode cX4_pass 12 = .ok (.ireturn, 1) := by decide +kernel
theorem dX4_pass_13 : decode cX4_pass 13 = .ok (.aload_n 0, 1) := by decide +kernel
theorem dX4_pass_14 : decode cX4_pass 14 = .ok (.getfield 7, 3) := by decide +kernel
theorem dX4_pass_17 : decode cX4_pass 17 = .ok (.iconst 0, 1) := by decide +kernel
theorem dX4_pass_18 : decode cX4_pass 18 = .ok (.iaload, 1) := by decide +kernel
theorem dX4_pass_19 : decode cX4_pass 19 = .ok (.iload_n 1, 1) := by decide +kernel
theorem dX4_pass_20 : decode cX4_pass 20 = .ok (.iadd, 1) := by decide +kernel
theorem dX4_pass_21 : decode cX4_pass 21 = .ok (.sipush 20000, 3) := by decide +kernel
theorem dX4_pass_24 : decode cX4_pass 24 = .ok (.if_icmp .le 6, 3) := by decide +kernel
theorem dX4_pass_27 : decode cX4_pass 27 = .ok (.bipush (-2), 2) := by decide +kernel
theorem dX4_pass_29 : decode cX4_pass 29 = .ok (.ireturn, 1) := by decide +kernel
theorem dX4_pass_30 : decode cX4_pass 30 = .ok (.aload_n 0, 1) := by decide +kernel
theorem dX4_pass_31 : decode cX4_pass 31 = .ok (.invokevirtual 51, 3) := by decide +kernel
theorem dX4_pass_34 : decode cX4_pass 34 = .ok (.aload_n 0, 1) := by decide +kernel
theorem dX4_pass_35 : decode cX4_pass 35 = .ok (.iconst 1, 1) := by decide +kernel
theorem dX4_pass_36 : decode cX4_pass 36 = .ok (.invokevirtual 47, 3) := by decide +kernel
theorem dX4_pass_39 : decode cX4_pass 39 = .ok (.istore_n 2, 1) := by decide +kernel
theorem dX4_pass_40 : decode cX4_pass 40 = .ok (.iconst 0, 1) := by decide +kernel
theorem dX4_pass_41 : decode cX4_pass 41 = .ok (.istore_n 3, 1) := by decide +kernel
theorem dX4_pass_42 : decode cX4_pass 42 = .ok (.iload_n 3, 1) := by decide +kernel
theorem dX4_pass_43 : decode cX4_pass 43 = .ok (.iload_n 1, 1) := by decide +kernel
theorem dX4_pass_44 : decode cX4_pass 44 = .ok (.if_icmp .ge 13, 3) := by decide +kernel
theorem dX4_pass_47 : decode cX4_pass 47 = .ok (.aload_n 0, 1) := by decide +kernel
theorem dX4_pass_48 : decode cX4_pass 48 = .ok (.invokevirtual 105, 3) := by decide +kernel
theorem dX4_pass_51 : decode cX4_pass 51 = .ok (.iinc 3 1, 3) := by decide +kernel
theorem dX4_pass_54 : decode cX4_pass 54 = .ok (.goto (-12), 3) := by decide +kernel
theorem dX4_pass_57 : decode cX4_pass 57 = .ok (.aload_n 0, 1) := by decide +kernel
theorem dX4_pass_58 : decode cX4_pass 58 = .ok (.iconst 1, 1) := by decide +kernel
theorem dX4_pass_59 : decode cX4_pass 59 = .ok (.invokevirtual 47, 3) := by decide +kernel
theorem dX4_pass_62 : decode cX4_pass 62 = .ok (.iload_n 2, 1) := by decide +kernel
theorem dX4_pass_63 : decode cX4_pass 63 = .ok (.isub, 1) := by decide +kernel
theorem dX4_pass_64 : decode cX4_pass 64 = .ok (.ireturn, 1) := by decide +kernel
set_option maxRecDepth 20000 in
theorem ggX4_cuts_X4_of : GoodIn wsX4_cuts wsX4_of := goodIn_r _ [6, 1, 19, 20, 21, 22, 23, 24, 25, 26, 27, 28, 29] (by decide +kernel) (by decide +kernel)
set_option maxRecDepth 20000 in
theorem gX4_cuts_X4_of : GoodIn wsX4_cuts (wsV RX4 66 RX4 yX4_of wsX4_of) := goodIn_app (goodIn_of _ (by decide +kernel)) ggX4_cuts_X4_of
set_option maxRecDepth 20000 in
theorem ggX4_cuts_X4_put : GoodIn wsX4_cuts wsX4_put := goodIn_r _ [10, 1, 19, 20, 21, 22, 23, 24, 25, 26, 27, 28, 29] (by decide +kernel) (by decide +kernel)
set_option maxRecDepth 20000 in
theorem gX4_cuts_X4_put : GoodIn wsX4_cuts (wsV RX4 77 RX4 yX4_put wsX4_put) := goodIn_app (goodIn_of _ (by decide +kernel)) ggX4_cuts_X4_put
set_option maxRecDepth 20000 in
theorem ggX4_cuts_X4_told : GoodIn wsX4_cuts wsX4_told := goodIn_r _ [14, 1, 19, 20, 21, 22, 23, 24, 25, 26, 27, 28, 29] (by decide +kernel) (by decide +kernel)
set_option maxRecDepth 20000 in
theorem gX4_cuts_X4_told : GoodIn wsX4_cuts (wsV RX4 43 RX4 yX4_told wsX4_told) := goodIn_app (goodIn_of _ (by decide +kernel)) ggX4_cuts_X4_told
set_option maxRecDepth 20000 in
theorem ggX4_cuts_X4_tell : GoodIn wsX4_cuts wsX4_tell := goodIn_r _ [18, 1, 19, 20, 21, 22, 23, 24, 25, 26, 27, 28, 29] (by decide +kernel) (by decide +kernel)
set_option maxRecDepth 20000 in
theorem gX4_cuts_X4_tell : GoodIn wsX4_cuts (wsV RX4 54 RX4 yX4_tell wsX4_tell) := goodIn_app (goodIn_of _ (by decide +kernel)) ggX4_cuts_X4_tell
theorem dX4_cuts_0 : decode cX4_cuts 0 = .ok (.iconst 0, 1) := by decide +kernel
theorem dX4_cuts_1 : decode cX4_cuts 1 = .ok (.istore_n 1, 1) := by decide +kernel
theorem dX4_cuts_2 : decode cX4_cuts 2 = .ok (.iconst 0, 1) := by decide +kernel
theorem dX4_cuts_3 : decode cX4_cuts 3 = .ok (.istore_n 2, 1) := by decide +kernel
theorem dX4_cuts_4 : decode cX4_cuts 4 = .ok (.iload_n 2, 1) := by decide +kernel
theorem dX4_cuts_5 : decode cX4_cuts 5 = .ok (.bipush 96, 2) := by decide +kernel
theorem dX4_cuts_7 : decode cX4_cuts 7 = .ok (.if_icmp .ge 76, 3) := by decide +kernel
theorem dX4_cuts_10 : decode cX4_cuts 10 = .ok (.iload_n 2, 1) := by decide +kernel
theorem dX4_cuts_11 : decode cX4_cuts 11 = .ok (.bipush 48, 2) := by decide +kernel
theorem dX4_cuts_13 : decode cX4_cuts 13 = .ok (.idiv, 1) := by decide +kernel
theorem dX4_cuts_14 : decode cX4_cuts 14 = .ok (.istore_n 3, 1) := by decide +kernel
theorem dX4_cuts_15 : decode cX4_cuts 15 = .ok (.iload_n 2, 1) := by decide +kernel
theorem dX4_cuts_16 : decode cX4_cuts 16 = .ok (.bipush 48, 2) := by decide +kernel
theorem dX4_cuts_18 : decode cX4_cuts 18 = .ok (.irem, 1) := by decide +kernel
theorem dX4_cuts_19 : decode cX4_cuts 19 = .ok (.istore 4, 2) := by decide +kernel
theorem dX4_cuts_21 : decode cX4_cuts 21 = .ok (.aload_n 0, 1) := by decide +kernel
theorem dX4_cuts_22 : decode cX4_cuts 22 = .ok (.iload_n 3, 1) := by decide +kernel
theorem dX4_cuts_23 : decode cX4_cuts 23 = .ok (.iload 4, 2) := by decide +kernel
theorem dX4_cuts_25 : decode cX4_cuts 25 = .ok (.iconst 4, 1) := by decide +kernel
theorem dX4_cuts_26 : decode cX4_cuts 26 = .ok (.invokevirtual 66, 3) := by decide +kernel
theorem dX4_cuts_29 : decode cX4_cuts 29 = .ok (.aload_n 0, 1) := by decide +kernel
theorem dX4_cuts_30 : decode cX4_cuts 30 = .ok (.getfield 7, 3) := by decide +kernel
theorem dX4_cuts_33 : decode cX4_cuts 33 = .ok (.iconst 0, 1) := by decide +kernel
theorem dX4_cuts_34 : decode cX4_cuts 34 = .ok (.iaload, 1) := by decide +kernel
theorem dX4_cuts_35 : decode cX4_cuts 35 = .ok (.iconst 1, 1) := by decide +kernel
theorem dX4_cuts_36 : decode cX4_cuts 36 = .ok (.isub, 1) := by decide +kernel
theorem dX4_cuts_37 : decode cX4_cuts 37 = .ok (.if_icmp .ne 31, 3) := by decide +kernel
theorem dX4_cuts_40 : decode cX4_cuts 40 = .ok (.iload_n 1, 1) := by decide +kernel
theorem dX4_cuts_41 : decode cX4_cuts 41 = .ok (.aload_n 0, 1) := by decide +kernel
theorem dX4_cuts_42 : decode cX4_cuts 42 = .ok (.iload_n 3, 1) := by decide +kernel
end
section
theorem dX4_cuts_43 : decode cX4_cuts 43 = .ok (.iload 4, 2) := by decide +kernel
theorem dX4_cuts_45 : decode cX4_cuts 45 = .ok (.iconst 2, 1) := by decide +kernel
theorem dX4_cuts_46 : decode cX4_cuts 46 = .ok (.invokevirtual 66, 3) := by decide +kernel
theorem dX4_cuts_49 : decode cX4_cuts 49 = .ok (.ifCond .ne 7, 3) := by decide +kernel
theorem dX4_cuts_52 : decode cX4_cuts 52 = .ok (.iconst 1, 1) := by decide +kernel
theorem dX4_cuts_53 : decode cX4_cuts 53 = .ok (.goto 4, 3) := by decide +kernel
theorem dX4_cuts_56 : decode cX4_cuts 56 = .ok (.iconst 0, 1) := by decide +kernel
theorem dX4_cuts_57 : decode cX4_cuts 57 = .ok (.iadd, 1) := by decide +kernel
theorem dX4_cuts_58 : decode cX4_cuts 58 = .ok (.istore_n 1, 1) := by decide +kernel
theorem dX4_cuts_59 : decode cX4_cuts 59 = .ok (.aload_n 0, 1) := by decide +kernel
theorem dX4_cuts_60 : decode cX4_cuts 60 = .ok (.iload_n 3, 1) := by decide +kernel
theorem dX4_cuts_61 : decode cX4_cuts 61 = .ok (.iload 4, 2) := by decide +kernel
theorem dX4_cuts_63 : decode cX4_cuts 63 = .ok (.iconst 2, 1) := by decide +kernel
theorem dX4_cuts_64 : decode cX4_cuts 64 = .ok (.iconst 1, 1) := by decide +kernel
theorem dX4_cuts_65 : decode cX4_cuts 65 = .ok (.invokevirtual 77, 3) := by decide +kernel
theorem dX4_cuts_68 : decode cX4_cuts 68 = .ok (.aload_n 0, 1) := by decide +kernel
theorem dX4_cuts_69 : decode cX4_cuts 69 = .ok (.iload_n 3, 1) := by decide +kernel
theorem dX4_cuts_70 : decode cX4_cuts 70 = .ok (.iload 4, 2) := by decide +kernel
theorem dX4_cuts_72 : decode cX4_cuts 72 = .ok (.iconst 3, 1) := by decide +kernel
theorem dX4_cuts_73 : decode cX4_cuts 73 = .ok (.iconst 0, 1) := by decide +kernel
theorem dX4_cuts_74 : decode cX4_cuts 74 = .ok (.invokevirtual 77, 3) := by decide +kernel
theorem dX4_cuts_77 : decode cX4_cuts 77 = .ok (.iinc 2 1, 3) := by decide +kernel
theorem dX4_cuts_80 : decode cX4_cuts 80 = .ok (.goto (-76), 3) := by decide +kernel
theorem dX4_cuts_83 : decode cX4_cuts 83 = .ok (.iconst 0, 1) := by decide +kernel
theorem dX4_cuts_84 : decode cX4_cuts 84 = .ok (.istore_n 2, 1) := by decide +kernel
theorem dX4_cuts_85 : decode cX4_cuts 85 = .ok (.iload_n 2, 1) := by decide +kernel
theorem dX4_cuts_86 : decode cX4_cuts 86 = .ok (.aload_n 0, 1) := by decide +kernel
theorem dX4_cuts_87 : decode cX4_cuts 87 = .ok (.getfield 7, 3) := by decide +kernel
theorem dX4_cuts_90 : decode cX4_cuts 90 = .ok (.iconst 2, 1) := by decide +kernel
theorem dX4_cuts_91 : decode cX4_cuts 91 = .ok (.iaload, 1) := by decide +kernel
theorem dX4_cuts_92 : decode cX4_cuts 92 = .ok (.if_icmp .ge 25, 3) := by decide +kernel
theorem dX4_cuts_95 : decode cX4_cuts 95 = .ok (.aload_n 0, 1) := by decide +kernel
theorem dX4_cuts_96 : decode cX4_cuts 96 = .ok (.iload_n 2, 1) := by decide +kernel
theorem dX4_cuts_97 : decode cX4_cuts 97 = .ok (.iconst 3, 1) := by decide +kernel
theorem dX4_cuts_98 : decode cX4_cuts 98 = .ok (.invokevirtual 43, 3) := by decide +kernel
theorem dX4_cuts_101 : decode cX4_cuts 101 = .ok (.ifCond .ne 10, 3) := by decide +kernel
theorem dX4_cuts_104 : decode cX4_cuts 104 = .ok (.aload_n 0, 1) := by decide +kernel
theorem dX4_cuts_105 : decode cX4_cuts 105 = .ok (.iload_n 2, 1) := by decide +kernel
theorem dX4_cuts_106 : decode cX4_cuts 106 = .ok (.iconst 3, 1) := by decide +kernel
theorem dX4_cuts_107 : decode cX4_cuts 107 = .ok (.iconst 2, 1) := by decide +kernel
theorem dX4_cuts_108 : decode cX4_cuts 108 = .ok (.invokevirtual 54, 3) := by decide +kernel
theorem dX4_cuts_111 : decode cX4_cuts 111 = .ok (.iinc 2 1, 3) := by decide +kernel
theorem dX4_cuts_114 : decode cX4_cuts 114 = .ok (.goto (-29), 3) := by decide +kernel
theorem dX4_cuts_117 : decode cX4_cuts 117 = .ok (.iload_n 1, 1) := by decide +kernel
theorem dX4_cuts_118 : decode cX4_cuts 118 = .ok (.ireturn, 1) := by decide +kernel
set_option maxRecDepth 20000 in
theorem ggX4_cut_X4_saves : GoodIn wsX4_cut wsX4_saves := goodIn_r _ [5, 6, 7, 8, 9, 30, 31, 32, 33, 34, 35, 36, 37, 38, 39, 40] (by decide +kernel) (by decide +kernel)
set_option maxRecDepth 20000 in
theorem gX4_cut_X4_saves : GoodIn wsX4_cut (wsV RX4 51 RX4 yX4_saves wsX4_saves) := goodIn_app (goodIn_of _ (by decide +kernel)) ggX4_cut_X4_saves
set_option maxRecDepth 20000 in
theorem ggX4_cut_X4_cuts : GoodIn wsX4_cut wsX4_cuts := goodIn_r _ [13, 9, 14, 15, 16, 4, 17, 18, 19, 20, 21, 22, 23, 24, 25, 26, 27, 28, 29, 30, 31, 32, 33, 34, 35, 36, 37, 38, 39, 40] (by decide +kernel) (by decide +kernel)
set_option maxRecDepth 20000 in
theorem gX4_cut_X4_cuts : GoodIn wsX4_cut (wsV RX4 108 RX4 yX4_cuts wsX4_cuts) := goodIn_app (goodIn_of _ (by decide +kernel)) ggX4_cut_X4_cuts
theorem dX4_cut_0 : decode cX4_cut 0 = .ok (.aload_n 0, 1) := by decide +kernel
theorem dX4_cut_1 : decode cX4_cut 1 = .ok (.invokevirtual 51, 3) := by decide +kernel
theorem dX4_cut_4 : decode cX4_cut 4 = .ok (.aload_n 0, 1) := by decide +kernel
theorem dX4_cut_5 : decode cX4_cut 5 = .ok (.invokevirtual 108, 3) := by decide +kernel
theorem dX4_cut_8 : decode cX4_cut 8 = .ok (.ireturn, 1) := by decide +kernel
set_option maxRecDepth 20000 in
theorem ggX4_copiesThat_X4_of : GoodIn wsX4_copiesThat wsX4_of := goodIn_r _ [5, 6, 7, 8, 9, 10, 11, 12, 13, 14, 15, 16, 17] (by decide +kernel) (by decide +kernel)
set_option maxRecDepth 20000 in
theorem gX4_copiesThat_X4_of : GoodIn wsX4_copiesThat (wsV RX4 66 RX4 yX4_of wsX4_of) := goodIn_app (goodIn_of _ (by decide +kernel)) ggX4_copiesThat_X4_of
theorem dX4_copiesThat_0 : decode cX4_copiesThat 0 = .ok (.iconst 0, 1) := by decide +kernel
theorem dX4_copiesThat_1 : decode cX4_copiesThat 1 = .ok (.istore_n 2, 1) := by decide +kernel
theorem dX4_copiesThat_2 : decode cX4_copiesThat 2 = .ok (.iconst 0, 1) := by decide +kernel
theorem dX4_copiesThat_3 : decode cX4_copiesThat 3 = .ok (.istore_n 3, 1) := by decide +kernel
theorem dX4_copiesThat_4 : decode cX4_copiesThat 4 = .ok (.iload_n 3, 1) := by decide +kernel
theorem dX4_copiesThat_5 : decode cX4_copiesThat 5 = .ok (.bipush 96, 2) := by decide +kernel
theorem dX4_copiesThat_7 : decode cX4_copiesThat 7 = .ok (.if_icmp .ge 25, 3) := by decide +kernel
theorem dX4_copiesThat_10 : decode cX4_copiesThat 10 = .ok (.iload_n 2, 1) := by decide +kernel
theorem dX4_copiesThat_11 : decode cX4_copiesThat 11 = .ok (.aload_n 0, 1) := by decide +kernel
theorem dX4_copiesThat_12 : decode cX4_copiesThat 12 = .ok (.iload_n 3, 1) := by decide +kernel
theorem dX4_copiesThat_13 : decode cX4_copiesThat 13 = .ok (.bipush 48, 2) := by decide +kernel
theorem dX4_copiesThat_15 : decode cX4_copiesThat 15 = .ok (.idiv, 1) := by decide +kernel
theorem dX4_copiesThat_16 : decode cX4_copiesThat 16 = .ok (.iload_n 3, 1) := by decide +kernel
theorem dX4_copiesThat_17 : decode cX4_copiesThat 17 = .ok (.bipush 48, 2) := by decide +kernel
theorem dX4_copiesThat_19 : decode cX4_copiesThat 19 = .ok (.irem, 1) := by decide +kernel
theorem dX4_copiesThat_20 : decode cX4_copiesThat 20 = .ok (.iload_n 1, 1) := by decide +kernel
theorem dX4_copiesThat_21 : decode cX4_copiesThat 21 = .ok (.invokevirtual 66, 3) := by decide +kernel
theorem dX4_copiesThat_24 : decode cX4_copiesThat 24 = .ok (.iadd, 1) := by decide +kernel
theorem dX4_copiesThat_25 : decode cX4_copiesThat 25 = .ok (.istore_n 2, 1) := by decide +kernel
theorem dX4_copiesThat_26 : decode cX4_copiesThat 26 = .ok (.iinc 3 1, 3) := by decide +kernel
theorem dX4_copiesThat_29 : decode cX4_copiesThat 29 = .ok (.goto (-25), 3) := by decide +kernel
theorem dX4_copiesThat_32 : decode cX4_copiesThat 32 = .ok (.iload_n 2, 1) := by decide +kernel
theorem dX4_copiesThat_33 : decode cX4_copiesThat 33 = .ok (.ireturn, 1) := by decide +kernel
set_option maxRecDepth 20000 in
theorem ggX4_torn_X4_of : GoodIn wsX4_torn wsX4_of := goodIn_r _ [5, 6, 7, 8, 9, 10, 11, 12, 13, 14, 15, 16, 17] (by decide +kernel) (by decide +kernel)
set_option maxRecDepth 20000 in
theorem gX4_torn_X4_of : GoodIn wsX4_torn (wsV RX4 66 RX4 yX4_of wsX4_of) := goodIn_app (goodIn_of _ (by decide +kernel)) ggX4_torn_X4_of
theorem dX4_torn_0 : decode cX4_torn 0 = .ok (.aload_n 0, 1) := by decide +kernel
theorem dX4_torn_1 : decode cX4_torn 1 = .ok (.iconst 0, 1) := by decide +kernel
theorem dX4_torn_2 : decode cX4_torn 2 = .ok (.iload_n 1, 1) := by decide +kernel
theorem dX4_torn_3 : decode cX4_torn 3 = .ok (.iconst 2, 1) := by decide +kernel
theorem dX4_torn_4 : decode cX4_torn 4 = .ok (.invokevirtual 66, 3) := by decide +kernel
theorem dX4_torn_7 : decode cX4_torn 7 = .ok (.aload_n 0, 1) := by decide +kernel
theorem dX4_torn_8 : decode cX4_torn 8 = .ok (.iconst 1, 1) := by decide +kernel
theorem dX4_torn_9 : decode cX4_torn 9 = .ok (.iload_n 1, 1) := by decide +kernel
theorem dX4_torn_10 : decode cX4_torn 10 = .ok (.iconst 2, 1) := by decide +kernel
theorem dX4_torn_11 : decode cX4_torn 11 = .ok (.invokevirtual 66, 3) := by decide +kernel
theorem dX4_torn_14 : decode cX4_torn 14 = .ok (.iadd, 1) := by decide +kernel
theorem dX4_torn_15 : decode cX4_torn 15 = .ok (.ireturn, 1) := by decide +kernel
set_option maxRecDepth 20000 in
theorem ggX4_behind_X4_torn : GoodIn wsX4_behind wsX4_torn := goodIn_r _ [5, 6, 7, 8, 4, 9, 10, 11, 12, 13, 14, 15, 16, 17, 18, 19, 20, 21] (by decide +kernel) (by decide +kernel)
set_option maxRecDepth 20000 in
theorem gX4_behind_X4_torn : GoodIn wsX4_behind (wsV RX4 111 RX4 yX4_torn wsX4_torn) := goodIn_app (goodIn_of _ (by decide +kernel)) ggX4_behind_X4_torn
set_option maxRecDepth 20000 in
theorem ggX4_behind_X4_of : GoodIn wsX4_behind wsX4_of := goodIn_r _ [9, 10, 11, 12, 13, 14, 15, 16, 17, 18, 19, 20, 21] (by decide +kernel) (by decide +kernel)
set_option maxRecDepth 20000 in
theorem gX4_behind_X4_of : GoodIn wsX4_behind (wsV RX4 66 RX4 yX4_of wsX4_of) := goodIn_app (goodIn_of _ (by decide +kernel)) ggX4_behind_X4_of
theorem dX4_behind_0 : decode cX4_behind 0 = .ok (.aload_n 0, 1) := by decide +kernel
theorem dX4_behind_1 : decode cX4_behind 1 = .ok (.iload_n 1, 1) := by decide +kernel
theorem dX4_behind_2 : decode cX4_behind 2 = .ok (.invokevirtual 111, 3) := by decide +kernel
theorem dX4_behind_5 : decode cX4_behind 5 = .ok (.iconst 1, 1) := by decide +kernel
theorem dX4_behind_6 : decode cX4_behind 6 = .ok (.if_icmp .ne 20, 3) := by decide +kernel
theorem dX4_behind_9 : decode cX4_behind 9 = .ok (.aload_n 0, 1) := by decide +kernel
theorem dX4_behind_10 : decode cX4_behind 10 = .ok (.iconst 0, 1) := by decide +kernel
theorem dX4_behind_11 : decode cX4_behind 11 = .ok (.iload_n 1, 1) := by decide +kernel
theorem dX4_behind_12 : decode cX4_behind 12 = .ok (.iconst 2, 1) := by decide +kernel
theorem dX4_behind_13 : decode cX4_behind 13 = .ok (.invokevirtual 66, 3) := by decide +kernel
theorem dX4_behind_16 : decode cX4_behind 16 = .ok (.iconst 1, 1) := by decide +kernel
theorem dX4_behind_17 : decode cX4_behind 17 = .ok (.if_icmp .ne 7, 3) := by decide +kernel
theorem dX4_behind_20 : decode cX4_behind 20 = .ok (.iconst 0, 1) := by decide +kernel
theorem dX4_behind_21 : decode cX4_behind 21 = .ok (.goto 4, 3) := by decide +kernel
theorem dX4_behind_24 : decode cX4_behind 24 = .ok (.iconst 1, 1) := by decide +kernel
theorem dX4_behind_25 : decode cX4_behind 25 = .ok (.ireturn, 1) := by decide +kernel
theorem dX4_behind_26 : decode cX4_behind 26 = .ok (.aload_n 0, 1) := by decide +kernel
theorem dX4_behind_27 : decode cX4_behind 27 = .ok (.iconst 0, 1) := by decide +kernel
theorem dX4_behind_28 : decode cX4_behind 28 = .ok (.iload_n 1, 1) := by decide +kernel
theorem dX4_behind_29 : decode cX4_behind 29 = .ok (.iconst 1, 1) := by decide +kernel
theorem dX4_behind_30 : decode cX4_behind 30 = .ok (.invokevirtual 66, 3) := by decide +kernel
theorem dX4_behind_33 : decode cX4_behind 33 = .ok (.aload_n 0, 1) := by decide +kernel
theorem dX4_behind_34 : decode cX4_behind 34 = .ok (.iconst 1, 1) := by decide +kernel
theorem dX4_behind_35 : decode cX4_behind 35 = .ok (.iload_n 1, 1) := by decide +kernel
theorem dX4_behind_36 : decode cX4_behind 36 = .ok (.iconst 1, 1) := by decide +kernel
theorem dX4_behind_37 : decode cX4_behind 37 = .ok (.invokevirtual 66, 3) := by decide +kernel
theorem dX4_behind_40 : decode cX4_behind 40 = .ok (.isub, 1) := by decide +kernel
theorem dX4_behind_41 : decode cX4_behind 41 = .ok (.istore_n 2, 1) := by decide +kernel
theorem dX4_behind_42 : decode cX4_behind 42 = .ok (.iload_n 2, 1) := by decide +kernel
theorem dX4_behind_43 : decode cX4_behind 43 = .ok (.ifCond .ne 8, 3) := by decide +kernel
theorem dX4_behind_46 : decode cX4_behind 46 = .ok (.bipush (-9), 2) := by decide +kernel
theorem dX4_behind_48 : decode cX4_behind 48 = .ok (.goto 12, 3) := by decide +kernel
theorem dX4_behind_51 : decode cX4_behind 51 = .ok (.iload_n 2, 1) := by decide +kernel
theorem dX4_behind_52 : decode cX4_behind 52 = .ok (.ifCond .le 7, 3) := by decide +kernel
theorem dX4_behind_55 : decode cX4_behind 55 = .ok (.iconst 1, 1) := by decide +kernel
theorem dX4_behind_56 : decode cX4_behind 56 = .ok (.goto 4, 3) := by decide +kernel
theorem dX4_behind_59 : decode cX4_behind 59 = .ok (.iconst 0, 1) := by decide +kernel
theorem dX4_behind_60 : decode cX4_behind 60 = .ok (.ireturn, 1) := by decide +kernel
set_option maxRecDepth 20000 in
theorem ggX4_sweeps_X4_torn : GoodIn wsX4_sweeps wsX4_torn := goodIn_r _ [6, 7, 8, 9, 5, 10, 1, 19, 20, 21, 22, 23, 24, 25, 26, 27, 28, 29] (by decide +kernel) (by decide +kernel)
set_option maxRecDepth 20000 in
theorem gX4_sweeps_X4_torn : GoodIn wsX4_sweeps (wsV RX4 111 RX4 yX4_torn wsX4_torn) := goodIn_app (goodIn_of _ (by decide +kernel)) ggX4_sweeps_X4_torn
set_option maxRecDepth 20000 in
theorem ggX4_sweeps_X4_behind : GoodIn wsX4_sweeps wsX4_behind := goodIn_r _ [14, 2, 3, 4, 5, 6, 7, 8, 9, 10, 1, 19, 20, 21, 22, 23, 24, 25, 26, 27, 28, 29] (by decide +kernel) (by decide +kernel)
set_option maxRecDepth 20000 in
theorem gX4_sweeps_X4_behind : GoodIn wsX4_sweeps (wsV RX4 114 RX4 yX4_behind wsX4_behind) := goodIn_app (goodIn_of _ (by decide +kernel)) ggX4_sweeps_X4_behind
set_option maxRecDepth 20000 in
theorem ggX4_sweeps_X4_put : GoodIn wsX4_sweeps wsX4_put := goodIn_r _ [18, 1, 19, 20, 21, 22, 23, 24, 25, 26, 27, 28, 29] (by decide +kernel) (by decide +kernel)
set_option maxRecDepth 20000 in
theorem gX4_sweeps_X4_put : GoodIn wsX4_sweeps (wsV RX4 77 RX4 yX4_put wsX4_put) := goodIn_app (goodIn_of _ (by decide +kernel)) ggX4_sweeps_X4_put
set_option maxRecDepth 20000 in
theorem ggX4_sweeps_X4_of : GoodIn wsX4_sweeps wsX4_of := goodIn_r _ [10, 1, 19, 20, 21, 22, 23, 24, 25, 26, 27, 28, 29] (by decide +kernel) (by decide +kernel)
set_option maxRecDepth 20000 in
theorem gX4_sweeps_X4_of : GoodIn wsX4_sweeps (wsV RX4 66 RX4 yX4_of wsX4_of) := goodIn_app (goodIn_of _ (by decide +kernel)) ggX4_sweeps_X4_of
theorem dX4_sweeps_0 : decode cX4_sweeps 0 = .ok (.iconst 0, 1) := by decide +kernel
theorem dX4_sweeps_1 : decode cX4_sweeps 1 = .ok (.istore_n 1, 1) := by decide +kernel
theorem dX4_sweeps_2 : decode cX4_sweeps 2 = .ok (.iconst 0, 1) := by decide +kernel
theorem dX4_sweeps_3 : decode cX4_sweeps 3 = .ok (.istore_n 2, 1) := by decide +kernel
theorem dX4_sweeps_4 : decode cX4_sweeps 4 = .ok (.iload_n 2, 1) := by decide +kernel
theorem dX4_sweeps_5 : decode cX4_sweeps 5 = .ok (.bipush 48, 2) := by decide +kernel
theorem dX4_sweeps_7 : decode cX4_sweeps 7 = .ok (.if_icmp .ge 159, 3) := by decide +kernel
theorem dX4_sweeps_10 : decode cX4_sweeps 10 = .ok (.aload_n 0, 1) := by decide +kernel
theorem dX4_sweeps_11 : decode cX4_sweeps 11 = .ok (.iload_n 2, 1) := by decide +kernel
theorem dX4_sweeps_12 : decode cX4_sweeps 12 = .ok (.invokevirtual 111, 3) := by decide +kernel
theorem dX4_sweeps_15 : decode cX4_sweeps 15 = .ok (.iconst 2, 1) := by decide +kernel
theorem dX4_sweeps_16 : decode cX4_sweeps 16 = .ok (.if_icmp .ne 7, 3) := by decide +kernel
theorem dX4_sweeps_19 : decode cX4_sweeps 19 = .ok (.iconst 1, 1) := by decide +kernel
theorem dX4_sweeps_20 : decode cX4_sweeps 20 = .ok (.goto 4, 3) := by decide +kernel
theorem dX4_sweeps_23 : decode cX4_sweeps 23 = .ok (.iconst 0, 1) := by decide +kernel
theorem dX4_sweeps_24 : decode cX4_sweeps 24 = .ok (.istore_n 3, 1) := by decide +kernel
theorem dX4_sweeps_25 : decode cX4_sweeps 25 = .ok (.iload_n 3, 1) := by decide +kernel
theorem dX4_sweeps_26 : decode cX4_sweeps 26 = .ok (.ifCond .eq 8, 3) := by decide +kernel
theorem dX4_sweeps_29 : decode cX4_sweeps 29 = .ok (.bipush (-9), 2) := by decide +kernel
theorem dX4_sweeps_31 : decode cX4_sweeps 31 = .ok (.goto 8, 3) := by decide +kernel
theorem dX4_sweeps_34 : decode cX4_sweeps 34 = .ok (.aload_n 0, 1) := by decide +kernel
theorem dX4_sweeps_35 : decode cX4_sweeps 35 = .ok (.iload_n 2, 1) := by decide +kernel
theorem dX4_sweeps_36 : decode cX4_sweeps 36 = .ok (.invokevirtual 114, 3) := by decide +kernel
theorem dX4_sweeps_39 : decode cX4_sweeps 39 = .ok (.istore 4, 2) := by decide +kernel
theorem dX4_sweeps_41 : decode cX4_sweeps 41 = .ok (.iconst 0, 1) := by decide +kernel
theorem dX4_sweeps_42 : decode cX4_sweeps 42 = .ok (.istore 5, 2) := by decide +kernel
theorem dX4_sweeps_44 : decode cX4_sweeps 44 = .ok (.iload 5, 2) := by decide +kernel
theorem dX4_sweeps_46 : decode cX4_sweeps 46 = .ok (.iconst 2, 1) := by decide +kernel
theorem dX4_sweeps_47 : decode cX4_sweeps 47 = .ok (.if_icmp .ge 40, 3) := by decide +kernel
theorem dX4_sweeps_50 : decode cX4_sweeps 50 = .ok (.iload_n 3, 1) := by decide +kernel
theorem dX4_sweeps_51 : decode cX4_sweeps 51 = .ok (.ifCond .eq 36, 3) := by decide +kernel
theorem dX4_sweeps_54 : decode cX4_sweeps 54 = .ok (.aload_n 0, 1) := by decide +kernel
theorem dX4_sweeps_55 : decode cX4_sweeps 55 = .ok (.iload 5, 2) := by decide +kernel
theorem dX4_sweeps_57 : decode cX4_sweeps 57 = .ok (.iload_n 2, 1) := by decide +kernel
theorem dX4_sweeps_58 : decode cX4_sweeps 58 = .ok (.iconst 0, 1) := by decide +kernel
theorem dX4_sweeps_59 : decode cX4_sweeps 59 = .ok (.iconst 0, 1) := by decide +kernel
theorem dX4_sweeps_60 : decode cX4_sweeps 60 = .ok (.invokevirtual 77, 3) := by decide +kernel
theorem dX4_sweeps_63 : decode cX4_sweeps 63 = .ok (.aload_n 0, 1) := by decide +kernel
theorem dX4_sweeps_64 : decode cX4_sweeps 64 = .ok (.iload 5, 2) := by decide +kernel
theorem dX4_sweeps_66 : decode cX4_sweeps 66 = .ok (.iload_n 2, 1) := by decide +kernel
theorem dX4_sweeps_67 : decode cX4_sweeps 67 = .ok (.iconst 1, 1) := by decide +kernel
theorem dX4_sweeps_68 : decode cX4_sweeps 68 = .ok (.iconst 0, 1) := by decide +kernel
theorem dX4_sweeps_69 : decode cX4_sweeps 69 = .ok (.invokevirtual 77, 3) := by decide +kernel
theorem dX4_sweeps_72 : decode cX4_sweeps 72 = .ok (.aload_n 0, 1) := by decide +kernel
theorem dX4_sweeps_73 : decode cX4_sweeps 73 = .ok (.iload 5, 2) := by decide +kernel
theorem dX4_sweeps_75 : decode cX4_sweeps 75 = .ok (.iload_n 2, 1) := by decide +kernel
theorem dX4_sweeps_76 : decode cX4_sweeps 76 = .ok (.iconst 2, 1) := by decide +kernel
theorem dX4_sweeps_77 : decode cX4_sweeps 77 = .ok (.iconst 0, 1) := by decide +kernel
theorem dX4_sweeps_78 : decode cX4_sweeps 78 = .ok (.invokevirtual 77, 3) := by decide +kernel
theorem dX4_sweeps_81 : decode cX4_sweeps 81 = .ok (.iinc 5 1, 3) := by decide +kernel
theorem dX4_sweeps_84 : decode cX4_sweeps 84 = .ok (.goto (-40), 3) := by decide +kernel
theorem dX4_sweeps_87 : decode cX4_sweeps 87 = .ok (.aload_n 0, 1) := by decide +kernel
theorem dX4_sweeps_88 : decode cX4_sweeps 88 = .ok (.getfield 7, 3) := by decide +kernel
theorem dX4_sweeps_91 : decode cX4_sweeps 91 = .ok (.iconst 3, 1) := by decide +kernel
theorem dX4_sweeps_92 : decode cX4_sweeps 92 = .ok (.dup2, 1) := by decide +kernel
theorem dX4_sweeps_93 : decode cX4_sweeps 93 = .ok (.iaload, 1) := by decide +kernel
theorem dX4_sweeps_94 : decode cX4_sweeps 94 = .ok (.iload_n 3, 1) := by decide +kernel
theorem dX4_sweeps_95 : decode cX4_sweeps 95 = .ok (.ifCond .eq 7, 3) := by decide +kernel
theorem dX4_sweeps_98 : decode cX4_sweeps 98 = .ok (.iconst 1, 1) := by decide +kernel
theorem dX4_sweeps_99 : decode cX4_sweeps 99 = .ok (.goto 4, 3) := by decide +kernel
theorem dX4_sweeps_102 : decode cX4_sweeps 102 = .ok (.iconst 0, 1) := by decide +kernel
theorem dX4_sweeps_103 : decode cX4_sweeps 103 = .ok (.iadd, 1) := by decide +kernel
theorem dX4_sweeps_104 : decode cX4_sweeps 104 = .ok (.iastore, 1) := by decide +kernel
theorem dX4_sweeps_105 : decode cX4_sweeps 105 = .ok (.iload 4, 2) := by decide +kernel
theorem dX4_sweeps_107 : decode cX4_sweeps 107 = .ok (.bipush (-9), 2) := by decide +kernel
theorem dX4_sweeps_109 : decode cX4_sweeps 109 = .ok (.if_icmp .eq 51, 3) := by decide +kernel
theorem dX4_sweeps_112 : decode cX4_sweeps 112 = .ok (.aload_n 0, 1) := by decide +kernel
theorem dX4_sweeps_113 : decode cX4_sweeps 113 = .ok (.iload 4, 2) := by decide +kernel
theorem dX4_sweeps_115 : decode cX4_sweeps 115 = .ok (.iload_n 2, 1) := by decide +kernel
theorem dX4_sweeps_116 : decode cX4_sweeps 116 = .ok (.iconst 0, 1) := by decide +kernel
theorem dX4_sweeps_117 : decode cX4_sweeps 117 = .ok (.aload_n 0, 1) := by decide +kernel
theorem dX4_sweeps_118 : decode cX4_sweeps 118 = .ok (.iconst 1, 1) := by decide +kernel
theorem dX4_sweeps_119 : decode cX4_sweeps 119 = .ok (.iload 4, 2) := by decide +kernel
theorem dX4_sweeps_121 : decode cX4_sweeps 121 = .ok (.isub, 1) := by decide +kernel
theorem dX4_sweeps_122 : decode cX4_sweeps 122 = .ok (.iload_n 2, 1) := by decide +kernel
theorem dX4_sweeps_123 : decode cX4_sweeps 123 = .ok (.iconst 0, 1) := by decide +kernel
theorem dX4_sweeps_124 : decode cX4_sweeps 124 = .ok (.invokevirtual 66, 3) := by decide +kernel
theorem dX4_sweeps_127 : decode cX4_sweeps 127 = .ok (.invokevirtual 77, 3) := by decide +kernel
theorem dX4_sweeps_130 : decode cX4_sweeps 130 = .ok (.aload_n 0, 1) := by decide +kernel
theorem dX4_sweeps_131 : decode cX4_sweeps 131 = .ok (.iload 4, 2) := by decide +kernel
theorem dX4_sweeps_133 : decode cX4_sweeps 133 = .ok (.iload_n 2, 1) := by decide +kernel
theorem dX4_sweeps_134 : decode cX4_sweeps 134 = .ok (.iconst 1, 1) := by decide +kernel
theorem dX4_sweeps_135 : decode cX4_sweeps 135 = .ok (.aload_n 0, 1) := by decide +kernel
theorem dX4_sweeps_136 : decode cX4_sweeps 136 = .ok (.iconst 1, 1) := by decide +kernel
theorem dX4_sweeps_137 : decode cX4_sweeps 137 = .ok (.iload 4, 2) := by decide +kernel
theorem dX4_sweeps_139 : decode cX4_sweeps 139 = .ok (.isub, 1) := by decide +kernel
theorem dX4_sweeps_140 : decode cX4_sweeps 140 = .ok (.iload_n 2, 1) := by decide +kernel
theorem dX4_sweeps_141 : decode cX4_sweeps 141 = .ok (.iconst 1, 1) := by decide +kernel
theorem dX4_sweeps_142 : decode cX4_sweeps 142 = .ok (.invokevirtual 66, 3) := by decide +kernel
theorem dX4_sweeps_145 : decode cX4_sweeps 145 = .ok (.invokevirtual 77, 3) := by decide +kernel
theorem dX4_sweeps_148 : decode cX4_sweeps 148 = .ok (.aload_n 0, 1) := by decide +kernel
theorem dX4_sweeps_149 : decode cX4_sweeps 149 = .ok (.iload 4, 2) := by decide +kernel
theorem dX4_sweeps_151 : decode cX4_sweeps 151 = .ok (.iload_n 2, 1) := by decide +kernel
theorem dX4_sweeps_152 : decode cX4_sweeps 152 = .ok (.iconst 2, 1) := by decide +kernel
theorem dX4_sweeps_153 : decode cX4_sweeps 153 = .ok (.iconst 0, 1) := by decide +kernel
theorem dX4_sweeps_154 : decode cX4_sweeps 154 = .ok (.invokevirtual 77, 3) := by decide +kernel
theorem dX4_sweeps_157 : decode cX4_sweeps 157 = .ok (.iinc 1 1, 3) := by decide +kernel
theorem dX4_sweeps_160 : decode cX4_sweeps 160 = .ok (.iinc 2 1, 3) := by decide +kernel
theorem dX4_sweeps_163 : decode cX4_sweeps 163 = .ok (.goto (-159), 3) := by decide +kernel
theorem dX4_sweeps_166 : decode cX4_sweeps 166 = .ok (.aload_n 0, 1) := by decide +kernel
theorem dX4_sweeps_167 : decode cX4_sweeps 167 = .ok (.getfield 7, 3) := by decide +kernel
theorem dX4_sweeps_170 : decode cX4_sweeps 170 = .ok (.iconst 0, 1) := by decide +kernel
theorem dX4_sweeps_171 : decode cX4_sweeps 171 = .ok (.dup2, 1) := by decide +kernel
theorem dX4_sweeps_172 : decode cX4_sweeps 172 = .ok (.iaload, 1) := by decide +kernel
theorem dX4_sweeps_173 : decode cX4_sweeps 173 = .ok (.bipush 48, 2) := by decide +kernel
theorem dX4_sweeps_175 : decode cX4_sweeps 175 = .ok (.iadd, 1) := by decide +kernel
theorem dX4_sweeps_176 : decode cX4_sweeps 176 = .ok (.iastore, 1) := by decide +kernel
theorem dX4_sweeps_177 : decode cX4_sweeps 177 = .ok (.aload_n 0, 1) := by decide +kernel
theorem dX4_sweeps_178 : decode cX4_sweeps 178 = .ok (.getfield 7, 3) := by decide +kernel
theorem dX4_sweeps_181 : decode cX4_sweeps 181 = .ok (.iconst 1, 1) := by decide +kernel
theorem dX4_sweeps_182 : decode cX4_sweeps 182 = .ok (.iconst 3, 1) := by decide +kernel
theorem dX4_sweeps_183 : decode cX4_sweeps 183 = .ok (.iastore, 1) := by decide +kernel
theorem dX4_sweeps_184 : decode cX4_sweeps 184 = .ok (.iload_n 1, 1) := by decide +kernel
theorem dX4_sweeps_185 : decode cX4_sweeps 185 = .ok (.ireturn, 1) := by decide +kernel
set_option maxRecDepth 20000 in
theorem ggX4_sweep_X4_inState : GoodIn wsX4_sweep wsX4_inState := goodIn_r _ [6, 1, 7, 8, 9, 5, 10, 42, 43, 44, 45, 46, 47, 48, 49, 50, 51, 52] (by decide +kernel) (by decide +kernel)
set_option maxRecDepth 20000 in
theorem gX4_sweep_X4_inState : GoodIn wsX4_sweep (wsV RX4 47 RX4 yX4_inState wsX4_inState) := goodIn_app (goodIn_of _ (by decide +kernel)) ggX4_sweep_X4_inState
set_option maxRecDepth 20000 in
theorem ggX4_sweep_X4_copiesThat : GoodIn wsX4_sweep wsX4_copiesThat := goodIn_r _ [14, 15, 16, 17, 5, 18, 1, 42, 43, 44, 45, 46, 47, 48, 49, 50, 51, 52] (by decide +kernel) (by decide +kernel)
set_option maxRecDepth 20000 in
theorem gX4_sweep_X4_copiesThat : GoodIn wsX4_sweep (wsV RX4 117 RX4 yX4_copiesThat wsX4_copiesThat) := goodIn_app (goodIn_of _ (by decide +kernel)) ggX4_sweep_X4_copiesThat
set_option maxRecDepth 20000 in
theorem ggX4_sweep_X4_saves : GoodIn wsX4_sweep wsX4_saves := goodIn_r _ [22, 23, 24, 25, 1, 42, 43, 44, 45, 46, 47, 48, 49, 50, 51, 52] (by decide +kernel) (by decide +kernel)
set_option maxRecDepth 20000 in
theorem gX4_sweep_X4_saves : GoodIn wsX4_sweep (wsV RX4 51 RX4 yX4_saves wsX4_saves) := goodIn_app (goodIn_of _ (by decide +kernel)) ggX4_sweep_X4_saves
set_option maxRecDepth 20000 in
theorem ggX4_sweep_X4_sweeps : GoodIn wsX4_sweep wsX4_sweeps := goodIn_r _ [29, 1, 30, 31, 32, 5, 33, 15, 16, 17, 18, 34, 35, 36, 37, 38, 39, 40, 41, 42, 43, 44, 45, 46, 47, 48, 49, 50, 51, 52] (by decide +kernel) (by decide +kernel)
set_option maxRecDepth 20000 in
theorem gX4_sweep_X4_sweeps : GoodIn wsX4_sweep (wsV RX4 120 RX4 yX4_sweeps wsX4_sweeps) := goodIn_app (goodIn_of _ (by decide +kernel)) ggX4_sweep_X4_sweeps
theorem dX4_sweep_0 : decode cX4_sweep 0 = .ok (.aload_n 0, 1) := by decide +kernel
theorem dX4_sweep_1 : decode cX4_sweep 1 = .ok (.iconst 0, 1) := by decide +kernel
theorem dX4_sweep_2 : decode cX4_sweep 2 = .ok (.invokevirtual 47, 3) := by decide +kernel
theorem dX4_sweep_5 : decode cX4_sweep 5 = .ok (.ifCond .gt 26, 3) := by decide +kernel
theorem dX4_sweep_8 : decode cX4_sweep 8 = .ok (.aload_n 0, 1) := by decide +kernel
theorem dX4_sweep_9 : decode cX4_sweep 9 = .ok (.iconst 3, 1) := by decide +kernel
theorem dX4_sweep_10 : decode cX4_sweep 10 = .ok (.invokevirtual 117, 3) := by decide +kernel
theorem dX4_sweep_13 : decode cX4_sweep 13 = .ok (.ifCond .gt 18, 3) := by decide +kernel
theorem dX4_sweep_16 : decode cX4_sweep 16 = .ok (.aload_n 0, 1) := by decide +kernel
theorem dX4_sweep_17 : decode cX4_sweep 17 = .ok (.getfield 7, 3) := by decide +kernel
theorem dX4_sweep_20 : decode cX4_sweep 20 = .ok (.iconst 0, 1) := by decide +kernel
theorem dX4_sweep_21 : decode cX4_sweep 21 = .ok (.iaload, 1) := by decide +kernel
theorem dX4_sweep_22 : decode cX4_sweep 22 = .ok (.bipush 48, 2) := by decide +kernel
theorem dX4_sweep_24 : decode cX4_sweep 24 = .ok (.iadd, 1) := by decide +kernel
theorem dX4_sweep_25 : decode cX4_sweep 25 = .ok (.sipush 20000, 3) := by decide +kernel
theorem dX4_sweep_28 : decode cX4_sweep 28 = .ok (.if_icmp .le 6, 3) := by decide +kernel
theorem dX4_sweep_31 : decode cX4_sweep 31 = .ok (.bipush (-2), 2) := by decide +kernel
theorem dX4_sweep_33 : decode cX4_sweep 33 = .ok (.ireturn, 1) := by decide +kernel
theorem dX4_sweep_34 : decode cX4_sweep 34 = .ok (.aload_n 0, 1) := by decide +kernel
theorem dX4_sweep_35 : decode cX4_sweep 35 = .ok (.invokevirtual 51, 3) := by decide +kernel
theorem dX4_sweep_38 : decode cX4_sweep 38 = .ok (.aload_n 0, 1) := by decide +kernel
theorem dX4_sweep_39 : decode cX4_sweep 39 = .ok (.invokevirtual 120, 3) := by decide +kernel
theorem dX4_sweep_42 : decode cX4_sweep 42 = .ok (.ireturn, 1) := by decide +kernel
set_option maxRecDepth 20000 in
theorem ggX4_append_X4_within : GoodIn wsX4_append wsX4_within := goodIn_r _ [6] (by decide +kernel) (by decide +kernel)
set_option maxRecDepth 20000 in
theorem gX4_append_X4_within : GoodIn wsX4_append (va_wsS RX4 39 yX4_within wsX4_within) := goodIn_app (goodIn_of _ (by decide +kernel)) ggX4_append_X4_within
theorem dX4_append_0 : decode cX4_append 0 = .ok (.iload_n 1, 1) := by decide +kernel
theorem dX4_append_1 : decode cX4_append 1 = .ok (.iconst 1, 1) := by decide +kernel
theorem dX4_append_2 : decode cX4_append 2 = .ok (.sipush 255, 3) := by decide +kernel
theorem dX4_append_5 : decode cX4_append 5 = .ok (.invokestatic 39, 3) := by decide +kernel
theorem dX4_append_8 : decode cX4_append 8 = .ok (.ifCond .ne 5, 3) := by decide +kernel
theorem dX4_append_11 : decode cX4_append 11 = .ok (.iconst (-1), 1) := by decide +kernel
theorem dX4_append_12 : decode cX4_append 12 = .ok (.ireturn, 1) := by decide +kernel
theorem dX4_append_13 : decode cX4_append 13 = .ok (.aload_n 0, 1) := by decide +kernel
theorem dX4_append_14 : decode cX4_append 14 = .ok (.getfield 123, 3) := by decide +kernel
theorem dX4_append_17 : decode cX4_append 17 = .ok (.bipush 80, 2) := by decide +kernel
theorem dX4_append_19 : decode cX4_append 19 = .ok (.if_icmp .ne 6, 3) := by decide +kernel
theorem dX4_append_22 : decode cX4_append 22 = .ok (.bipush (-3), 2) := by decide +kernel
theorem dX4_append_24 : decode cX4_append 24 = .ok (.ireturn, 1) := by decide +kernel
theorem dX4_append_25 : decode cX4_append 25 = .ok (.aload_n 0, 1) := by decide +kernel
theorem dX4_append_26 : decode cX4_append 26 = .ok (.getfield 19, 3) := by decide +kernel
theorem dX4_append_29 : decode cX4_append 29 = .ok (.aload_n 0, 1) := by decide +kernel
theorem dX4_append_30 : decode cX4_append 30 = .ok (.getfield 123, 3) := by decide +kernel
theorem dX4_append_33 : decode cX4_append 33 = .ok (.iload_n 1, 1) := by decide +kernel
theorem dX4_append_34 : decode cX4_append 34 = .ok (.iastore, 1) := by decide +kernel
theorem dX4_append_35 : decode cX4_append 35 = .ok (.aload_n 0, 1) := by decide +kernel
theorem dX4_append_36 : decode cX4_append 36 = .ok (.dup, 1) := by decide +kernel
theorem dX4_append_37 : decode cX4_append 37 = .ok (.getfield 123, 3) := by decide +kernel
theorem dX4_append_40 : decode cX4_append 40 = .ok (.iconst 1, 1) := by decide +kernel
theorem dX4_append_41 : decode cX4_append 41 = .ok (.iadd, 1) := by decide +kernel
theorem dX4_append_42 : decode cX4_append 42 = .ok (.putfield 123, 3) := by decide +kernel
theorem dX4_append_45 : decode cX4_append 45 = .ok (.aload_n 0, 1) := by decide +kernel
theorem dX4_append_46 : decode cX4_append 46 = .ok (.getfield 123, 3) := by decide +kernel
theorem dX4_append_49 : decode cX4_append 49 = .ok (.ireturn, 1) := by decide +kernel
theorem dX4_clearText_0 : decode cX4_clearText 0 = .ok (.aload_n 0, 1) := by decide +kernel
theorem dX4_clearText_1 : decode cX4_clearText 1 = .ok (.getfield 123, 3) := by decide +kernel
theorem dX4_clearText_4 : decode cX4_clearText 4 = .ok (.istore_n 1, 1) := by decide +kernel
theorem dX4_clearText_5 : decode cX4_clearText 5 = .ok (.aload_n 0, 1) := by decide +kernel
theorem dX4_clearText_6 : decode cX4_clearText 6 = .ok (.iconst 0, 1) := by decide +kernel
theorem dX4_clearText_7 : decode cX4_clearText 7 = .ok (.putfield 123, 3) := by decide +kernel
theorem dX4_clearText_10 : decode cX4_clearText 10 = .ok (.iload_n 1, 1) := by decide +kernel
theorem dX4_clearText_11 : decode cX4_clearText 11 = .ok (.ireturn, 1) := by decide +kernel
theorem dX4_here_0 : decode cX4_here 0 = .ok (.aload_n 0, 1) := by decide +kernel
theorem dX4_here_1 : decode cX4_here 1 = .ok (.getfield 126, 3) := by decide +kernel
theorem dX4_here_4 : decode cX4_here 4 = .ok (.aload_n 0, 1) := by decide +kernel
theorem dX4_here_5 : decode cX4_here 5 = .ok (.getfield 123, 3) := by decide +kernel
theorem dX4_here_8 : decode cX4_here 8 = .ok (.if_icmp .ge 15, 3) := by decide +kernel
theorem dX4_here_11 : decode cX4_here 11 = .ok (.aload_n 0, 1) := by decide +kernel
theorem dX4_here_12 : decode cX4_here 12 = .ok (.getfield 19, 3) := by decide +kernel
theorem dX4_here_15 : decode cX4_here 15 = .ok (.aload_n 0, 1) := by decide +kernel
theorem dX4_here_16 : decode cX4_here 16 = .ok (.getfield 126, 3) := by decide +kernel
theorem dX4_here_19 : decode cX4_here 19 = .ok (.iaload, 1) := by decide +kernel
theorem dX4_here_20 : decode cX4_here 20 = .ok (.goto 4, 3) := by decide +kernel
theorem dX4_here_23 : decode cX4_here 23 = .ok (.iconst 0, 1) := by decide +kernel
theorem dX4_here_24 : decode cX4_here 24 = .ok (.ireturn, 1) := by decide +kernel
set_option maxRecDepth 20000 in
theorem ggX4_number_X4_here : GoodIn wsX4_number wsX4_here := goodIn_r _ [7, 1, 8, 9, 13, 14, 15, 16, 17, 18, 19, 20, 21, 22, 23] (by decide +kernel) (by decide +kernel)
set_option maxRecDepth 20000 in
theorem gX4_number_X4_here : GoodIn wsX4_number (wsV RX4 129 RX4 yX4_here wsX4_here) := goodIn_app (goodIn_of _ (by decide +kernel)) ggX4_number_X4_here
set_option maxRecDepth 20000 in
theorem ggX4_number_X4_within : GoodIn wsX4_number wsX4_within := goodIn_r _ [12] (by decide +kernel) (by decide +kernel)
set_option maxRecDepth 20000 in
theorem gX4_number_X4_within : GoodIn wsX4_number (va_wsS RX4 39 yX4_within wsX4_within) := goodIn_app (goodIn_of _ (by decide +kernel)) ggX4_number_X4_within
theorem dX4_number_0 : decode cX4_number 0 = .ok (.aload_n 0, 1) := by decide +kernel
theorem dX4_number_1 : decode cX4_number 1 = .ok (.invokevirtual 129, 3) := by decide +kernel
theorem dX4_number_4 : decode cX4_number 4 = .ok (.bipush 48, 2) := by decide +kernel
theorem dX4_number_6 : decode cX4_number 6 = .ok (.bipush 57, 2) := by decide +kernel
theorem dX4_number_8 : decode cX4_number 8 = .ok (.invokestatic 39, 3) := by decide +kernel
theorem dX4_number_11 : decode cX4_number 11 = .ok (.ifCond .ne 5, 3) := by decide +kernel
theorem dX4_number_14 : decode cX4_number 14 = .ok (.iconst 0, 1) := by decide +kernel
theorem dX4_number_15 : decode cX4_number 15 = .ok (.ireturn, 1) := by decide +kernel
theorem dX4_number_16 : decode cX4_number 16 = .ok (.aload_n 0, 1) := by decide +kernel
theorem dX4_number_17 : decode cX4_number 17 = .ok (.invokevirtual 129, 3) := by decide +kernel
theorem dX4_number_20 : decode cX4_number 20 = .ok (.bipush 48, 2) := by decide +kernel
theorem dX4_number_22 : decode cX4_number 22 = .ok (.if_icmp .ne 7, 3) := by decide +kernel
theorem dX4_number_25 : decode cX4_number 25 = .ok (.iconst 1, 1) := by decide +kernel
theorem dX4_number_26 : decode cX4_number 26 = .ok (.goto 4, 3) := by decide +kernel
theorem dX4_number_29 : decode cX4_number 29 = .ok (.iconst 3, 1) := by decide +kernel
theorem dX4_number_30 : decode cX4_number 30 = .ok (.istore_n 2, 1) := by decide +kernel
theorem dX4_number_31 : decode cX4_number 31 = .ok (.aload_n 0, 1) := by decide +kernel
theorem dX4_number_32 : decode cX4_number 32 = .ok (.getfield 126, 3) := by decide +kernel
theorem dX4_number_35 : decode cX4_number 35 = .ok (.istore_n 3, 1) := by decide +kernel
theorem dX4_number_36 : decode cX4_number 36 = .ok (.aload_n 0, 1) := by decide +kernel
theorem dX4_number_37 : decode cX4_number 37 = .ok (.getfield 28, 3) := by decide +kernel
theorem dX4_number_40 : decode cX4_number 40 = .ok (.iload_n 1, 1) := by decide +kernel
theorem dX4_number_41 : decode cX4_number 41 = .ok (.iconst 0, 1) := by decide +kernel
theorem dX4_number_42 : decode cX4_number 42 = .ok (.iastore, 1) := by decide +kernel
theorem dX4_number_43 : decode cX4_number 43 = .ok (.aload_n 0, 1) := by decide +kernel
theorem dX4_number_44 : decode cX4_number 44 = .ok (.getfield 126, 3) := by decide +kernel
theorem dX4_number_47 : decode cX4_number 47 = .ok (.iload_n 3, 1) := by decide +kernel
theorem dX4_number_48 : decode cX4_number 48 = .ok (.isub, 1) := by decide +kernel
theorem dX4_number_49 : decode cX4_number 49 = .ok (.iload_n 2, 1) := by decide +kernel
theorem dX4_number_50 : decode cX4_number 50 = .ok (.if_icmp .ge 53, 3) := by decide +kernel
theorem dX4_number_53 : decode cX4_number 53 = .ok (.aload_n 0, 1) := by decide +kernel
theorem dX4_number_54 : decode cX4_number 54 = .ok (.invokevirtual 129, 3) := by decide +kernel
theorem dX4_number_57 : decode cX4_number 57 = .ok (.bipush 48, 2) := by decide +kernel
theorem dX4_number_59 : decode cX4_number 59 = .ok (.bipush 57, 2) := by decide +kernel
theorem dX4_number_61 : decode cX4_number 61 = .ok (.invokestatic 39, 3) := by decide +kernel
theorem dX4_number_64 : decode cX4_number 64 = .ok (.ifCond .eq 39, 3) := by decide +kernel
theorem dX4_number_67 : decode cX4_number 67 = .ok (.aload_n 0, 1) := by decide +kernel
theorem dX4_number_68 : decode cX4_number 68 = .ok (.getfield 28, 3) := by decide +kernel
theorem dX4_number_71 : decode cX4_number 71 = .ok (.iload_n 1, 1) := by decide +kernel
theorem dX4_number_72 : decode cX4_number 72 = .ok (.bipush 10, 2) := by decide +kernel
theorem dX4_number_74 : decode cX4_number 74 = .ok (.aload_n 0, 1) := by decide +kernel
theorem dX4_number_75 : decode cX4_number 75 = .ok (.getfield 28, 3) := by decide +kernel
theorem dX4_number_78 : decode cX4_number 78 = .ok (.iload_n 1, 1) := by decide +kernel
theorem dX4_number_79 : decode cX4_number 79 = .ok (.iaload, 1) := by decide +kernel
theorem dX4_number_80 : decode cX4_number 80 = .ok (.imul, 1) := by decide +kernel
theorem dX4_number_81 : decode cX4_number 81 = .ok (.aload_n 0, 1) := by decide +kernel
theorem dX4_number_82 : decode cX4_number 82 = .ok (.invokevirtual 129, 3) := by decide +kernel
theorem dX4_number_85 : decode cX4_number 85 = .ok (.iadd, 1) := by decide +kernel
theorem dX4_number_86 : decode cX4_number 86 = .ok (.bipush 48, 2) := by decide +kernel
theorem dX4_number_88 : decode cX4_number 88 = .ok (.isub, 1) := by decide +kernel
theorem dX4_number_89 : decode cX4_number 89 = .ok (.iastore, 1) := by decide +kernel
theorem dX4_number_90 : decode cX4_number 90 = .ok (.aload_n 0, 1) := by decide +kernel
theorem dX4_number_91 : decode cX4_number 91 = .ok (.dup, 1) := by decide +kernel
theorem dX4_number_92 : decode cX4_number 92 = .ok (.getfield 126, 3) := by decide +kernel
theorem dX4_number_95 : decode cX4_number 95 = .ok (.iconst 1, 1) := by decide +kernel
theorem dX4_number_96 : decode cX4_number 96 = .ok (.iadd, 1) := by decide +kernel
theorem dX4_number_97 : decode cX4_number 97 = .ok (.putfield 126, 3) := by decide +kernel
theorem dX4_number_100 : decode cX4_number 100 = .ok (.goto (-57), 3) := by decide +kernel
theorem dX4_number_103 : decode cX4_number 103 = .ok (.iconst 1, 1) := by decide +kernel
theorem dX4_number_104 : decode cX4_number 104 = .ok (.ireturn, 1) := by decide +kernel
set_option maxRecDepth 20000 in
theorem ggX4_passesSign_X4_here : GoodIn wsX4_passesSign wsX4_here := goodIn_r _ [6, 1, 7, 8, 9, 10, 11, 12, 13, 14, 15, 16, 17, 18, 19] (by decide +kernel) (by decide +kernel)
set_option maxRecDepth 20000 in
theorem gX4_passesSign_X4_here : GoodIn wsX4_passesSign (wsV RX4 129 RX4 yX4_here wsX4_here) := goodIn_app (goodIn_of _ (by decide +kernel)) ggX4_passesSign_X4_here
theorem dX4_passesSign_0 : decode cX4_passesSign 0 = .ok (.aload_n 0, 1) := by decide +kernel
theorem dX4_passesSign_1 : decode cX4_passesSign 1 = .ok (.invokevirtual 129, 3) := by decide +kernel
theorem dX4_passesSign_4 : decode cX4_passesSign 4 = .ok (.iload_n 1, 1) := by decide +kernel
theorem dX4_passesSign_5 : decode cX4_passesSign 5 = .ok (.if_icmp .ne 7, 3) := by decide +kernel
theorem dX4_passesSign_8 : decode cX4_passesSign 8 = .ok (.iconst 1, 1) := by decide +kernel
theorem dX4_passesSign_9 : decode cX4_passesSign 9 = .ok (.goto 4, 3) := by decide +kernel
theorem dX4_passesSign_12 : decode cX4_passesSign 12 = .ok (.iconst 0, 1) := by decide +kernel
theorem dX4_passesSign_13 : decode cX4_passesSign 13 = .ok (.istore_n 2, 1) := by decide +kernel
theorem dX4_passesSign_14 : decode cX4_passesSign 14 = .ok (.aload_n 0, 1) := by decide +kernel
theorem dX4_passesSign_15 : decode cX4_passesSign 15 = .ok (.dup, 1) := by decide +kernel
theorem dX4_passesSign_16 : decode cX4_passesSign 16 = .ok (.getfield 126, 3) := by decide +kernel
theorem dX4_passesSign_19 : decode cX4_passesSign 19 = .ok (.iload_n 2, 1) := by decide +kernel
theorem dX4_passesSign_20 : decode cX4_passesSign 20 = .ok (.ifCond .eq 7, 3) := by decide +kernel
theorem dX4_passesSign_23 : decode cX4_passesSign 23 = .ok (.iconst 1, 1) := by decide +kernel
theorem dX4_passesSign_24 : decode cX4_passesSign 24 = .ok (.goto 4, 3) := by decide +kernel
theorem dX4_passesSign_27 : decode cX4_passesSign 27 = .ok (.iconst 0, 1) := by decide +kernel
theorem dX4_passesSign_28 : decode cX4_passesSign 28 = .ok (.iadd, 1) := by decide +kernel
theorem dX4_passesSign_29 : decode cX4_passesSign 29 = .ok (.putfield 126, 3) := by decide +kernel
theorem dX4_passesSign_32 : decode cX4_passesSign 32 = .ok (.iload_n 2, 1) := by decide +kernel
theorem dX4_passesSign_33 : decode cX4_passesSign 33 = .ok (.ireturn, 1) := by decide +kernel
set_option maxRecDepth 20000 in
theorem ggX4_readsAct_X4_passesSign : GoodIn wsX4_readsAct wsX4_passesSign := goodIn_r _ [5, 6, 7, 8, 9, 4, 10, 11, 12, 21, 22, 23, 24, 25, 26, 27, 28, 29, 30, 31] (by decide +kernel) (by decide +kernel)
set_option maxRecDepth 20000 in
theorem gX4_readsAct_X4_passesSign : GoodIn wsX4_readsAct (wsV RX4 132 RX4 yX4_passesSign wsX4_passesSign) := goodIn_app (goodIn_of _ (by decide +kernel)) ggX4_readsAct_X4_passesSign
set_option maxRecDepth 20000 in
theorem ggX4_readsAct_X4_number : GoodIn wsX4_readsAct wsX4_number := goodIn_r _ [16, 6, 17, 7, 8, 9, 4, 10, 11, 12, 18, 19, 20, 21, 22, 23, 24, 25, 26, 27, 28, 29, 30, 31] (by decide +kernel) (by decide +kernel)
set_option maxRecDepth 20000 in
theorem gX4_readsAct_X4_number : GoodIn wsX4_readsAct (wsV RX4 135 RX4 yX4_number wsX4_number) := goodIn_app (goodIn_of _ (by decide +kernel)) ggX4_readsAct_X4_number
theorem dX4_readsAct_0 : decode cX4_readsAct 0 = .ok (.iload_n 1, 1) := by decide +kernel
theorem dX4_readsAct_1 : decode cX4_readsAct 1 = .ok (.bipush 120, 2) := by decide +kernel
theorem dX4_readsAct_3 : decode cX4_readsAct 3 = .ok (.if_icmp .ne 10, 3) := by decide +kernel
theorem dX4_readsAct_6 : decode cX4_readsAct 6 = .ok (.aload_n 0, 1) := by decide +kernel
theorem dX4_readsAct_7 : decode cX4_readsAct 7 = .ok (.bipush 59, 2) := by decide +kernel
theorem dX4_readsAct_9 : decode cX4_readsAct 9 = .ok (.invokevirtual 132, 3) := by decide +kernel
theorem dX4_readsAct_12 : decode cX4_readsAct 12 = .ok (.ireturn, 1) := by decide +kernel
theorem dX4_readsAct_13 : decode cX4_readsAct 13 = .ok (.aload_n 0, 1) := by decide +kernel
theorem dX4_readsAct_14 : decode cX4_readsAct 14 = .ok (.iconst 0, 1) := by decide +kernel
theorem dX4_readsAct_15 : decode cX4_readsAct 15 = .ok (.invokevirtual 135, 3) := by decide +kernel
theorem dX4_readsAct_18 : decode cX4_readsAct 18 = .ok (.ifCond .ne 5, 3) := by decide +kernel
theorem dX4_readsAct_21 : decode cX4_readsAct 21 = .ok (.iconst 0, 1) := by decide +kernel
theorem dX4_readsAct_22 : decode cX4_readsAct 22 = .ok (.ireturn, 1) := by decide +kernel
theorem dX4_readsAct_23 : decode cX4_readsAct 23 = .ok (.iload_n 1, 1) := by decide +kernel
theorem dX4_readsAct_24 : decode cX4_readsAct 24 = .ok (.bipush 116, 2) := by decide +kernel
theorem dX4_readsAct_26 : decode cX4_readsAct 26 = .ok (.if_icmp .ne 10, 3) := by decide +kernel
theorem dX4_readsAct_29 : decode cX4_readsAct 29 = .ok (.aload_n 0, 1) := by decide +kernel
theorem dX4_readsAct_30 : decode cX4_readsAct 30 = .ok (.bipush 59, 2) := by decide +kernel
theorem dX4_readsAct_32 : decode cX4_readsAct 32 = .ok (.invokevirtual 132, 3) := by decide +kernel
theorem dX4_readsAct_35 : decode cX4_readsAct 35 = .ok (.ireturn, 1) := by decide +kernel
theorem dX4_readsAct_36 : decode cX4_readsAct 36 = .ok (.aload_n 0, 1) := by decide +kernel
theorem dX4_readsAct_37 : decode cX4_readsAct 37 = .ok (.bipush 44, 2) := by decide +kernel
theorem dX4_readsAct_39 : decode cX4_readsAct 39 = .ok (.invokevirtual 132, 3) := by decide +kernel
theorem dX4_readsAct_42 : decode cX4_readsAct 42 = .ok (.ifCond .eq 11, 3) := by decide +kernel
theorem dX4_readsAct_45 : decode cX4_readsAct 45 = .ok (.aload_n 0, 1) := by decide +kernel
theorem dX4_readsAct_46 : decode cX4_readsAct 46 = .ok (.iconst 1, 1) := by decide +kernel
theorem dX4_readsAct_47 : decode cX4_readsAct 47 = .ok (.invokevirtual 135, 3) := by decide +kernel
theorem dX4_readsAct_50 : decode cX4_readsAct 50 = .ok (.ifCond .ne 5, 3) := by decide +kernel
theorem dX4_readsAct_53 : decode cX4_readsAct 53 = .ok (.iconst 0, 1) := by decide +kernel
theorem dX4_readsAct_54 : decode cX4_readsAct 54 = .ok (.ireturn, 1) := by decide +kernel
theorem dX4_readsAct_55 : decode cX4_readsAct 55 = .ok (.iload_n 1, 1) := by decide +kernel
theorem dX4_readsAct_56 : decode cX4_readsAct 56 = .ok (.bipush 114, 2) := by decide +kernel
theorem dX4_readsAct_58 : decode cX4_readsAct 58 = .ok (.if_icmp .ne 12, 3) := by decide +kernel
theorem dX4_readsAct_61 : decode cX4_readsAct 61 = .ok (.aload_n 0, 1) := by decide +kernel
theorem dX4_readsAct_62 : decode cX4_readsAct 62 = .ok (.bipush 59, 2) := by decide +kernel
theorem dX4_readsAct_64 : decode cX4_readsAct 64 = .ok (.invokevirtual 132, 3) := by decide +kernel
theorem dX4_readsAct_67 : decode cX4_readsAct 67 = .ok (.goto 34, 3) := by decide +kernel
theorem dX4_readsAct_70 : decode cX4_readsAct 70 = .ok (.aload_n 0, 1) := by decide +kernel
theorem dX4_readsAct_71 : decode cX4_readsAct 71 = .ok (.bipush 61, 2) := by decide +kernel
theorem dX4_readsAct_73 : decode cX4_readsAct 73 = .ok (.invokevirtual 132, 3) := by decide +kernel
theorem dX4_readsAct_76 : decode cX4_readsAct 76 = .ok (.ifCond .eq 24, 3) := by decide +kernel
theorem dX4_readsAct_79 : decode cX4_readsAct 79 = .ok (.aload_n 0, 1) := by decide +kernel
theorem dX4_readsAct_80 : decode cX4_readsAct 80 = .ok (.iconst 2, 1) := by decide +kernel
theorem dX4_readsAct_81 : decode cX4_readsAct 81 = .ok (.invokevirtual 135, 3) := by decide +kernel
theorem dX4_readsAct_84 : decode cX4_readsAct 84 = .ok (.ifCond .eq 16, 3) := by decide +kernel
theorem dX4_readsAct_87 : decode cX4_readsAct 87 = .ok (.aload_n 0, 1) := by decide +kernel
theorem dX4_readsAct_88 : decode cX4_readsAct 88 = .ok (.bipush 59, 2) := by decide +kernel
theorem dX4_readsAct_90 : decode cX4_readsAct 90 = .ok (.invokevirtual 132, 3) := by decide +kernel
theorem dX4_readsAct_93 : decode cX4_readsAct 93 = .ok (.ifCond .eq 7, 3) := by decide +kernel
theorem dX4_readsAct_96 : decode cX4_readsAct 96 = .ok (.iconst 1, 1) := by decide +kernel
theorem dX4_readsAct_97 : decode cX4_readsAct 97 = .ok (.goto 4, 3) := by decide +kernel
theorem dX4_readsAct_100 : decode cX4_readsAct 100 = .ok (.iconst 0, 1) := by decide +kernel
theorem dX4_readsAct_101 : decode cX4_readsAct 101 = .ok (.ireturn, 1) := by decide +kernel
theorem dX4_isLetter_0 : decode cX4_isLetter 0 = .ok (.iload_n 0, 1) := by decide +kernel
theorem dX4_isLetter_1 : decode cX4_isLetter 1 = .ok (.bipush 114, 2) := by decide +kernel
theorem dX4_isLetter_3 : decode cX4_isLetter 3 = .ok (.if_icmp .eq 21, 3) := by decide +kernel
theorem dX4_isLetter_6 : decode cX4_isLetter 6 = .ok (.iload_n 0, 1) := by decide +kernel
theorem dX4_isLetter_7 : decode cX4_isLetter 7 = .ok (.bipush 119, 2) := by decide +kernel
theorem dX4_isLetter_9 : decode cX4_isLetter 9 = .ok (.if_icmp .eq 15, 3) := by decide +kernel
theorem dX4_isLetter_12 : decode cX4_isLetter 12 = .ok (.iload_n 0, 1) := by decide +kernel
theorem dX4_isLetter_13 : decode cX4_isLetter 13 = .ok (.bipush 116, 2) := by decide +kernel
theorem dX4_isLetter_15 : decode cX4_isLetter 15 = .ok (.if_icmp .eq 9, 3) := by decide +kernel
theorem dX4_isLetter_18 : decode cX4_isLetter 18 = .ok (.iload_n 0, 1) := by decide +kernel
theorem dX4_isLetter_19 : decode cX4_isLetter 19 = .ok (.bipush 120, 2) := by decide +kernel
theorem dX4_isLetter_21 : decode cX4_isLetter 21 = .ok (.if_icmp .ne 7, 3) := by decide +kernel
theorem dX4_isLetter_24 : decode cX4_isLetter 24 = .ok (.iconst 1, 1) := by decide +kernel
theorem dX4_isLetter_25 : decode cX4_isLetter 25 = .ok (.goto 4, 3) := by decide +kernel
theorem dX4_isLetter_28 : decode cX4_isLetter 28 = .ok (.iconst 0, 1) := by decide +kernel
theorem dX4_isLetter_29 : decode cX4_isLetter 29 = .ok (.ireturn, 1) := by decide +kernel
set_option maxRecDepth 20000 in
theorem ggX4_readsAll_X4_here : GoodIn wsX4_readsAll wsX4_here := goodIn_r _ [7, 1, 2, 8, 28, 29, 30, 31, 32, 33, 34, 35, 36, 37, 38] (by decide +kernel) (by decide +kernel)
set_option maxRecDepth 20000 in
theorem gX4_readsAll_X4_here : GoodIn wsX4_readsAll (wsV RX4 129 RX4 yX4_here wsX4_here) := goodIn_app (goodIn_of _ (by decide +kernel)) ggX4_readsAll_X4_here
set_option maxRecDepth 20000 in
theorem ggX4_readsAll_X4_isLetter : GoodIn wsX4_readsAll wsX4_isLetter := goodIn_r _ [11] (by decide +kernel) (by decide +kernel)
set_option maxRecDepth 20000 in
theorem gX4_readsAll_X4_isLetter : GoodIn wsX4_readsAll (va_wsS RX4 138 yX4_isLetter wsX4_isLetter) := goodIn_app (goodIn_of _ (by decide +kernel)) ggX4_readsAll_X4_isLetter
set_option maxRecDepth 20000 in
theorem ggX4_readsAll_X4_readsAct : GoodIn wsX4_readsAll wsX4_readsAct := goodIn_r _ [15, 16, 17, 18, 6, 19, 1, 3, 4, 5, 7, 2, 8, 20, 21, 22, 23, 24, 25, 26, 27, 28, 29, 30, 31, 32, 33, 34, 35, 36, 37, 38] (by decide +kernel) (by decide +kernel)
set_option maxRecDepth 20000 in
theorem gX4_readsAll_X4_readsAct : GoodIn wsX4_readsAll (wsV RX4 141 RX4 yX4_readsAct wsX4_readsAct) := goodIn_app (goodIn_of _ (by decide +kernel)) ggX4_readsAll_X4_readsAct
set_option maxRecDepth 20000 in
theorem ggX4_readsAll_X4_within : GoodIn wsX4_readsAll wsX4_within := goodIn_r _ [27] (by decide +kernel) (by decide +kernel)
set_option maxRecDepth 20000 in
theorem gX4_readsAll_X4_within : GoodIn wsX4_readsAll (va_wsS RX4 39 yX4_within wsX4_within) := goodIn_app (goodIn_of _ (by decide +kernel)) ggX4_readsAll_X4_within
theorem dX4_readsAll_0 : decode cX4_readsAll 0 = .ok (.iconst 0, 1) := by decide +kernel
theorem dX4_readsAll_1 : decode cX4_readsAll 1 = .ok (.istore_n 1, 1) := by decide +kernel
theorem dX4_readsAll_2 : decode cX4_readsAll 2 = .ok (.aload_n 0, 1) := by decide +kernel
theorem dX4_readsAll_3 : decode cX4_readsAll 3 = .ok (.iconst 0, 1) := by decide +kernel
theorem dX4_readsAll_4 : decode cX4_readsAll 4 = .ok (.putfield 126, 3) := by decide +kernel
theorem dX4_readsAll_7 : decode cX4_readsAll 7 = .ok (.aload_n 0, 1) := by decide +kernel
theorem dX4_readsAll_8 : decode cX4_readsAll 8 = .ok (.getfield 126, 3) := by decide +kernel
theorem dX4_readsAll_11 : decode cX4_readsAll 11 = .ok (.aload_n 0, 1) := by decide +kernel
theorem dX4_readsAll_12 : decode cX4_readsAll 12 = .ok (.getfield 123, 3) := by decide +kernel
theorem dX4_readsAll_15 : decode cX4_readsAll 15 = .ok (.if_icmp .ge 118, 3) := by decide +kernel
theorem dX4_readsAll_18 : decode cX4_readsAll 18 = .ok (.aload_n 0, 1) := by decide +kernel
theorem dX4_readsAll_19 : decode cX4_readsAll 19 = .ok (.invokevirtual 129, 3) := by decide +kernel
theorem dX4_readsAll_22 : decode cX4_readsAll 22 = .ok (.istore_n 2, 1) := by decide +kernel
theorem dX4_readsAll_23 : decode cX4_readsAll 23 = .ok (.iload_n 2, 1) := by decide +kernel
theorem dX4_readsAll_24 : decode cX4_readsAll 24 = .ok (.invokestatic 138, 3) := by decide +kernel
theorem dX4_readsAll_27 : decode cX4_readsAll 27 = .ok (.ifCond .eq 23, 3) := by decide +kernel
theorem dX4_readsAll_30 : decode cX4_readsAll 30 = .ok (.aload_n 0, 1) := by decide +kernel
theorem dX4_readsAll_31 : decode cX4_readsAll 31 = .ok (.dup, 1) := by decide +kernel
theorem dX4_readsAll_32 : decode cX4_readsAll 32 = .ok (.getfield 126, 3) := by decide +kernel
theorem dX4_readsAll_35 : decode cX4_readsAll 35 = .ok (.iconst 1, 1) := by decide +kernel
theorem dX4_readsAll_36 : decode cX4_readsAll 36 = .ok (.iadd, 1) := by decide +kernel
theorem dX4_readsAll_37 : decode cX4_readsAll 37 = .ok (.putfield 126, 3) := by decide +kernel
theorem dX4_readsAll_40 : decode cX4_readsAll 40 = .ok (.aload_n 0, 1) := by decide +kernel
theorem dX4_readsAll_41 : decode cX4_readsAll 41 = .ok (.iload_n 2, 1) := by decide +kernel
theorem dX4_readsAll_42 : decode cX4_readsAll 42 = .ok (.invokevirtual 141, 3) := by decide +kernel
theorem dX4_readsAll_45 : decode cX4_readsAll 45 = .ok (.ifCond .ne 85, 3) := by decide +kernel
theorem dX4_readsAll_48 : decode cX4_readsAll 48 = .ok (.iconst 0, 1) := by decide +kernel
theorem dX4_readsAll_49 : decode cX4_readsAll 49 = .ok (.ireturn, 1) := by decide +kernel
theorem dX4_readsAll_50 : decode cX4_readsAll 50 = .ok (.iload_n 2, 1) := by decide +kernel
theorem dX4_readsAll_51 : decode cX4_readsAll 51 = .ok (.bipush 41, 2) := by decide +kernel
theorem dX4_readsAll_53 : decode cX4_readsAll 53 = .ok (.if_icmp .ne 23, 3) := by decide +kernel
theorem dX4_readsAll_56 : decode cX4_readsAll 56 = .ok (.iload_n 1, 1) := by decide +kernel
theorem dX4_readsAll_57 : decode cX4_readsAll 57 = .ok (.ifCond .le 19, 3) := by decide +kernel
theorem dX4_readsAll_60 : decode cX4_readsAll 60 = .ok (.iinc 1 (-1), 3) := by decide +kernel
theorem dX4_readsAll_63 : decode cX4_readsAll 63 = .ok (.aload_n 0, 1) := by decide +kernel
theorem dX4_readsAll_64 : decode cX4_readsAll 64 = .ok (.dup, 1) := by decide +kernel
theorem dX4_readsAll_65 : decode cX4_readsAll 65 = .ok (.getfield 126, 3) := by decide +kernel
theorem dX4_readsAll_68 : decode cX4_readsAll 68 = .ok (.iconst 1, 1) := by decide +kernel
theorem dX4_readsAll_69 : decode cX4_readsAll 69 = .ok (.iadd, 1) := by decide +kernel
theorem dX4_readsAll_70 : decode cX4_readsAll 70 = .ok (.putfield 126, 3) := by decide +kernel
theorem dX4_readsAll_73 : decode cX4_readsAll 73 = .ok (.goto 57, 3) := by decide +kernel
theorem dX4_readsAll_76 : decode cX4_readsAll 76 = .ok (.aload_n 0, 1) := by decide +kernel
theorem dX4_readsAll_77 : decode cX4_readsAll 77 = .ok (.dup, 1) := by decide +kernel
theorem dX4_readsAll_78 : decode cX4_readsAll 78 = .ok (.getfield 126, 3) := by decide +kernel
theorem dX4_readsAll_81 : decode cX4_readsAll 81 = .ok (.iload_n 2, 1) := by decide +kernel
theorem dX4_readsAll_82 : decode cX4_readsAll 82 = .ok (.bipush 50, 2) := by decide +kernel
theorem dX4_readsAll_84 : decode cX4_readsAll 84 = .ok (.bipush 57, 2) := by decide +kernel
theorem dX4_readsAll_86 : decode cX4_readsAll 86 = .ok (.invokestatic 39, 3) := by decide +kernel
theorem dX4_readsAll_89 : decode cX4_readsAll 89 = .ok (.ifCond .eq 7, 3) := by decide +kernel
theorem dX4_readsAll_92 : decode cX4_readsAll 92 = .ok (.iconst 1, 1) := by decide +kernel
theorem dX4_readsAll_93 : decode cX4_readsAll 93 = .ok (.goto 4, 3) := by decide +kernel
theorem dX4_readsAll_96 : decode cX4_readsAll 96 = .ok (.iconst 0, 1) := by decide +kernel
theorem dX4_readsAll_97 : decode cX4_readsAll 97 = .ok (.iadd, 1) := by decide +kernel
theorem dX4_readsAll_98 : decode cX4_readsAll 98 = .ok (.putfield 126, 3) := by decide +kernel
theorem dX4_readsAll_101 : decode cX4_readsAll 101 = .ok (.aload_n 0, 1) := by decide +kernel
theorem dX4_readsAll_102 : decode cX4_readsAll 102 = .ok (.invokevirtual 129, 3) := by decide +kernel
theorem dX4_readsAll_105 : decode cX4_readsAll 105 = .ok (.bipush 40, 2) := by decide +kernel
theorem dX4_readsAll_107 : decode cX4_readsAll 107 = .ok (.if_icmp .ne 8, 3) := by decide +kernel
theorem dX4_readsAll_110 : decode cX4_readsAll 110 = .ok (.iload_n 1, 1) := by decide +kernel
theorem dX4_readsAll_111 : decode cX4_readsAll 111 = .ok (.iconst 3, 1) := by decide +kernel
theorem dX4_readsAll_112 : decode cX4_readsAll 112 = .ok (.if_icmp .ne 5, 3) := by decide +kernel
theorem dX4_readsAll_115 : decode cX4_readsAll 115 = .ok (.iconst 0, 1) := by decide +kernel
theorem dX4_readsAll_116 : decode cX4_readsAll 116 = .ok (.ireturn, 1) := by decide +kernel
theorem dX4_readsAll_117 : decode cX4_readsAll 117 = .ok (.iinc 1 1, 3) := by decide +kernel
theorem dX4_readsAll_120 : decode cX4_readsAll 120 = .ok (.aload_n 0, 1) := by decide +kernel
theorem dX4_readsAll_121 : decode cX4_readsAll 121 = .ok (.dup, 1) := by decide +kernel
theorem dX4_readsAll_122 : decode cX4_readsAll 122 = .ok (.getfield 126, 3) := by decide +kernel
theorem dX4_readsAll_125 : decode cX4_readsAll 125 = .ok (.iconst 1, 1) := by decide +kernel
theorem dX4_readsAll_126 : decode cX4_readsAll 126 = .ok (.iadd, 1) := by decide +kernel
theorem dX4_readsAll_127 : decode cX4_readsAll 127 = .ok (.putfield 126, 3) := by decide +kernel
theorem dX4_readsAll_130 : decode cX4_readsAll 130 = .ok (.goto (-123), 3) := by decide +kernel
theorem dX4_readsAll_133 : decode cX4_readsAll 133 = .ok (.iload_n 1, 1) := by decide +kernel
theorem dX4_readsAll_134 : decode cX4_readsAll 134 = .ok (.ifCond .ne 7, 3) := by decide +kernel
theorem dX4_readsAll_137 : decode cX4_readsAll 137 = .ok (.iconst 1, 1) := by decide +kernel
theorem dX4_readsAll_138 : decode cX4_readsAll 138 = .ok (.goto 4, 3) := by decide +kernel
theorem dX4_readsAll_141 : decode cX4_readsAll 141 = .ok (.iconst 0, 1) := by decide +kernel
theorem dX4_readsAll_142 : decode cX4_readsAll 142 = .ok (.ireturn, 1) := by decide +kernel
set_option maxRecDepth 20000 in
theorem ggX4_does_X4_read : GoodIn wsX4_does wsX4_read := goodIn_r _ [6, 7, 8, 5, 9, 10, 11, 12, 13, 14, 15, 16, 17, 18, 19, 20, 21, 22, 23, 24, 25, 26, 27, 28, 29, 30, 31, 32, 33, 34, 35, 36, 99, 100, 101, 102, 103, 104, 105, 106, 107, 108, 109] (by decide +kernel) (by decide +kernel)
set_option maxRecDepth 20000 in
theorem gX4_does_X4_read : GoodIn wsX4_does (wsV RX4 144 RX4 yX4_read wsX4_read) := goodIn_app (goodIn_of _ (by decide +kernel)) ggX4_does_X4_read
set_option maxRecDepth 20000 in
theorem ggX4_does_X4_write : GoodIn wsX4_does wsX4_write := goodIn_r _ [40, 7, 8, 5, 9, 10, 11, 12, 13, 14, 15, 16, 17, 18, 19, 20, 21, 22, 23, 24, 25, 26, 27, 28, 29, 30, 31, 32, 33, 34, 35, 36, 99, 100, 101, 102, 103, 104, 105, 106, 107, 108, 109] (by decide +kernel) (by decide +kernel)
set_option maxRecDepth 20000 in
theorem gX4_does_X4_write : GoodIn wsX4_does (wsV RX4 147 RX4 yX4_write wsX4_write) := goodIn_app (goodIn_of _ (by decide +kernel)) ggX4_does_X4_write
set_option maxRecDepth 20000 in
theorem ggX4_does_X4_pass : GoodIn wsX4_does wsX4_pass := goodIn_r _ [44, 17, 10, 11, 5, 12, 26, 27, 28, 29, 30, 31, 32, 18, 19, 20, 21, 22, 23, 24, 25, 45, 46, 47, 48, 49, 50, 51, 52, 53, 54, 55, 56, 57, 58, 59, 60, 61, 62, 63, 64, 65, 66, 67, 68, 69, 70, 71, 72, 73, 74, 75, 76, 77, 78, 79, 80, 81, 82, 83, 33, 34, 35, 36, 84, 85, 86, 87, 88, 89, 90, 99, 100, 101, 102, 103, 104, 105, 106, 107, 108, 109] (by decide +kernel) (by decide +kernel)
end
section
set_option maxRecDepth 20000 in
theorem gX4_does_X4_pass : GoodIn wsX4_does (wsV RX4 150 RX4 yX4_pass wsX4_pass) := goodIn_app (goodIn_of _ (by decide +kernel)) ggX4_does_X4_pass
set_option maxRecDepth 20000 in
theorem ggX4_does_X4_cut : GoodIn wsX4_does wsX4_cut := goodIn_r _ [94, 26, 27, 28, 5, 29, 30, 31, 32, 17, 95, 96, 97, 98, 53, 54, 55, 56, 73, 74, 75, 76, 22, 23, 24, 25, 33, 34, 35, 36, 99, 100, 101, 102, 103, 104, 105, 106, 107, 108, 109] (by decide +kernel) (by decide +kernel)
set_option maxRecDepth 20000 in
theorem gX4_does_X4_cut : GoodIn wsX4_does (wsV RX4 153 RX4 yX4_cut wsX4_cut) := goodIn_app (goodIn_of _ (by decide +kernel)) ggX4_does_X4_cut
theorem dX4_does_0 : decode cX4_does 0 = .ok (.iload_n 1, 1) := by decide +kernel
theorem dX4_does_1 : decode cX4_does 1 = .ok (.lookupswitch 86 #[(114, 35), (116, 75), (119, 52)], 35) := by decide +kernel
theorem dX4_does_36 : decode cX4_does 36 = .ok (.aload_n 0, 1) := by decide +kernel
theorem dX4_does_37 : decode cX4_does 37 = .ok (.aload_n 0, 1) := by decide +kernel
theorem dX4_does_38 : decode cX4_does 38 = .ok (.getfield 28, 3) := by decide +kernel
theorem dX4_does_41 : decode cX4_does 41 = .ok (.iconst 0, 1) := by decide +kernel
theorem dX4_does_42 : decode cX4_does 42 = .ok (.iaload, 1) := by decide +kernel
theorem dX4_does_43 : decode cX4_does 43 = .ok (.aload_n 0, 1) := by decide +kernel
theorem dX4_does_44 : decode cX4_does 44 = .ok (.getfield 28, 3) := by decide +kernel
theorem dX4_does_47 : decode cX4_does 47 = .ok (.iconst 1, 1) := by decide +kernel
theorem dX4_does_48 : decode cX4_does 48 = .ok (.iaload, 1) := by decide +kernel
theorem dX4_does_49 : decode cX4_does 49 = .ok (.invokevirtual 144, 3) := by decide +kernel
theorem dX4_does_52 : decode cX4_does 52 = .ok (.ireturn, 1) := by decide +kernel
theorem dX4_does_53 : decode cX4_does 53 = .ok (.aload_n 0, 1) := by decide +kernel
theorem dX4_does_54 : decode cX4_does 54 = .ok (.aload_n 0, 1) := by decide +kernel
theorem dX4_does_55 : decode cX4_does 55 = .ok (.getfield 28, 3) := by decide +kernel
theorem dX4_does_58 : decode cX4_does 58 = .ok (.iconst 0, 1) := by decide +kernel
theorem dX4_does_59 : decode cX4_does 59 = .ok (.iaload, 1) := by decide +kernel
theorem dX4_does_60 : decode cX4_does 60 = .ok (.aload_n 0, 1) := by decide +kernel
theorem dX4_does_61 : decode cX4_does 61 = .ok (.getfield 28, 3) := by decide +kernel
theorem dX4_does_64 : decode cX4_does 64 = .ok (.iconst 1, 1) := by decide +kernel
theorem dX4_does_65 : decode cX4_does 65 = .ok (.iaload, 1) := by decide +kernel
theorem dX4_does_66 : decode cX4_does 66 = .ok (.aload_n 0, 1) := by decide +kernel
theorem dX4_does_67 : decode cX4_does 67 = .ok (.getfield 28, 3) := by decide +kernel
theorem dX4_does_70 : decode cX4_does 70 = .ok (.iconst 2, 1) := by decide +kernel
theorem dX4_does_71 : decode cX4_does 71 = .ok (.iaload, 1) := by decide +kernel
theorem dX4_does_72 : decode cX4_does 72 = .ok (.invokevirtual 147, 3) := by decide +kernel
theorem dX4_does_75 : decode cX4_does 75 = .ok (.ireturn, 1) := by decide +kernel
theorem dX4_does_76 : decode cX4_does 76 = .ok (.aload_n 0, 1) := by decide +kernel
theorem dX4_does_77 : decode cX4_does 77 = .ok (.aload_n 0, 1) := by decide +kernel
theorem dX4_does_78 : decode cX4_does 78 = .ok (.getfield 28, 3) := by decide +kernel
theorem dX4_does_81 : decode cX4_does 81 = .ok (.iconst 0, 1) := by decide +kernel
theorem dX4_does_82 : decode cX4_does 82 = .ok (.iaload, 1) := by decide +kernel
theorem dX4_does_83 : decode cX4_does 83 = .ok (.invokevirtual 150, 3) := by decide +kernel
theorem dX4_does_86 : decode cX4_does 86 = .ok (.ireturn, 1) := by decide +kernel
theorem dX4_does_87 : decode cX4_does 87 = .ok (.aload_n 0, 1) := by decide +kernel
theorem dX4_does_88 : decode cX4_does 88 = .ok (.invokevirtual 153, 3) := by decide +kernel
theorem dX4_does_91 : decode cX4_does 91 = .ok (.ireturn, 1) := by decide +kernel
set_option maxRecDepth 20000 in
theorem ggX4_goes_X4_here : GoodIn wsX4_goes wsX4_here := goodIn_r _ [9, 1, 2, 10, 127, 128, 129, 130, 131, 132, 133, 134, 135, 136, 137] (by decide +kernel) (by decide +kernel)
set_option maxRecDepth 20000 in
theorem gX4_goes_X4_here : GoodIn wsX4_goes (wsV RX4 129 RX4 yX4_here wsX4_here) := goodIn_app (goodIn_of _ (by decide +kernel)) ggX4_goes_X4_here
set_option maxRecDepth 20000 in
theorem ggX4_goes_X4_isLetter : GoodIn wsX4_goes wsX4_isLetter := goodIn_r _ [13] (by decide +kernel) (by decide +kernel)
set_option maxRecDepth 20000 in
theorem gX4_goes_X4_isLetter : GoodIn wsX4_goes (va_wsS RX4 138 yX4_isLetter wsX4_isLetter) := goodIn_app (goodIn_of _ (by decide +kernel)) ggX4_goes_X4_isLetter
set_option maxRecDepth 20000 in
theorem ggX4_goes_X4_readsAct : GoodIn wsX4_goes wsX4_readsAct := goodIn_r _ [17, 18, 19, 20, 8, 21, 1, 5, 6, 7, 9, 2, 10, 22, 23, 24, 25, 26, 27, 28, 29, 127, 128, 129, 130, 131, 132, 133, 134, 135, 136, 137] (by decide +kernel) (by decide +kernel)
set_option maxRecDepth 20000 in
theorem gX4_goes_X4_readsAct : GoodIn wsX4_goes (wsV RX4 141 RX4 yX4_readsAct wsX4_readsAct) := goodIn_app (goodIn_of _ (by decide +kernel)) ggX4_goes_X4_readsAct
set_option maxRecDepth 20000 in
theorem ggX4_goes_X4_does : GoodIn wsX4_goes wsX4_does := goodIn_r _ [33, 26, 34, 35, 36, 8, 37, 38, 39, 40, 27, 28, 29, 41, 42, 43, 44, 45, 46, 47, 48, 49, 50, 51, 52, 53, 54, 55, 56, 57, 58, 59, 60, 61, 62, 63, 64, 65, 66, 67, 68, 69, 70, 71, 72, 73, 74, 75, 76, 77, 78, 79, 80, 81, 82, 83, 84, 85, 86, 87, 88, 89, 90, 91, 92, 93, 94, 95, 96, 97, 98, 99, 100, 101, 102, 103, 104, 105, 106, 107, 108, 109, 110, 111, 112, 113, 114, 115, 116, 117, 118, 119, 120, 121, 122, 123, 124, 125, 126, 127, 128, 129, 130, 131, 132, 133, 134, 135, 136, 137] (by decide +kernel) (by decide +kernel)
set_option maxRecDepth 20000 in
theorem gX4_goes_X4_does : GoodIn wsX4_goes (wsV RX4 156 RX4 yX4_does wsX4_does) := goodIn_app (goodIn_of _ (by decide +kernel)) ggX4_goes_X4_does
theorem dX4_goes_0 : decode cX4_goes 0 = .ok (.iconst 0, 1) := by decide +kernel
theorem dX4_goes_1 : decode cX4_goes 1 = .ok (.istore_n 2, 1) := by decide +kernel
theorem dX4_goes_2 : decode cX4_goes 2 = .ok (.iconst 0, 1) := by decide +kernel
theorem dX4_goes_3 : decode cX4_goes 3 = .ok (.istore_n 3, 1) := by decide +kernel
theorem dX4_goes_4 : decode cX4_goes 4 = .ok (.aload_n 0, 1) := by decide +kernel
theorem dX4_goes_5 : decode cX4_goes 5 = .ok (.iconst 0, 1) := by decide +kernel
theorem dX4_goes_6 : decode cX4_goes 6 = .ok (.putfield 126, 3) := by decide +kernel
theorem dX4_goes_9 : decode cX4_goes 9 = .ok (.aload_n 0, 1) := by decide +kernel
theorem dX4_goes_10 : decode cX4_goes 10 = .ok (.getfield 126, 3) := by decide +kernel
theorem dX4_goes_13 : decode cX4_goes 13 = .ok (.aload_n 0, 1) := by decide +kernel
theorem dX4_goes_14 : decode cX4_goes 14 = .ok (.getfield 123, 3) := by decide +kernel
theorem dX4_goes_17 : decode cX4_goes 17 = .ok (.if_icmp .ge 219, 3) := by decide +kernel
theorem dX4_goes_20 : decode cX4_goes 20 = .ok (.aload_n 0, 1) := by decide +kernel
theorem dX4_goes_21 : decode cX4_goes 21 = .ok (.invokevirtual 129, 3) := by decide +kernel
theorem dX4_goes_24 : decode cX4_goes 24 = .ok (.istore 4, 2) := by decide +kernel
theorem dX4_goes_26 : decode cX4_goes 26 = .ok (.aload_n 0, 1) := by decide +kernel
theorem dX4_goes_27 : decode cX4_goes 27 = .ok (.getfield 126, 3) := by decide +kernel
theorem dX4_goes_30 : decode cX4_goes 30 = .ok (.istore 5, 2) := by decide +kernel
theorem dX4_goes_32 : decode cX4_goes 32 = .ok (.iload 4, 2) := by decide +kernel
theorem dX4_goes_34 : decode cX4_goes 34 = .ok (.invokestatic 138, 3) := by decide +kernel
theorem dX4_goes_37 : decode cX4_goes 37 = .ok (.ifCond .eq 52, 3) := by decide +kernel
theorem dX4_goes_40 : decode cX4_goes 40 = .ok (.aload_n 0, 1) := by decide +kernel
theorem dX4_goes_41 : decode cX4_goes 41 = .ok (.dup, 1) := by decide +kernel
theorem dX4_goes_42 : decode cX4_goes 42 = .ok (.getfield 126, 3) := by decide +kernel
theorem dX4_goes_45 : decode cX4_goes 45 = .ok (.iconst 1, 1) := by decide +kernel
theorem dX4_goes_46 : decode cX4_goes 46 = .ok (.iadd, 1) := by decide +kernel
theorem dX4_goes_47 : decode cX4_goes 47 = .ok (.putfield 126, 3) := by decide +kernel
theorem dX4_goes_50 : decode cX4_goes 50 = .ok (.aload_n 0, 1) := by decide +kernel
theorem dX4_goes_51 : decode cX4_goes 51 = .ok (.iload 4, 2) := by decide +kernel
theorem dX4_goes_53 : decode cX4_goes 53 = .ok (.invokevirtual 141, 3) := by decide +kernel
theorem dX4_goes_56 : decode cX4_goes 56 = .ok (.pop, 1) := by decide +kernel
theorem dX4_goes_57 : decode cX4_goes 57 = .ok (.iload_n 2, 1) := by decide +kernel
theorem dX4_goes_58 : decode cX4_goes 58 = .ok (.bipush 100, 2) := by decide +kernel
theorem dX4_goes_60 : decode cX4_goes 60 = .ok (.if_icmp .eq 16, 3) := by decide +kernel
theorem dX4_goes_63 : decode cX4_goes 63 = .ok (.iload_n 1, 1) := by decide +kernel
theorem dX4_goes_64 : decode cX4_goes 64 = .ok (.ifCond .eq 19, 3) := by decide +kernel
theorem dX4_goes_67 : decode cX4_goes 67 = .ok (.aload_n 0, 1) := by decide +kernel
theorem dX4_goes_68 : decode cX4_goes 68 = .ok (.iload 4, 2) := by decide +kernel
theorem dX4_goes_70 : decode cX4_goes 70 = .ok (.invokevirtual 156, 3) := by decide +kernel
theorem dX4_goes_73 : decode cX4_goes 73 = .ok (.ifCond .ge 10, 3) := by decide +kernel
theorem dX4_goes_76 : decode cX4_goes 76 = .ok (.sipush (-1000), 3) := by decide +kernel
theorem dX4_goes_79 : decode cX4_goes 79 = .ok (.iload 5, 2) := by decide +kernel
theorem dX4_goes_81 : decode cX4_goes 81 = .ok (.isub, 1) := by decide +kernel
theorem dX4_goes_82 : decode cX4_goes 82 = .ok (.ireturn, 1) := by decide +kernel
theorem dX4_goes_83 : decode cX4_goes 83 = .ok (.iinc 2 1, 3) := by decide +kernel
theorem dX4_goes_86 : decode cX4_goes 86 = .ok (.goto 147, 3) := by decide +kernel
theorem dX4_goes_89 : decode cX4_goes 89 = .ok (.iload 4, 2) := by decide +kernel
theorem dX4_goes_91 : decode cX4_goes 91 = .ok (.bipush 41, 2) := by decide +kernel
theorem dX4_goes_93 : decode cX4_goes 93 = .ok (.if_icmp .ne 84, 3) := by decide +kernel
theorem dX4_goes_96 : decode cX4_goes 96 = .ok (.aload_n 0, 1) := by decide +kernel
theorem dX4_goes_97 : decode cX4_goes 97 = .ok (.getfield 25, 3) := by decide +kernel
theorem dX4_goes_100 : decode cX4_goes 100 = .ok (.iload_n 3, 1) := by decide +kernel
theorem dX4_goes_101 : decode cX4_goes 101 = .ok (.iconst 1, 1) := by decide +kernel
theorem dX4_goes_102 : decode cX4_goes 102 = .ok (.isub, 1) := by decide +kernel
theorem dX4_goes_103 : decode cX4_goes 103 = .ok (.iaload, 1) := by decide +kernel
theorem dX4_goes_104 : decode cX4_goes 104 = .ok (.ifCond .le 7, 3) := by decide +kernel
theorem dX4_goes_107 : decode cX4_goes 107 = .ok (.iconst 1, 1) := by decide +kernel
theorem dX4_goes_108 : decode cX4_goes 108 = .ok (.goto 4, 3) := by decide +kernel
theorem dX4_goes_111 : decode cX4_goes 111 = .ok (.iconst 0, 1) := by decide +kernel
theorem dX4_goes_112 : decode cX4_goes 112 = .ok (.istore 6, 2) := by decide +kernel
theorem dX4_goes_114 : decode cX4_goes 114 = .ok (.aload_n 0, 1) := by decide +kernel
theorem dX4_goes_115 : decode cX4_goes 115 = .ok (.getfield 25, 3) := by decide +kernel
theorem dX4_goes_118 : decode cX4_goes 118 = .ok (.iload_n 3, 1) := by decide +kernel
theorem dX4_goes_119 : decode cX4_goes 119 = .ok (.iconst 1, 1) := by decide +kernel
theorem dX4_goes_120 : decode cX4_goes 120 = .ok (.isub, 1) := by decide +kernel
theorem dX4_goes_121 : decode cX4_goes 121 = .ok (.dup2, 1) := by decide +kernel
theorem dX4_goes_122 : decode cX4_goes 122 = .ok (.iaload, 1) := by decide +kernel
theorem dX4_goes_123 : decode cX4_goes 123 = .ok (.iload 6, 2) := by decide +kernel
theorem dX4_goes_125 : decode cX4_goes 125 = .ok (.ifCond .eq 7, 3) := by decide +kernel
theorem dX4_goes_128 : decode cX4_goes 128 = .ok (.iconst 1, 1) := by decide +kernel
theorem dX4_goes_129 : decode cX4_goes 129 = .ok (.goto 4, 3) := by decide +kernel
theorem dX4_goes_132 : decode cX4_goes 132 = .ok (.iconst 0, 1) := by decide +kernel
theorem dX4_goes_133 : decode cX4_goes 133 = .ok (.isub, 1) := by decide +kernel
theorem dX4_goes_134 : decode cX4_goes 134 = .ok (.iastore, 1) := by decide +kernel
theorem dX4_goes_135 : decode cX4_goes 135 = .ok (.aload_n 0, 1) := by decide +kernel
theorem dX4_goes_136 : decode cX4_goes 136 = .ok (.iload 6, 2) := by decide +kernel
theorem dX4_goes_138 : decode cX4_goes 138 = .ok (.ifCond .eq 14, 3) := by decide +kernel
theorem dX4_goes_141 : decode cX4_goes 141 = .ok (.aload_n 0, 1) := by decide +kernel
theorem dX4_goes_142 : decode cX4_goes 142 = .ok (.getfield 22, 3) := by decide +kernel
theorem dX4_goes_145 : decode cX4_goes 145 = .ok (.iload_n 3, 1) := by decide +kernel
theorem dX4_goes_146 : decode cX4_goes 146 = .ok (.iconst 1, 1) := by decide +kernel
theorem dX4_goes_147 : decode cX4_goes 147 = .ok (.isub, 1) := by decide +kernel
theorem dX4_goes_148 : decode cX4_goes 148 = .ok (.iaload, 1) := by decide +kernel
theorem dX4_goes_149 : decode cX4_goes 149 = .ok (.goto 9, 3) := by decide +kernel
theorem dX4_goes_152 : decode cX4_goes 152 = .ok (.aload_n 0, 1) := by decide +kernel
theorem dX4_goes_153 : decode cX4_goes 153 = .ok (.getfield 126, 3) := by decide +kernel
theorem dX4_goes_156 : decode cX4_goes 156 = .ok (.iconst 1, 1) := by decide +kernel
theorem dX4_goes_157 : decode cX4_goes 157 = .ok (.iadd, 1) := by decide +kernel
theorem dX4_goes_158 : decode cX4_goes 158 = .ok (.putfield 126, 3) := by decide +kernel
theorem dX4_goes_161 : decode cX4_goes 161 = .ok (.iload_n 3, 1) := by decide +kernel
theorem dX4_goes_162 : decode cX4_goes 162 = .ok (.iload 6, 2) := by decide +kernel
theorem dX4_goes_164 : decode cX4_goes 164 = .ok (.ifCond .eq 7, 3) := by decide +kernel
theorem dX4_goes_167 : decode cX4_goes 167 = .ok (.iconst 0, 1) := by decide +kernel
theorem dX4_goes_168 : decode cX4_goes 168 = .ok (.goto 4, 3) := by decide +kernel
theorem dX4_goes_171 : decode cX4_goes 171 = .ok (.iconst 1, 1) := by decide +kernel
theorem dX4_goes_172 : decode cX4_goes 172 = .ok (.isub, 1) := by decide +kernel
theorem dX4_goes_173 : decode cX4_goes 173 = .ok (.istore_n 3, 1) := by decide +kernel
theorem dX4_goes_174 : decode cX4_goes 174 = .ok (.goto 59, 3) := by decide +kernel
theorem dX4_goes_177 : decode cX4_goes 177 = .ok (.aload_n 0, 1) := by decide +kernel
theorem dX4_goes_178 : decode cX4_goes 178 = .ok (.getfield 25, 3) := by decide +kernel
theorem dX4_goes_181 : decode cX4_goes 181 = .ok (.iload_n 3, 1) := by decide +kernel
theorem dX4_goes_182 : decode cX4_goes 182 = .ok (.iload 4, 2) := by decide +kernel
theorem dX4_goes_184 : decode cX4_goes 184 = .ok (.bipush 40, 2) := by decide +kernel
theorem dX4_goes_186 : decode cX4_goes 186 = .ok (.if_icmp .ne 7, 3) := by decide +kernel
theorem dX4_goes_189 : decode cX4_goes 189 = .ok (.iconst 0, 1) := by decide +kernel
theorem dX4_goes_190 : decode cX4_goes 190 = .ok (.goto 8, 3) := by decide +kernel
theorem dX4_goes_193 : decode cX4_goes 193 = .ok (.iload 4, 2) := by decide +kernel
theorem dX4_goes_195 : decode cX4_goes 195 = .ok (.bipush 49, 2) := by decide +kernel
theorem dX4_goes_197 : decode cX4_goes 197 = .ok (.isub, 1) := by decide +kernel
theorem dX4_goes_198 : decode cX4_goes 198 = .ok (.iastore, 1) := by decide +kernel
theorem dX4_goes_199 : decode cX4_goes 199 = .ok (.aload_n 0, 1) := by decide +kernel
theorem dX4_goes_200 : decode cX4_goes 200 = .ok (.dup, 1) := by decide +kernel
theorem dX4_goes_201 : decode cX4_goes 201 = .ok (.getfield 126, 3) := by decide +kernel
theorem dX4_goes_204 : decode cX4_goes 204 = .ok (.iload 4, 2) := by decide +kernel
theorem dX4_goes_206 : decode cX4_goes 206 = .ok (.bipush 40, 2) := by decide +kernel
theorem dX4_goes_208 : decode cX4_goes 208 = .ok (.if_icmp .ne 7, 3) := by decide +kernel
theorem dX4_goes_211 : decode cX4_goes 211 = .ok (.iconst 1, 1) := by decide +kernel
theorem dX4_goes_212 : decode cX4_goes 212 = .ok (.goto 4, 3) := by decide +kernel
theorem dX4_goes_215 : decode cX4_goes 215 = .ok (.iconst 2, 1) := by decide +kernel
theorem dX4_goes_216 : decode cX4_goes 216 = .ok (.iadd, 1) := by decide +kernel
theorem dX4_goes_217 : decode cX4_goes 217 = .ok (.putfield 126, 3) := by decide +kernel
theorem dX4_goes_220 : decode cX4_goes 220 = .ok (.aload_n 0, 1) := by decide +kernel
theorem dX4_goes_221 : decode cX4_goes 221 = .ok (.getfield 22, 3) := by decide +kernel
theorem dX4_goes_224 : decode cX4_goes 224 = .ok (.iload_n 3, 1) := by decide +kernel
theorem dX4_goes_225 : decode cX4_goes 225 = .ok (.aload_n 0, 1) := by decide +kernel
theorem dX4_goes_226 : decode cX4_goes 226 = .ok (.getfield 126, 3) := by decide +kernel
theorem dX4_goes_229 : decode cX4_goes 229 = .ok (.iastore, 1) := by decide +kernel
theorem dX4_goes_230 : decode cX4_goes 230 = .ok (.iinc 3 1, 3) := by decide +kernel
theorem dX4_goes_233 : decode cX4_goes 233 = .ok (.goto (-224), 3) := by decide +kernel
theorem dX4_goes_236 : decode cX4_goes 236 = .ok (.iload_n 2, 1) := by decide +kernel
theorem dX4_goes_237 : decode cX4_goes 237 = .ok (.ireturn, 1) := by decide +kernel
set_option maxRecDepth 20000 in
theorem ggX4_run_X4_readsAll : GoodIn wsX4_run wsX4_readsAll := goodIn_r _ [9, 1, 10, 11, 12, 13, 8, 14, 15, 16, 17, 18, 19, 20, 21, 22, 23, 24, 25, 26, 27, 28, 29, 30, 31, 32, 33, 34, 144, 145, 146, 147, 148, 149, 150, 151, 152, 153, 154] (by decide +kernel) (by decide +kernel)
set_option maxRecDepth 20000 in
theorem gX4_run_X4_readsAll : GoodIn wsX4_run (wsV RX4 159 RX4 yX4_readsAll wsX4_readsAll) := goodIn_app (goodIn_of _ (by decide +kernel)) ggX4_run_X4_readsAll
set_option maxRecDepth 20000 in
theorem ggX4_run_X4_goes : GoodIn wsX4_run wsX4_goes := goodIn_r _ [38, 1, 10, 39, 40, 11, 12, 13, 8, 14, 15, 16, 17, 18, 19, 20, 21, 22, 23, 24, 25, 26, 27, 28, 29, 30, 31, 32, 33, 34, 41, 42, 43, 44, 45, 46, 47, 48, 49, 50, 51, 52, 53, 54, 55, 3, 56, 57, 58, 59, 60, 61, 62, 63, 64, 65, 66, 67, 2, 68, 69, 70, 71, 72, 73, 74, 75, 76, 77, 78, 79, 80, 81, 82, 83, 84, 85, 86, 87, 88, 89, 90, 91, 92, 93, 94, 95, 96, 97, 98, 99, 100, 101, 102, 103, 104, 105, 106, 107, 108, 109, 110, 111, 112, 113, 114, 115, 116, 117, 118, 119, 120, 121, 122, 123, 124, 125, 126, 127, 128, 129, 130, 131, 132, 133, 134, 135, 144, 145, 146, 147, 148, 149, 150, 151, 152, 153, 154] (by decide +kernel) (by decide +kernel)
set_option maxRecDepth 20000 in
theorem gX4_run_X4_goes : GoodIn wsX4_run (wsV RX4 163 RX4 yX4_goes wsX4_goes) := goodIn_app (goodIn_of _ (by decide +kernel)) ggX4_run_X4_goes
set_option maxRecDepth 20000 in
theorem ggX4_run_X4_puts : GoodIn wsX4_run wsX4_puts := goodIn_r _ [139, 4, 3, 144, 145, 146, 147, 148, 149, 150, 151, 152, 153, 154] (by decide +kernel) (by decide +kernel)
set_option maxRecDepth 20000 in
theorem gX4_run_X4_puts : GoodIn wsX4_run (wsV RX4 167 RX4 yX4_puts wsX4_puts) := goodIn_app (goodIn_of _ (by decide +kernel)) ggX4_run_X4_puts
set_option maxRecDepth 20000 in
theorem ggX4_run_X4_back : GoodIn wsX4_run wsX4_back := goodIn_r _ [143, 3, 4, 144, 145, 146, 147, 148, 149, 150, 151, 152, 153, 154] (by decide +kernel) (by decide +kernel)
set_option maxRecDepth 20000 in
theorem gX4_run_X4_back : GoodIn wsX4_run (wsV RX4 170 RX4 yX4_back wsX4_back) := goodIn_app (goodIn_of _ (by decide +kernel)) ggX4_run_X4_back
set_option maxRecDepth 20000 in
theorem ggX4_run_X4_saves : GoodIn wsX4_run wsX4_saves := goodIn_r _ [67, 2, 68, 69, 3, 144, 145, 146, 147, 148, 149, 150, 151, 152, 153, 154] (by decide +kernel) (by decide +kernel)
set_option maxRecDepth 20000 in
theorem gX4_run_X4_saves : GoodIn wsX4_run (wsV RX4 51 RX4 yX4_saves wsX4_saves) := goodIn_app (goodIn_of _ (by decide +kernel)) ggX4_run_X4_saves
theorem dX4_run_0 : decode cX4_run 0 = .ok (.aload_n 0, 1) := by decide +kernel
theorem dX4_run_1 : decode cX4_run 1 = .ok (.invokevirtual 159, 3) := by decide +kernel
theorem dX4_run_4 : decode cX4_run 4 = .ok (.ifCond .ne 12, 3) := by decide +kernel
theorem dX4_run_7 : decode cX4_run 7 = .ok (.sipush (-1000), 3) := by decide +kernel
theorem dX4_run_10 : decode cX4_run 10 = .ok (.aload_n 0, 1) := by decide +kernel
theorem dX4_run_11 : decode cX4_run 11 = .ok (.getfield 126, 3) := by decide +kernel
theorem dX4_run_14 : decode cX4_run 14 = .ok (.isub, 1) := by decide +kernel
theorem dX4_run_15 : decode cX4_run 15 = .ok (.ireturn, 1) := by decide +kernel
theorem dX4_run_16 : decode cX4_run 16 = .ok (.aload_n 0, 1) := by decide +kernel
theorem dX4_run_17 : decode cX4_run 17 = .ok (.iconst 0, 1) := by decide +kernel
theorem dX4_run_18 : decode cX4_run 18 = .ok (.invokevirtual 163, 3) := by decide +kernel
theorem dX4_run_21 : decode cX4_run 21 = .ok (.istore_n 1, 1) := by decide +kernel
theorem dX4_run_22 : decode cX4_run 22 = .ok (.iload_n 1, 1) := by decide +kernel
theorem dX4_run_23 : decode cX4_run 23 = .ok (.ifCond .ge 5, 3) := by decide +kernel
theorem dX4_run_26 : decode cX4_run 26 = .ok (.iload_n 1, 1) := by decide +kernel
theorem dX4_run_27 : decode cX4_run 27 = .ok (.ireturn, 1) := by decide +kernel
theorem dX4_run_28 : decode cX4_run 28 = .ok (.aload_n 0, 1) := by decide +kernel
theorem dX4_run_29 : decode cX4_run 29 = .ok (.invokevirtual 167, 3) := by decide +kernel
theorem dX4_run_32 : decode cX4_run 32 = .ok (.aload_n 0, 1) := by decide +kernel
theorem dX4_run_33 : decode cX4_run 33 = .ok (.iconst 1, 1) := by decide +kernel
theorem dX4_run_34 : decode cX4_run 34 = .ok (.putfield 31, 3) := by decide +kernel
theorem dX4_run_37 : decode cX4_run 37 = .ok (.aload_n 0, 1) := by decide +kernel
theorem dX4_run_38 : decode cX4_run 38 = .ok (.iconst 1, 1) := by decide +kernel
theorem dX4_run_39 : decode cX4_run 39 = .ok (.invokevirtual 163, 3) := by decide +kernel
theorem dX4_run_42 : decode cX4_run 42 = .ok (.istore_n 1, 1) := by decide +kernel
theorem dX4_run_43 : decode cX4_run 43 = .ok (.aload_n 0, 1) := by decide +kernel
theorem dX4_run_44 : decode cX4_run 44 = .ok (.iconst 0, 1) := by decide +kernel
theorem dX4_run_45 : decode cX4_run 45 = .ok (.putfield 31, 3) := by decide +kernel
theorem dX4_run_48 : decode cX4_run 48 = .ok (.iload_n 1, 1) := by decide +kernel
theorem dX4_run_49 : decode cX4_run 49 = .ok (.ifCond .ge 9, 3) := by decide +kernel
theorem dX4_run_52 : decode cX4_run 52 = .ok (.aload_n 0, 1) := by decide +kernel
theorem dX4_run_53 : decode cX4_run 53 = .ok (.invokevirtual 170, 3) := by decide +kernel
theorem dX4_run_56 : decode cX4_run 56 = .ok (.iload_n 1, 1) := by decide +kernel
theorem dX4_run_57 : decode cX4_run 57 = .ok (.ireturn, 1) := by decide +kernel
theorem dX4_run_58 : decode cX4_run 58 = .ok (.iconst 0, 1) := by decide +kernel
theorem dX4_run_59 : decode cX4_run 59 = .ok (.istore_n 2, 1) := by decide +kernel
theorem dX4_run_60 : decode cX4_run 60 = .ok (.iload_n 2, 1) := by decide +kernel
theorem dX4_run_61 : decode cX4_run 61 = .ok (.sipush 965, 3) := by decide +kernel
theorem dX4_run_64 : decode cX4_run 64 = .ok (.if_icmp .ge 35, 3) := by decide +kernel
theorem dX4_run_67 : decode cX4_run 67 = .ok (.aload_n 0, 1) := by decide +kernel
theorem dX4_run_68 : decode cX4_run 68 = .ok (.getfield 7, 3) := by decide +kernel
theorem dX4_run_71 : decode cX4_run 71 = .ok (.iload_n 2, 1) := by decide +kernel
theorem dX4_run_72 : decode cX4_run 72 = .ok (.iaload, 1) := by decide +kernel
theorem dX4_run_73 : decode cX4_run 73 = .ok (.istore_n 3, 1) := by decide +kernel
theorem dX4_run_74 : decode cX4_run 74 = .ok (.aload_n 0, 1) := by decide +kernel
theorem dX4_run_75 : decode cX4_run 75 = .ok (.getfield 7, 3) := by decide +kernel
theorem dX4_run_78 : decode cX4_run 78 = .ok (.iload_n 2, 1) := by decide +kernel
theorem dX4_run_79 : decode cX4_run 79 = .ok (.aload_n 0, 1) := by decide +kernel
theorem dX4_run_80 : decode cX4_run 80 = .ok (.getfield 16, 3) := by decide +kernel
theorem dX4_run_83 : decode cX4_run 83 = .ok (.iload_n 2, 1) := by decide +kernel
theorem dX4_run_84 : decode cX4_run 84 = .ok (.iaload, 1) := by decide +kernel
theorem dX4_run_85 : decode cX4_run 85 = .ok (.iastore, 1) := by decide +kernel
theorem dX4_run_86 : decode cX4_run 86 = .ok (.aload_n 0, 1) := by decide +kernel
theorem dX4_run_87 : decode cX4_run 87 = .ok (.getfield 16, 3) := by decide +kernel
theorem dX4_run_90 : decode cX4_run 90 = .ok (.iload_n 2, 1) := by decide +kernel
theorem dX4_run_91 : decode cX4_run 91 = .ok (.iload_n 3, 1) := by decide +kernel
theorem dX4_run_92 : decode cX4_run 92 = .ok (.iastore, 1) := by decide +kernel
theorem dX4_run_93 : decode cX4_run 93 = .ok (.iinc 2 1, 3) := by decide +kernel
theorem dX4_run_96 : decode cX4_run 96 = .ok (.goto (-36), 3) := by decide +kernel
theorem dX4_run_99 : decode cX4_run 99 = .ok (.aload_n 0, 1) := by decide +kernel
theorem dX4_run_100 : decode cX4_run 100 = .ok (.invokevirtual 51, 3) := by decide +kernel
theorem dX4_run_103 : decode cX4_run 103 = .ok (.aload_n 0, 1) := by decide +kernel
theorem dX4_run_104 : decode cX4_run 104 = .ok (.invokevirtual 170, 3) := by decide +kernel
theorem dX4_run_107 : decode cX4_run 107 = .ok (.iload_n 1, 1) := by decide +kernel
theorem dX4_run_108 : decode cX4_run 108 = .ok (.ireturn, 1) := by decide +kernel
set_option maxRecDepth 20000 in
theorem ggX4_unlike_X4_of : GoodIn wsX4_unlike wsX4_of := goodIn_r _ [5, 6, 7, 8, 9, 10, 11, 12, 13, 14, 15, 16, 17] (by decide +kernel) (by decide +kernel)
set_option maxRecDepth 20000 in
theorem gX4_unlike_X4_of : GoodIn wsX4_unlike (wsV RX4 66 RX4 yX4_of wsX4_of) := goodIn_app (goodIn_of _ (by decide +kernel)) ggX4_unlike_X4_of
theorem dX4_unlike_0 : decode cX4_unlike 0 = .ok (.iconst 0, 1) := by decide +kernel
theorem dX4_unlike_1 : decode cX4_unlike 1 = .ok (.istore_n 1, 1) := by decide +kernel
theorem dX4_unlike_2 : decode cX4_unlike 2 = .ok (.iconst 0, 1) := by decide +kernel
theorem dX4_unlike_3 : decode cX4_unlike 3 = .ok (.istore_n 2, 1) := by decide +kernel
theorem dX4_unlike_4 : decode cX4_unlike 4 = .ok (.iload_n 2, 1) := by decide +kernel
theorem dX4_unlike_5 : decode cX4_unlike 5 = .ok (.bipush 48, 2) := by decide +kernel
theorem dX4_unlike_7 : decode cX4_unlike 7 = .ok (.if_icmp .ge 51, 3) := by decide +kernel
theorem dX4_unlike_10 : decode cX4_unlike 10 = .ok (.iload_n 1, 1) := by decide +kernel
theorem dX4_unlike_11 : decode cX4_unlike 11 = .ok (.aload_n 0, 1) := by decide +kernel
theorem dX4_unlike_12 : decode cX4_unlike 12 = .ok (.iconst 0, 1) := by decide +kernel
theorem dX4_unlike_13 : decode cX4_unlike 13 = .ok (.iload_n 2, 1) := by decide +kernel
theorem dX4_unlike_14 : decode cX4_unlike 14 = .ok (.iconst 0, 1) := by decide +kernel
theorem dX4_unlike_15 : decode cX4_unlike 15 = .ok (.invokevirtual 66, 3) := by decide +kernel
theorem dX4_unlike_18 : decode cX4_unlike 18 = .ok (.aload_n 0, 1) := by decide +kernel
theorem dX4_unlike_19 : decode cX4_unlike 19 = .ok (.iconst 1, 1) := by decide +kernel
theorem dX4_unlike_20 : decode cX4_unlike 20 = .ok (.iload_n 2, 1) := by decide +kernel
theorem dX4_unlike_21 : decode cX4_unlike 21 = .ok (.iconst 0, 1) := by decide +kernel
theorem dX4_unlike_22 : decode cX4_unlike 22 = .ok (.invokevirtual 66, 3) := by decide +kernel
theorem dX4_unlike_25 : decode cX4_unlike 25 = .ok (.if_icmp .ne 20, 3) := by decide +kernel
theorem dX4_unlike_28 : decode cX4_unlike 28 = .ok (.aload_n 0, 1) := by decide +kernel
theorem dX4_unlike_29 : decode cX4_unlike 29 = .ok (.iconst 0, 1) := by decide +kernel
theorem dX4_unlike_30 : decode cX4_unlike 30 = .ok (.iload_n 2, 1) := by decide +kernel
theorem dX4_unlike_31 : decode cX4_unlike 31 = .ok (.iconst 1, 1) := by decide +kernel
theorem dX4_unlike_32 : decode cX4_unlike 32 = .ok (.invokevirtual 66, 3) := by decide +kernel
theorem dX4_unlike_35 : decode cX4_unlike 35 = .ok (.aload_n 0, 1) := by decide +kernel
theorem dX4_unlike_36 : decode cX4_unlike 36 = .ok (.iconst 1, 1) := by decide +kernel
theorem dX4_unlike_37 : decode cX4_unlike 37 = .ok (.iload_n 2, 1) := by decide +kernel
theorem dX4_unlike_38 : decode cX4_unlike 38 = .ok (.iconst 1, 1) := by decide +kernel
theorem dX4_unlike_39 : decode cX4_unlike 39 = .ok (.invokevirtual 66, 3) := by decide +kernel
theorem dX4_unlike_42 : decode cX4_unlike 42 = .ok (.if_icmp .eq 7, 3) := by decide +kernel
theorem dX4_unlike_45 : decode cX4_unlike 45 = .ok (.iconst 1, 1) := by decide +kernel
theorem dX4_unlike_46 : decode cX4_unlike 46 = .ok (.goto 4, 3) := by decide +kernel
theorem dX4_unlike_49 : decode cX4_unlike 49 = .ok (.iconst 0, 1) := by decide +kernel
theorem dX4_unlike_50 : decode cX4_unlike 50 = .ok (.iadd, 1) := by decide +kernel
theorem dX4_unlike_51 : decode cX4_unlike 51 = .ok (.istore_n 1, 1) := by decide +kernel
theorem dX4_unlike_52 : decode cX4_unlike 52 = .ok (.iinc 2 1, 3) := by decide +kernel
theorem dX4_unlike_55 : decode cX4_unlike 55 = .ok (.goto (-51), 3) := by decide +kernel
theorem dX4_unlike_58 : decode cX4_unlike 58 = .ok (.iload_n 1, 1) := by decide +kernel
theorem dX4_unlike_59 : decode cX4_unlike 59 = .ok (.ireturn, 1) := by decide +kernel
set_option maxRecDepth 20000 in
theorem ggX4_count_X4_sectorUnder : GoodIn wsX4_count wsX4_sectorUnder := goodIn_r _ [8, 1, 29, 30, 31, 32, 33, 34, 35, 36, 37, 38, 39] (by decide +kernel) (by decide +kernel)
set_option maxRecDepth 20000 in
theorem gX4_count_X4_sectorUnder : GoodIn wsX4_count (wsV RX4 81 RX4 yX4_sectorUnder wsX4_sectorUnder) := goodIn_app (goodIn_of _ (by decide +kernel)) ggX4_count_X4_sectorUnder
set_option maxRecDepth 20000 in
theorem ggX4_count_X4_inState : GoodIn wsX4_count wsX4_inState := goodIn_r _ [12, 1, 13, 14, 15, 7, 16, 29, 30, 31, 32, 33, 34, 35, 36, 37, 38, 39] (by decide +kernel) (by decide +kernel)
set_option maxRecDepth 20000 in
theorem gX4_count_X4_inState : GoodIn wsX4_count (wsV RX4 47 RX4 yX4_inState wsX4_inState) := goodIn_app (goodIn_of _ (by decide +kernel)) ggX4_count_X4_inState
set_option maxRecDepth 20000 in
theorem ggX4_count_X4_copiesThat : GoodIn wsX4_count wsX4_copiesThat := goodIn_r _ [20, 21, 22, 23, 7, 24, 1, 29, 30, 31, 32, 33, 34, 35, 36, 37, 38, 39] (by decide +kernel) (by decide +kernel)
set_option maxRecDepth 20000 in
theorem gX4_count_X4_copiesThat : GoodIn wsX4_count (wsV RX4 117 RX4 yX4_copiesThat wsX4_copiesThat) := goodIn_app (goodIn_of _ (by decide +kernel)) ggX4_count_X4_copiesThat
set_option maxRecDepth 20000 in
theorem ggX4_count_X4_unlike : GoodIn wsX4_count wsX4_unlike := goodIn_r _ [28, 21, 22, 23, 7, 24, 1, 29, 30, 31, 32, 33, 34, 35, 36, 37, 38, 39] (by decide +kernel) (by decide +kernel)
set_option maxRecDepth 20000 in
theorem gX4_count_X4_unlike : GoodIn wsX4_count (wsV RX4 173 RX4 yX4_unlike wsX4_unlike) := goodIn_app (goodIn_of _ (by decide +kernel)) ggX4_count_X4_unlike
theorem dX4_count_0 : decode cX4_count 0 = .ok (.iload_n 1, 1) := by decide +kernel
theorem dX4_count_1 : decode cX4_count 1 = .ok (.tableswitch 153 0 14 #[75, 82, 89, 89, 97, 104, 104, 104, 112, 118, 124, 129, 136, 143, 148], 75) := by decide +kernel
theorem dX4_count_76 : decode cX4_count 76 = .ok (.aload_n 0, 1) := by decide +kernel
theorem dX4_count_77 : decode cX4_count 77 = .ok (.getfield 7, 3) := by decide +kernel
theorem dX4_count_80 : decode cX4_count 80 = .ok (.iconst 0, 1) := by decide +kernel
theorem dX4_count_81 : decode cX4_count 81 = .ok (.iaload, 1) := by decide +kernel
theorem dX4_count_82 : decode cX4_count 82 = .ok (.ireturn, 1) := by decide +kernel
theorem dX4_count_83 : decode cX4_count 83 = .ok (.aload_n 0, 1) := by decide +kernel
theorem dX4_count_84 : decode cX4_count 84 = .ok (.getfield 7, 3) := by decide +kernel
theorem dX4_count_87 : decode cX4_count 87 = .ok (.iconst 1, 1) := by decide +kernel
theorem dX4_count_88 : decode cX4_count 88 = .ok (.iaload, 1) := by decide +kernel
theorem dX4_count_89 : decode cX4_count 89 = .ok (.ireturn, 1) := by decide +kernel
theorem dX4_count_90 : decode cX4_count 90 = .ok (.aload_n 0, 1) := by decide +kernel
theorem dX4_count_91 : decode cX4_count 91 = .ok (.iload_n 1, 1) := by decide +kernel
theorem dX4_count_92 : decode cX4_count 92 = .ok (.iconst 2, 1) := by decide +kernel
theorem dX4_count_93 : decode cX4_count 93 = .ok (.isub, 1) := by decide +kernel
theorem dX4_count_94 : decode cX4_count 94 = .ok (.invokevirtual 81, 3) := by decide +kernel
theorem dX4_count_97 : decode cX4_count 97 = .ok (.ireturn, 1) := by decide +kernel
theorem dX4_count_98 : decode cX4_count 98 = .ok (.aload_n 0, 1) := by decide +kernel
theorem dX4_count_99 : decode cX4_count 99 = .ok (.getfield 7, 3) := by decide +kernel
theorem dX4_count_102 : decode cX4_count 102 = .ok (.iconst 2, 1) := by decide +kernel
theorem dX4_count_103 : decode cX4_count 103 = .ok (.iaload, 1) := by decide +kernel
theorem dX4_count_104 : decode cX4_count 104 = .ok (.ireturn, 1) := by decide +kernel
theorem dX4_count_105 : decode cX4_count 105 = .ok (.aload_n 0, 1) := by decide +kernel
theorem dX4_count_106 : decode cX4_count 106 = .ok (.iload_n 1, 1) := by decide +kernel
theorem dX4_count_107 : decode cX4_count 107 = .ok (.iconst 5, 1) := by decide +kernel
theorem dX4_count_108 : decode cX4_count 108 = .ok (.isub, 1) := by decide +kernel
theorem dX4_count_109 : decode cX4_count 109 = .ok (.invokevirtual 47, 3) := by decide +kernel
theorem dX4_count_112 : decode cX4_count 112 = .ok (.ireturn, 1) := by decide +kernel
theorem dX4_count_113 : decode cX4_count 113 = .ok (.aload_n 0, 1) := by decide +kernel
theorem dX4_count_114 : decode cX4_count 114 = .ok (.iconst 3, 1) := by decide +kernel
theorem dX4_count_115 : decode cX4_count 115 = .ok (.invokevirtual 117, 3) := by decide +kernel
theorem dX4_count_118 : decode cX4_count 118 = .ok (.ireturn, 1) := by decide +kernel
theorem dX4_count_119 : decode cX4_count 119 = .ok (.aload_n 0, 1) := by decide +kernel
theorem dX4_count_120 : decode cX4_count 120 = .ok (.iconst 2, 1) := by decide +kernel
theorem dX4_count_121 : decode cX4_count 121 = .ok (.invokevirtual 117, 3) := by decide +kernel
theorem dX4_count_124 : decode cX4_count 124 = .ok (.ireturn, 1) := by decide +kernel
theorem dX4_count_125 : decode cX4_count 125 = .ok (.aload_n 0, 1) := by decide +kernel
theorem dX4_count_126 : decode cX4_count 126 = .ok (.invokevirtual 173, 3) := by decide +kernel
theorem dX4_count_129 : decode cX4_count 129 = .ok (.ireturn, 1) := by decide +kernel
theorem dX4_count_130 : decode cX4_count 130 = .ok (.aload_n 0, 1) := by decide +kernel
theorem dX4_count_131 : decode cX4_count 131 = .ok (.getfield 7, 3) := by decide +kernel
theorem dX4_count_134 : decode cX4_count 134 = .ok (.iconst 3, 1) := by decide +kernel
theorem dX4_count_135 : decode cX4_count 135 = .ok (.iaload, 1) := by decide +kernel
theorem dX4_count_136 : decode cX4_count 136 = .ok (.ireturn, 1) := by decide +kernel
theorem dX4_count_137 : decode cX4_count 137 = .ok (.aload_n 0, 1) := by decide +kernel
theorem dX4_count_138 : decode cX4_count 138 = .ok (.getfield 7, 3) := by decide +kernel
theorem dX4_count_141 : decode cX4_count 141 = .ok (.iconst 4, 1) := by decide +kernel
theorem dX4_count_142 : decode cX4_count 142 = .ok (.iaload, 1) := by decide +kernel
theorem dX4_count_143 : decode cX4_count 143 = .ok (.ireturn, 1) := by decide +kernel
theorem dX4_count_144 : decode cX4_count 144 = .ok (.aload_n 0, 1) := by decide +kernel
theorem dX4_count_145 : decode cX4_count 145 = .ok (.getfield 35, 3) := by decide +kernel
theorem dX4_count_148 : decode cX4_count 148 = .ok (.ireturn, 1) := by decide +kernel
theorem dX4_count_149 : decode cX4_count 149 = .ok (.aload_n 0, 1) := by decide +kernel
theorem dX4_count_150 : decode cX4_count 150 = .ok (.getfield 123, 3) := by decide +kernel
theorem dX4_count_153 : decode cX4_count 153 = .ok (.ireturn, 1) := by decide +kernel
theorem dX4_count_154 : decode cX4_count 154 = .ok (.iconst (-1), 1) := by decide +kernel
theorem dX4_count_155 : decode cX4_count 155 = .ok (.ireturn, 1) := by decide +kernel
set_option maxRecDepth 20000 in
theorem ggX4_copy_X4_within : GoodIn wsX4_copy wsX4_within := goodIn_r _ [4] (by decide +kernel) (by decide +kernel)
set_option maxRecDepth 20000 in
theorem gX4_copy_X4_within : GoodIn wsX4_copy (va_wsS RX4 39 yX4_within wsX4_within) := goodIn_app (goodIn_of _ (by decide +kernel)) ggX4_copy_X4_within
set_option maxRecDepth 20000 in
theorem ggX4_copy_X4_isBlock : GoodIn wsX4_copy wsX4_isBlock := goodIn_r _ [7, 1, 2, 3, 4] (by decide +kernel) (by decide +kernel)
set_option maxRecDepth 20000 in
theorem gX4_copy_X4_isBlock : GoodIn wsX4_copy (va_wsS RX4 58 yX4_isBlock wsX4_isBlock) := goodIn_app (goodIn_of _ (by decide +kernel)) ggX4_copy_X4_isBlock
set_option maxRecDepth 20000 in
theorem ggX4_copy_X4_of : GoodIn wsX4_copy wsX4_of := goodIn_r _ [11, 12, 13, 14, 15, 16, 17, 18, 19, 20, 21, 22, 23] (by decide +kernel) (by decide +kernel)
set_option maxRecDepth 20000 in
theorem gX4_copy_X4_of : GoodIn wsX4_copy (wsV RX4 66 RX4 yX4_of wsX4_of) := goodIn_app (goodIn_of _ (by decide +kernel)) ggX4_copy_X4_of
theorem dX4_copy_0 : decode cX4_copy 0 = .ok (.iload_n 1, 1) := by decide +kernel
theorem dX4_copy_1 : decode cX4_copy 1 = .ok (.iconst 0, 1) := by decide +kernel
theorem dX4_copy_2 : decode cX4_copy 2 = .ok (.iconst 1, 1) := by decide +kernel
theorem dX4_copy_3 : decode cX4_copy 3 = .ok (.invokestatic 39, 3) := by decide +kernel
theorem dX4_copy_6 : decode cX4_copy 6 = .ok (.ifCond .eq 21, 3) := by decide +kernel
theorem dX4_copy_9 : decode cX4_copy 9 = .ok (.iload_n 2, 1) := by decide +kernel
theorem dX4_copy_10 : decode cX4_copy 10 = .ok (.iload_n 3, 1) := by decide +kernel
theorem dX4_copy_11 : decode cX4_copy 11 = .ok (.invokestatic 58, 3) := by decide +kernel
theorem dX4_copy_14 : decode cX4_copy 14 = .ok (.ifCond .eq 13, 3) := by decide +kernel
theorem dX4_copy_17 : decode cX4_copy 17 = .ok (.iload 4, 2) := by decide +kernel
theorem dX4_copy_19 : decode cX4_copy 19 = .ok (.iconst 0, 1) := by decide +kernel
theorem dX4_copy_20 : decode cX4_copy 20 = .ok (.iconst 3, 1) := by decide +kernel
theorem dX4_copy_21 : decode cX4_copy 21 = .ok (.invokestatic 39, 3) := by decide +kernel
theorem dX4_copy_24 : decode cX4_copy 24 = .ok (.ifCond .ne 5, 3) := by decide +kernel
theorem dX4_copy_27 : decode cX4_copy 27 = .ok (.iconst (-1), 1) := by decide +kernel
theorem dX4_copy_28 : decode cX4_copy 28 = .ok (.ireturn, 1) := by decide +kernel
theorem dX4_copy_29 : decode cX4_copy 29 = .ok (.aload_n 0, 1) := by decide +kernel
theorem dX4_copy_30 : decode cX4_copy 30 = .ok (.iload_n 1, 1) := by decide +kernel
theorem dX4_copy_31 : decode cX4_copy 31 = .ok (.bipush 12, 2) := by decide +kernel
theorem dX4_copy_33 : decode cX4_copy 33 = .ok (.iload_n 2, 1) := by decide +kernel
theorem dX4_copy_34 : decode cX4_copy 34 = .ok (.imul, 1) := by decide +kernel
theorem dX4_copy_35 : decode cX4_copy 35 = .ok (.iload_n 3, 1) := by decide +kernel
theorem dX4_copy_36 : decode cX4_copy 36 = .ok (.iadd, 1) := by decide +kernel
theorem dX4_copy_37 : decode cX4_copy 37 = .ok (.iload 4, 2) := by decide +kernel
theorem dX4_copy_39 : decode cX4_copy 39 = .ok (.invokevirtual 66, 3) := by decide +kernel
theorem dX4_copy_42 : decode cX4_copy 42 = .ok (.ireturn, 1) := by decide +kernel
set_option maxRecDepth 20000 in
theorem ggX4_isOrder_X4_within : GoodIn wsX4_isOrder wsX4_within := goodIn_r _ [5] (by decide +kernel) (by decide +kernel)
set_option maxRecDepth 20000 in
theorem gX4_isOrder_X4_within : GoodIn wsX4_isOrder (va_wsS RX4 39 yX4_within wsX4_within) := goodIn_app (goodIn_of _ (by decide +kernel)) ggX4_isOrder_X4_within
theorem dX4_isOrder_0 : decode cX4_isOrder 0 = .ok (.iload_n 1, 1) := by decide +kernel
theorem dX4_isOrder_1 : decode cX4_isOrder 1 = .ok (.iconst 0, 1) := by decide +kernel
theorem dX4_isOrder_2 : decode cX4_isOrder 2 = .ok (.aload_n 0, 1) := by decide +kernel
theorem dX4_isOrder_3 : decode cX4_isOrder 3 = .ok (.getfield 7, 3) := by decide +kernel
theorem dX4_isOrder_6 : decode cX4_isOrder 6 = .ok (.iconst 2, 1) := by decide +kernel
theorem dX4_isOrder_7 : decode cX4_isOrder 7 = .ok (.iaload, 1) := by decide +kernel
theorem dX4_isOrder_8 : decode cX4_isOrder 8 = .ok (.iconst 1, 1) := by decide +kernel
theorem dX4_isOrder_9 : decode cX4_isOrder 9 = .ok (.isub, 1) := by decide +kernel
theorem dX4_isOrder_10 : decode cX4_isOrder 10 = .ok (.invokestatic 39, 3) := by decide +kernel
theorem dX4_isOrder_13 : decode cX4_isOrder 13 = .ok (.ireturn, 1) := by decide +kernel
set_option maxRecDepth 20000 in
theorem ggX4_order_X4_isOrder : GoodIn wsX4_order wsX4_isOrder := goodIn_r _ [5, 6, 7, 8, 4, 9, 14, 15, 16, 17, 18, 19, 20, 21, 22, 23, 24] (by decide +kernel) (by decide +kernel)
set_option maxRecDepth 20000 in
theorem gX4_order_X4_isOrder : GoodIn wsX4_order (wsV RX4 176 RX4 yX4_isOrder wsX4_isOrder) := goodIn_app (goodIn_of _ (by decide +kernel)) ggX4_order_X4_isOrder
set_option maxRecDepth 20000 in
theorem ggX4_order_X4_within : GoodIn wsX4_order wsX4_within := goodIn_r _ [9] (by decide +kernel) (by decide +kernel)
set_option maxRecDepth 20000 in
theorem gX4_order_X4_within : GoodIn wsX4_order (va_wsS RX4 39 yX4_within wsX4_within) := goodIn_app (goodIn_of _ (by decide +kernel)) ggX4_order_X4_within
set_option maxRecDepth 20000 in
theorem ggX4_order_X4_told : GoodIn wsX4_order wsX4_told := goodIn_r _ [13, 6, 14, 15, 16, 17, 18, 19, 20, 21, 22, 23, 24] (by decide +kernel) (by decide +kernel)
set_option maxRecDepth 20000 in
theorem gX4_order_X4_told : GoodIn wsX4_order (wsV RX4 43 RX4 yX4_told wsX4_told) := goodIn_app (goodIn_of _ (by decide +kernel)) ggX4_order_X4_told
theorem dX4_order_0 : decode cX4_order 0 = .ok (.aload_n 0, 1) := by decide +kernel
theorem dX4_order_1 : decode cX4_order 1 = .ok (.iload_n 1, 1) := by decide +kernel
theorem dX4_order_2 : decode cX4_order 2 = .ok (.invokevirtual 176, 3) := by decide +kernel
theorem dX4_order_5 : decode cX4_order 5 = .ok (.ifCond .eq 22, 3) := by decide +kernel
theorem dX4_order_8 : decode cX4_order 8 = .ok (.iload_n 2, 1) := by decide +kernel
theorem dX4_order_9 : decode cX4_order 9 = .ok (.iconst 0, 1) := by decide +kernel
theorem dX4_order_10 : decode cX4_order 10 = .ok (.bipush 7, 2) := by decide +kernel
theorem dX4_order_12 : decode cX4_order 12 = .ok (.invokestatic 39, 3) := by decide +kernel
theorem dX4_order_15 : decode cX4_order 15 = .ok (.ifCond .eq 12, 3) := by decide +kernel
theorem dX4_order_18 : decode cX4_order 18 = .ok (.aload_n 0, 1) := by decide +kernel
theorem dX4_order_19 : decode cX4_order 19 = .ok (.iload_n 1, 1) := by decide +kernel
theorem dX4_order_20 : decode cX4_order 20 = .ok (.iload_n 2, 1) := by decide +kernel
theorem dX4_order_21 : decode cX4_order 21 = .ok (.invokevirtual 43, 3) := by decide +kernel
theorem dX4_order_24 : decode cX4_order 24 = .ok (.goto 4, 3) := by decide +kernel
theorem dX4_order_27 : decode cX4_order 27 = .ok (.iconst (-1), 1) := by decide +kernel
theorem dX4_order_28 : decode cX4_order 28 = .ok (.ireturn, 1) := by decide +kernel
set_option maxRecDepth 20000 in
theorem ggX4_waitOf_X4_told : GoodIn wsX4_waitOf wsX4_told := goodIn_r _ [5, 6, 7, 8, 9, 10, 11, 12, 13, 14, 15, 16, 17] (by decide +kernel) (by decide +kernel)
set_option maxRecDepth 20000 in
theorem gX4_waitOf_X4_told : GoodIn wsX4_waitOf (wsV RX4 43 RX4 yX4_told wsX4_told) := goodIn_app (goodIn_of _ (by decide +kernel)) ggX4_waitOf_X4_told
theorem dX4_waitOf_0 : decode cX4_waitOf 0 = .ok (.aload_n 0, 1) := by decide +kernel
theorem dX4_waitOf_1 : decode cX4_waitOf 1 = .ok (.iload_n 1, 1) := by decide +kernel
theorem dX4_waitOf_2 : decode cX4_waitOf 2 = .ok (.iconst 5, 1) := by decide +kernel
theorem dX4_waitOf_3 : decode cX4_waitOf 3 = .ok (.invokevirtual 43, 3) := by decide +kernel
theorem dX4_waitOf_6 : decode cX4_waitOf 6 = .ok (.aload_n 0, 1) := by decide +kernel
theorem dX4_waitOf_7 : decode cX4_waitOf 7 = .ok (.iload_n 1, 1) := by decide +kernel
theorem dX4_waitOf_8 : decode cX4_waitOf 8 = .ok (.iconst 4, 1) := by decide +kernel
theorem dX4_waitOf_9 : decode cX4_waitOf 9 = .ok (.invokevirtual 43, 3) := by decide +kernel
theorem dX4_waitOf_12 : decode cX4_waitOf 12 = .ok (.isub, 1) := by decide +kernel
theorem dX4_waitOf_13 : decode cX4_waitOf 13 = .ok (.ireturn, 1) := by decide +kernel
set_option maxRecDepth 20000 in
theorem ggX4_waits_X4_within : GoodIn wsX4_waits wsX4_within := goodIn_r _ [5] (by decide +kernel) (by decide +kernel)
set_option maxRecDepth 20000 in
theorem gX4_waits_X4_within : GoodIn wsX4_waits (va_wsS RX4 39 yX4_within wsX4_within) := goodIn_app (goodIn_of _ (by decide +kernel)) ggX4_waits_X4_within
set_option maxRecDepth 20000 in
theorem ggX4_waits_X4_told : GoodIn wsX4_waits wsX4_told := goodIn_r _ [9, 1, 14, 15, 16, 17, 18, 19, 20, 21, 22, 23, 24] (by decide +kernel) (by decide +kernel)
set_option maxRecDepth 20000 in
theorem gX4_waits_X4_told : GoodIn wsX4_waits (wsV RX4 43 RX4 yX4_told wsX4_told) := goodIn_app (goodIn_of _ (by decide +kernel)) ggX4_waits_X4_told
set_option maxRecDepth 20000 in
theorem ggX4_waits_X4_waitOf : GoodIn wsX4_waits wsX4_waitOf := goodIn_r _ [13, 6, 7, 8, 4, 9, 1, 14, 15, 16, 17, 18, 19, 20, 21, 22, 23, 24] (by decide +kernel) (by decide +kernel)
set_option maxRecDepth 20000 in
theorem gX4_waits_X4_waitOf : GoodIn wsX4_waits (wsV RX4 179 RX4 yX4_waitOf wsX4_waitOf) := goodIn_app (goodIn_of _ (by decide +kernel)) ggX4_waits_X4_waitOf
theorem dX4_waits_0 : decode cX4_waits 0 = .ok (.iload_n 1, 1) := by decide +kernel
theorem dX4_waits_1 : decode cX4_waits 1 = .ok (.iconst 0, 1) := by decide +kernel
theorem dX4_waits_2 : decode cX4_waits 2 = .ok (.iconst 2, 1) := by decide +kernel
theorem dX4_waits_3 : decode cX4_waits 3 = .ok (.invokestatic 39, 3) := by decide +kernel
theorem dX4_waits_6 : decode cX4_waits 6 = .ok (.ifCond .ne 5, 3) := by decide +kernel
theorem dX4_waits_9 : decode cX4_waits 9 = .ok (.iconst (-1), 1) := by decide +kernel
theorem dX4_waits_10 : decode cX4_waits 10 = .ok (.ireturn, 1) := by decide +kernel
theorem dX4_waits_11 : decode cX4_waits 11 = .ok (.iconst 0, 1) := by decide +kernel
theorem dX4_waits_12 : decode cX4_waits 12 = .ok (.istore_n 2, 1) := by decide +kernel
theorem dX4_waits_13 : decode cX4_waits 13 = .ok (.bipush (-9), 2) := by decide +kernel
theorem dX4_waits_15 : decode cX4_waits 15 = .ok (.istore_n 3, 1) := by decide +kernel
theorem dX4_waits_16 : decode cX4_waits 16 = .ok (.iconst 0, 1) := by decide +kernel
theorem dX4_waits_17 : decode cX4_waits 17 = .ok (.istore 4, 2) := by decide +kernel
theorem dX4_waits_19 : decode cX4_waits 19 = .ok (.iload 4, 2) := by decide +kernel
theorem dX4_waits_21 : decode cX4_waits 21 = .ok (.aload_n 0, 1) := by decide +kernel
theorem dX4_waits_22 : decode cX4_waits 22 = .ok (.getfield 7, 3) := by decide +kernel
theorem dX4_waits_25 : decode cX4_waits 25 = .ok (.iconst 2, 1) := by decide +kernel
theorem dX4_waits_26 : decode cX4_waits 26 = .ok (.iaload, 1) := by decide +kernel
theorem dX4_waits_27 : decode cX4_waits 27 = .ok (.if_icmp .ge 77, 3) := by decide +kernel
theorem dX4_waits_30 : decode cX4_waits 30 = .ok (.aload_n 0, 1) := by decide +kernel
theorem dX4_waits_31 : decode cX4_waits 31 = .ok (.iload 4, 2) := by decide +kernel
theorem dX4_waits_33 : decode cX4_waits 33 = .ok (.iconst 3, 1) := by decide +kernel
theorem dX4_waits_34 : decode cX4_waits 34 = .ok (.invokevirtual 43, 3) := by decide +kernel
theorem dX4_waits_37 : decode cX4_waits 37 = .ok (.iconst 1, 1) := by decide +kernel
theorem dX4_waits_38 : decode cX4_waits 38 = .ok (.if_icmp .ne 7, 3) := by decide +kernel
theorem dX4_waits_41 : decode cX4_waits 41 = .ok (.iconst 1, 1) := by decide +kernel
theorem dX4_waits_42 : decode cX4_waits 42 = .ok (.goto 4, 3) := by decide +kernel
theorem dX4_waits_45 : decode cX4_waits 45 = .ok (.iconst 0, 1) := by decide +kernel
theorem dX4_waits_46 : decode cX4_waits 46 = .ok (.istore 5, 2) := by decide +kernel
theorem dX4_waits_48 : decode cX4_waits 48 = .ok (.iload_n 2, 1) := by decide +kernel
theorem dX4_waits_49 : decode cX4_waits 49 = .ok (.iload 5, 2) := by decide +kernel
theorem dX4_waits_51 : decode cX4_waits 51 = .ok (.ifCond .eq 12, 3) := by decide +kernel
theorem dX4_waits_54 : decode cX4_waits 54 = .ok (.aload_n 0, 1) := by decide +kernel
theorem dX4_waits_55 : decode cX4_waits 55 = .ok (.iload 4, 2) := by decide +kernel
theorem dX4_waits_57 : decode cX4_waits 57 = .ok (.invokevirtual 179, 3) := by decide +kernel
theorem dX4_waits_60 : decode cX4_waits 60 = .ok (.goto 4, 3) := by decide +kernel
theorem dX4_waits_63 : decode cX4_waits 63 = .ok (.iconst 0, 1) := by decide +kernel
theorem dX4_waits_64 : decode cX4_waits 64 = .ok (.iadd, 1) := by decide +kernel
theorem dX4_waits_65 : decode cX4_waits 65 = .ok (.istore_n 2, 1) := by decide +kernel
theorem dX4_waits_66 : decode cX4_waits 66 = .ok (.iload 5, 2) := by decide +kernel
theorem dX4_waits_68 : decode cX4_waits 68 = .ok (.ifCond .eq 28, 3) := by decide +kernel
theorem dX4_waits_71 : decode cX4_waits 71 = .ok (.iload_n 3, 1) := by decide +kernel
theorem dX4_waits_72 : decode cX4_waits 72 = .ok (.bipush (-9), 2) := by decide +kernel
theorem dX4_waits_74 : decode cX4_waits 74 = .ok (.if_icmp .eq 17, 3) := by decide +kernel
theorem dX4_waits_77 : decode cX4_waits 77 = .ok (.aload_n 0, 1) := by decide +kernel
theorem dX4_waits_78 : decode cX4_waits 78 = .ok (.iload 4, 2) := by decide +kernel
theorem dX4_waits_80 : decode cX4_waits 80 = .ok (.invokevirtual 179, 3) := by decide +kernel
theorem dX4_waits_83 : decode cX4_waits 83 = .ok (.aload_n 0, 1) := by decide +kernel
theorem dX4_waits_84 : decode cX4_waits 84 = .ok (.iload_n 3, 1) := by decide +kernel
theorem dX4_waits_85 : decode cX4_waits 85 = .ok (.invokevirtual 179, 3) := by decide +kernel
theorem dX4_waits_88 : decode cX4_waits 88 = .ok (.if_icmp .le 8, 3) := by decide +kernel
theorem dX4_waits_91 : decode cX4_waits 91 = .ok (.iload 4, 2) := by decide +kernel
theorem dX4_waits_93 : decode cX4_waits 93 = .ok (.goto 4, 3) := by decide +kernel
theorem dX4_waits_96 : decode cX4_waits 96 = .ok (.iload_n 3, 1) := by decide +kernel
theorem dX4_waits_97 : decode cX4_waits 97 = .ok (.istore_n 3, 1) := by decide +kernel
theorem dX4_waits_98 : decode cX4_waits 98 = .ok (.iinc 4 1, 3) := by decide +kernel
theorem dX4_waits_101 : decode cX4_waits 101 = .ok (.goto (-82), 3) := by decide +kernel
theorem dX4_waits_104 : decode cX4_waits 104 = .ok (.iload_n 1, 1) := by decide +kernel
theorem dX4_waits_105 : decode cX4_waits 105 = .ok (.ifCond .ne 7, 3) := by decide +kernel
theorem dX4_waits_108 : decode cX4_waits 108 = .ok (.iload_n 2, 1) := by decide +kernel
theorem dX4_waits_109 : decode cX4_waits 109 = .ok (.goto 23, 3) := by decide +kernel
theorem dX4_waits_112 : decode cX4_waits 112 = .ok (.iload_n 3, 1) := by decide +kernel
theorem dX4_waits_113 : decode cX4_waits 113 = .ok (.bipush (-9), 2) := by decide +kernel
theorem dX4_waits_115 : decode cX4_waits 115 = .ok (.if_icmp .eq 8, 3) := by decide +kernel
theorem dX4_waits_118 : decode cX4_waits 118 = .ok (.iload_n 1, 1) := by decide +kernel
theorem dX4_waits_119 : decode cX4_waits 119 = .ok (.iconst 2, 1) := by decide +kernel
theorem dX4_waits_120 : decode cX4_waits 120 = .ok (.if_icmp .ne 7, 3) := by decide +kernel
theorem dX4_waits_123 : decode cX4_waits 123 = .ok (.iload_n 3, 1) := by decide +kernel
theorem dX4_waits_124 : decode cX4_waits 124 = .ok (.goto 8, 3) := by decide +kernel
theorem dX4_waits_127 : decode cX4_waits 127 = .ok (.aload_n 0, 1) := by decide +kernel
theorem dX4_waits_128 : decode cX4_waits 128 = .ok (.iload_n 3, 1) := by decide +kernel
theorem dX4_waits_129 : decode cX4_waits 129 = .ok (.invokevirtual 179, 3) := by decide +kernel
theorem dX4_waits_132 : decode cX4_waits 132 = .ok (.ireturn, 1) := by decide +kernel
set_option maxRecDepth 20000 in
theorem ggX4_ticksTo_X4_sectorUnder : GoodIn wsX4_ticksTo wsX4_sectorUnder := goodIn_r _ [5, 6, 7, 8, 9, 10, 11, 12, 13, 14, 15, 16, 17] (by decide +kernel) (by decide +kernel)
set_option maxRecDepth 20000 in
theorem gX4_ticksTo_X4_sectorUnder : GoodIn wsX4_ticksTo (wsV RX4 81 RX4 yX4_sectorUnder wsX4_sectorUnder) := goodIn_app (goodIn_of _ (by decide +kernel)) ggX4_ticksTo_X4_sectorUnder
theorem dX4_ticksTo_0 : decode cX4_ticksTo 0 = .ok (.iload_n 2, 1) := by decide +kernel
theorem dX4_ticksTo_1 : decode cX4_ticksTo 1 = .ok (.aload_n 0, 1) := by decide +kernel
theorem dX4_ticksTo_2 : decode cX4_ticksTo 2 = .ok (.iload_n 1, 1) := by decide +kernel
theorem dX4_ticksTo_3 : decode cX4_ticksTo 3 = .ok (.invokevirtual 81, 3) := by decide +kernel
theorem dX4_ticksTo_6 : decode cX4_ticksTo 6 = .ok (.isub, 1) := by decide +kernel
theorem dX4_ticksTo_7 : decode cX4_ticksTo 7 = .ok (.bipush 12, 2) := by decide +kernel
theorem dX4_ticksTo_9 : decode cX4_ticksTo 9 = .ok (.iadd, 1) := by decide +kernel
theorem dX4_ticksTo_10 : decode cX4_ticksTo 10 = .ok (.bipush 12, 2) := by decide +kernel
theorem dX4_ticksTo_12 : decode cX4_ticksTo 12 = .ok (.irem, 1) := by decide +kernel
theorem dX4_ticksTo_13 : decode cX4_ticksTo 13 = .ok (.ireturn, 1) := by decide +kernel
set_option maxRecDepth 20000 in
theorem ggX4_nearer_X4_within : GoodIn wsX4_nearer wsX4_within := goodIn_r _ [4] (by decide +kernel) (by decide +kernel)
set_option maxRecDepth 20000 in
theorem gX4_nearer_X4_within : GoodIn wsX4_nearer (va_wsS RX4 39 yX4_within wsX4_within) := goodIn_app (goodIn_of _ (by decide +kernel)) ggX4_nearer_X4_within
set_option maxRecDepth 20000 in
theorem ggX4_nearer_X4_ticksTo : GoodIn wsX4_nearer wsX4_ticksTo := goodIn_r _ [8, 9, 10, 11, 3, 12, 13, 14, 15, 16, 17, 18, 19, 20, 21, 22, 23, 24] (by decide +kernel) (by decide +kernel)
set_option maxRecDepth 20000 in
theorem gX4_nearer_X4_ticksTo : GoodIn wsX4_nearer (wsV RX4 182 RX4 yX4_ticksTo wsX4_ticksTo) := goodIn_app (goodIn_of _ (by decide +kernel)) ggX4_nearer_X4_ticksTo
theorem dX4_nearer_0 : decode cX4_nearer 0 = .ok (.iload_n 1, 1) := by decide +kernel
theorem dX4_nearer_1 : decode cX4_nearer 1 = .ok (.iconst 0, 1) := by decide +kernel
theorem dX4_nearer_2 : decode cX4_nearer 2 = .ok (.bipush 11, 2) := by decide +kernel
theorem dX4_nearer_4 : decode cX4_nearer 4 = .ok (.invokestatic 39, 3) := by decide +kernel
theorem dX4_nearer_7 : decode cX4_nearer 7 = .ok (.ifCond .eq 12, 3) := by decide +kernel
theorem dX4_nearer_10 : decode cX4_nearer 10 = .ok (.iload_n 2, 1) := by decide +kernel
theorem dX4_nearer_11 : decode cX4_nearer 11 = .ok (.iconst 0, 1) := by decide +kernel
theorem dX4_nearer_12 : decode cX4_nearer 12 = .ok (.iconst 1, 1) := by decide +kernel
theorem dX4_nearer_13 : decode cX4_nearer 13 = .ok (.invokestatic 39, 3) := by decide +kernel
theorem dX4_nearer_16 : decode cX4_nearer 16 = .ok (.ifCond .ne 5, 3) := by decide +kernel
theorem dX4_nearer_19 : decode cX4_nearer 19 = .ok (.iconst (-1), 1) := by decide +kernel
theorem dX4_nearer_20 : decode cX4_nearer 20 = .ok (.ireturn, 1) := by decide +kernel
theorem dX4_nearer_21 : decode cX4_nearer 21 = .ok (.aload_n 0, 1) := by decide +kernel
theorem dX4_nearer_22 : decode cX4_nearer 22 = .ok (.iconst 0, 1) := by decide +kernel
theorem dX4_nearer_23 : decode cX4_nearer 23 = .ok (.iload_n 1, 1) := by decide +kernel
theorem dX4_nearer_24 : decode cX4_nearer 24 = .ok (.invokevirtual 182, 3) := by decide +kernel
theorem dX4_nearer_27 : decode cX4_nearer 27 = .ok (.istore_n 3, 1) := by decide +kernel
theorem dX4_nearer_28 : decode cX4_nearer 28 = .ok (.aload_n 0, 1) := by decide +kernel
theorem dX4_nearer_29 : decode cX4_nearer 29 = .ok (.iconst 1, 1) := by decide +kernel
theorem dX4_nearer_30 : decode cX4_nearer 30 = .ok (.iload_n 1, 1) := by decide +kernel
theorem dX4_nearer_31 : decode cX4_nearer 31 = .ok (.invokevirtual 182, 3) := by decide +kernel
theorem dX4_nearer_34 : decode cX4_nearer 34 = .ok (.istore 4, 2) := by decide +kernel
theorem dX4_nearer_36 : decode cX4_nearer 36 = .ok (.iload_n 2, 1) := by decide +kernel
theorem dX4_nearer_37 : decode cX4_nearer 37 = .ok (.ifCond .ne 17, 3) := by decide +kernel
theorem dX4_nearer_40 : decode cX4_nearer 40 = .ok (.iload_n 3, 1) := by decide +kernel
theorem dX4_nearer_41 : decode cX4_nearer 41 = .ok (.iload 4, 2) := by decide +kernel
theorem dX4_nearer_43 : decode cX4_nearer 43 = .ok (.if_icmp .ge 7, 3) := by decide +kernel
theorem dX4_nearer_46 : decode cX4_nearer 46 = .ok (.iconst 0, 1) := by decide +kernel
theorem dX4_nearer_47 : decode cX4_nearer 47 = .ok (.goto 19, 3) := by decide +kernel
theorem dX4_nearer_50 : decode cX4_nearer 50 = .ok (.iconst 1, 1) := by decide +kernel
theorem dX4_nearer_51 : decode cX4_nearer 51 = .ok (.goto 15, 3) := by decide +kernel
theorem dX4_nearer_54 : decode cX4_nearer 54 = .ok (.iload_n 3, 1) := by decide +kernel
theorem dX4_nearer_55 : decode cX4_nearer 55 = .ok (.iload 4, 2) := by decide +kernel
theorem dX4_nearer_57 : decode cX4_nearer 57 = .ok (.if_icmp .ge 7, 3) := by decide +kernel
theorem dX4_nearer_60 : decode cX4_nearer 60 = .ok (.iload_n 3, 1) := by decide +kernel
theorem dX4_nearer_61 : decode cX4_nearer 61 = .ok (.goto 5, 3) := by decide +kernel
theorem dX4_nearer_64 : decode cX4_nearer 64 = .ok (.iload 4, 2) := by decide +kernel
theorem dX4_nearer_66 : decode cX4_nearer 66 = .ok (.ireturn, 1) := by decide +kernel
set_option maxRecDepth 20000 in
theorem ggX4_doneIn_X4_isOrder : GoodIn wsX4_doneIn wsX4_isOrder := goodIn_r _ [5, 6, 7, 8, 4, 9, 73, 74, 75, 76, 77, 78, 79, 80, 81, 82, 83] (by decide +kernel) (by decide +kernel)
set_option maxRecDepth 20000 in
theorem gX4_doneIn_X4_isOrder : GoodIn wsX4_doneIn (wsV RX4 176 RX4 yX4_isOrder wsX4_isOrder) := goodIn_app (goodIn_of _ (by decide +kernel)) ggX4_doneIn_X4_isOrder
set_option maxRecDepth 20000 in
theorem ggX4_doneIn_X4_puts : GoodIn wsX4_doneIn wsX4_puts := goodIn_r _ [13, 14, 6, 73, 74, 75, 76, 77, 78, 79, 80, 81, 82, 83] (by decide +kernel) (by decide +kernel)
set_option maxRecDepth 20000 in
theorem gX4_doneIn_X4_puts : GoodIn wsX4_doneIn (wsV RX4 167 RX4 yX4_puts wsX4_puts) := goodIn_app (goodIn_of _ (by decide +kernel)) ggX4_doneIn_X4_puts
end
section
set_option maxRecDepth 20000 in
theorem ggX4_doneIn_X4_told : GoodIn wsX4_doneIn wsX4_told := goodIn_r _ [18, 6, 73, 74, 75, 76, 77, 78, 79, 80, 81, 82, 83] (by decide +kernel) (by decide +kernel)
set_option maxRecDepth 20000 in
theorem gX4_doneIn_X4_told : GoodIn wsX4_doneIn (wsV RX4 43 RX4 yX4_told wsX4_told) := goodIn_app (goodIn_of _ (by decide +kernel)) ggX4_doneIn_X4_told
set_option maxRecDepth 20000 in
theorem ggX4_doneIn_X4_passes : GoodIn wsX4_doneIn wsX4_passes := goodIn_r _ [22, 6, 23, 24, 25, 4, 26, 15, 16, 17, 18, 27, 28, 29, 30, 31, 32, 33, 34, 35, 36, 37, 38, 39, 40, 41, 42, 43, 44, 45, 46, 47, 48, 49, 50, 51, 52, 53, 54, 55, 56, 57, 58, 59, 60, 61, 62, 63, 64, 65, 66, 67, 68, 73, 74, 75, 76, 77, 78, 79, 80, 81, 82, 83] (by decide +kernel) (by decide +kernel)
set_option maxRecDepth 20000 in
theorem gX4_doneIn_X4_passes : GoodIn wsX4_doneIn (wsV RX4 105 RX4 yX4_passes wsX4_passes) := goodIn_app (goodIn_of _ (by decide +kernel)) ggX4_doneIn_X4_passes
set_option maxRecDepth 20000 in
theorem ggX4_doneIn_X4_back : GoodIn wsX4_doneIn wsX4_back := goodIn_r _ [72, 6, 14, 73, 74, 75, 76, 77, 78, 79, 80, 81, 82, 83] (by decide +kernel) (by decide +kernel)
set_option maxRecDepth 20000 in
theorem gX4_doneIn_X4_back : GoodIn wsX4_doneIn (wsV RX4 170 RX4 yX4_back wsX4_back) := goodIn_app (goodIn_of _ (by decide +kernel)) ggX4_doneIn_X4_back
theorem dX4_doneIn_0 : decode cX4_doneIn 0 = .ok (.aload_n 0, 1) := by decide +kernel
theorem dX4_doneIn_1 : decode cX4_doneIn 1 = .ok (.iload_n 1, 1) := by decide +kernel
theorem dX4_doneIn_2 : decode cX4_doneIn 2 = .ok (.invokevirtual 176, 3) := by decide +kernel
theorem dX4_doneIn_5 : decode cX4_doneIn 5 = .ok (.ifCond .ne 5, 3) := by decide +kernel
theorem dX4_doneIn_8 : decode cX4_doneIn 8 = .ok (.iconst (-1), 1) := by decide +kernel
theorem dX4_doneIn_9 : decode cX4_doneIn 9 = .ok (.ireturn, 1) := by decide +kernel
theorem dX4_doneIn_10 : decode cX4_doneIn 10 = .ok (.aload_n 0, 1) := by decide +kernel
theorem dX4_doneIn_11 : decode cX4_doneIn 11 = .ok (.invokevirtual 167, 3) := by decide +kernel
theorem dX4_doneIn_14 : decode cX4_doneIn 14 = .ok (.iconst 0, 1) := by decide +kernel
theorem dX4_doneIn_15 : decode cX4_doneIn 15 = .ok (.istore_n 2, 1) := by decide +kernel
theorem dX4_doneIn_16 : decode cX4_doneIn 16 = .ok (.aload_n 0, 1) := by decide +kernel
theorem dX4_doneIn_17 : decode cX4_doneIn 17 = .ok (.iload_n 1, 1) := by decide +kernel
theorem dX4_doneIn_18 : decode cX4_doneIn 18 = .ok (.iconst 3, 1) := by decide +kernel
theorem dX4_doneIn_19 : decode cX4_doneIn 19 = .ok (.invokevirtual 43, 3) := by decide +kernel
theorem dX4_doneIn_22 : decode cX4_doneIn 22 = .ok (.ifCond .ne 20, 3) := by decide +kernel
theorem dX4_doneIn_25 : decode cX4_doneIn 25 = .ok (.iload_n 2, 1) := by decide +kernel
theorem dX4_doneIn_26 : decode cX4_doneIn 26 = .ok (.sipush 300, 3) := by decide +kernel
theorem dX4_doneIn_29 : decode cX4_doneIn 29 = .ok (.if_icmp .ge 13, 3) := by decide +kernel
theorem dX4_doneIn_32 : decode cX4_doneIn 32 = .ok (.aload_n 0, 1) := by decide +kernel
theorem dX4_doneIn_33 : decode cX4_doneIn 33 = .ok (.invokevirtual 105, 3) := by decide +kernel
theorem dX4_doneIn_36 : decode cX4_doneIn 36 = .ok (.iinc 2 1, 3) := by decide +kernel
theorem dX4_doneIn_39 : decode cX4_doneIn 39 = .ok (.goto (-23), 3) := by decide +kernel
theorem dX4_doneIn_42 : decode cX4_doneIn 42 = .ok (.aload_n 0, 1) := by decide +kernel
theorem dX4_doneIn_43 : decode cX4_doneIn 43 = .ok (.iload_n 1, 1) := by decide +kernel
theorem dX4_doneIn_44 : decode cX4_doneIn 44 = .ok (.iconst 3, 1) := by decide +kernel
theorem dX4_doneIn_45 : decode cX4_doneIn 45 = .ok (.invokevirtual 43, 3) := by decide +kernel
theorem dX4_doneIn_48 : decode cX4_doneIn 48 = .ok (.iconst 1, 1) := by decide +kernel
theorem dX4_doneIn_49 : decode cX4_doneIn 49 = .ok (.if_icmp .ne 7, 3) := by decide +kernel
theorem dX4_doneIn_52 : decode cX4_doneIn 52 = .ok (.iconst 1, 1) := by decide +kernel
theorem dX4_doneIn_53 : decode cX4_doneIn 53 = .ok (.goto 4, 3) := by decide +kernel
theorem dX4_doneIn_56 : decode cX4_doneIn 56 = .ok (.iconst 0, 1) := by decide +kernel
theorem dX4_doneIn_57 : decode cX4_doneIn 57 = .ok (.istore_n 3, 1) := by decide +kernel
theorem dX4_doneIn_58 : decode cX4_doneIn 58 = .ok (.aload_n 0, 1) := by decide +kernel
theorem dX4_doneIn_59 : decode cX4_doneIn 59 = .ok (.invokevirtual 170, 3) := by decide +kernel
theorem dX4_doneIn_62 : decode cX4_doneIn 62 = .ok (.iload_n 3, 1) := by decide +kernel
theorem dX4_doneIn_63 : decode cX4_doneIn 63 = .ok (.ifCond .eq 7, 3) := by decide +kernel
theorem dX4_doneIn_66 : decode cX4_doneIn 66 = .ok (.iload_n 2, 1) := by decide +kernel
theorem dX4_doneIn_67 : decode cX4_doneIn 67 = .ok (.goto 5, 3) := by decide +kernel
theorem dX4_doneIn_70 : decode cX4_doneIn 70 = .ok (.bipush (-9), 2) := by decide +kernel
theorem dX4_doneIn_72 : decode cX4_doneIn 72 = .ok (.ireturn, 1) := by decide +kernel
set_option maxRecDepth 20000 in
theorem ggX4_idleIn_X4_puts : GoodIn wsX4_idleIn wsX4_puts := goodIn_r _ [5, 6, 7, 66, 67, 68, 69, 70, 71, 72, 73, 74, 75, 76] (by decide +kernel) (by decide +kernel)
set_option maxRecDepth 20000 in
theorem gX4_idleIn_X4_puts : GoodIn wsX4_idleIn (wsV RX4 167 RX4 yX4_puts wsX4_puts) := goodIn_app (goodIn_of _ (by decide +kernel)) ggX4_idleIn_X4_puts
set_option maxRecDepth 20000 in
theorem ggX4_idleIn_X4_nearest : GoodIn wsX4_idleIn wsX4_nearest := goodIn_r _ [11, 7, 12, 13, 4, 14, 15, 16, 17, 18, 19, 20, 21, 22, 23, 24, 25, 26, 66, 67, 68, 69, 70, 71, 72, 73, 74, 75, 76] (by decide +kernel) (by decide +kernel)
set_option maxRecDepth 20000 in
theorem gX4_idleIn_X4_nearest : GoodIn wsX4_idleIn (wsV RX4 101 RX4 yX4_nearest wsX4_nearest) := goodIn_app (goodIn_of _ (by decide +kernel)) ggX4_idleIn_X4_nearest
set_option maxRecDepth 20000 in
theorem ggX4_idleIn_X4_passes : GoodIn wsX4_idleIn wsX4_passes := goodIn_r _ [30, 7, 15, 16, 17, 4, 18, 19, 20, 21, 22, 23, 24, 25, 26, 31, 32, 33, 34, 35, 36, 37, 38, 39, 40, 41, 42, 43, 44, 45, 46, 47, 48, 49, 50, 51, 52, 53, 54, 55, 56, 57, 58, 59, 60, 61, 8, 9, 10, 11, 12, 13, 14, 66, 67, 68, 69, 70, 71, 72, 73, 74, 75, 76] (by decide +kernel) (by decide +kernel)
set_option maxRecDepth 20000 in
theorem gX4_idleIn_X4_passes : GoodIn wsX4_idleIn (wsV RX4 105 RX4 yX4_passes wsX4_passes) := goodIn_app (goodIn_of _ (by decide +kernel)) ggX4_idleIn_X4_passes
set_option maxRecDepth 20000 in
theorem ggX4_idleIn_X4_back : GoodIn wsX4_idleIn wsX4_back := goodIn_r _ [65, 7, 6, 66, 67, 68, 69, 70, 71, 72, 73, 74, 75, 76] (by decide +kernel) (by decide +kernel)
set_option maxRecDepth 20000 in
theorem gX4_idleIn_X4_back : GoodIn wsX4_idleIn (wsV RX4 170 RX4 yX4_back wsX4_back) := goodIn_app (goodIn_of _ (by decide +kernel)) ggX4_idleIn_X4_back
theorem dX4_idleIn_0 : decode cX4_idleIn 0 = .ok (.aload_n 0, 1) := by decide +kernel
theorem dX4_idleIn_1 : decode cX4_idleIn 1 = .ok (.invokevirtual 167, 3) := by decide +kernel
theorem dX4_idleIn_4 : decode cX4_idleIn 4 = .ok (.iconst 0, 1) := by decide +kernel
theorem dX4_idleIn_5 : decode cX4_idleIn 5 = .ok (.istore_n 1, 1) := by decide +kernel
theorem dX4_idleIn_6 : decode cX4_idleIn 6 = .ok (.aload_n 0, 1) := by decide +kernel
theorem dX4_idleIn_7 : decode cX4_idleIn 7 = .ok (.invokevirtual 101, 3) := by decide +kernel
theorem dX4_idleIn_10 : decode cX4_idleIn 10 = .ok (.bipush (-9), 2) := by decide +kernel
theorem dX4_idleIn_12 : decode cX4_idleIn 12 = .ok (.if_icmp .eq 20, 3) := by decide +kernel
theorem dX4_idleIn_15 : decode cX4_idleIn 15 = .ok (.iload_n 1, 1) := by decide +kernel
theorem dX4_idleIn_16 : decode cX4_idleIn 16 = .ok (.sipush 300, 3) := by decide +kernel
theorem dX4_idleIn_19 : decode cX4_idleIn 19 = .ok (.if_icmp .gt 13, 3) := by decide +kernel
theorem dX4_idleIn_22 : decode cX4_idleIn 22 = .ok (.aload_n 0, 1) := by decide +kernel
theorem dX4_idleIn_23 : decode cX4_idleIn 23 = .ok (.invokevirtual 105, 3) := by decide +kernel
theorem dX4_idleIn_26 : decode cX4_idleIn 26 = .ok (.iinc 1 1, 3) := by decide +kernel
theorem dX4_idleIn_29 : decode cX4_idleIn 29 = .ok (.goto (-23), 3) := by decide +kernel
theorem dX4_idleIn_32 : decode cX4_idleIn 32 = .ok (.aload_n 0, 1) := by decide +kernel
theorem dX4_idleIn_33 : decode cX4_idleIn 33 = .ok (.invokevirtual 170, 3) := by decide +kernel
theorem dX4_idleIn_36 : decode cX4_idleIn 36 = .ok (.iload_n 1, 1) := by decide +kernel
theorem dX4_idleIn_37 : decode cX4_idleIn 37 = .ok (.sipush 300, 3) := by decide +kernel
theorem dX4_idleIn_40 : decode cX4_idleIn 40 = .ok (.if_icmp .le 8, 3) := by decide +kernel
theorem dX4_idleIn_43 : decode cX4_idleIn 43 = .ok (.bipush (-9), 2) := by decide +kernel
theorem dX4_idleIn_45 : decode cX4_idleIn 45 = .ok (.goto 4, 3) := by decide +kernel
theorem dX4_idleIn_48 : decode cX4_idleIn 48 = .ok (.iload_n 1, 1) := by decide +kernel
theorem dX4_idleIn_49 : decode cX4_idleIn 49 = .ok (.ireturn, 1) := by decide +kernel
set_option maxRecDepth 20000 in
theorem ggX4_wouldWipe_X4_puts : GoodIn wsX4_wouldWipe wsX4_puts := goodIn_r _ [5, 6, 7, 36, 37, 38, 39, 40, 41, 42, 43, 44, 45, 46] (by decide +kernel) (by decide +kernel)
set_option maxRecDepth 20000 in
theorem gX4_wouldWipe_X4_puts : GoodIn wsX4_wouldWipe (wsV RX4 167 RX4 yX4_puts wsX4_puts) := goodIn_app (goodIn_of _ (by decide +kernel)) ggX4_wouldWipe_X4_puts
set_option maxRecDepth 20000 in
theorem ggX4_wouldWipe_X4_cuts : GoodIn wsX4_wouldWipe wsX4_cuts := goodIn_r _ [11, 7, 12, 13, 14, 4, 15, 16, 17, 18, 19, 20, 21, 22, 23, 24, 25, 26, 27, 36, 37, 38, 39, 40, 41, 42, 43, 44, 45, 46] (by decide +kernel) (by decide +kernel)
set_option maxRecDepth 20000 in
theorem gX4_wouldWipe_X4_cuts : GoodIn wsX4_wouldWipe (wsV RX4 108 RX4 yX4_cuts wsX4_cuts) := goodIn_app (goodIn_of _ (by decide +kernel)) ggX4_wouldWipe_X4_cuts
set_option maxRecDepth 20000 in
theorem ggX4_wouldWipe_X4_torn : GoodIn wsX4_wouldWipe wsX4_torn := goodIn_r _ [31, 12, 13, 14, 4, 15, 7, 36, 37, 38, 39, 40, 41, 42, 43, 44, 45, 46] (by decide +kernel) (by decide +kernel)
set_option maxRecDepth 20000 in
theorem gX4_wouldWipe_X4_torn : GoodIn wsX4_wouldWipe (wsV RX4 111 RX4 yX4_torn wsX4_torn) := goodIn_app (goodIn_of _ (by decide +kernel)) ggX4_wouldWipe_X4_torn
set_option maxRecDepth 20000 in
theorem ggX4_wouldWipe_X4_back : GoodIn wsX4_wouldWipe wsX4_back := goodIn_r _ [35, 7, 6, 36, 37, 38, 39, 40, 41, 42, 43, 44, 45, 46] (by decide +kernel) (by decide +kernel)
set_option maxRecDepth 20000 in
theorem gX4_wouldWipe_X4_back : GoodIn wsX4_wouldWipe (wsV RX4 170 RX4 yX4_back wsX4_back) := goodIn_app (goodIn_of _ (by decide +kernel)) ggX4_wouldWipe_X4_back
theorem dX4_wouldWipe_0 : decode cX4_wouldWipe 0 = .ok (.aload_n 0, 1) := by decide +kernel
theorem dX4_wouldWipe_1 : decode cX4_wouldWipe 1 = .ok (.invokevirtual 167, 3) := by decide +kernel
theorem dX4_wouldWipe_4 : decode cX4_wouldWipe 4 = .ok (.aload_n 0, 1) := by decide +kernel
theorem dX4_wouldWipe_5 : decode cX4_wouldWipe 5 = .ok (.invokevirtual 108, 3) := by decide +kernel
theorem dX4_wouldWipe_8 : decode cX4_wouldWipe 8 = .ok (.pop, 1) := by decide +kernel
theorem dX4_wouldWipe_9 : decode cX4_wouldWipe 9 = .ok (.iconst 0, 1) := by decide +kernel
theorem dX4_wouldWipe_10 : decode cX4_wouldWipe 10 = .ok (.istore_n 1, 1) := by decide +kernel
theorem dX4_wouldWipe_11 : decode cX4_wouldWipe 11 = .ok (.iconst 0, 1) := by decide +kernel
theorem dX4_wouldWipe_12 : decode cX4_wouldWipe 12 = .ok (.istore_n 2, 1) := by decide +kernel
theorem dX4_wouldWipe_13 : decode cX4_wouldWipe 13 = .ok (.iload_n 2, 1) := by decide +kernel
theorem dX4_wouldWipe_14 : decode cX4_wouldWipe 14 = .ok (.bipush 48, 2) := by decide +kernel
theorem dX4_wouldWipe_16 : decode cX4_wouldWipe 16 = .ok (.if_icmp .ge 26, 3) := by decide +kernel
theorem dX4_wouldWipe_19 : decode cX4_wouldWipe 19 = .ok (.iload_n 1, 1) := by decide +kernel
theorem dX4_wouldWipe_20 : decode cX4_wouldWipe 20 = .ok (.aload_n 0, 1) := by decide +kernel
theorem dX4_wouldWipe_21 : decode cX4_wouldWipe 21 = .ok (.iload_n 2, 1) := by decide +kernel
theorem dX4_wouldWipe_22 : decode cX4_wouldWipe 22 = .ok (.invokevirtual 111, 3) := by decide +kernel
theorem dX4_wouldWipe_25 : decode cX4_wouldWipe 25 = .ok (.iconst 2, 1) := by decide +kernel
theorem dX4_wouldWipe_26 : decode cX4_wouldWipe 26 = .ok (.if_icmp .ne 7, 3) := by decide +kernel
theorem dX4_wouldWipe_29 : decode cX4_wouldWipe 29 = .ok (.iconst 1, 1) := by decide +kernel
theorem dX4_wouldWipe_30 : decode cX4_wouldWipe 30 = .ok (.goto 4, 3) := by decide +kernel
theorem dX4_wouldWipe_33 : decode cX4_wouldWipe 33 = .ok (.iconst 0, 1) := by decide +kernel
theorem dX4_wouldWipe_34 : decode cX4_wouldWipe 34 = .ok (.iadd, 1) := by decide +kernel
theorem dX4_wouldWipe_35 : decode cX4_wouldWipe 35 = .ok (.istore_n 1, 1) := by decide +kernel
theorem dX4_wouldWipe_36 : decode cX4_wouldWipe 36 = .ok (.iinc 2 1, 3) := by decide +kernel
theorem dX4_wouldWipe_39 : decode cX4_wouldWipe 39 = .ok (.goto (-26), 3) := by decide +kernel
theorem dX4_wouldWipe_42 : decode cX4_wouldWipe 42 = .ok (.aload_n 0, 1) := by decide +kernel
theorem dX4_wouldWipe_43 : decode cX4_wouldWipe 43 = .ok (.invokevirtual 170, 3) := by decide +kernel
theorem dX4_wouldWipe_46 : decode cX4_wouldWipe 46 = .ok (.iload_n 1, 1) := by decide +kernel
theorem dX4_wouldWipe_47 : decode cX4_wouldWipe 47 = .ok (.ireturn, 1) := by decide +kernel
theorem dJ9_floorMod_7cf53_0 : decode cJ9_floorMod_7cf53 0 = .ok (.iload_n 0, 1) := by decide +kernel
theorem dJ9_floorMod_7cf53_1 : decode cJ9_floorMod_7cf53 1 = .ok (.iload_n 1, 1) := by decide +kernel
theorem dJ9_floorMod_7cf53_2 : decode cJ9_floorMod_7cf53 2 = .ok (.irem, 1) := by decide +kernel
theorem dJ9_floorMod_7cf53_3 : decode cJ9_floorMod_7cf53 3 = .ok (.istore_n 2, 1) := by decide +kernel
theorem dJ9_floorMod_7cf53_4 : decode cJ9_floorMod_7cf53 4 = .ok (.iload_n 0, 1) := by decide +kernel
theorem dJ9_floorMod_7cf53_5 : decode cJ9_floorMod_7cf53 5 = .ok (.iload_n 1, 1) := by decide +kernel
theorem dJ9_floorMod_7cf53_6 : decode cJ9_floorMod_7cf53 6 = .ok (.ixor, 1) := by decide +kernel
theorem dJ9_floorMod_7cf53_7 : decode cJ9_floorMod_7cf53 7 = .ok (.ifCond .ge 11, 3) := by decide +kernel
theorem dJ9_floorMod_7cf53_10 : decode cJ9_floorMod_7cf53 10 = .ok (.iload_n 2, 1) := by decide +kernel
theorem dJ9_floorMod_7cf53_11 : decode cJ9_floorMod_7cf53 11 = .ok (.ifCond .eq 7, 3) := by decide +kernel
theorem dJ9_floorMod_7cf53_14 : decode cJ9_floorMod_7cf53 14 = .ok (.iload_n 2, 1) := by decide +kernel
theorem dJ9_floorMod_7cf53_15 : decode cJ9_floorMod_7cf53 15 = .ok (.iload_n 1, 1) := by decide +kernel
theorem dJ9_floorMod_7cf53_16 : decode cJ9_floorMod_7cf53 16 = .ok (.iadd, 1) := by decide +kernel
theorem dJ9_floorMod_7cf53_17 : decode cJ9_floorMod_7cf53 17 = .ok (.ireturn, 1) := by decide +kernel
theorem dJ9_floorMod_7cf53_18 : decode cJ9_floorMod_7cf53 18 = .ok (.iload_n 2, 1) := by decide +kernel
theorem dJ9_floorMod_7cf53_19 : decode cJ9_floorMod_7cf53 19 = .ok (.ireturn, 1) := by decide +kernel
theorem dJ9_max_7cf53_0 : decode cJ9_max_7cf53 0 = .ok (.iload_n 0, 1) := by decide +kernel
theorem dJ9_max_7cf53_1 : decode cJ9_max_7cf53 1 = .ok (.iload_n 1, 1) := by decide +kernel
theorem dJ9_max_7cf53_2 : decode cJ9_max_7cf53 2 = .ok (.if_icmp .lt 7, 3) := by decide +kernel
theorem dJ9_max_7cf53_5 : decode cJ9_max_7cf53 5 = .ok (.iload_n 0, 1) := by decide +kernel
theorem dJ9_max_7cf53_6 : decode cJ9_max_7cf53 6 = .ok (.goto 4, 3) := by decide +kernel
theorem dJ9_max_7cf53_9 : decode cJ9_max_7cf53 9 = .ok (.iload_n 1, 1) := by decide +kernel
theorem dJ9_max_7cf53_10 : decode cJ9_max_7cf53 10 = .ok (.ireturn, 1) := by decide +kernel
theorem dJ9_min_7cf53_0 : decode cJ9_min_7cf53 0 = .ok (.iload_n 0, 1) := by decide +kernel
theorem dJ9_min_7cf53_1 : decode cJ9_min_7cf53 1 = .ok (.iload_n 1, 1) := by decide +kernel
theorem dJ9_min_7cf53_2 : decode cJ9_min_7cf53 2 = .ok (.if_icmp .gt 7, 3) := by decide +kernel
theorem dJ9_min_7cf53_5 : decode cJ9_min_7cf53 5 = .ok (.iload_n 0, 1) := by decide +kernel
theorem dJ9_min_7cf53_6 : decode cJ9_min_7cf53 6 = .ok (.goto 4, 3) := by decide +kernel
theorem dJ9_min_7cf53_9 : decode cJ9_min_7cf53 9 = .ok (.iload_n 1, 1) := by decide +kernel
theorem dJ9_min_7cf53_10 : decode cJ9_min_7cf53 10 = .ok (.ireturn, 1) := by decide +kernel
set_option maxRecDepth 20000 in
theorem ggL_law_X3_init : GoodIn wsL_law wsX3_init := goodIn_r _ [8, 9, 10, 11, 12, 13, 14, 15, 16, 17, 18, 19, 20, 21, 22, 23, 24, 25, 26, 27, 28, 29, 30, 31, 32, 33, 34, 35, 36, 37, 38, 39, 40, 41, 42, 43, 44, 45, 46, 47, 48, 49, 50, 51, 52, 53, 674, 675, 676, 677, 678, 679, 680, 681, 682, 683, 684, 659, 660, 661, 662, 685, 686, 687, 688, 689, 690, 691, 692, 693, 694, 695, 696] (by decide +kernel) (by decide +kernel)
set_option maxRecDepth 20000 in
theorem gL_law_X3_init : GoodIn wsL_law (wsX3_init) := ggL_law_X3_init
set_option maxRecDepth 20000 in
theorem ggL_law_X4_init : GoodIn wsL_law wsX4_init := goodIn_r _ [56, 57, 10, 11, 29, 58, 59, 60, 61, 62, 63, 64, 663, 664, 665, 666, 667, 668, 669, 670, 671, 672, 673] (by decide +kernel) (by decide +kernel)
set_option maxRecDepth 20000 in
theorem gL_law_X4_init : GoodIn wsL_law (wsX4_init) := ggL_law_X4_init
set_option maxRecDepth 20000 in
theorem ggL_law_X3_read : GoodIn wsL_law wsX3_read := goodIn_r _ [68, 20, 15, 69, 70, 71, 19, 72, 73, 74, 75, 76, 44, 77, 78, 79, 80, 81, 82, 83, 84, 85, 14, 86, 30, 87, 88, 89, 90, 31, 32, 33, 34, 91, 92, 93, 94, 95, 96, 97, 98, 99, 100, 101, 102, 103, 104, 105, 106, 107, 108, 109, 110, 111, 112, 113, 2, 114, 115, 116, 117, 118, 659, 660, 661, 662, 685, 686, 687, 674, 675, 676, 677, 678, 679, 680, 681, 682, 683, 684] (by decide +kernel) (by decide +kernel)
set_option maxRecDepth 20000 in
theorem gL_law_X3_read : GoodIn wsL_law (wsV RL 13 RX3 yX3_read wsX3_read) := goodIn_app (goodIn_of _ (by decide +kernel)) ggL_law_X3_read
set_option maxRecDepth 20000 in
theorem ggL_law_X4_read : GoodIn wsL_law wsX4_read := goodIn_r _ [122, 123, 124, 5, 125, 126, 127, 128, 129, 130, 131, 132, 58, 133, 134, 135, 136, 137, 138, 139, 140, 141, 142, 143, 144, 145, 146, 59, 147, 148, 149, 150, 663, 664, 665, 666, 667, 668, 669, 670, 671, 672, 673] (by decide +kernel) (by decide +kernel)
set_option maxRecDepth 20000 in
theorem gL_law_X4_read : GoodIn wsL_law (wsV RL 17 RX4 yX4_read wsX4_read) := goodIn_app (goodIn_of _ (by decide +kernel)) ggL_law_X4_read
set_option maxRecDepth 20000 in
theorem ggL_law_X3_write : GoodIn wsL_law wsX3_write := goodIn_r _ [154, 20, 15, 69, 70, 71, 19, 72, 73, 74, 75, 76, 44, 77, 78, 79, 80, 81, 82, 83, 84, 85, 14, 86, 30, 87, 88, 89, 90, 31, 32, 33, 34, 91, 92, 93, 94, 95, 96, 155, 156, 157, 158, 101, 102, 103, 104, 105, 106, 107, 108, 109, 110, 111, 112, 113, 2, 114, 115, 116, 117, 118, 659, 660, 661, 662, 685, 686, 687, 674, 675, 676, 677, 678, 679, 680, 681, 682, 683, 684] (by decide +kernel) (by decide +kernel)
set_option maxRecDepth 20000 in
theorem gL_law_X3_write : GoodIn wsL_law (wsV RL 18 RX3 yX3_write wsX3_write) := goodIn_app (goodIn_of _ (by decide +kernel)) ggL_law_X3_write
set_option maxRecDepth 20000 in
theorem ggL_law_X4_write : GoodIn wsL_law wsX4_write := goodIn_r _ [162, 123, 124, 5, 125, 126, 127, 128, 129, 130, 131, 132, 58, 133, 134, 135, 136, 137, 138, 139, 140, 141, 142, 143, 144, 145, 146, 59, 147, 148, 149, 150, 663, 664, 665, 666, 667, 668, 669, 670, 671, 672, 673] (by decide +kernel) (by decide +kernel)
set_option maxRecDepth 20000 in
theorem gL_law_X4_write : GoodIn wsL_law (wsV RL 22 RX4 yX4_write wsX4_write) := goodIn_app (goodIn_of _ (by decide +kernel)) ggL_law_X4_write
set_option maxRecDepth 20000 in
theorem ggL_law_X3_pass : GoodIn wsL_law wsX3_pass := goodIn_r _ [166, 20, 15, 69, 70, 71, 19, 72, 73, 74, 75, 76, 44, 77, 78, 79, 80, 81, 82, 83, 84, 85, 14, 86, 30, 87, 88, 89, 90, 31, 32, 33, 34, 91, 92, 93, 94, 95, 96, 167, 168, 169, 170, 171, 172, 173, 174, 35, 36, 37, 38, 175, 176, 177, 178, 179, 180, 181, 182, 183, 108, 109, 110, 184, 185, 186, 187, 188, 189, 190, 191, 192, 193, 194, 195, 196, 197, 198, 199, 200, 201, 202, 203, 204, 205, 206, 207, 208, 209, 210, 211, 212, 213, 214, 215, 216, 217, 218, 219, 220, 221, 222, 111, 112, 113, 2, 114, 115, 116, 117, 118, 659, 660, 661, 662, 685, 686, 687, 674, 675, 676, 677, 678, 679, 680, 681, 682, 683, 684] (by decide +kernel) (by decide +kernel)
set_option maxRecDepth 20000 in
theorem gL_law_X3_pass : GoodIn wsL_law (wsV RL 23 RX3 yX3_pass wsX3_pass) := goodIn_app (goodIn_of _ (by decide +kernel)) ggL_law_X3_pass
set_option maxRecDepth 20000 in
theorem ggL_law_X4_pass : GoodIn wsL_law wsX4_pass := goodIn_r _ [226, 58, 126, 127, 5, 128, 141, 142, 143, 144, 145, 146, 59, 133, 134, 135, 136, 137, 138, 139, 140, 227, 228, 229, 230, 231, 232, 233, 234, 235, 236, 237, 238, 239, 240, 241, 242, 243, 244, 245, 246, 247, 248, 249, 250, 251, 252, 253, 254, 255, 256, 257, 258, 259, 260, 261, 262, 263, 264, 265, 147, 148, 149, 150, 266, 267, 268, 269, 270, 271, 272, 663, 664, 665, 666, 667, 668, 669, 670, 671, 672, 673] (by decide +kernel) (by decide +kernel)
set_option maxRecDepth 20000 in
theorem gL_law_X4_pass : GoodIn wsL_law (wsV RL 27 RX4 yX4_pass wsX4_pass) := goodIn_app (goodIn_of _ (by decide +kernel)) ggL_law_X4_pass
set_option maxRecDepth 20000 in
theorem ggL_law_X3_cut : GoodIn wsL_law wsX3_cut := goodIn_r _ [276, 20, 15, 69, 70, 71, 19, 72, 73, 74, 75, 76, 44, 77, 78, 79, 80, 81, 82, 83, 84, 85, 14, 86, 30, 87, 88, 89, 90, 31, 32, 33, 34, 91, 92, 93, 94, 95, 96, 277, 278, 279, 280, 281, 282, 283, 284, 285, 286, 287, 288, 211, 212, 213, 214, 184, 185, 186, 111, 112, 113, 2, 114, 115, 116, 117, 118, 659, 660, 661, 662, 685, 686, 687, 674, 675, 676, 677, 678, 679, 680, 681, 682, 683, 684] (by decide +kernel) (by decide +kernel)
set_option maxRecDepth 20000 in
theorem gL_law_X3_cut : GoodIn wsL_law (wsV RL 28 RX3 yX3_cut wsX3_cut) := goodIn_app (goodIn_of _ (by decide +kernel)) ggL_law_X3_cut
set_option maxRecDepth 20000 in
theorem ggL_law_X4_cut : GoodIn wsL_law wsX4_cut := goodIn_r _ [292, 141, 142, 143, 5, 144, 145, 146, 59, 58, 293, 294, 295, 296, 235, 236, 237, 238, 255, 256, 257, 258, 137, 138, 139, 140, 147, 148, 149, 150, 663, 664, 665, 666, 667, 668, 669, 670, 671, 672, 673] (by decide +kernel) (by decide +kernel)
set_option maxRecDepth 20000 in
theorem gL_law_X4_cut : GoodIn wsL_law (wsV RL 32 RX4 yX4_cut wsX4_cut) := goodIn_app (goodIn_of _ (by decide +kernel)) ggL_law_X4_cut
set_option maxRecDepth 20000 in
theorem ggL_law_X3_sweep : GoodIn wsL_law wsX3_sweep := goodIn_r _ [300, 20, 15, 69, 70, 71, 19, 72, 73, 74, 75, 76, 44, 77, 78, 79, 80, 81, 82, 83, 84, 85, 14, 86, 30, 87, 88, 89, 90, 31, 32, 33, 34, 91, 92, 93, 94, 95, 96, 301, 302, 303, 304, 305, 306, 307, 308, 309, 310, 311, 312, 184, 185, 186, 313, 314, 315, 316, 191, 192, 193, 194, 187, 188, 189, 190, 35, 36, 37, 38, 111, 112, 113, 2, 114, 115, 116, 117, 118, 659, 660, 661, 662, 685, 686, 687, 674, 675, 676, 677, 678, 679, 680, 681, 682, 683, 684] (by decide +kernel) (by decide +kernel)
set_option maxRecDepth 20000 in
theorem gL_law_X3_sweep : GoodIn wsL_law (wsV RL 33 RX3 yX3_sweep wsX3_sweep) := goodIn_app (goodIn_of _ (by decide +kernel)) ggL_law_X3_sweep
set_option maxRecDepth 20000 in
theorem ggL_law_X4_sweep : GoodIn wsL_law wsX4_sweep := goodIn_r _ [320, 58, 133, 134, 135, 5, 136, 137, 138, 139, 140, 321, 322, 323, 324, 235, 236, 237, 238, 141, 142, 143, 144, 145, 146, 59, 325, 326, 327, 328, 329, 330, 331, 332, 333, 334, 335, 336, 255, 256, 257, 258, 663, 664, 665, 666, 667, 668, 669, 670, 671, 672, 673] (by decide +kernel) (by decide +kernel)
set_option maxRecDepth 20000 in
theorem gL_law_X4_sweep : GoodIn wsL_law (wsV RL 36 RX4 yX4_sweep wsX4_sweep) := goodIn_app (goodIn_of _ (by decide +kernel)) ggL_law_X4_sweep
set_option maxRecDepth 20000 in
theorem ggL_law_X3_undo : GoodIn wsL_law wsX3_undo := goodIn_r _ [340, 20, 15, 341, 342, 343, 19, 344, 78, 345, 346, 347, 348, 349, 350, 351, 352, 73, 74, 75, 76, 44, 77, 79, 80, 81, 82, 83, 84, 85, 14, 86, 30, 87, 88, 89, 90, 31, 32, 33, 34, 91, 92, 93, 94, 95, 96, 659, 660, 661, 662, 685, 686, 687, 674, 675, 676, 677, 678, 679, 680, 681, 682, 683, 684] (by decide +kernel) (by decide +kernel)
set_option maxRecDepth 20000 in
theorem gL_law_X3_undo : GoodIn wsL_law (wsV RL 37 RX3 yX3_undo wsX3_undo) := goodIn_app (goodIn_of _ (by decide +kernel)) ggL_law_X3_undo
set_option maxRecDepth 20000 in
theorem ggL_law_X4_undo : GoodIn wsL_law wsX4_undo := goodIn_r _ [356, 146, 58, 59, 663, 664, 665, 666, 667, 668, 669, 670, 671, 672, 673] (by decide +kernel) (by decide +kernel)
set_option maxRecDepth 20000 in
theorem gL_law_X4_undo : GoodIn wsL_law (wsV RL 40 RX4 yX4_undo wsX4_undo) := goodIn_app (goodIn_of _ (by decide +kernel)) ggL_law_X4_undo
set_option maxRecDepth 20000 in
theorem ggL_law_X3_append : GoodIn wsL_law wsX3_append := goodIn_r _ [360, 24, 361, 362, 363, 23, 364, 365, 366, 367, 368, 369, 49, 370, 371, 372, 373, 374, 659, 660, 661, 662, 688, 689, 690, 691, 692, 693, 694, 695, 696] (by decide +kernel) (by decide +kernel)
set_option maxRecDepth 20000 in
theorem gL_law_X3_append : GoodIn wsL_law (wsV RL 41 RX3 yX3_append wsX3_append) := goodIn_app (goodIn_of _ (by decide +kernel)) ggL_law_X3_append
set_option maxRecDepth 20000 in
theorem ggL_law_X4_append : GoodIn wsL_law wsX4_append := goodIn_r _ [378, 379, 61, 126, 127, 5, 128, 663, 664, 665, 666, 667, 668, 669, 670, 671, 672, 673] (by decide +kernel) (by decide +kernel)
set_option maxRecDepth 20000 in
theorem gL_law_X4_append : GoodIn wsL_law (wsV RL 44 RX4 yX4_append wsX4_append) := goodIn_app (goodIn_of _ (by decide +kernel)) ggL_law_X4_append
set_option maxRecDepth 20000 in
theorem ggL_law_X3_clearText : GoodIn wsL_law wsX3_clearText := goodIn_r _ [383, 24, 371, 372, 373, 23, 374, 365, 384, 385, 386, 387, 659, 660, 661, 662, 688, 689, 690, 691, 692, 693, 694, 695, 696] (by decide +kernel) (by decide +kernel)
set_option maxRecDepth 20000 in
theorem gL_law_X3_clearText : GoodIn wsL_law (wsV RL 45 RX3 yX3_clearText wsX3_clearText) := goodIn_app (goodIn_of _ (by decide +kernel)) ggL_law_X3_clearText
set_option maxRecDepth 20000 in
theorem ggL_law_X4_clearText : GoodIn wsL_law wsX4_clearText := goodIn_r _ [391, 379, 663, 664, 665, 666, 667, 668, 669, 670, 671, 672, 673] (by decide +kernel) (by decide +kernel)
set_option maxRecDepth 20000 in
theorem gL_law_X4_clearText : GoodIn wsL_law (wsV RL 48 RX4 yX4_clearText wsX4_clearText) := goodIn_app (goodIn_of _ (by decide +kernel)) ggL_law_X4_clearText
set_option maxRecDepth 20000 in
theorem ggL_law_X3_run : GoodIn wsL_law wsX3_run := goodIn_r _ [395, 24, 20, 15, 396, 397, 398, 23, 399, 400, 401, 402, 365, 403, 404, 405, 406, 407, 408, 409, 410, 49, 411, 412, 413, 414, 52, 53, 415, 416, 417, 418, 51, 419, 420, 421, 422, 423, 424, 425, 426, 427, 428, 429, 430, 50, 431, 432, 433, 434, 435, 436, 437, 438, 439, 440, 441, 442, 443, 444, 445, 446, 447, 448, 449, 69, 70, 71, 19, 72, 73, 74, 75, 76, 44, 77, 78, 79, 80, 81, 82, 83, 84, 85, 14, 86, 30, 87, 88, 89, 90, 31, 32, 33, 34, 91, 92, 93, 94, 95, 96, 450, 451, 452, 453, 454, 455, 456, 2, 457, 458, 459, 460, 461, 462, 97, 98, 99, 100, 101, 102, 103, 104, 105, 106, 107, 108, 109, 110, 155, 156, 157, 158, 167, 168, 169, 170, 171, 172, 173, 174, 35, 36, 37, 38, 175, 176, 177, 178, 179, 180, 181, 182, 183, 184, 185, 186, 187, 188, 189, 190, 191, 192, 193, 194, 195, 196, 197, 198, 199, 200, 201, 202, 203, 204, 205, 206, 207, 208, 209, 210, 211, 212, 213, 214, 215, 216, 217, 218, 219, 220, 221, 222, 277, 278, 279, 280, 281, 282, 283, 284, 285, 286, 287, 288, 349, 350, 351, 352, 115, 116, 117, 118, 659, 660, 661, 662, 688, 689, 690, 691, 692, 693, 694, 695, 696, 685, 686, 687, 674, 675, 676, 677, 678, 679, 680, 681, 682, 683, 684] (by decide +kernel) (by decide +kernel)
set_option maxRecDepth 20000 in
theorem gL_law_X3_run : GoodIn wsL_law (wsV RL 49 RX3 yX3_run wsX3_run) := goodIn_app (goodIn_of _ (by decide +kernel)) ggL_law_X3_run
set_option maxRecDepth 20000 in
theorem ggL_law_X4_run : GoodIn wsL_law wsX4_run := goodIn_r _ [466, 467, 145, 58, 60, 468, 469, 470, 5, 471, 379, 472, 473, 474, 475, 61, 476, 477, 478, 479, 480, 481, 482, 483, 484, 485, 486, 487, 488, 489, 490, 64, 126, 127, 128, 491, 492, 493, 494, 63, 62, 495, 496, 497, 498, 499, 120, 121, 122, 123, 124, 125, 129, 130, 131, 132, 133, 134, 135, 136, 137, 138, 139, 140, 141, 142, 143, 144, 146, 59, 147, 148, 149, 150, 500, 160, 161, 162, 501, 224, 225, 226, 227, 228, 229, 230, 231, 232, 233, 234, 235, 236, 237, 238, 239, 240, 241, 242, 243, 244, 245, 246, 247, 248, 249, 250, 251, 252, 253, 254, 255, 256, 257, 258, 259, 260, 261, 262, 263, 264, 265, 266, 267, 268, 269, 270, 271, 272, 502, 290, 291, 292, 293, 294, 295, 296, 503, 504, 505, 506, 507, 508, 509, 510, 663, 664, 665, 666, 667, 668, 669, 670, 671, 672, 673] (by decide +kernel) (by decide +kernel)
set_option maxRecDepth 20000 in
theorem gL_law_X4_run : GoodIn wsL_law (wsV RL 52 RX4 yX4_run wsX4_run) := goodIn_app (goodIn_of _ (by decide +kernel)) ggL_law_X4_run
set_option maxRecDepth 20000 in
theorem ggL_law_X3_count : GoodIn wsL_law wsX3_count := goodIn_r _ [514, 15, 20, 24, 515, 516, 517, 14, 518, 91, 519, 520, 521, 522, 92, 523, 180, 181, 182, 183, 80, 81, 82, 524, 525, 526, 527, 93, 528, 529, 530, 531, 285, 286, 287, 288, 211, 212, 213, 214, 31, 532, 533, 534, 535, 30, 184, 185, 186, 536, 537, 538, 539, 540, 541, 542, 543, 95, 544, 545, 546, 547, 96, 341, 342, 343, 19, 344, 78, 371, 372, 373, 23, 374, 365, 659, 660, 661, 662, 674, 675, 676, 677, 678, 679, 680, 681, 682, 683, 684, 685, 686, 687, 688, 689, 690, 691, 692, 693, 694, 695, 696] (by decide +kernel) (by decide +kernel)
set_option maxRecDepth 20000 in
theorem gL_law_X3_count : GoodIn wsL_law (wsV RL 53 RX3 yX3_count wsX3_count) := goodIn_app (goodIn_of _ (by decide +kernel)) ggL_law_X3_count
set_option maxRecDepth 20000 in
theorem ggL_law_X4_count : GoodIn wsL_law wsX4_count := goodIn_r _ [551, 58, 146, 379, 243, 244, 245, 5, 246, 133, 134, 135, 136, 137, 138, 139, 140, 321, 322, 323, 324, 235, 236, 237, 238, 552, 553, 554, 555, 663, 664, 665, 666, 667, 668, 669, 670, 671, 672, 673] (by decide +kernel) (by decide +kernel)
set_option maxRecDepth 20000 in
theorem gL_law_X4_count : GoodIn wsL_law (wsV RL 56 RX4 yX4_count wsX4_count) := goodIn_app (goodIn_of _ (by decide +kernel)) ggL_law_X4_count
set_option maxRecDepth 20000 in
theorem ggL_law_X3_copy : GoodIn wsL_law wsX3_copy := goodIn_r _ [559, 15, 560, 102, 14, 103, 561, 562, 563, 564, 30, 108, 109, 110, 184, 185, 186, 659, 660, 661, 662, 674, 675, 676, 677, 678, 679, 680, 681, 682, 683, 684] (by decide +kernel) (by decide +kernel)
set_option maxRecDepth 20000 in
theorem gL_law_X3_copy : GoodIn wsL_law (wsV RL 57 RX3 yX3_copy wsX3_copy) := goodIn_app (goodIn_of _ (by decide +kernel)) ggL_law_X3_copy
set_option maxRecDepth 20000 in
theorem ggL_law_X4_copy : GoodIn wsL_law wsX4_copy := goodIn_r _ [568, 126, 127, 5, 128, 123, 124, 125, 235, 236, 237, 238, 58, 663, 664, 665, 666, 667, 668, 669, 670, 671, 672, 673] (by decide +kernel) (by decide +kernel)
set_option maxRecDepth 20000 in
theorem gL_law_X4_copy : GoodIn wsL_law (wsV RL 61 RX4 yX4_copy wsX4_copy) := goodIn_app (goodIn_of _ (by decide +kernel)) ggL_law_X4_copy
set_option maxRecDepth 20000 in
theorem ggL_law_X3_order : GoodIn wsL_law wsX3_order := goodIn_r _ [572, 15, 573, 574, 575, 14, 576, 93, 577, 212, 213, 214, 31, 659, 660, 661, 662, 674, 675, 676, 677, 678, 679, 680, 681, 682, 683, 684] (by decide +kernel) (by decide +kernel)
set_option maxRecDepth 20000 in
theorem gL_law_X3_order : GoodIn wsL_law (wsV RL 62 RX3 yX3_order wsX3_order) := goodIn_app (goodIn_of _ (by decide +kernel)) ggL_law_X3_order
set_option maxRecDepth 20000 in
theorem ggL_law_X4_order : GoodIn wsL_law wsX4_order := goodIn_r _ [581, 582, 583, 584, 5, 585, 58, 126, 127, 128, 137, 138, 139, 140, 663, 664, 665, 666, 667, 668, 669, 670, 671, 672, 673] (by decide +kernel) (by decide +kernel)
set_option maxRecDepth 20000 in
theorem gL_law_X4_order : GoodIn wsL_law (wsV RL 65 RX4 yX4_order wsX4_order) := goodIn_app (goodIn_of _ (by decide +kernel)) ggL_law_X4_order
set_option maxRecDepth 20000 in
theorem ggL_law_X3_waits : GoodIn wsL_law wsX3_waits := goodIn_r _ [589, 15, 590, 591, 592, 14, 593, 93, 285, 286, 287, 288, 211, 212, 213, 214, 31, 594, 595, 596, 597, 598, 599, 600, 601, 602, 659, 660, 661, 662, 674, 675, 676, 677, 678, 679, 680, 681, 682, 683, 684] (by decide +kernel) (by decide +kernel)
set_option maxRecDepth 20000 in
theorem gL_law_X3_waits : GoodIn wsL_law (wsV RL 66 RX3 yX3_waits wsX3_waits) := goodIn_app (goodIn_of _ (by decide +kernel)) ggL_law_X3_waits
set_option maxRecDepth 20000 in
theorem ggL_law_X4_waits : GoodIn wsL_law wsX4_waits := goodIn_r _ [606, 58, 126, 127, 5, 128, 137, 138, 139, 140, 607, 608, 609, 610, 663, 664, 665, 666, 667, 668, 669, 670, 671, 672, 673] (by decide +kernel) (by decide +kernel)
set_option maxRecDepth 20000 in
theorem gL_law_X4_waits : GoodIn wsL_law (wsV RL 69 RX4 yX4_waits wsX4_waits) := goodIn_app (goodIn_of _ (by decide +kernel)) ggL_law_X4_waits
set_option maxRecDepth 20000 in
theorem ggL_law_X3_nearer : GoodIn wsL_law wsX3_nearer := goodIn_r _ [614, 15, 615, 616, 209, 617, 618, 619, 620, 14, 621, 179, 180, 181, 182, 91, 183, 80, 81, 82, 659, 660, 661, 662, 674, 675, 676, 677, 678, 679, 680, 681, 682, 683, 684] (by decide +kernel) (by decide +kernel)
set_option maxRecDepth 20000 in
theorem gL_law_X3_nearer : GoodIn wsL_law (wsV RL 70 RX3 yX3_nearer wsX3_nearer) := goodIn_app (goodIn_of _ (by decide +kernel)) ggL_law_X3_nearer
set_option maxRecDepth 20000 in
theorem ggL_law_X4_nearer : GoodIn wsL_law wsX4_nearer := goodIn_r _ [625, 126, 127, 5, 128, 626, 627, 628, 629, 243, 244, 245, 246, 58, 663, 664, 665, 666, 667, 668, 669, 670, 671, 672, 673] (by decide +kernel) (by decide +kernel)
set_option maxRecDepth 20000 in
theorem gL_law_X4_nearer : GoodIn wsL_law (wsV RL 73 RX4 yX4_nearer wsX4_nearer) := goodIn_app (goodIn_of _ (by decide +kernel)) ggL_law_X4_nearer
set_option maxRecDepth 20000 in
theorem ggL_law_X3_doneIn : GoodIn wsL_law wsX3_doneIn := goodIn_r _ [633, 15, 16, 573, 574, 575, 14, 576, 93, 634, 286, 287, 288, 211, 212, 213, 214, 31, 635, 84, 85, 86, 30, 87, 88, 89, 90, 32, 33, 34, 91, 92, 94, 95, 96, 636, 172, 173, 174, 35, 36, 37, 38, 175, 176, 177, 178, 179, 180, 181, 182, 183, 80, 81, 82, 108, 109, 110, 184, 185, 186, 187, 188, 189, 190, 191, 192, 193, 194, 195, 196, 197, 198, 199, 200, 201, 202, 203, 204, 205, 206, 207, 208, 209, 210, 215, 216, 217, 218, 219, 220, 221, 222, 659, 660, 661, 662, 674, 675, 676, 677, 678, 679, 680, 681, 682, 683, 684] (by decide +kernel) (by decide +kernel)
set_option maxRecDepth 20000 in
theorem gL_law_X3_doneIn : GoodIn wsL_law (wsV RL 74 RX3 yX3_doneIn wsX3_doneIn) := goodIn_app (goodIn_of _ (by decide +kernel)) ggL_law_X3_doneIn
set_option maxRecDepth 20000 in
theorem ggL_law_X4_doneIn : GoodIn wsL_law wsX4_doneIn := goodIn_r _ [640, 582, 583, 584, 5, 585, 58, 126, 127, 128, 503, 504, 505, 506, 60, 137, 138, 139, 140, 227, 228, 229, 230, 231, 232, 233, 234, 235, 236, 237, 238, 239, 240, 241, 242, 243, 244, 245, 246, 247, 248, 249, 250, 251, 252, 253, 254, 255, 256, 257, 258, 259, 260, 261, 262, 263, 264, 265, 147, 148, 149, 150, 266, 267, 268, 269, 270, 271, 272, 507, 508, 509, 510, 663, 664, 665, 666, 667, 668, 669, 670, 671, 672, 673] (by decide +kernel) (by decide +kernel)
set_option maxRecDepth 20000 in
theorem gL_law_X4_doneIn : GoodIn wsL_law (wsV RL 77 RX4 yX4_doneIn wsX4_doneIn) := goodIn_app (goodIn_of _ (by decide +kernel)) ggL_law_X4_doneIn
set_option maxRecDepth 20000 in
theorem ggL_law_X3_idleIn : GoodIn wsL_law wsX3_idleIn := goodIn_r _ [644, 15, 16, 645, 306, 307, 14, 308, 34, 635, 84, 85, 86, 30, 87, 88, 89, 90, 31, 32, 33, 91, 92, 93, 94, 95, 96, 636, 172, 173, 174, 35, 36, 37, 38, 175, 176, 177, 178, 179, 180, 181, 182, 183, 80, 81, 82, 108, 109, 110, 184, 185, 186, 187, 188, 189, 190, 191, 192, 193, 194, 195, 196, 197, 198, 199, 200, 201, 202, 203, 204, 205, 206, 207, 208, 209, 210, 211, 212, 213, 214, 215, 216, 217, 218, 219, 220, 221, 222, 659, 660, 661, 662, 674, 675, 676, 677, 678, 679, 680, 681, 682, 683, 684] (by decide +kernel) (by decide +kernel)
set_option maxRecDepth 20000 in
theorem gL_law_X3_idleIn : GoodIn wsL_law (wsV RL 78 RX3 yX3_idleIn wsX3_idleIn) := goodIn_app (goodIn_of _ (by decide +kernel)) ggL_law_X3_idleIn
set_option maxRecDepth 20000 in
theorem ggL_law_X4_idleIn : GoodIn wsL_law wsX4_idleIn := goodIn_r _ [649, 503, 504, 505, 5, 506, 60, 58, 266, 267, 268, 269, 270, 271, 272, 231, 232, 233, 234, 137, 138, 139, 140, 235, 236, 237, 238, 227, 228, 229, 230, 239, 240, 241, 242, 243, 244, 245, 246, 247, 248, 249, 250, 251, 252, 253, 254, 255, 256, 257, 258, 259, 260, 261, 262, 263, 264, 265, 147, 148, 149, 150, 507, 508, 509, 510, 663, 664, 665, 666, 667, 668, 669, 670, 671, 672, 673] (by decide +kernel) (by decide +kernel)
set_option maxRecDepth 20000 in
theorem gL_law_X4_idleIn : GoodIn wsL_law (wsV RL 81 RX4 yX4_idleIn wsX4_idleIn) := goodIn_app (goodIn_of _ (by decide +kernel)) ggL_law_X4_idleIn
set_option maxRecDepth 20000 in
theorem ggL_law_X3_wouldWipe : GoodIn wsL_law wsX3_wouldWipe := goodIn_r _ [653, 16, 15, 635, 84, 85, 14, 86, 30, 87, 88, 89, 90, 31, 32, 33, 34, 91, 92, 93, 94, 95, 96, 277, 278, 279, 280, 281, 282, 283, 284, 285, 286, 287, 288, 211, 212, 213, 214, 184, 185, 186, 654, 310, 311, 312, 313, 314, 315, 316, 191, 192, 193, 194, 187, 188, 189, 190, 35, 36, 37, 38, 540, 541, 542, 543, 659, 660, 661, 662, 674, 675, 676, 677, 678, 679, 680, 681, 682, 683, 684] (by decide +kernel) (by decide +kernel)
set_option maxRecDepth 20000 in
theorem gL_law_X3_wouldWipe : GoodIn wsL_law (wsV RL 82 RX3 yX3_wouldWipe wsX3_wouldWipe) := goodIn_app (goodIn_of _ (by decide +kernel)) ggL_law_X3_wouldWipe
set_option maxRecDepth 20000 in
theorem ggL_law_X4_wouldWipe : GoodIn wsL_law wsX4_wouldWipe := goodIn_r _ [658, 503, 504, 505, 5, 506, 60, 58, 293, 294, 295, 296, 235, 236, 237, 238, 255, 256, 257, 258, 137, 138, 139, 140, 147, 148, 149, 150, 329, 330, 331, 332, 507, 508, 509, 510, 663, 664, 665, 666, 667, 668, 669, 670, 671, 672, 673] (by decide +kernel) (by decide +kernel)
set_option maxRecDepth 20000 in
theorem gL_law_X4_wouldWipe : GoodIn wsL_law (wsV RL 85 RX4 yX4_wouldWipe wsX4_wouldWipe) := goodIn_app (goodIn_of _ (by decide +kernel)) ggL_law_X4_wouldWipe
theorem dL_law_0 : decode cL_law 0 = .ok (.new 7, 3) := by decide +kernel
theorem dL_law_3 : decode cL_law 3 = .ok (.dup, 1) := by decide +kernel
theorem dL_law_4 : decode cL_law 4 = .ok (.invokespecial 9, 3) := by decide +kernel
theorem dL_law_7 : decode cL_law 7 = .ok (.astore_n 1, 1) := by decide +kernel
theorem dL_law_8 : decode cL_law 8 = .ok (.new 10, 3) := by decide +kernel
theorem dL_law_11 : decode cL_law 11 = .ok (.dup, 1) := by decide +kernel
theorem dL_law_12 : decode cL_law 12 = .ok (.invokespecial 12, 3) := by decide +kernel
theorem dL_law_15 : decode cL_law 15 = .ok (.astore_n 2, 1) := by decide +kernel
theorem dL_law_16 : decode cL_law 16 = .ok (.iconst 0, 1) := by decide +kernel
theorem dL_law_17 : decode cL_law 17 = .ok (.istore_n 3, 1) := by decide +kernel
theorem dL_law_18 : decode cL_law 18 = .ok (.iload_n 3, 1) := by decide +kernel
theorem dL_law_19 : decode cL_law 19 = .ok (.aload_n 0, 1) := by decide +kernel
theorem dL_law_20 : decode cL_law 20 = .ok (.arraylength, 1) := by decide +kernel
theorem dL_law_21 : decode cL_law 21 = .ok (.iconst 5, 1) := by decide +kernel
theorem dL_law_22 : decode cL_law 22 = .ok (.isub, 1) := by decide +kernel
theorem dL_law_23 : decode cL_law 23 = .ok (.if_icmp .gt 500, 3) := by decide +kernel
theorem dL_law_26 : decode cL_law 26 = .ok (.aload_n 0, 1) := by decide +kernel
theorem dL_law_27 : decode cL_law 27 = .ok (.iload_n 3, 1) := by decide +kernel
theorem dL_law_28 : decode cL_law 28 = .ok (.iaload, 1) := by decide +kernel
theorem dL_law_29 : decode cL_law 29 = .ok (.bipush 31, 2) := by decide +kernel
theorem dL_law_31 : decode cL_law 31 = .ok (.iand, 1) := by decide +kernel
theorem dL_law_32 : decode cL_law 32 = .ok (.tableswitch 485 0 16 #[84, 117, 160, 183, 196, 209, 222, 245, 258, 271, 294, 347, 380, 403, 436, 459, 472], 84) := by decide +kernel
theorem dL_law_116 : decode cL_law 116 = .ok (.aload_n 1, 1) := by decide +kernel
theorem dL_law_117 : decode cL_law 117 = .ok (.aload_n 0, 1) := by decide +kernel
theorem dL_law_118 : decode cL_law 118 = .ok (.iload_n 3, 1) := by decide +kernel
theorem dL_law_119 : decode cL_law 119 = .ok (.iconst 1, 1) := by decide +kernel
theorem dL_law_120 : decode cL_law 120 = .ok (.iadd, 1) := by decide +kernel
theorem dL_law_121 : decode cL_law 121 = .ok (.iaload, 1) := by decide +kernel
theorem dL_law_122 : decode cL_law 122 = .ok (.aload_n 0, 1) := by decide +kernel
theorem dL_law_123 : decode cL_law 123 = .ok (.iload_n 3, 1) := by decide +kernel
theorem dL_law_124 : decode cL_law 124 = .ok (.iconst 2, 1) := by decide +kernel
theorem dL_law_125 : decode cL_law 125 = .ok (.iadd, 1) := by decide +kernel
theorem dL_law_126 : decode cL_law 126 = .ok (.iaload, 1) := by decide +kernel
theorem dL_law_127 : decode cL_law 127 = .ok (.invokevirtual 13, 3) := by decide +kernel
theorem dL_law_130 : decode cL_law 130 = .ok (.aload_n 2, 1) := by decide +kernel
theorem dL_law_131 : decode cL_law 131 = .ok (.aload_n 0, 1) := by decide +kernel
theorem dL_law_132 : decode cL_law 132 = .ok (.iload_n 3, 1) := by decide +kernel
theorem dL_law_133 : decode cL_law 133 = .ok (.iconst 1, 1) := by decide +kernel
theorem dL_law_134 : decode cL_law 134 = .ok (.iadd, 1) := by decide +kernel
theorem dL_law_135 : decode cL_law 135 = .ok (.iaload, 1) := by decide +kernel
theorem dL_law_136 : decode cL_law 136 = .ok (.aload_n 0, 1) := by decide +kernel
theorem dL_law_137 : decode cL_law 137 = .ok (.iload_n 3, 1) := by decide +kernel
theorem dL_law_138 : decode cL_law 138 = .ok (.iconst 2, 1) := by decide +kernel
theorem dL_law_139 : decode cL_law 139 = .ok (.iadd, 1) := by decide +kernel
theorem dL_law_140 : decode cL_law 140 = .ok (.iaload, 1) := by decide +kernel
theorem dL_law_141 : decode cL_law 141 = .ok (.invokevirtual 17, 3) := by decide +kernel
theorem dL_law_144 : decode cL_law 144 = .ok (.if_icmp .eq 373, 3) := by decide +kernel
theorem dL_law_147 : decode cL_law 147 = .ok (.iconst 0, 1) := by decide +kernel
theorem dL_law_148 : decode cL_law 148 = .ok (.ireturn, 1) := by decide +kernel
theorem dL_law_149 : decode cL_law 149 = .ok (.aload_n 1, 1) := by decide +kernel
theorem dL_law_150 : decode cL_law 150 = .ok (.aload_n 0, 1) := by decide +kernel
theorem dL_law_151 : decode cL_law 151 = .ok (.iload_n 3, 1) := by decide +kernel
theorem dL_law_152 : decode cL_law 152 = .ok (.iconst 1, 1) := by decide +kernel
theorem dL_law_153 : decode cL_law 153 = .ok (.iadd, 1) := by decide +kernel
theorem dL_law_154 : decode cL_law 154 = .ok (.iaload, 1) := by decide +kernel
theorem dL_law_155 : decode cL_law 155 = .ok (.aload_n 0, 1) := by decide +kernel
theorem dL_law_156 : decode cL_law 156 = .ok (.iload_n 3, 1) := by decide +kernel
theorem dL_law_157 : decode cL_law 157 = .ok (.iconst 2, 1) := by decide +kernel
theorem dL_law_158 : decode cL_law 158 = .ok (.iadd, 1) := by decide +kernel
theorem dL_law_159 : decode cL_law 159 = .ok (.iaload, 1) := by decide +kernel
theorem dL_law_160 : decode cL_law 160 = .ok (.aload_n 0, 1) := by decide +kernel
theorem dL_law_161 : decode cL_law 161 = .ok (.iload_n 3, 1) := by decide +kernel
theorem dL_law_162 : decode cL_law 162 = .ok (.iconst 3, 1) := by decide +kernel
theorem dL_law_163 : decode cL_law 163 = .ok (.iadd, 1) := by decide +kernel
theorem dL_law_164 : decode cL_law 164 = .ok (.iaload, 1) := by decide +kernel
theorem dL_law_165 : decode cL_law 165 = .ok (.invokevirtual 18, 3) := by decide +kernel
theorem dL_law_168 : decode cL_law 168 = .ok (.aload_n 2, 1) := by decide +kernel
theorem dL_law_169 : decode cL_law 169 = .ok (.aload_n 0, 1) := by decide +kernel
theorem dL_law_170 : decode cL_law 170 = .ok (.iload_n 3, 1) := by decide +kernel
theorem dL_law_171 : decode cL_law 171 = .ok (.iconst 1, 1) := by decide +kernel
theorem dL_law_172 : decode cL_law 172 = .ok (.iadd, 1) := by decide +kernel
theorem dL_law_173 : decode cL_law 173 = .ok (.iaload, 1) := by decide +kernel
theorem dL_law_174 : decode cL_law 174 = .ok (.aload_n 0, 1) := by decide +kernel
theorem dL_law_175 : decode cL_law 175 = .ok (.iload_n 3, 1) := by decide +kernel
theorem dL_law_176 : decode cL_law 176 = .ok (.iconst 2, 1) := by decide +kernel
theorem dL_law_177 : decode cL_law 177 = .ok (.iadd, 1) := by decide +kernel
theorem dL_law_178 : decode cL_law 178 = .ok (.iaload, 1) := by decide +kernel
theorem dL_law_179 : decode cL_law 179 = .ok (.aload_n 0, 1) := by decide +kernel
theorem dL_law_180 : decode cL_law 180 = .ok (.iload_n 3, 1) := by decide +kernel
theorem dL_law_181 : decode cL_law 181 = .ok (.iconst 3, 1) := by decide +kernel
theorem dL_law_182 : decode cL_law 182 = .ok (.iadd, 1) := by decide +kernel
theorem dL_law_183 : decode cL_law 183 = .ok (.iaload, 1) := by decide +kernel
theorem dL_law_184 : decode cL_law 184 = .ok (.invokevirtual 22, 3) := by decide +kernel
theorem dL_law_187 : decode cL_law 187 = .ok (.if_icmp .eq 330, 3) := by decide +kernel
theorem dL_law_190 : decode cL_law 190 = .ok (.iconst 0, 1) := by decide +kernel
theorem dL_law_191 : decode cL_law 191 = .ok (.ireturn, 1) := by decide +kernel
theorem dL_law_192 : decode cL_law 192 = .ok (.aload_n 1, 1) := by decide +kernel
theorem dL_law_193 : decode cL_law 193 = .ok (.aload_n 0, 1) := by decide +kernel
theorem dL_law_194 : decode cL_law 194 = .ok (.iload_n 3, 1) := by decide +kernel
theorem dL_law_195 : decode cL_law 195 = .ok (.iconst 1, 1) := by decide +kernel
theorem dL_law_196 : decode cL_law 196 = .ok (.iadd, 1) := by decide +kernel
theorem dL_law_197 : decode cL_law 197 = .ok (.iaload, 1) := by decide +kernel
theorem dL_law_198 : decode cL_law 198 = .ok (.invokevirtual 23, 3) := by decide +kernel
theorem dL_law_201 : decode cL_law 201 = .ok (.aload_n 2, 1) := by decide +kernel
theorem dL_law_202 : decode cL_law 202 = .ok (.aload_n 0, 1) := by decide +kernel
theorem dL_law_203 : decode cL_law 203 = .ok (.iload_n 3, 1) := by decide +kernel
theorem dL_law_204 : decode cL_law 204 = .ok (.iconst 1, 1) := by decide +kernel
theorem dL_law_205 : decode cL_law 205 = .ok (.iadd, 1) := by decide +kernel
theorem dL_law_206 : decode cL_law 206 = .ok (.iaload, 1) := by decide +kernel
theorem dL_law_207 : decode cL_law 207 = .ok (.invokevirtual 27, 3) := by decide +kernel
theorem dL_law_210 : decode cL_law 210 = .ok (.if_icmp .eq 307, 3) := by decide +kernel
theorem dL_law_213 : decode cL_law 213 = .ok (.iconst 0, 1) := by decide +kernel
theorem dL_law_214 : decode cL_law 214 = .ok (.ireturn, 1) := by decide +kernel
theorem dL_law_215 : decode cL_law 215 = .ok (.aload_n 1, 1) := by decide +kernel
theorem dL_law_216 : decode cL_law 216 = .ok (.invokevirtual 28, 3) := by decide +kernel
theorem dL_law_219 : decode cL_law 219 = .ok (.aload_n 2, 1) := by decide +kernel
theorem dL_law_220 : decode cL_law 220 = .ok (.invokevirtual 32, 3) := by decide +kernel
theorem dL_law_223 : decode cL_law 223 = .ok (.if_icmp .eq 294, 3) := by decide +kernel
theorem dL_law_226 : decode cL_law 226 = .ok (.iconst 0, 1) := by decide +kernel
theorem dL_law_227 : decode cL_law 227 = .ok (.ireturn, 1) := by decide +kernel
theorem dL_law_228 : decode cL_law 228 = .ok (.aload_n 1, 1) := by decide +kernel
theorem dL_law_229 : decode cL_law 229 = .ok (.invokevirtual 33, 3) := by decide +kernel
theorem dL_law_232 : decode cL_law 232 = .ok (.aload_n 2, 1) := by decide +kernel
theorem dL_law_233 : decode cL_law 233 = .ok (.invokevirtual 36, 3) := by decide +kernel
theorem dL_law_236 : decode cL_law 236 = .ok (.if_icmp .eq 281, 3) := by decide +kernel
theorem dL_law_239 : decode cL_law 239 = .ok (.iconst 0, 1) := by decide +kernel
theorem dL_law_240 : decode cL_law 240 = .ok (.ireturn, 1) := by decide +kernel
theorem dL_law_241 : decode cL_law 241 = .ok (.aload_n 1, 1) := by decide +kernel
theorem dL_law_242 : decode cL_law 242 = .ok (.invokevirtual 37, 3) := by decide +kernel
theorem dL_law_245 : decode cL_law 245 = .ok (.aload_n 2, 1) := by decide +kernel
theorem dL_law_246 : decode cL_law 246 = .ok (.invokevirtual 40, 3) := by decide +kernel
theorem dL_law_249 : decode cL_law 249 = .ok (.if_icmp .eq 268, 3) := by decide +kernel
theorem dL_law_252 : decode cL_law 252 = .ok (.iconst 0, 1) := by decide +kernel
theorem dL_law_253 : decode cL_law 253 = .ok (.ireturn, 1) := by decide +kernel
theorem dL_law_254 : decode cL_law 254 = .ok (.aload_n 1, 1) := by decide +kernel
theorem dL_law_255 : decode cL_law 255 = .ok (.aload_n 0, 1) := by decide +kernel
theorem dL_law_256 : decode cL_law 256 = .ok (.iload_n 3, 1) := by decide +kernel
theorem dL_law_257 : decode cL_law 257 = .ok (.iconst 1, 1) := by decide +kernel
theorem dL_law_258 : decode cL_law 258 = .ok (.iadd, 1) := by decide +kernel
theorem dL_law_259 : decode cL_law 259 = .ok (.iaload, 1) := by decide +kernel
theorem dL_law_260 : decode cL_law 260 = .ok (.invokevirtual 41, 3) := by decide +kernel
theorem dL_law_263 : decode cL_law 263 = .ok (.aload_n 2, 1) := by decide +kernel
theorem dL_law_264 : decode cL_law 264 = .ok (.aload_n 0, 1) := by decide +kernel
theorem dL_law_265 : decode cL_law 265 = .ok (.iload_n 3, 1) := by decide +kernel
theorem dL_law_266 : decode cL_law 266 = .ok (.iconst 1, 1) := by decide +kernel
theorem dL_law_267 : decode cL_law 267 = .ok (.iadd, 1) := by decide +kernel
theorem dL_law_268 : decode cL_law 268 = .ok (.iaload, 1) := by decide +kernel
theorem dL_law_269 : decode cL_law 269 = .ok (.invokevirtual 44, 3) := by decide +kernel
theorem dL_law_272 : decode cL_law 272 = .ok (.if_icmp .eq 245, 3) := by decide +kernel
theorem dL_law_275 : decode cL_law 275 = .ok (.iconst 0, 1) := by decide +kernel
theorem dL_law_276 : decode cL_law 276 = .ok (.ireturn, 1) := by decide +kernel
theorem dL_law_277 : decode cL_law 277 = .ok (.aload_n 1, 1) := by decide +kernel
theorem dL_law_278 : decode cL_law 278 = .ok (.invokevirtual 45, 3) := by decide +kernel
theorem dL_law_281 : decode cL_law 281 = .ok (.aload_n 2, 1) := by decide +kernel
theorem dL_law_282 : decode cL_law 282 = .ok (.invokevirtual 48, 3) := by decide +kernel
theorem dL_law_285 : decode cL_law 285 = .ok (.if_icmp .eq 232, 3) := by decide +kernel
theorem dL_law_288 : decode cL_law 288 = .ok (.iconst 0, 1) := by decide +kernel
theorem dL_law_289 : decode cL_law 289 = .ok (.ireturn, 1) := by decide +kernel
theorem dL_law_290 : decode cL_law 290 = .ok (.aload_n 1, 1) := by decide +kernel
theorem dL_law_291 : decode cL_law 291 = .ok (.invokevirtual 49, 3) := by decide +kernel
theorem dL_law_294 : decode cL_law 294 = .ok (.aload_n 2, 1) := by decide +kernel
theorem dL_law_295 : decode cL_law 295 = .ok (.invokevirtual 52, 3) := by decide +kernel
theorem dL_law_298 : decode cL_law 298 = .ok (.if_icmp .eq 219, 3) := by decide +kernel
theorem dL_law_301 : decode cL_law 301 = .ok (.iconst 0, 1) := by decide +kernel
theorem dL_law_302 : decode cL_law 302 = .ok (.ireturn, 1) := by decide +kernel
theorem dL_law_303 : decode cL_law 303 = .ok (.aload_n 1, 1) := by decide +kernel
theorem dL_law_304 : decode cL_law 304 = .ok (.aload_n 0, 1) := by decide +kernel
theorem dL_law_305 : decode cL_law 305 = .ok (.iload_n 3, 1) := by decide +kernel
theorem dL_law_306 : decode cL_law 306 = .ok (.iconst 1, 1) := by decide +kernel
theorem dL_law_307 : decode cL_law 307 = .ok (.iadd, 1) := by decide +kernel
theorem dL_law_308 : decode cL_law 308 = .ok (.iaload, 1) := by decide +kernel
theorem dL_law_309 : decode cL_law 309 = .ok (.invokevirtual 53, 3) := by decide +kernel
theorem dL_law_312 : decode cL_law 312 = .ok (.aload_n 2, 1) := by decide +kernel
theorem dL_law_313 : decode cL_law 313 = .ok (.aload_n 0, 1) := by decide +kernel
theorem dL_law_314 : decode cL_law 314 = .ok (.iload_n 3, 1) := by decide +kernel
theorem dL_law_315 : decode cL_law 315 = .ok (.iconst 1, 1) := by decide +kernel
theorem dL_law_316 : decode cL_law 316 = .ok (.iadd, 1) := by decide +kernel
theorem dL_law_317 : decode cL_law 317 = .ok (.iaload, 1) := by decide +kernel
theorem dL_law_318 : decode cL_law 318 = .ok (.invokevirtual 56, 3) := by decide +kernel
theorem dL_law_321 : decode cL_law 321 = .ok (.if_icmp .eq 196, 3) := by decide +kernel
theorem dL_law_324 : decode cL_law 324 = .ok (.iconst 0, 1) := by decide +kernel
theorem dL_law_325 : decode cL_law 325 = .ok (.ireturn, 1) := by decide +kernel
theorem dL_law_326 : decode cL_law 326 = .ok (.aload_n 1, 1) := by decide +kernel
theorem dL_law_327 : decode cL_law 327 = .ok (.aload_n 0, 1) := by decide +kernel
theorem dL_law_328 : decode cL_law 328 = .ok (.iload_n 3, 1) := by decide +kernel
theorem dL_law_329 : decode cL_law 329 = .ok (.iconst 1, 1) := by decide +kernel
theorem dL_law_330 : decode cL_law 330 = .ok (.iadd, 1) := by decide +kernel
theorem dL_law_331 : decode cL_law 331 = .ok (.iaload, 1) := by decide +kernel
theorem dL_law_332 : decode cL_law 332 = .ok (.aload_n 0, 1) := by decide +kernel
theorem dL_law_333 : decode cL_law 333 = .ok (.iload_n 3, 1) := by decide +kernel
theorem dL_law_334 : decode cL_law 334 = .ok (.iconst 2, 1) := by decide +kernel
theorem dL_law_335 : decode cL_law 335 = .ok (.iadd, 1) := by decide +kernel
theorem dL_law_336 : decode cL_law 336 = .ok (.iaload, 1) := by decide +kernel
theorem dL_law_337 : decode cL_law 337 = .ok (.aload_n 0, 1) := by decide +kernel
theorem dL_law_338 : decode cL_law 338 = .ok (.iload_n 3, 1) := by decide +kernel
theorem dL_law_339 : decode cL_law 339 = .ok (.iconst 3, 1) := by decide +kernel
theorem dL_law_340 : decode cL_law 340 = .ok (.iadd, 1) := by decide +kernel
theorem dL_law_341 : decode cL_law 341 = .ok (.iaload, 1) := by decide +kernel
theorem dL_law_342 : decode cL_law 342 = .ok (.aload_n 0, 1) := by decide +kernel
theorem dL_law_343 : decode cL_law 343 = .ok (.iload_n 3, 1) := by decide +kernel
theorem dL_law_344 : decode cL_law 344 = .ok (.iconst 4, 1) := by decide +kernel
theorem dL_law_345 : decode cL_law 345 = .ok (.iadd, 1) := by decide +kernel
theorem dL_law_346 : decode cL_law 346 = .ok (.iaload, 1) := by decide +kernel
theorem dL_law_347 : decode cL_law 347 = .ok (.invokevirtual 57, 3) := by decide +kernel
theorem dL_law_350 : decode cL_law 350 = .ok (.aload_n 2, 1) := by decide +kernel
theorem dL_law_351 : decode cL_law 351 = .ok (.aload_n 0, 1) := by decide +kernel
theorem dL_law_352 : decode cL_law 352 = .ok (.iload_n 3, 1) := by decide +kernel
theorem dL_law_353 : decode cL_law 353 = .ok (.iconst 1, 1) := by decide +kernel
theorem dL_law_354 : decode cL_law 354 = .ok (.iadd, 1) := by decide +kernel
theorem dL_law_355 : decode cL_law 355 = .ok (.iaload, 1) := by decide +kernel
theorem dL_law_356 : decode cL_law 356 = .ok (.aload_n 0, 1) := by decide +kernel
theorem dL_law_357 : decode cL_law 357 = .ok (.iload_n 3, 1) := by decide +kernel
theorem dL_law_358 : decode cL_law 358 = .ok (.iconst 2, 1) := by decide +kernel
theorem dL_law_359 : decode cL_law 359 = .ok (.iadd, 1) := by decide +kernel
theorem dL_law_360 : decode cL_law 360 = .ok (.iaload, 1) := by decide +kernel
theorem dL_law_361 : decode cL_law 361 = .ok (.aload_n 0, 1) := by decide +kernel
theorem dL_law_362 : decode cL_law 362 = .ok (.iload_n 3, 1) := by decide +kernel
theorem dL_law_363 : decode cL_law 363 = .ok (.iconst 3, 1) := by decide +kernel
theorem dL_law_364 : decode cL_law 364 = .ok (.iadd, 1) := by decide +kernel
theorem dL_law_365 : decode cL_law 365 = .ok (.iaload, 1) := by decide +kernel
theorem dL_law_366 : decode cL_law 366 = .ok (.aload_n 0, 1) := by decide +kernel
theorem dL_law_367 : decode cL_law 367 = .ok (.iload_n 3, 1) := by decide +kernel
theorem dL_law_368 : decode cL_law 368 = .ok (.iconst 4, 1) := by decide +kernel
theorem dL_law_369 : decode cL_law 369 = .ok (.iadd, 1) := by decide +kernel
theorem dL_law_370 : decode cL_law 370 = .ok (.iaload, 1) := by decide +kernel
theorem dL_law_371 : decode cL_law 371 = .ok (.invokevirtual 61, 3) := by decide +kernel
theorem dL_law_374 : decode cL_law 374 = .ok (.if_icmp .eq 143, 3) := by decide +kernel
theorem dL_law_377 : decode cL_law 377 = .ok (.iconst 0, 1) := by decide +kernel
theorem dL_law_378 : decode cL_law 378 = .ok (.ireturn, 1) := by decide +kernel
theorem dL_law_379 : decode cL_law 379 = .ok (.aload_n 1, 1) := by decide +kernel
theorem dL_law_380 : decode cL_law 380 = .ok (.aload_n 0, 1) := by decide +kernel
theorem dL_law_381 : decode cL_law 381 = .ok (.iload_n 3, 1) := by decide +kernel
theorem dL_law_382 : decode cL_law 382 = .ok (.iconst 1, 1) := by decide +kernel
theorem dL_law_383 : decode cL_law 383 = .ok (.iadd, 1) := by decide +kernel
theorem dL_law_384 : decode cL_law 384 = .ok (.iaload, 1) := by decide +kernel
theorem dL_law_385 : decode cL_law 385 = .ok (.aload_n 0, 1) := by decide +kernel
theorem dL_law_386 : decode cL_law 386 = .ok (.iload_n 3, 1) := by decide +kernel
theorem dL_law_387 : decode cL_law 387 = .ok (.iconst 2, 1) := by decide +kernel
theorem dL_law_388 : decode cL_law 388 = .ok (.iadd, 1) := by decide +kernel
theorem dL_law_389 : decode cL_law 389 = .ok (.iaload, 1) := by decide +kernel
theorem dL_law_390 : decode cL_law 390 = .ok (.invokevirtual 62, 3) := by decide +kernel
theorem dL_law_393 : decode cL_law 393 = .ok (.aload_n 2, 1) := by decide +kernel
theorem dL_law_394 : decode cL_law 394 = .ok (.aload_n 0, 1) := by decide +kernel
theorem dL_law_395 : decode cL_law 395 = .ok (.iload_n 3, 1) := by decide +kernel
theorem dL_law_396 : decode cL_law 396 = .ok (.iconst 1, 1) := by decide +kernel
theorem dL_law_397 : decode cL_law 397 = .ok (.iadd, 1) := by decide +kernel
theorem dL_law_398 : decode cL_law 398 = .ok (.iaload, 1) := by decide +kernel
theorem dL_law_399 : decode cL_law 399 = .ok (.aload_n 0, 1) := by decide +kernel
theorem dL_law_400 : decode cL_law 400 = .ok (.iload_n 3, 1) := by decide +kernel
theorem dL_law_401 : decode cL_law 401 = .ok (.iconst 2, 1) := by decide +kernel
theorem dL_law_402 : decode cL_law 402 = .ok (.iadd, 1) := by decide +kernel
theorem dL_law_403 : decode cL_law 403 = .ok (.iaload, 1) := by decide +kernel
theorem dL_law_404 : decode cL_law 404 = .ok (.invokevirtual 65, 3) := by decide +kernel
theorem dL_law_407 : decode cL_law 407 = .ok (.if_icmp .eq 110, 3) := by decide +kernel
theorem dL_law_410 : decode cL_law 410 = .ok (.iconst 0, 1) := by decide +kernel
theorem dL_law_411 : decode cL_law 411 = .ok (.ireturn, 1) := by decide +kernel
theorem dL_law_412 : decode cL_law 412 = .ok (.aload_n 1, 1) := by decide +kernel
theorem dL_law_413 : decode cL_law 413 = .ok (.aload_n 0, 1) := by decide +kernel
theorem dL_law_414 : decode cL_law 414 = .ok (.iload_n 3, 1) := by decide +kernel
theorem dL_law_415 : decode cL_law 415 = .ok (.iconst 1, 1) := by decide +kernel
theorem dL_law_416 : decode cL_law 416 = .ok (.iadd, 1) := by decide +kernel
theorem dL_law_417 : decode cL_law 417 = .ok (.iaload, 1) := by decide +kernel
theorem dL_law_418 : decode cL_law 418 = .ok (.invokevirtual 66, 3) := by decide +kernel
theorem dL_law_421 : decode cL_law 421 = .ok (.aload_n 2, 1) := by decide +kernel
theorem dL_law_422 : decode cL_law 422 = .ok (.aload_n 0, 1) := by decide +kernel
theorem dL_law_423 : decode cL_law 423 = .ok (.iload_n 3, 1) := by decide +kernel
theorem dL_law_424 : decode cL_law 424 = .ok (.iconst 1, 1) := by decide +kernel
theorem dL_law_425 : decode cL_law 425 = .ok (.iadd, 1) := by decide +kernel
theorem dL_law_426 : decode cL_law 426 = .ok (.iaload, 1) := by decide +kernel
theorem dL_law_427 : decode cL_law 427 = .ok (.invokevirtual 69, 3) := by decide +kernel
theorem dL_law_430 : decode cL_law 430 = .ok (.if_icmp .eq 87, 3) := by decide +kernel
theorem dL_law_433 : decode cL_law 433 = .ok (.iconst 0, 1) := by decide +kernel
theorem dL_law_434 : decode cL_law 434 = .ok (.ireturn, 1) := by decide +kernel
theorem dL_law_435 : decode cL_law 435 = .ok (.aload_n 1, 1) := by decide +kernel
theorem dL_law_436 : decode cL_law 436 = .ok (.aload_n 0, 1) := by decide +kernel
theorem dL_law_437 : decode cL_law 437 = .ok (.iload_n 3, 1) := by decide +kernel
theorem dL_law_438 : decode cL_law 438 = .ok (.iconst 1, 1) := by decide +kernel
theorem dL_law_439 : decode cL_law 439 = .ok (.iadd, 1) := by decide +kernel
theorem dL_law_440 : decode cL_law 440 = .ok (.iaload, 1) := by decide +kernel
theorem dL_law_441 : decode cL_law 441 = .ok (.aload_n 0, 1) := by decide +kernel
theorem dL_law_442 : decode cL_law 442 = .ok (.iload_n 3, 1) := by decide +kernel
theorem dL_law_443 : decode cL_law 443 = .ok (.iconst 2, 1) := by decide +kernel
theorem dL_law_444 : decode cL_law 444 = .ok (.iadd, 1) := by decide +kernel
theorem dL_law_445 : decode cL_law 445 = .ok (.iaload, 1) := by decide +kernel
theorem dL_law_446 : decode cL_law 446 = .ok (.invokevirtual 70, 3) := by decide +kernel
theorem dL_law_449 : decode cL_law 449 = .ok (.aload_n 2, 1) := by decide +kernel
theorem dL_law_450 : decode cL_law 450 = .ok (.aload_n 0, 1) := by decide +kernel
theorem dL_law_451 : decode cL_law 451 = .ok (.iload_n 3, 1) := by decide +kernel
theorem dL_law_452 : decode cL_law 452 = .ok (.iconst 1, 1) := by decide +kernel
theorem dL_law_453 : decode cL_law 453 = .ok (.iadd, 1) := by decide +kernel
theorem dL_law_454 : decode cL_law 454 = .ok (.iaload, 1) := by decide +kernel
theorem dL_law_455 : decode cL_law 455 = .ok (.aload_n 0, 1) := by decide +kernel
theorem dL_law_456 : decode cL_law 456 = .ok (.iload_n 3, 1) := by decide +kernel
theorem dL_law_457 : decode cL_law 457 = .ok (.iconst 2, 1) := by decide +kernel
theorem dL_law_458 : decode cL_law 458 = .ok (.iadd, 1) := by decide +kernel
theorem dL_law_459 : decode cL_law 459 = .ok (.iaload, 1) := by decide +kernel
theorem dL_law_460 : decode cL_law 460 = .ok (.invokevirtual 73, 3) := by decide +kernel
theorem dL_law_463 : decode cL_law 463 = .ok (.if_icmp .eq 54, 3) := by decide +kernel
theorem dL_law_466 : decode cL_law 466 = .ok (.iconst 0, 1) := by decide +kernel
theorem dL_law_467 : decode cL_law 467 = .ok (.ireturn, 1) := by decide +kernel
theorem dL_law_468 : decode cL_law 468 = .ok (.aload_n 1, 1) := by decide +kernel
theorem dL_law_469 : decode cL_law 469 = .ok (.aload_n 0, 1) := by decide +kernel
theorem dL_law_470 : decode cL_law 470 = .ok (.iload_n 3, 1) := by decide +kernel
theorem dL_law_471 : decode cL_law 471 = .ok (.iconst 1, 1) := by decide +kernel
theorem dL_law_472 : decode cL_law 472 = .ok (.iadd, 1) := by decide +kernel
theorem dL_law_473 : decode cL_law 473 = .ok (.iaload, 1) := by decide +kernel
theorem dL_law_474 : decode cL_law 474 = .ok (.invokevirtual 74, 3) := by decide +kernel
theorem dL_law_477 : decode cL_law 477 = .ok (.aload_n 2, 1) := by decide +kernel
theorem dL_law_478 : decode cL_law 478 = .ok (.aload_n 0, 1) := by decide +kernel
theorem dL_law_479 : decode cL_law 479 = .ok (.iload_n 3, 1) := by decide +kernel
theorem dL_law_480 : decode cL_law 480 = .ok (.iconst 1, 1) := by decide +kernel
theorem dL_law_481 : decode cL_law 481 = .ok (.iadd, 1) := by decide +kernel
theorem dL_law_482 : decode cL_law 482 = .ok (.iaload, 1) := by decide +kernel
theorem dL_law_483 : decode cL_law 483 = .ok (.invokevirtual 77, 3) := by decide +kernel
theorem dL_law_486 : decode cL_law 486 = .ok (.if_icmp .eq 31, 3) := by decide +kernel
theorem dL_law_489 : decode cL_law 489 = .ok (.iconst 0, 1) := by decide +kernel
theorem dL_law_490 : decode cL_law 490 = .ok (.ireturn, 1) := by decide +kernel
theorem dL_law_491 : decode cL_law 491 = .ok (.aload_n 1, 1) := by decide +kernel
theorem dL_law_492 : decode cL_law 492 = .ok (.invokevirtual 78, 3) := by decide +kernel
theorem dL_law_495 : decode cL_law 495 = .ok (.aload_n 2, 1) := by decide +kernel
theorem dL_law_496 : decode cL_law 496 = .ok (.invokevirtual 81, 3) := by decide +kernel
theorem dL_law_499 : decode cL_law 499 = .ok (.if_icmp .eq 18, 3) := by decide +kernel
theorem dL_law_502 : decode cL_law 502 = .ok (.iconst 0, 1) := by decide +kernel
theorem dL_law_503 : decode cL_law 503 = .ok (.ireturn, 1) := by decide +kernel
theorem dL_law_504 : decode cL_law 504 = .ok (.aload_n 1, 1) := by decide +kernel
theorem dL_law_505 : decode cL_law 505 = .ok (.invokevirtual 82, 3) := by decide +kernel
theorem dL_law_508 : decode cL_law 508 = .ok (.aload_n 2, 1) := by decide +kernel
theorem dL_law_509 : decode cL_law 509 = .ok (.invokevirtual 85, 3) := by decide +kernel
theorem dL_law_512 : decode cL_law 512 = .ok (.if_icmp .eq 5, 3) := by decide +kernel
theorem dL_law_515 : decode cL_law 515 = .ok (.iconst 0, 1) := by decide +kernel
theorem dL_law_516 : decode cL_law 516 = .ok (.ireturn, 1) := by decide +kernel
theorem dL_law_517 : decode cL_law 517 = .ok (.iinc 3 5, 3) := by decide +kernel
theorem dL_law_520 : decode cL_law 520 = .ok (.goto (-502), 3) := by decide +kernel
theorem dL_law_523 : decode cL_law 523 = .ok (.iconst 1, 1) := by decide +kernel
theorem dL_law_524 : decode cL_law 524 = .ok (.ireturn, 1) := by decide +kernel
end
