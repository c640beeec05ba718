theorem dX3_waits_16 : decode cX3_waits 16 = .ok (.getfield 10, 3) := by decide +kernel
theorem dX3_waits_19 : decode cX3_waits 19 = .ok (.invokevirtual 145, 3) := by decide +kernel
theorem dX3_waits_22 : decode cX3_waits 22 = .ok (.ireturn, 1) := by decide +kernel
theorem dX3_waits_23 : decode cX3_waits 23 = .ok (.aload_n 0, 1) := by decide +kernel
theorem dX3_waits_24 : decode cX3_waits 24 = .ok (.getfield 10, 3) := by decide +kernel
theorem dX3_waits_27 : decode cX3_waits 27 = .ok (.invokevirtual 148, 3) := by decide +kernel
theorem dX3_waits_30 : decode cX3_waits 30 = .ok (.istore_n 2, 1) := by decide +kernel
theorem dX3_waits_31 : decode cX3_waits 31 = .ok (.iload_n 1, 1) := by decide +kernel
theorem dX3_waits_32 : decode cX3_waits 32 = .ok (.iconst 2, 1) := by decide +kernel
theorem dX3_waits_33 : decode cX3_waits 33 = .ok (.if_icmp .eq 9, 3) := by decide +kernel
theorem dX3_waits_36 : decode cX3_waits 36 = .ok (.iload_n 2, 1) := by decide +kernel
theorem dX3_waits_37 : decode cX3_waits 37 = .ok (.bipush (-9), 2) := by decide +kernel
theorem dX3_waits_39 : decode cX3_waits 39 = .ok (.if_icmp .ne 5, 3) := by decide +kernel
theorem dX3_waits_42 : decode cX3_waits 42 = .ok (.iload_n 2, 1) := by decide +kernel
theorem dX3_waits_43 : decode cX3_waits 43 = .ok (.ireturn, 1) := by decide +kernel
theorem dX3_waits_44 : decode cX3_waits 44 = .ok (.aload_n 0, 1) := by decide +kernel
theorem dX3_waits_45 : decode cX3_waits 45 = .ok (.getfield 10, 3) := by decide +kernel
theorem dX3_waits_48 : decode cX3_waits 48 = .ok (.iload_n 2, 1) := by decide +kernel
theorem dX3_waits_49 : decode cX3_waits 49 = .ok (.invokevirtual 151, 3) := by decide +kernel
theorem dX3_waits_52 : decode cX3_waits 52 = .ok (.ireturn, 1) := by decide +kernel
set_option maxRecDepth 20000 in
theorem ggX3_nearer_X1_ticksUntilOver : GoodIn wsX3_nearer wsX1_ticksUntilOver := goodIn_r _ [10, 11, 12, 13, 9, 14, 15, 16, 17, 18, 19, 24, 25, 26, 27, 28, 29, 30, 31, 32, 33, 34] (by decide +kernel) (by decide +kernel)
set_option maxRecDepth 20000 in
theorem gX3_nearer_X1_ticksUntilOver : GoodIn wsX3_nearer (wsV RX3 154 RX1 yX1_ticksUntilOver wsX1_ticksUntilOver) := goodIn_app (goodIn_of _ (by decide +kernel)) ggX3_nearer_X1_ticksUntilOver
theorem dX3_nearer_0 : decode cX3_nearer 0 = .ok (.iload_n 1, 1) := by decide +kernel
theorem dX3_nearer_1 : decode cX3_nearer 1 = .ok (.ifCond .lt 18, 3) := by decide +kernel
theorem dX3_nearer_4 : decode cX3_nearer 4 = .ok (.iload_n 1, 1) := by decide +kernel
theorem dX3_nearer_5 : decode cX3_nearer 5 = .ok (.bipush 12, 2) := by decide +kernel
theorem dX3_nearer_7 : decode cX3_nearer 7 = .ok (.if_icmp .ge 12, 3) := by decide +kernel
theorem dX3_nearer_10 : decode cX3_nearer 10 = .ok (.iload_n 2, 1) := by decide +kernel
theorem dX3_nearer_11 : decode cX3_nearer 11 = .ok (.ifCond .lt 8, 3) := by decide +kernel
theorem dX3_nearer_14 : decode cX3_nearer 14 = .ok (.iload_n 2, 1) := by decide +kernel
theorem dX3_nearer_15 : decode cX3_nearer 15 = .ok (.iconst 1, 1) := by decide +kernel
theorem dX3_nearer_16 : decode cX3_nearer 16 = .ok (.if_icmp .le 5, 3) := by decide +kernel
theorem dX3_nearer_19 : decode cX3_nearer 19 = .ok (.iconst (-1), 1) := by decide +kernel
theorem dX3_nearer_20 : decode cX3_nearer 20 = .ok (.ireturn, 1) := by decide +kernel
theorem dX3_nearer_21 : decode cX3_nearer 21 = .ok (.aload_n 0, 1) := by decide +kernel
theorem dX3_nearer_22 : decode cX3_nearer 22 = .ok (.getfield 10, 3) := by decide +kernel
theorem dX3_nearer_25 : decode cX3_nearer 25 = .ok (.iconst 0, 1) := by decide +kernel
theorem dX3_nearer_26 : decode cX3_nearer 26 = .ok (.iload_n 1, 1) := by decide +kernel
theorem dX3_nearer_27 : decode cX3_nearer 27 = .ok (.invokevirtual 154, 3) := by decide +kernel
theorem dX3_nearer_30 : decode cX3_nearer 30 = .ok (.istore_n 3, 1) := by decide +kernel
theorem dX3_nearer_31 : decode cX3_nearer 31 = .ok (.aload_n 0, 1) := by decide +kernel
theorem dX3_nearer_32 : decode cX3_nearer 32 = .ok (.getfield 10, 3) := by decide +kernel
theorem dX3_nearer_35 : decode cX3_nearer 35 = .ok (.iconst 1, 1) := by decide +kernel
theorem dX3_nearer_36 : decode cX3_nearer 36 = .ok (.iload_n 1, 1) := by decide +kernel
theorem dX3_nearer_37 : decode cX3_nearer 37 = .ok (.invokevirtual 154, 3) := by decide +kernel
theorem dX3_nearer_40 : decode cX3_nearer 40 = .ok (.istore 4, 2) := by decide +kernel
theorem dX3_nearer_42 : decode cX3_nearer 42 = .ok (.iload_n 2, 1) := by decide +kernel
theorem dX3_nearer_43 : decode cX3_nearer 43 = .ok (.ifCond .ne 15, 3) := by decide +kernel
theorem dX3_nearer_46 : decode cX3_nearer 46 = .ok (.iload_n 3, 1) := by decide +kernel
theorem dX3_nearer_47 : decode cX3_nearer 47 = .ok (.iload 4, 2) := by decide +kernel
theorem dX3_nearer_49 : decode cX3_nearer 49 = .ok (.if_icmp .ge 7, 3) := by decide +kernel
theorem dX3_nearer_52 : decode cX3_nearer 52 = .ok (.iconst 0, 1) := by decide +kernel
theorem dX3_nearer_53 : decode cX3_nearer 53 = .ok (.goto 4, 3) := by decide +kernel
theorem dX3_nearer_56 : decode cX3_nearer 56 = .ok (.iconst 1, 1) := by decide +kernel
theorem dX3_nearer_57 : decode cX3_nearer 57 = .ok (.ireturn, 1) := by decide +kernel
theorem dX3_nearer_58 : decode cX3_nearer 58 = .ok (.iload_n 3, 1) := by decide +kernel
theorem dX3_nearer_59 : decode cX3_nearer 59 = .ok (.iload 4, 2) := by decide +kernel
theorem dX3_nearer_61 : decode cX3_nearer 61 = .ok (.invokestatic 157, 3) := by decide +kernel
theorem dX3_nearer_64 : decode cX3_nearer 64 = .ok (.ireturn, 1) := by decide +kernel
set_option maxRecDepth 20000 in
theorem ggX3_doneIn_X1_hasOrder : GoodIn wsX3_doneIn wsX1_hasOrder := goodIn_r _ [7, 8, 97, 98, 99, 100, 101, 102, 103, 104, 105, 106, 107] (by decide +kernel) (by decide +kernel)
set_option maxRecDepth 20000 in
theorem gX3_doneIn_X1_hasOrder : GoodIn wsX3_doneIn (wsV RX3 138 RX1 yX1_hasOrder wsX1_hasOrder) := goodIn_app (goodIn_of _ (by decide +kernel)) ggX3_doneIn_X1_hasOrder
set_option maxRecDepth 20000 in
theorem ggX3_doneIn_X1_statusOf : GoodIn wsX3_doneIn wsX1_statusOf := goodIn_r _ [12, 13, 14, 15, 6, 16, 17, 97, 98, 99, 100, 101, 102, 103, 104, 105, 106, 107] (by decide +kernel) (by decide +kernel)
set_option maxRecDepth 20000 in
theorem gX3_doneIn_X1_statusOf : GoodIn wsX3_doneIn (wsV RX3 162 RX1 yX1_statusOf wsX1_statusOf) := goodIn_app (goodIn_of _ (by decide +kernel)) ggX3_doneIn_X1_statusOf
set_option maxRecDepth 20000 in
theorem ggX3_doneIn_X1_become : GoodIn wsX3_doneIn wsX1_become := goodIn_r _ [21, 22, 23, 24, 25, 26, 17, 27, 28, 29, 30, 31, 8, 32, 33, 34, 97, 98, 99, 100, 101, 102, 103, 104, 105, 106, 107] (by decide +kernel) (by decide +kernel)
set_option maxRecDepth 20000 in
theorem gX3_doneIn_X1_become : GoodIn wsX3_doneIn (wsV RX3 165 RX1 yX1_become wsX1_become) := goodIn_app (goodIn_of _ (by decide +kernel)) ggX3_doneIn_X1_become
set_option maxRecDepth 20000 in
theorem ggX3_doneIn_X1_doTick : GoodIn wsX3_doneIn wsX1_doTick := goodIn_r _ [38, 29, 31, 30, 39, 40, 41, 6, 42, 27, 43, 44, 45, 46, 22, 28, 47, 48, 49, 50, 51, 52, 53, 54, 55, 56, 57, 58, 59, 60, 61, 62, 63, 64, 65, 66, 67, 68, 69, 70, 71, 72, 73, 74, 75, 76, 8, 17, 77, 78, 79, 80, 81, 82, 83, 84, 13, 14, 15, 16, 85, 86, 87, 88, 32, 89, 90, 91, 92, 34, 97, 98, 99, 100, 101, 102, 103, 104, 105, 106, 107] (by decide +kernel) (by decide +kernel)
set_option maxRecDepth 20000 in
theorem gX3_doneIn_X1_doTick : GoodIn wsX3_doneIn (wsV RX3 168 RX1 yX1_doTick wsX1_doTick) := goodIn_app (goodIn_of _ (by decide +kernel)) ggX3_doneIn_X1_doTick
theorem dX3_doneIn_0 : decode cX3_doneIn 0 = .ok (.aload_n 0, 1) := by decide +kernel
theorem dX3_doneIn_1 : decode cX3_doneIn 1 = .ok (.getfield 10, 3) := by decide +kernel
theorem dX3_doneIn_4 : decode cX3_doneIn 4 = .ok (.iload_n 1, 1) := by decide +kernel
theorem dX3_doneIn_5 : decode cX3_doneIn 5 = .ok (.invokevirtual 138, 3) := by decide +kernel
theorem dX3_doneIn_8 : decode cX3_doneIn 8 = .ok (.ifCond .ne 5, 3) := by decide +kernel
theorem dX3_doneIn_11 : decode cX3_doneIn 11 = .ok (.iconst (-1), 1) := by decide +kernel
theorem dX3_doneIn_12 : decode cX3_doneIn 12 = .ok (.ireturn, 1) := by decide +kernel
theorem dX3_doneIn_13 : decode cX3_doneIn 13 = .ok (.aload_n 0, 1) := by decide +kernel
theorem dX3_doneIn_14 : decode cX3_doneIn 14 = .ok (.getfield 10, 3) := by decide +kernel
theorem dX3_doneIn_17 : decode cX3_doneIn 17 = .ok (.iload_n 1, 1) := by decide +kernel
theorem dX3_doneIn_18 : decode cX3_doneIn 18 = .ok (.invokevirtual 162, 3) := by decide +kernel
theorem dX3_doneIn_21 : decode cX3_doneIn 21 = .ok (.iconst 1, 1) := by decide +kernel
theorem dX3_doneIn_22 : decode cX3_doneIn 22 = .ok (.if_icmp .ne 5, 3) := by decide +kernel
theorem dX3_doneIn_25 : decode cX3_doneIn 25 = .ok (.iconst 0, 1) := by decide +kernel
theorem dX3_doneIn_26 : decode cX3_doneIn 26 = .ok (.ireturn, 1) := by decide +kernel
theorem dX3_doneIn_27 : decode cX3_doneIn 27 = .ok (.aload_n 0, 1) := by decide +kernel
theorem dX3_doneIn_28 : decode cX3_doneIn 28 = .ok (.getfield 10, 3) := by decide +kernel
theorem dX3_doneIn_31 : decode cX3_doneIn 31 = .ok (.iload_n 1, 1) := by decide +kernel
theorem dX3_doneIn_32 : decode cX3_doneIn 32 = .ok (.invokevirtual 162, 3) := by decide +kernel
theorem dX3_doneIn_35 : decode cX3_doneIn 35 = .ok (.iconst 2, 1) := by decide +kernel
theorem dX3_doneIn_36 : decode cX3_doneIn 36 = .ok (.if_icmp .ne 6, 3) := by decide +kernel
theorem dX3_doneIn_39 : decode cX3_doneIn 39 = .ok (.bipush (-9), 2) := by decide +kernel
theorem dX3_doneIn_41 : decode cX3_doneIn 41 = .ok (.ireturn, 1) := by decide +kernel
theorem dX3_doneIn_42 : decode cX3_doneIn 42 = .ok (.aload_n 0, 1) := by decide +kernel
theorem dX3_doneIn_43 : decode cX3_doneIn 43 = .ok (.getfield 16, 3) := by decide +kernel
theorem dX3_doneIn_46 : decode cX3_doneIn 46 = .ok (.aload_n 0, 1) := by decide +kernel
theorem dX3_doneIn_47 : decode cX3_doneIn 47 = .ok (.getfield 10, 3) := by decide +kernel
theorem dX3_doneIn_50 : decode cX3_doneIn 50 = .ok (.invokevirtual 165, 3) := by decide +kernel
theorem dX3_doneIn_53 : decode cX3_doneIn 53 = .ok (.iconst 1, 1) := by decide +kernel
theorem dX3_doneIn_54 : decode cX3_doneIn 54 = .ok (.istore_n 2, 1) := by decide +kernel
theorem dX3_doneIn_55 : decode cX3_doneIn 55 = .ok (.iload_n 2, 1) := by decide +kernel
theorem dX3_doneIn_56 : decode cX3_doneIn 56 = .ok (.sipush 300, 3) := by decide +kernel
theorem dX3_doneIn_59 : decode cX3_doneIn 59 = .ok (.if_icmp .gt 30, 3) := by decide +kernel
theorem dX3_doneIn_62 : decode cX3_doneIn 62 = .ok (.aload_n 0, 1) := by decide +kernel
theorem dX3_doneIn_63 : decode cX3_doneIn 63 = .ok (.getfield 16, 3) := by decide +kernel
theorem dX3_doneIn_66 : decode cX3_doneIn 66 = .ok (.invokevirtual 168, 3) := by decide +kernel
theorem dX3_doneIn_69 : decode cX3_doneIn 69 = .ok (.aload_n 0, 1) := by decide +kernel
theorem dX3_doneIn_70 : decode cX3_doneIn 70 = .ok (.getfield 16, 3) := by decide +kernel
theorem dX3_doneIn_73 : decode cX3_doneIn 73 = .ok (.iload_n 1, 1) := by decide +kernel
theorem dX3_doneIn_74 : decode cX3_doneIn 74 = .ok (.invokevirtual 162, 3) := by decide +kernel
theorem dX3_doneIn_77 : decode cX3_doneIn 77 = .ok (.iconst 1, 1) := by decide +kernel
theorem dX3_doneIn_78 : decode cX3_doneIn 78 = .ok (.if_icmp .ne 5, 3) := by decide +kernel
theorem dX3_doneIn_81 : decode cX3_doneIn 81 = .ok (.iload_n 2, 1) := by decide +kernel
theorem dX3_doneIn_82 : decode cX3_doneIn 82 = .ok (.ireturn, 1) := by decide +kernel
theorem dX3_doneIn_83 : decode cX3_doneIn 83 = .ok (.iinc 2 1, 3) := by decide +kernel
theorem dX3_doneIn_86 : decode cX3_doneIn 86 = .ok (.goto (-31), 3) := by decide +kernel
theorem dX3_doneIn_89 : decode cX3_doneIn 89 = .ok (.bipush (-9), 2) := by decide +kernel
theorem dX3_doneIn_91 : decode cX3_doneIn 91 = .ok (.ireturn, 1) := by decide +kernel
set_option maxRecDepth 20000 in
theorem ggX3_idleIn_X1_hasWork : GoodIn wsX3_idleIn wsX1_hasWork := goodIn_r _ [7, 8, 93, 94, 95, 96, 97, 98, 99, 100, 101, 102, 103] (by decide +kernel) (by decide +kernel)
set_option maxRecDepth 20000 in
theorem gX3_idleIn_X1_hasWork : GoodIn wsX3_idleIn (wsV RX3 171 RX1 yX1_hasWork wsX1_hasWork) := goodIn_app (goodIn_of _ (by decide +kernel)) ggX3_idleIn_X1_hasWork
set_option maxRecDepth 20000 in
theorem ggX3_idleIn_X1_become : GoodIn wsX3_idleIn wsX1_become := goodIn_r _ [12, 13, 14, 15, 16, 17, 18, 19, 20, 8, 21, 22, 23, 24, 25, 26, 93, 94, 95, 96, 97, 98, 99, 100, 101, 102, 103] (by decide +kernel) (by decide +kernel)
set_option maxRecDepth 20000 in
theorem gX3_idleIn_X1_become : GoodIn wsX3_idleIn (wsV RX3 165 RX1 yX1_become wsX1_become) := goodIn_app (goodIn_of _ (by decide +kernel)) ggX3_idleIn_X1_become
set_option maxRecDepth 20000 in
theorem ggX3_idleIn_X1_doTick : GoodIn wsX3_idleIn wsX1_doTick := goodIn_r _ [30, 8, 22, 21, 31, 32, 33, 6, 34, 19, 35, 36, 37, 38, 13, 20, 39, 40, 41, 42, 43, 44, 45, 46, 47, 48, 49, 50, 51, 52, 53, 54, 55, 56, 57, 58, 59, 60, 61, 62, 63, 64, 65, 66, 67, 68, 23, 18, 69, 70, 71, 72, 73, 74, 75, 76, 77, 78, 79, 80, 81, 82, 83, 84, 24, 85, 86, 87, 88, 26, 93, 94, 95, 96, 97, 98, 99, 100, 101, 102, 103] (by decide +kernel) (by decide +kernel)
set_option maxRecDepth 20000 in
theorem gX3_idleIn_X1_doTick : GoodIn wsX3_idleIn (wsV RX3 168 RX1 yX1_doTick wsX1_doTick) := goodIn_app (goodIn_of _ (by decide +kernel)) ggX3_idleIn_X1_doTick
theorem dX3_idleIn_0 : decode cX3_idleIn 0 = .ok (.aload_n 0, 1) := by decide +kernel
theorem dX3_idleIn_1 : decode cX3_idleIn 1 = .ok (.getfield 10, 3) := by decide +kernel
theorem dX3_idleIn_4 : decode cX3_idleIn 4 = .ok (.invokevirtual 171, 3) := by decide +kernel
theorem dX3_idleIn_7 : decode cX3_idleIn 7 = .ok (.ifCond .ne 5, 3) := by decide +kernel
theorem dX3_idleIn_10 : decode cX3_idleIn 10 = .ok (.iconst 0, 1) := by decide +kernel
theorem dX3_idleIn_11 : decode cX3_idleIn 11 = .ok (.ireturn, 1) := by decide +kernel
theorem dX3_idleIn_12 : decode cX3_idleIn 12 = .ok (.aload_n 0, 1) := by decide +kernel
theorem dX3_idleIn_13 : decode cX3_idleIn 13 = .ok (.getfield 16, 3) := by decide +kernel
theorem dX3_idleIn_16 : decode cX3_idleIn 16 = .ok (.aload_n 0, 1) := by decide +kernel
theorem dX3_idleIn_17 : decode cX3_idleIn 17 = .ok (.getfield 10, 3) := by decide +kernel
theorem dX3_idleIn_20 : decode cX3_idleIn 20 = .ok (.invokevirtual 165, 3) := by decide +kernel
theorem dX3_idleIn_23 : decode cX3_idleIn 23 = .ok (.iconst 1, 1) := by decide +kernel
theorem dX3_idleIn_24 : decode cX3_idleIn 24 = .ok (.istore_n 1, 1) := by decide +kernel
theorem dX3_idleIn_25 : decode cX3_idleIn 25 = .ok (.iload_n 1, 1) := by decide +kernel
theorem dX3_idleIn_26 : decode cX3_idleIn 26 = .ok (.sipush 300, 3) := by decide +kernel
theorem dX3_idleIn_29 : decode cX3_idleIn 29 = .ok (.if_icmp .gt 28, 3) := by decide +kernel
theorem dX3_idleIn_32 : decode cX3_idleIn 32 = .ok (.aload_n 0, 1) := by decide +kernel
theorem dX3_idleIn_33 : decode cX3_idleIn 33 = .ok (.getfield 16, 3) := by decide +kernel
theorem dX3_idleIn_36 : decode cX3_idleIn 36 = .ok (.invokevirtual 168, 3) := by decide +kernel
theorem dX3_idleIn_39 : decode cX3_idleIn 39 = .ok (.aload_n 0, 1) := by decide +kernel
theorem dX3_idleIn_40 : decode cX3_idleIn 40 = .ok (.getfield 16, 3) := by decide +kernel
theorem dX3_idleIn_43 : decode cX3_idleIn 43 = .ok (.invokevirtual 171, 3) := by decide +kernel
theorem dX3_idleIn_46 : decode cX3_idleIn 46 = .ok (.ifCond .ne 5, 3) := by decide +kernel
theorem dX3_idleIn_49 : decode cX3_idleIn 49 = .ok (.iload_n 1, 1) := by decide +kernel
theorem dX3_idleIn_50 : decode cX3_idleIn 50 = .ok (.ireturn, 1) := by decide +kernel
theorem dX3_idleIn_51 : decode cX3_idleIn 51 = .ok (.iinc 1 1, 3) := by decide +kernel
theorem dX3_idleIn_54 : decode cX3_idleIn 54 = .ok (.goto (-29), 3) := by decide +kernel
theorem dX3_idleIn_57 : decode cX3_idleIn 57 = .ok (.bipush (-9), 2) := by decide +kernel
theorem dX3_idleIn_59 : decode cX3_idleIn 59 = .ok (.ireturn, 1) := by decide +kernel
set_option maxRecDepth 20000 in
theorem ggX3_wouldWipe_X1_become : GoodIn wsX3_wouldWipe wsX1_become := goodIn_r _ [7, 8, 9, 10, 11, 12, 13, 14, 15, 16, 17, 18, 19, 20, 21, 22, 70, 71, 72, 73, 74, 75, 76, 77, 78, 79, 80] (by decide +kernel) (by decide +kernel)
set_option maxRecDepth 20000 in
theorem gX3_wouldWipe_X1_become : GoodIn wsX3_wouldWipe (wsV RX3 165 RX1 yX1_become wsX1_become) := goodIn_app (goodIn_of _ (by decide +kernel)) ggX3_wouldWipe_X1_become
set_option maxRecDepth 20000 in
theorem ggX3_wouldWipe_X1_cutPower : GoodIn wsX3_wouldWipe wsX1_cutPower := goodIn_r _ [26, 14, 8, 27, 28, 29, 6, 30, 19, 13, 20, 15, 16, 31, 32, 33, 34, 35, 36, 37, 38, 39, 40, 41, 70, 71, 72, 73, 74, 75, 76, 77, 78, 79, 80] (by decide +kernel) (by decide +kernel)
set_option maxRecDepth 20000 in
theorem gX3_wouldWipe_X1_cutPower : GoodIn wsX3_wouldWipe (wsV RX3 52 RX1 yX1_cutPower wsX1_cutPower) := goodIn_app (goodIn_of _ (by decide +kernel)) ggX3_wouldWipe_X1_cutPower
set_option maxRecDepth 20000 in
theorem ggX3_wouldWipe_X1_repairBlocks : GoodIn wsX3_wouldWipe wsX1_repairBlocks := goodIn_r _ [45, 17, 18, 39, 40, 6, 41, 46, 47, 48, 49, 8, 21, 50, 51, 52, 53, 54, 55, 56, 57, 58, 59, 60, 61, 14, 70, 71, 72, 73, 74, 75, 76, 77, 78, 79, 80] (by decide +kernel) (by decide +kernel)
set_option maxRecDepth 20000 in
theorem gX3_wouldWipe_X1_repairBlocks : GoodIn wsX3_wouldWipe (wsV RX3 174 RX1 yX1_repairBlocks wsX1_repairBlocks) := goodIn_app (goodIn_of _ (by decide +kernel)) ggX3_wouldWipe_X1_repairBlocks
set_option maxRecDepth 20000 in
theorem ggX3_wouldWipe_X1_wiped : GoodIn wsX3_wouldWipe wsX1_wiped := goodIn_r _ [65, 21, 70, 71, 72, 73, 74, 75, 76, 77, 78, 79, 80] (by decide +kernel) (by decide +kernel)
set_option maxRecDepth 20000 in
theorem gX3_wouldWipe_X1_wiped : GoodIn wsX3_wouldWipe (wsV RX3 124 RX1 yX1_wiped wsX1_wiped) := goodIn_app (goodIn_of _ (by decide +kernel)) ggX3_wouldWipe_X1_wiped
theorem dX3_wouldWipe_0 : decode cX3_wouldWipe 0 = .ok (.aload_n 0, 1) := by decide +kernel
theorem dX3_wouldWipe_1 : decode cX3_wouldWipe 1 = .ok (.getfield 16, 3) := by decide +kernel
theorem dX3_wouldWipe_4 : decode cX3_wouldWipe 4 = .ok (.aload_n 0, 1) := by decide +kernel
theorem dX3_wouldWipe_5 : decode cX3_wouldWipe 5 = .ok (.getfield 10, 3) := by decide +kernel
theorem dX3_wouldWipe_8 : decode cX3_wouldWipe 8 = .ok (.invokevirtual 165, 3) := by decide +kernel
theorem dX3_wouldWipe_11 : decode cX3_wouldWipe 11 = .ok (.aload_n 0, 1) := by decide +kernel
theorem dX3_wouldWipe_12 : decode cX3_wouldWipe 12 = .ok (.getfield 16, 3) := by decide +kernel
theorem dX3_wouldWipe_15 : decode cX3_wouldWipe 15 = .ok (.invokevirtual 52, 3) := by decide +kernel
theorem dX3_wouldWipe_18 : decode cX3_wouldWipe 18 = .ok (.pop, 1) := by decide +kernel
theorem dX3_wouldWipe_19 : decode cX3_wouldWipe 19 = .ok (.aload_n 0, 1) := by decide +kernel
theorem dX3_wouldWipe_20 : decode cX3_wouldWipe 20 = .ok (.getfield 16, 3) := by decide +kernel
theorem dX3_wouldWipe_23 : decode cX3_wouldWipe 23 = .ok (.invokevirtual 174, 3) := by decide +kernel
theorem dX3_wouldWipe_26 : decode cX3_wouldWipe 26 = .ok (.pop, 1) := by decide +kernel
theorem dX3_wouldWipe_27 : decode cX3_wouldWipe 27 = .ok (.aload_n 0, 1) := by decide +kernel
theorem dX3_wouldWipe_28 : decode cX3_wouldWipe 28 = .ok (.getfield 16, 3) := by decide +kernel
theorem dX3_wouldWipe_31 : decode cX3_wouldWipe 31 = .ok (.invokevirtual 124, 3) := by decide +kernel
theorem dX3_wouldWipe_34 : decode cX3_wouldWipe 34 = .ok (.aload_n 0, 1) := by decide +kernel
theorem dX3_wouldWipe_35 : decode cX3_wouldWipe 35 = .ok (.getfield 10, 3) := by decide +kernel
theorem dX3_wouldWipe_38 : decode cX3_wouldWipe 38 = .ok (.invokevirtual 124, 3) := by decide +kernel
theorem dX3_wouldWipe_41 : decode cX3_wouldWipe 41 = .ok (.isub, 1) := by decide +kernel
theorem dX3_wouldWipe_42 : decode cX3_wouldWipe 42 = .ok (.ireturn, 1) := by decide +kernel
set_option maxRecDepth 20000 in
theorem ggX3_settle_X0_keepNoted : GoodIn wsX3_settle wsX0_keepNoted := goodIn_r _ [6, 7, 8, 9, 10, 11, 12, 17, 18, 19] (by decide +kernel) (by decide +kernel)
set_option maxRecDepth 20000 in
theorem gX3_settle_X0_keepNoted : GoodIn wsX3_settle (wsV RX3 100 RX0 yX0_keepNoted wsX0_keepNoted) := goodIn_app (goodIn_of _ (by decide +kernel)) ggX3_settle_X0_keepNoted
theorem dX3_settle_0 : decode cX3_settle 0 = .ok (.iload_n 1, 1) := by decide +kernel
theorem dX3_settle_1 : decode cX3_settle 1 = .ok (.ifCond .lt 10, 3) := by decide +kernel
theorem dX3_settle_4 : decode cX3_settle 4 = .ok (.aload_n 0, 1) := by decide +kernel
theorem dX3_settle_5 : decode cX3_settle 5 = .ok (.getfield 22, 3) := by decide +kernel
theorem dX3_settle_8 : decode cX3_settle 8 = .ok (.invokevirtual 100, 3) := by decide +kernel
theorem dX3_settle_11 : decode cX3_settle 11 = .ok (.iload_n 1, 1) := by decide +kernel
theorem dX3_settle_12 : decode cX3_settle 12 = .ok (.ireturn, 1) := by decide +kernel
set_option maxRecDepth 20000 in
theorem ggX3_perform_X2_numberBehind : GoodIn wsX3_perform wsX2_numberBehind := goodIn_r _ [7, 8, 123, 124, 125, 126, 127, 128, 129, 130, 131] (by decide +kernel) (by decide +kernel)
set_option maxRecDepth 20000 in
theorem gX3_perform_X2_numberBehind : GoodIn wsX3_perform (wsV RX3 177 RX2 yX2_numberBehind wsX2_numberBehind) := goodIn_app (goodIn_of _ (by decide +kernel)) ggX3_perform_X2_numberBehind
set_option maxRecDepth 20000 in
theorem ggX3_perform_X2_signAt : GoodIn wsX3_perform wsX2_signAt := goodIn_r _ [12, 13, 14, 123, 124, 125, 126, 127, 128, 129, 130, 131] (by decide +kernel) (by decide +kernel)
set_option maxRecDepth 20000 in
theorem gX3_perform_X2_signAt : GoodIn wsX3_perform (wsV RX3 180 RX2 yX2_signAt wsX2_signAt) := goodIn_app (goodIn_of _ (by decide +kernel)) ggX3_perform_X2_signAt
set_option maxRecDepth 20000 in
theorem ggX3_perform_X1_takeRead : GoodIn wsX3_perform wsX1_takeRead := goodIn_r _ [19, 20, 21, 18, 22, 23, 24, 25, 26, 27, 28, 29, 30, 31, 32, 33, 34, 35, 132, 133, 134, 135, 136, 137, 138, 139, 140, 141, 142] (by decide +kernel) (by decide +kernel)
set_option maxRecDepth 20000 in
theorem gX3_perform_X1_takeRead : GoodIn wsX3_perform (wsV RX3 37 RX1 yX1_takeRead wsX1_takeRead) := goodIn_app (goodIn_of _ (by decide +kernel)) ggX3_perform_X1_takeRead
set_option maxRecDepth 20000 in
theorem ggX3_perform_X1_takeWrite : GoodIn wsX3_perform wsX1_takeWrite := goodIn_r _ [39, 20, 21, 18, 22, 23, 24, 25, 26, 27, 28, 29, 30, 31, 32, 33, 34, 35, 132, 133, 134, 135, 136, 137, 138, 139, 140, 141, 142] (by decide +kernel) (by decide +kernel)
set_option maxRecDepth 20000 in
theorem gX3_perform_X1_takeWrite : GoodIn wsX3_perform (wsV RX3 45 RX1 yX1_takeWrite wsX1_takeWrite) := goodIn_app (goodIn_of _ (by decide +kernel)) ggX3_perform_X1_takeWrite
set_option maxRecDepth 20000 in
theorem ggX3_perform_X1_letPass : GoodIn wsX3_perform wsX1_letPass := goodIn_r _ [43, 30, 28, 44, 45, 46, 18, 47, 32, 48, 49, 50, 51, 52, 53, 54, 55, 56, 57, 58, 31, 59, 60, 61, 62, 63, 64, 65, 66, 33, 34, 35, 67, 68, 69, 70, 71, 72, 73, 74, 75, 76, 77, 78, 79, 80, 81, 82, 83, 84, 85, 27, 29, 86, 87, 88, 89, 90, 91, 92, 93, 94, 95, 96, 97, 98, 99, 100, 101, 102, 103, 104, 105, 106, 132, 133, 134, 135, 136, 137, 138, 139, 140, 141, 142] (by decide +kernel) (by decide +kernel)
set_option maxRecDepth 20000 in
theorem gX3_perform_X1_letPass : GoodIn wsX3_perform (wsV RX3 49 RX1 yX1_letPass wsX1_letPass) := goodIn_app (goodIn_of _ (by decide +kernel)) ggX3_perform_X1_letPass
set_option maxRecDepth 20000 in
theorem ggX3_perform_X1_cutPower : GoodIn wsX3_perform wsX1_cutPower := goodIn_r _ [110, 53, 58, 111, 112, 113, 18, 114, 27, 29, 28, 31, 32, 115, 116, 117, 118, 94, 95, 96, 97, 67, 68, 69, 132, 133, 134, 135, 136, 137, 138, 139, 140, 141, 142] (by decide +kernel) (by decide +kernel)
set_option maxRecDepth 20000 in
theorem gX3_perform_X1_cutPower : GoodIn wsX3_perform (wsV RX3 52 RX1 yX1_cutPower wsX1_cutPower) := goodIn_app (goodIn_of _ (by decide +kernel)) ggX3_perform_X1_cutPower
theorem dX3_perform_0 : decode cX3_perform 0 = .ok (.aload_n 0, 1) := by decide +kernel
theorem dX3_perform_1 : decode cX3_perform 1 = .ok (.getfield 29, 3) := by decide +kernel
theorem dX3_perform_4 : decode cX3_perform 4 = .ok (.iload_n 1, 1) := by decide +kernel
theorem dX3_perform_5 : decode cX3_perform 5 = .ok (.iconst 0, 1) := by decide +kernel
theorem dX3_perform_6 : decode cX3_perform 6 = .ok (.invokevirtual 177, 3) := by decide +kernel
theorem dX3_perform_9 : decode cX3_perform 9 = .ok (.istore_n 2, 1) := by decide +kernel
theorem dX3_perform_10 : decode cX3_perform 10 = .ok (.aload_n 0, 1) := by decide +kernel
theorem dX3_perform_11 : decode cX3_perform 11 = .ok (.getfield 29, 3) := by decide +kernel
theorem dX3_perform_14 : decode cX3_perform 14 = .ok (.iload_n 1, 1) := by decide +kernel
theorem dX3_perform_15 : decode cX3_perform 15 = .ok (.iconst 1, 1) := by decide +kernel
theorem dX3_perform_16 : decode cX3_perform 16 = .ok (.invokevirtual 177, 3) := by decide +kernel
theorem dX3_perform_19 : decode cX3_perform 19 = .ok (.istore_n 3, 1) := by decide +kernel
theorem dX3_perform_20 : decode cX3_perform 20 = .ok (.aload_n 0, 1) := by decide +kernel
theorem dX3_perform_21 : decode cX3_perform 21 = .ok (.getfield 29, 3) := by decide +kernel
theorem dX3_perform_24 : decode cX3_perform 24 = .ok (.iload_n 1, 1) := by decide +kernel
theorem dX3_perform_25 : decode cX3_perform 25 = .ok (.iconst 2, 1) := by decide +kernel
theorem dX3_perform_26 : decode cX3_perform 26 = .ok (.invokevirtual 177, 3) := by decide +kernel
theorem dX3_perform_29 : decode cX3_perform 29 = .ok (.istore 4, 2) := by decide +kernel
theorem dX3_perform_31 : decode cX3_perform 31 = .ok (.aload_n 0, 1) := by decide +kernel
theorem dX3_perform_32 : decode cX3_perform 32 = .ok (.getfield 29, 3) := by decide +kernel
theorem dX3_perform_35 : decode cX3_perform 35 = .ok (.iload_n 1, 1) := by decide +kernel
theorem dX3_perform_36 : decode cX3_perform 36 = .ok (.invokevirtual 180, 3) := by decide +kernel
theorem dX3_perform_39 : decode cX3_perform 39 = .ok (.lookupswitch 64 #[(114, 33), (116, 55), (119, 43)], 33) := by decide +kernel
theorem dX3_perform_72 : decode cX3_perform 72 = .ok (.aload_n 0, 1) := by decide +kernel
theorem dX3_perform_73 : decode cX3_perform 73 = .ok (.getfield 10, 3) := by decide +kernel
theorem dX3_perform_76 : decode cX3_perform 76 = .ok (.iload_n 2, 1) := by decide +kernel
theorem dX3_perform_77 : decode cX3_perform 77 = .ok (.iload_n 3, 1) := by decide +kernel
theorem dX3_perform_78 : decode cX3_perform 78 = .ok (.invokevirtual 37, 3) := by decide +kernel
theorem dX3_perform_81 : decode cX3_perform 81 = .ok (.ireturn, 1) := by decide +kernel
theorem dX3_perform_82 : decode cX3_perform 82 = .ok (.aload_n 0, 1) := by decide +kernel
theorem dX3_perform_83 : decode cX3_perform 83 = .ok (.getfield 10, 3) := by decide +kernel
theorem dX3_perform_86 : decode cX3_perform 86 = .ok (.iload_n 2, 1) := by decide +kernel
theorem dX3_perform_87 : decode cX3_perform 87 = .ok (.iload_n 3, 1) := by decide +kernel
theorem dX3_perform_88 : decode cX3_perform 88 = .ok (.iload 4, 2) := by decide +kernel
theorem dX3_perform_90 : decode cX3_perform 90 = .ok (.invokevirtual 45, 3) := by decide +kernel
theorem dX3_perform_93 : decode cX3_perform 93 = .ok (.ireturn, 1) := by decide +kernel
theorem dX3_perform_94 : decode cX3_perform 94 = .ok (.aload_n 0, 1) := by decide +kernel
theorem dX3_perform_95 : decode cX3_perform 95 = .ok (.getfield 10, 3) := by decide +kernel
theorem dX3_perform_98 : decode cX3_perform 98 = .ok (.iload_n 2, 1) := by decide +kernel
theorem dX3_perform_99 : decode cX3_perform 99 = .ok (.invokevirtual 49, 3) := by decide +kernel
theorem dX3_perform_102 : decode cX3_perform 102 = .ok (.ireturn, 1) := by decide +kernel
theorem dX3_perform_103 : decode cX3_perform 103 = .ok (.aload_n 0, 1) := by decide +kernel
theorem dX3_perform_104 : decode cX3_perform 104 = .ok (.getfield 10, 3) := by decide +kernel
theorem dX3_perform_107 : decode cX3_perform 107 = .ok (.invokevirtual 52, 3) := by decide +kernel
theorem dX3_perform_110 : decode cX3_perform 110 = .ok (.ireturn, 1) := by decide +kernel
theorem dX4_init_0 : decode cX4_init 0 = .ok (.aload_n 0, 1) := by decide +kernel
theorem dX4_init_1 : decode cX4_init 1 = .ok (.invokespecial 1, 3) := by decide +kernel
theorem dX4_init_4 : decode cX4_init 4 = .ok (.aload_n 0, 1) := by decide +kernel
theorem dX4_init_5 : decode cX4_init 5 = .ok (.sipush 965, 3) := by decide +kernel
theorem dX4_init_8 : decode cX4_init 8 = .ok (.newarray .int, 2) := by decide +kernel
theorem dX4_init_10 : decode cX4_init 10 = .ok (.putfield 7, 3) := by decide +kernel
theorem dX4_init_13 : decode cX4_init 13 = .ok (.aload_n 0, 1) := by decide +kernel
theorem dX4_init_14 : decode cX4_init 14 = .ok (.sipush 4825, 3) := by decide +kernel
theorem dX4_init_17 : decode cX4_init 17 = .ok (.newarray .int, 2) := by decide +kernel
theorem dX4_init_19 : decode cX4_init 19 = .ok (.putfield 13, 3) := by decide +kernel
theorem dX4_init_22 : decode cX4_init 22 = .ok (.aload_n 0, 1) := by decide +kernel
theorem dX4_init_23 : decode cX4_init 23 = .ok (.sipush 965, 3) := by decide +kernel
theorem dX4_init_26 : decode cX4_init 26 = .ok (.newarray .int, 2) := by decide +kernel
theorem dX4_init_28 : decode cX4_init 28 = .ok (.putfield 16, 3) := by decide +kernel
theorem dX4_init_31 : decode cX4_init 31 = .ok (.aload_n 0, 1) := by decide +kernel
theorem dX4_init_32 : decode cX4_init 32 = .ok (.bipush 80, 2) := by decide +kernel
theorem dX4_init_34 : decode cX4_init 34 = .ok (.newarray .int, 2) := by decide +kernel
theorem dX4_init_36 : decode cX4_init 36 = .ok (.putfield 19, 3) := by decide +kernel
theorem dX4_init_39 : decode cX4_init 39 = .ok (.aload_n 0, 1) := by decide +kernel
theorem dX4_init_40 : decode cX4_init 40 = .ok (.iconst 4, 1) := by decide +kernel
theorem dX4_init_41 : decode cX4_init 41 = .ok (.newarray .int, 2) := by decide +kernel
theorem dX4_init_43 : decode cX4_init 43 = .ok (.putfield 22, 3) := by decide +kernel
theorem dX4_init_46 : decode cX4_init 46 = .ok (.aload_n 0, 1) := by decide +kernel
theorem dX4_init_47 : decode cX4_init 47 = .ok (.iconst 4, 1) := by decide +kernel
theorem dX4_init_48 : decode cX4_init 48 = .ok (.newarray .int, 2) := by decide +kernel
theorem dX4_init_50 : decode cX4_init 50 = .ok (.putfield 25, 3) := by decide +kernel
theorem dX4_init_53 : decode cX4_init 53 = .ok (.aload_n 0, 1) := by decide +kernel
theorem dX4_init_54 : decode cX4_init 54 = .ok (.iconst 3, 1) := by decide +kernel
theorem dX4_init_55 : decode cX4_init 55 = .ok (.newarray .int, 2) := by decide +kernel
theorem dX4_init_57 : decode cX4_init 57 = .ok (.putfield 28, 3) := by decide +kernel
theorem dX4_init_60 : decode cX4_init 60 = .ok (.iconst 0, 1) := by decide +kernel
theorem dX4_init_61 : decode cX4_init 61 = .ok (.istore_n 1, 1) := by decide +kernel
theorem dX4_init_62 : decode cX4_init 62 = .ok (.iload_n 1, 1) := by decide +kernel
theorem dX4_init_63 : decode cX4_init 63 = .ok (.bipush 96, 2) := by decide +kernel
theorem dX4_init_65 : decode cX4_init 65 = .ok (.if_icmp .ge 23, 3) := by decide +kernel
theorem dX4_init_68 : decode cX4_init 68 = .ok (.aload_n 0, 1) := by decide +kernel
theorem dX4_init_69 : decode cX4_init 69 = .ok (.getfield 7, 3) := by decide +kernel
theorem dX4_init_72 : decode cX4_init 72 = .ok (.iconst 5, 1) := by decide +kernel
theorem dX4_init_73 : decode cX4_init 73 = .ok (.iconst 5, 1) := by decide +kernel
theorem dX4_init_74 : decode cX4_init 74 = .ok (.iload_n 1, 1) := by decide +kernel
theorem dX4_init_75 : decode cX4_init 75 = .ok (.imul, 1) := by decide +kernel
theorem dX4_init_76 : decode cX4_init 76 = .ok (.iadd, 1) := by decide +kernel
theorem dX4_init_77 : decode cX4_init 77 = .ok (.iconst 4, 1) := by decide +kernel
theorem dX4_init_78 : decode cX4_init 78 = .ok (.iadd, 1) := by decide +kernel
theorem dX4_init_79 : decode cX4_init 79 = .ok (.bipush (-2), 2) := by decide +kernel
theorem dX4_init_81 : decode cX4_init 81 = .ok (.iastore, 1) := by decide +kernel
theorem dX4_init_82 : decode cX4_init 82 = .ok (.iinc 1 1, 3) := by decide +kernel
theorem dX4_init_85 : decode cX4_init 85 = .ok (.goto (-23), 3) := by decide +kernel
theorem dX4_init_88 : decode cX4_init 88 = .ok (.return_, 1) := by decide +kernel
theorem dX4_within_0 : decode cX4_within 0 = .ok (.iload_n 0, 1) := by decide +kernel
theorem dX4_within_1 : decode cX4_within 1 = .ok (.iload_n 1, 1) := by decide +kernel
theorem dX4_within_2 : decode cX4_within 2 = .ok (.if_icmp .lt 12, 3) := by decide +kernel
theorem dX4_within_5 : decode cX4_within 5 = .ok (.iload_n 0, 1) := by decide +kernel
theorem dX4_within_6 : decode cX4_within 6 = .ok (.iload_n 2, 1) := by decide +kernel
theorem dX4_within_7 : decode cX4_within 7 = .ok (.if_icmp .gt 7, 3) := by decide +kernel
theorem dX4_within_10 : decode cX4_within 10 = .ok (.iconst 1, 1) := by decide +kernel
theorem dX4_within_11 : decode cX4_within 11 = .ok (.goto 4, 3) := by decide +kernel
theorem dX4_within_14 : decode cX4_within 14 = .ok (.iconst 0, 1) := by decide +kernel
theorem dX4_within_15 : decode cX4_within 15 = .ok (.ireturn, 1) := by decide +kernel
theorem dX4_saves_0 : decode cX4_saves 0 = .ok (.aload_n 0, 1) := by decide +kernel
theorem dX4_saves_1 : decode cX4_saves 1 = .ok (.getfield 31, 3) := by decide +kernel
theorem dX4_saves_4 : decode cX4_saves 4 = .ok (.ifCond .eq 4, 3) := by decide +kernel
theorem dX4_saves_7 : decode cX4_saves 7 = .ok (.return_, 1) := by decide +kernel
theorem dX4_saves_8 : decode cX4_saves 8 = .ok (.aload_n 0, 1) := by decide +kernel
theorem dX4_saves_9 : decode cX4_saves 9 = .ok (.getfield 35, 3) := by decide +kernel
theorem dX4_saves_12 : decode cX4_saves 12 = .ok (.iconst 5, 1) := by decide +kernel
theorem dX4_saves_13 : decode cX4_saves 13 = .ok (.if_icmp .ne 44, 3) := by decide +kernel
theorem dX4_saves_16 : decode cX4_saves 16 = .ok (.iconst 0, 1) := by decide +kernel
theorem dX4_saves_17 : decode cX4_saves 17 = .ok (.istore_n 1, 1) := by decide +kernel
theorem dX4_saves_18 : decode cX4_saves 18 = .ok (.iload_n 1, 1) := by decide +kernel
theorem dX4_saves_19 : decode cX4_saves 19 = .ok (.sipush 3860, 3) := by decide +kernel
theorem dX4_saves_22 : decode cX4_saves 22 = .ok (.if_icmp .ge 25, 3) := by decide +kernel
theorem dX4_saves_25 : decode cX4_saves 25 = .ok (.aload_n 0, 1) := by decide +kernel
theorem dX4_saves_26 : decode cX4_saves 26 = .ok (.getfield 13, 3) := by decide +kernel
theorem dX4_saves_29 : decode cX4_saves 29 = .ok (.iload_n 1, 1) := by decide +kernel
theorem dX4_saves_30 : decode cX4_saves 30 = .ok (.aload_n 0, 1) := by decide +kernel
theorem dX4_saves_31 : decode cX4_saves 31 = .ok (.getfield 13, 3) := by decide +kernel
theorem dX4_saves_34 : decode cX4_saves 34 = .ok (.iload_n 1, 1) := by decide +kernel
theorem dX4_saves_35 : decode cX4_saves 35 = .ok (.sipush 965, 3) := by decide +kernel
theorem dX4_saves_38 : decode cX4_saves 38 = .ok (.iadd, 1) := by decide +kernel
theorem dX4_saves_39 : decode cX4_saves 39 = .ok (.iaload, 1) := by decide +kernel
theorem dX4_saves_40 : decode cX4_saves 40 = .ok (.iastore, 1) := by decide +kernel
theorem dX4_saves_41 : decode cX4_saves 41 = .ok (.iinc 1 1, 3) := by decide +kernel
theorem dX4_saves_44 : decode cX4_saves 44 = .ok (.goto (-26), 3) := by decide +kernel
theorem dX4_saves_47 : decode cX4_saves 47 = .ok (.aload_n 0, 1) := by decide +kernel
theorem dX4_saves_48 : decode cX4_saves 48 = .ok (.dup, 1) := by decide +kernel
theorem dX4_saves_49 : decode cX4_saves 49 = .ok (.getfield 35, 3) := by decide +kernel
theorem dX4_saves_52 : decode cX4_saves 52 = .ok (.iconst 1, 1) := by decide +kernel
theorem dX4_saves_53 : decode cX4_saves 53 = .ok (.isub, 1) := by decide +kernel
theorem dX4_saves_54 : decode cX4_saves 54 = .ok (.putfield 35, 3) := by decide +kernel
theorem dX4_saves_57 : decode cX4_saves 57 = .ok (.iconst 0, 1) := by decide +kernel
theorem dX4_saves_58 : decode cX4_saves 58 = .ok (.istore_n 1, 1) := by decide +kernel
theorem dX4_saves_59 : decode cX4_saves 59 = .ok (.iload_n 1, 1) := by decide +kernel
theorem dX4_saves_60 : decode cX4_saves 60 = .ok (.sipush 965, 3) := by decide +kernel
theorem dX4_saves_63 : decode cX4_saves 63 = .ok (.if_icmp .ge 30, 3) := by decide +kernel
theorem dX4_saves_66 : decode cX4_saves 66 = .ok (.aload_n 0, 1) := by decide +kernel
theorem dX4_saves_67 : decode cX4_saves 67 = .ok (.getfield 13, 3) := by decide +kernel
theorem dX4_saves_70 : decode cX4_saves 70 = .ok (.sipush 965, 3) := by decide +kernel
theorem dX4_saves_73 : decode cX4_saves 73 = .ok (.aload_n 0, 1) := by decide +kernel
theorem dX4_saves_74 : decode cX4_saves 74 = .ok (.getfield 35, 3) := by decide +kernel
theorem dX4_saves_77 : decode cX4_saves 77 = .ok (.imul, 1) := by decide +kernel
theorem dX4_saves_78 : decode cX4_saves 78 = .ok (.iload_n 1, 1) := by decide +kernel
theorem dX4_saves_79 : decode cX4_saves 79 = .ok (.iadd, 1) := by decide +kernel
theorem dX4_saves_80 : decode cX4_saves 80 = .ok (.aload_n 0, 1) := by decide +kernel
theorem dX4_saves_81 : decode cX4_saves 81 = .ok (.getfield 7, 3) := by decide +kernel
theorem dX4_saves_84 : decode cX4_saves 84 = .ok (.iload_n 1, 1) := by decide +kernel
theorem dX4_saves_85 : decode cX4_saves 85 = .ok (.iaload, 1) := by decide +kernel
theorem dX4_saves_86 : decode cX4_saves 86 = .ok (.iastore, 1) := by decide +kernel
theorem dX4_saves_87 : decode cX4_saves 87 = .ok (.iinc 1 1, 3) := by decide +kernel
theorem dX4_saves_90 : decode cX4_saves 90 = .ok (.goto (-31), 3) := by decide +kernel
theorem dX4_saves_93 : decode cX4_saves 93 = .ok (.aload_n 0, 1) := by decide +kernel
theorem dX4_saves_94 : decode cX4_saves 94 = .ok (.dup, 1) := by decide +kernel
theorem dX4_saves_95 : decode cX4_saves 95 = .ok (.getfield 35, 3) := by decide +kernel
theorem dX4_saves_98 : decode cX4_saves 98 = .ok (.iconst 1, 1) := by decide +kernel
theorem dX4_saves_99 : decode cX4_saves 99 = .ok (.iadd, 1) := by decide +kernel
theorem dX4_saves_100 : decode cX4_saves 100 = .ok (.putfield 35, 3) := by decide +kernel
theorem dX4_saves_103 : decode cX4_saves 103 = .ok (.return_, 1) := by decide +kernel
theorem dX4_undo_0 : decode cX4_undo 0 = .ok (.aload_n 0, 1) := by decide +kernel
theorem dX4_undo_1 : decode cX4_undo 1 = .ok (.getfield 35, 3) := by decide +kernel
theorem dX4_undo_4 : decode cX4_undo 4 = .ok (.ifCond .ne 6, 3) := by decide +kernel
theorem dX4_undo_7 : decode cX4_undo 7 = .ok (.bipush (-2), 2) := by decide +kernel
theorem dX4_undo_9 : decode cX4_undo 9 = .ok (.ireturn, 1) := by decide +kernel
theorem dX4_undo_10 : decode cX4_undo 10 = .ok (.aload_n 0, 1) := by decide +kernel
theorem dX4_undo_11 : decode cX4_undo 11 = .ok (.dup, 1) := by decide +kernel
theorem dX4_undo_12 : decode cX4_undo 12 = .ok (.getfield 35, 3) := by decide +kernel
theorem dX4_undo_15 : decode cX4_undo 15 = .ok (.iconst 1, 1) := by decide +kernel
theorem dX4_undo_16 : decode cX4_undo 16 = .ok (.isub, 1) := by decide +kernel
theorem dX4_undo_17 : decode cX4_undo 17 = .ok (.putfield 35, 3) := by decide +kernel
theorem dX4_undo_20 : decode cX4_undo 20 = .ok (.iconst 0, 1) := by decide +kernel
theorem dX4_undo_21 : decode cX4_undo 21 = .ok (.istore_n 1, 1) := by decide +kernel
theorem dX4_undo_22 : decode cX4_undo 22 = .ok (.iload_n 1, 1) := by decide +kernel
theorem dX4_undo_23 : decode cX4_undo 23 = .ok (.sipush 965, 3) := by decide +kernel
theorem dX4_undo_26 : decode cX4_undo 26 = .ok (.if_icmp .ge 30, 3) := by decide +kernel
theorem dX4_undo_29 : decode cX4_undo 29 = .ok (.aload_n 0, 1) := by decide +kernel
theorem dX4_undo_30 : decode cX4_undo 30 = .ok (.getfield 7, 3) := by decide +kernel
theorem dX4_undo_33 : decode cX4_undo 33 = .ok (.iload_n 1, 1) := by decide +kernel
theorem dX4_undo_34 : decode cX4_undo 34 = .ok (.aload_n 0, 1) := by decide +kernel
theorem dX4_undo_35 : decode cX4_undo 35 = .ok (.getfield 13, 3) := by decide +kernel
theorem dX4_undo_38 : decode cX4_undo 38 = .ok (.sipush 965, 3) := by decide +kernel
theorem dX4_undo_41 : decode cX4_undo 41 = .ok (.aload_n 0, 1) := by decide +kernel
theorem dX4_undo_42 : decode cX4_undo 42 = .ok (.getfield 35, 3) := by decide +kernel
theorem dX4_undo_45 : decode cX4_undo 45 = .ok (.imul, 1) := by decide +kernel
theorem dX4_undo_46 : decode cX4_undo 46 = .ok (.iload_n 1, 1) := by decide +kernel
theorem dX4_undo_47 : decode cX4_undo 47 = .ok (.iadd, 1) := by decide +kernel
theorem dX4_undo_48 : decode cX4_undo 48 = .ok (.iaload, 1) := by decide +kernel
theorem dX4_undo_49 : decode cX4_undo 49 = .ok (.iastore, 1) := by decide +kernel
theorem dX4_undo_50 : decode cX4_undo 50 = .ok (.iinc 1 1, 3) := by decide +kernel
theorem dX4_undo_53 : decode cX4_undo 53 = .ok (.goto (-31), 3) := by decide +kernel
theorem dX4_undo_56 : decode cX4_undo 56 = .ok (.aload_n 0, 1) := by decide +kernel
theorem dX4_undo_57 : decode cX4_undo 57 = .ok (.getfield 35, 3) := by decide +kernel
theorem dX4_undo_60 : decode cX4_undo 60 = .ok (.ireturn, 1) := by decide +kernel
theorem dX4_puts_0 : decode cX4_puts 0 = .ok (.iconst 0, 1) := by decide +kernel
theorem dX4_puts_1 : decode cX4_puts 1 = .ok (.istore_n 1, 1) := by decide +kernel
theorem dX4_puts_2 : decode cX4_puts 2 = .ok (.iload_n 1, 1) := by decide +kernel
theorem dX4_puts_3 : decode cX4_puts 3 = .ok (.sipush 965, 3) := by decide +kernel
theorem dX4_puts_6 : decode cX4_puts 6 = .ok (.if_icmp .ge 21, 3) := by decide +kernel
theorem dX4_puts_9 : decode cX4_puts 9 = .ok (.aload_n 0, 1) := by decide +kernel
theorem dX4_puts_10 : decode cX4_puts 10 = .ok (.getfield 16, 3) := by decide +kernel
theorem dX4_puts_13 : decode cX4_puts 13 = .ok (.iload_n 1, 1) := by decide +kernel
theorem dX4_puts_14 : decode cX4_puts 14 = .ok (.aload_n 0, 1) := by decide +kernel
theorem dX4_puts_15 : decode cX4_puts 15 = .ok (.getfield 7, 3) := by decide +kernel
theorem dX4_puts_18 : decode cX4_puts 18 = .ok (.iload_n 1, 1) := by decide +kernel
theorem dX4_puts_19 : decode cX4_puts 19 = .ok (.iaload, 1) := by decide +kernel
theorem dX4_puts_20 : decode cX4_puts 20 = .ok (.iastore, 1) := by decide +kernel
theorem dX4_puts_21 : decode cX4_puts 21 = .ok (.iinc 1 1, 3) := by decide +kernel
theorem dX4_puts_24 : decode cX4_puts 24 = .ok (.goto (-22), 3) := by decide +kernel
theorem dX4_puts_27 : decode cX4_puts 27 = .ok (.return_, 1) := by decide +kernel
theorem dX4_back_0 : decode cX4_back 0 = .ok (.iconst 0, 1) := by decide +kernel
theorem dX4_back_1 : decode cX4_back 1 = .ok (.istore_n 1, 1) := by decide +kernel
theorem dX4_back_2 : decode cX4_back 2 = .ok (.iload_n 1, 1) := by decide +kernel
theorem dX4_back_3 : decode cX4_back 3 = .ok (.sipush 965, 3) := by decide +kernel
theorem dX4_back_6 : decode cX4_back 6 = .ok (.if_icmp .ge 21, 3) := by decide +kernel
theorem dX4_back_9 : decode cX4_back 9 = .ok (.aload_n 0, 1) := by decide +kernel
theorem dX4_back_10 : decode cX4_back 10 = .ok (.getfield 7, 3) := by decide +kernel
theorem dX4_back_13 : decode cX4_back 13 = .ok (.iload_n 1, 1) := by decide +kernel
theorem dX4_back_14 : decode cX4_back 14 = .ok (.aload_n 0, 1) := by decide +kernel
theorem dX4_back_15 : decode cX4_back 15 = .ok (.getfield 16, 3) := by decide +kernel
theorem dX4_back_18 : decode cX4_back 18 = .ok (.iload_n 1, 1) := by decide +kernel
theorem dX4_back_19 : decode cX4_back 19 = .ok (.iaload, 1) := by decide +kernel
theorem dX4_back_20 : decode cX4_back 20 = .ok (.iastore, 1) := by decide +kernel
theorem dX4_back_21 : decode cX4_back 21 = .ok (.iinc 1 1, 3) := by decide +kernel
theorem dX4_back_24 : decode cX4_back 24 = .ok (.goto (-22), 3) := by decide +kernel
theorem dX4_back_27 : decode cX4_back 27 = .ok (.return_, 1) := by decide +kernel
set_option maxRecDepth 20000 in
theorem ggX4_isBlock_X4_within : GoodIn wsX4_isBlock wsX4_within := goodIn_r _ [4] (by decide +kernel) (by decide +kernel)
set_option maxRecDepth 20000 in
theorem gX4_isBlock_X4_within : GoodIn wsX4_isBlock (va_wsS RX4 39 yX4_within wsX4_within) := goodIn_app (goodIn_of _ (by decide +kernel)) ggX4_isBlock_X4_within
theorem dX4_isBlock_0 : decode cX4_isBlock 0 = .ok (.iload_n 0, 1) := by decide +kernel
theorem dX4_isBlock_1 : decode cX4_isBlock 1 = .ok (.iconst 0, 1) := by decide +kernel
theorem dX4_isBlock_2 : decode cX4_isBlock 2 = .ok (.iconst 3, 1) := by decide +kernel
theorem dX4_isBlock_3 : decode cX4_isBlock 3 = .ok (.invokestatic 39, 3) := by decide +kernel
theorem dX4_isBlock_6 : decode cX4_isBlock 6 = .ok (.ifCond .eq 17, 3) := by decide +kernel
theorem dX4_isBlock_9 : decode cX4_isBlock 9 = .ok (.iload_n 1, 1) := by decide +kernel
theorem dX4_isBlock_10 : decode cX4_isBlock 10 = .ok (.iconst 0, 1) := by decide +kernel
theorem dX4_isBlock_11 : decode cX4_isBlock 11 = .ok (.bipush 11, 2) := by decide +kernel
theorem dX4_isBlock_13 : decode cX4_isBlock 13 = .ok (.invokestatic 39, 3) := by decide +kernel
theorem dX4_isBlock_16 : decode cX4_isBlock 16 = .ok (.ifCond .eq 7, 3) := by decide +kernel
theorem dX4_isBlock_19 : decode cX4_isBlock 19 = .ok (.iconst 1, 1) := by decide +kernel
theorem dX4_isBlock_20 : decode cX4_isBlock 20 = .ok (.goto 4, 3) := by decide +kernel
theorem dX4_isBlock_23 : decode cX4_isBlock 23 = .ok (.iconst 0, 1) := by decide +kernel
theorem dX4_isBlock_24 : decode cX4_isBlock 24 = .ok (.ireturn, 1) := by decide +kernel
theorem dX4_of_0 : decode cX4_of 0 = .ok (.aload_n 0, 1) := by decide +kernel
theorem dX4_of_1 : decode cX4_of 1 = .ok (.getfield 7, 3) := by decide +kernel
theorem dX4_of_4 : decode cX4_of 4 = .ok (.iconst 5, 1) := by decide +kernel
theorem dX4_of_5 : decode cX4_of 5 = .ok (.iconst 5, 1) := by decide +kernel
theorem dX4_of_6 : decode cX4_of 6 = .ok (.bipush 48, 2) := by decide +kernel
theorem dX4_of_8 : decode cX4_of 8 = .ok (.iload_n 1, 1) := by decide +kernel
theorem dX4_of_9 : decode cX4_of 9 = .ok (.imul, 1) := by decide +kernel
theorem dX4_of_10 : decode cX4_of 10 = .ok (.iload_n 2, 1) := by decide +kernel
theorem dX4_of_11 : decode cX4_of 11 = .ok (.iadd, 1) := by decide +kernel
theorem dX4_of_12 : decode cX4_of 12 = .ok (.imul, 1) := by decide +kernel
theorem dX4_of_13 : decode cX4_of 13 = .ok (.iadd, 1) := by decide +kernel
theorem dX4_of_14 : decode cX4_of 14 = .ok (.iload_n 3, 1) := by decide +kernel
theorem dX4_of_15 : decode cX4_of 15 = .ok (.iadd, 1) := by decide +kernel
theorem dX4_of_16 : decode cX4_of 16 = .ok (.iaload, 1) := by decide +kernel
theorem dX4_of_17 : decode cX4_of 17 = .ok (.ireturn, 1) := by decide +kernel
theorem dX4_put_0 : decode cX4_put 0 = .ok (.aload_n 0, 1) := by decide +kernel
theorem dX4_put_1 : decode cX4_put 1 = .ok (.getfield 7, 3) := by decide +kernel
theorem dX4_put_4 : decode cX4_put 4 = .ok (.iconst 5, 1) := by decide +kernel
theorem dX4_put_5 : decode cX4_put 5 = .ok (.iconst 5, 1) := by decide +kernel
theorem dX4_put_6 : decode cX4_put 6 = .ok (.bipush 48, 2) := by decide +kernel
theorem dX4_put_8 : decode cX4_put 8 = .ok (.iload_n 1, 1) := by decide +kernel
theorem dX4_put_9 : decode cX4_put 9 = .ok (.imul, 1) := by decide +kernel
theorem dX4_put_10 : decode cX4_put 10 = .ok (.iload_n 2, 1) := by decide +kernel
theorem dX4_put_11 : decode cX4_put 11 = .ok (.iadd, 1) := by decide +kernel
theorem dX4_put_12 : decode cX4_put 12 = .ok (.imul, 1) := by decide +kernel
theorem dX4_put_13 : decode cX4_put 13 = .ok (.iadd, 1) := by decide +kernel
theorem dX4_put_14 : decode cX4_put 14 = .ok (.iload_n 3, 1) := by decide +kernel
theorem dX4_put_15 : decode cX4_put 15 = .ok (.iadd, 1) := by decide +kernel
theorem dX4_put_16 : decode cX4_put 16 = .ok (.iload 4, 2) := by decide +kernel
theorem dX4_put_18 : decode cX4_put 18 = .ok (.iastore, 1) := by decide +kernel
theorem dX4_put_19 : decode cX4_put 19 = .ok (.return_, 1) := by decide +kernel
theorem dX4_told_0 : decode cX4_told 0 = .ok (.aload_n 0, 1) := by decide +kernel
theorem dX4_told_1 : decode cX4_told 1 = .ok (.getfield 7, 3) := by decide +kernel
theorem dX4_told_4 : decode cX4_told 4 = .ok (.sipush 485, 3) := by decide +kernel
theorem dX4_told_7 : decode cX4_told 7 = .ok (.bipush 8, 2) := by decide +kernel
theorem dX4_told_9 : decode cX4_told 9 = .ok (.iload_n 1, 1) := by decide +kernel
theorem dX4_told_10 : decode cX4_told 10 = .ok (.imul, 1) := by decide +kernel
theorem dX4_told_11 : decode cX4_told 11 = .ok (.iadd, 1) := by decide +kernel
theorem dX4_told_12 : decode cX4_told 12 = .ok (.iload_n 2, 1) := by decide +kernel
theorem dX4_told_13 : decode cX4_told 13 = .ok (.iadd, 1) := by decide +kernel
theorem dX4_told_14 : decode cX4_told 14 = .ok (.iaload, 1) := by decide +kernel
theorem dX4_told_15 : decode cX4_told 15 = .ok (.ireturn, 1) := by decide +kernel
theorem dX4_tell_0 : decode cX4_tell 0 = .ok (.aload_n 0, 1) := by decide +kernel
theorem dX4_tell_1 : decode cX4_tell 1 = .ok (.getfield 7, 3) := by decide +kernel
theorem dX4_tell_4 : decode cX4_tell 4 = .ok (.sipush 485, 3) := by decide +kernel
theorem dX4_tell_7 : decode cX4_tell 7 = .ok (.bipush 8, 2) := by decide +kernel
theorem dX4_tell_9 : decode cX4_tell 9 = .ok (.iload_n 1, 1) := by decide +kernel
theorem dX4_tell_10 : decode cX4_tell 10 = .ok (.imul, 1) := by decide +kernel
theorem dX4_tell_11 : decode cX4_tell 11 = .ok (.iadd, 1) := by decide +kernel
theorem dX4_tell_12 : decode cX4_tell 12 = .ok (.iload_n 2, 1) := by decide +kernel
theorem dX4_tell_13 : decode cX4_tell 13 = .ok (.iadd, 1) := by decide +kernel
theorem dX4_tell_14 : decode cX4_tell 14 = .ok (.iload_n 3, 1) := by decide +kernel
theorem dX4_tell_15 : decode cX4_tell 15 = .ok (.iastore, 1) := by decide +kernel
theorem dX4_tell_16 : decode cX4_tell 16 = .ok (.return_, 1) := by decide +kernel
set_option maxRecDepth 20000 in
theorem ggX4_inState_X4_told : GoodIn wsX4_inState wsX4_told := goodIn_r _ [6, 1, 7, 8, 9, 10, 11, 12, 13, 14, 15, 16, 17] (by decide +kernel) (by decide +kernel)
set_option maxRecDepth 20000 in
theorem gX4_inState_X4_told : GoodIn wsX4_inState (wsV RX4 43 RX4 yX4_told wsX4_told) := goodIn_app (goodIn_of _ (by decide +kernel)) ggX4_inState_X4_told
theorem dX4_inState_0 : decode cX4_inState 0 = .ok (.iconst 0, 1) := by decide +kernel
theorem dX4_inState_1 : decode cX4_inState 1 = .ok (.istore_n 2, 1) := by decide +kernel
theorem dX4_inState_2 : decode cX4_inState 2 = .ok (.iconst 0, 1) := by decide +kernel
theorem dX4_inState_3 : decode cX4_inState 3 = .ok (.istore_n 3, 1) := by decide +kernel
theorem dX4_inState_4 : decode cX4_inState 4 = .ok (.iload_n 3, 1) := by decide +kernel
theorem dX4_inState_5 : decode cX4_inState 5 = .ok (.aload_n 0, 1) := by decide +kernel
theorem dX4_inState_6 : decode cX4_inState 6 = .ok (.getfield 7, 3) := by decide +kernel
theorem dX4_inState_9 : decode cX4_inState 9 = .ok (.iconst 2, 1) := by decide +kernel
theorem dX4_inState_10 : decode cX4_inState 10 = .ok (.iaload, 1) := by decide +kernel
theorem dX4_inState_11 : decode cX4_inState 11 = .ok (.if_icmp .ge 27, 3) := by decide +kernel
theorem dX4_inState_14 : decode cX4_inState 14 = .ok (.iload_n 2, 1) := by decide +kernel
theorem dX4_inState_15 : decode cX4_inState 15 = .ok (.aload_n 0, 1) := by decide +kernel
theorem dX4_inState_16 : decode cX4_inState 16 = .ok (.iload_n 3, 1) := by decide +kernel
theorem dX4_inState_17 : decode cX4_inState 17 = .ok (.iconst 3, 1) := by decide +kernel
theorem dX4_inState_18 : decode cX4_inState 18 = .ok (.invokevirtual 43, 3) := by decide +kernel
theorem dX4_inState_21 : decode cX4_inState 21 = .ok (.iload_n 1, 1) := by decide +kernel
theorem dX4_inState_22 : decode cX4_inState 22 = .ok (.if_icmp .ne 7, 3) := by decide +kernel
theorem dX4_inState_25 : decode cX4_inState 25 = .ok (.iconst 1, 1) := by decide +kernel
theorem dX4_inState_26 : decode cX4_inState 26 = .ok (.goto 4, 3) := by decide +kernel
theorem dX4_inState_29 : decode cX4_inState 29 = .ok (.iconst 0, 1) := by decide +kernel
theorem dX4_inState_30 : decode cX4_inState 30 = .ok (.iadd, 1) := by decide +kernel
theorem dX4_inState_31 : decode cX4_inState 31 = .ok (.istore_n 2, 1) := by decide +kernel
theorem dX4_inState_32 : decode cX4_inState 32 = .ok (.iinc 3 1, 3) := by decide +kernel
theorem dX4_inState_35 : decode cX4_inState 35 = .ok (.goto (-31), 3) := by decide +kernel
theorem dX4_inState_38 : decode cX4_inState 38 = .ok (.iload_n 2, 1) := by decide +kernel
theorem dX4_inState_39 : decode cX4_inState 39 = .ok (.ireturn, 1) := by decide +kernel
set_option maxRecDepth 20000 in
theorem ggX4_takes_X4_inState : GoodIn wsX4_takes wsX4_inState := goodIn_r _ [6, 1, 7, 8, 9, 5, 10, 22, 23, 24, 25, 26, 27, 28, 29, 30, 31, 32] (by decide +kernel) (by decide +kernel)
set_option maxRecDepth 20000 in
theorem gX4_takes_X4_inState : GoodIn wsX4_takes (wsV RX4 47 RX4 yX4_inState wsX4_inState) := goodIn_app (goodIn_of _ (by decide +kernel)) ggX4_takes_X4_inState
set_option maxRecDepth 20000 in
theorem ggX4_takes_X4_saves : GoodIn wsX4_takes wsX4_saves := goodIn_r _ [14, 15, 16, 17, 1, 22, 23, 24, 25, 26, 27, 28, 29, 30, 31, 32] (by decide +kernel) (by decide +kernel)
set_option maxRecDepth 20000 in
theorem gX4_takes_X4_saves : GoodIn wsX4_takes (wsV RX4 51 RX4 yX4_saves wsX4_saves) := goodIn_app (goodIn_of _ (by decide +kernel)) ggX4_takes_X4_saves
set_option maxRecDepth 20000 in
theorem ggX4_takes_X4_tell : GoodIn wsX4_takes wsX4_tell := goodIn_r _ [21, 1, 22, 23, 24, 25, 26, 27, 28, 29, 30, 31, 32] (by decide +kernel) (by decide +kernel)
set_option maxRecDepth 20000 in
theorem gX4_takes_X4_tell : GoodIn wsX4_takes (wsV RX4 54 RX4 yX4_tell wsX4_tell) := goodIn_app (goodIn_of _ (by decide +kernel)) ggX4_takes_X4_tell
theorem dX4_takes_0 : decode cX4_takes 0 = .ok (.aload_n 0, 1) := by decide +kernel
theorem dX4_takes_1 : decode cX4_takes 1 = .ok (.getfield 7, 3) := by decide +kernel
theorem dX4_takes_4 : decode cX4_takes 4 = .ok (.iconst 2, 1) := by decide +kernel
theorem dX4_takes_5 : decode cX4_takes 5 = .ok (.iaload, 1) := by decide +kernel
theorem dX4_takes_6 : decode cX4_takes 6 = .ok (.bipush 60, 2) := by decide +kernel
theorem dX4_takes_8 : decode cX4_takes 8 = .ok (.if_icmp .eq 13, 3) := by decide +kernel
theorem dX4_takes_11 : decode cX4_takes 11 = .ok (.aload_n 0, 1) := by decide +kernel
theorem dX4_takes_12 : decode cX4_takes 12 = .ok (.iconst 0, 1) := by decide +kernel
theorem dX4_takes_13 : decode cX4_takes 13 = .ok (.invokevirtual 47, 3) := by decide +kernel
theorem dX4_takes_16 : decode cX4_takes 16 = .ok (.bipush 20, 2) := by decide +kernel
theorem dX4_takes_18 : decode cX4_takes 18 = .ok (.if_icmp .lt 6, 3) := by decide +kernel
theorem dX4_takes_21 : decode cX4_takes 21 = .ok (.bipush (-3), 2) := by decide +kernel
theorem dX4_takes_23 : decode cX4_takes 23 = .ok (.ireturn, 1) := by decide +kernel
theorem dX4_takes_24 : decode cX4_takes 24 = .ok (.aload_n 0, 1) := by decide +kernel
theorem dX4_takes_25 : decode cX4_takes 25 = .ok (.invokevirtual 51, 3) := by decide +kernel
theorem dX4_takes_28 : decode cX4_takes 28 = .ok (.aload_n 0, 1) := by decide +kernel
theorem dX4_takes_29 : decode cX4_takes 29 = .ok (.getfield 7, 3) := by decide +kernel
theorem dX4_takes_32 : decode cX4_takes 32 = .ok (.iconst 2, 1) := by decide +kernel
theorem dX4_takes_33 : decode cX4_takes 33 = .ok (.iaload, 1) := by decide +kernel
theorem dX4_takes_34 : decode cX4_takes 34 = .ok (.istore 5, 2) := by decide +kernel
theorem dX4_takes_36 : decode cX4_takes 36 = .ok (.aload_n 0, 1) := by decide +kernel
theorem dX4_takes_37 : decode cX4_takes 37 = .ok (.getfield 7, 3) := by decide +kernel
theorem dX4_takes_40 : decode cX4_takes 40 = .ok (.iconst 2, 1) := by decide +kernel
theorem dX4_takes_41 : decode cX4_takes 41 = .ok (.dup2, 1) := by decide +kernel
theorem dX4_takes_42 : decode cX4_takes 42 = .ok (.iaload, 1) := by decide +kernel
theorem dX4_takes_43 : decode cX4_takes 43 = .ok (.iconst 1, 1) := by decide +kernel
theorem dX4_takes_44 : decode cX4_takes 44 = .ok (.iadd, 1) := by decide +kernel
theorem dX4_takes_45 : decode cX4_takes 45 = .ok (.iastore, 1) := by decide +kernel
theorem dX4_takes_46 : decode cX4_takes 46 = .ok (.aload_n 0, 1) := by decide +kernel
theorem dX4_takes_47 : decode cX4_takes 47 = .ok (.iload 5, 2) := by decide +kernel
theorem dX4_takes_49 : decode cX4_takes 49 = .ok (.iconst 0, 1) := by decide +kernel
theorem dX4_takes_50 : decode cX4_takes 50 = .ok (.iload_n 1, 1) := by decide +kernel
theorem dX4_takes_51 : decode cX4_takes 51 = .ok (.invokevirtual 54, 3) := by decide +kernel
theorem dX4_takes_54 : decode cX4_takes 54 = .ok (.aload_n 0, 1) := by decide +kernel
theorem dX4_takes_55 : decode cX4_takes 55 = .ok (.iload 5, 2) := by decide +kernel
theorem dX4_takes_57 : decode cX4_takes 57 = .ok (.iconst 1, 1) := by decide +kernel
theorem dX4_takes_58 : decode cX4_takes 58 = .ok (.iload_n 2, 1) := by decide +kernel
theorem dX4_takes_59 : decode cX4_takes 59 = .ok (.invokevirtual 54, 3) := by decide +kernel
theorem dX4_takes_62 : decode cX4_takes 62 = .ok (.aload_n 0, 1) := by decide +kernel
theorem dX4_takes_63 : decode cX4_takes 63 = .ok (.iload 5, 2) := by decide +kernel
theorem dX4_takes_65 : decode cX4_takes 65 = .ok (.iconst 2, 1) := by decide +kernel
theorem dX4_takes_66 : decode cX4_takes 66 = .ok (.iload_n 3, 1) := by decide +kernel
theorem dX4_takes_67 : decode cX4_takes 67 = .ok (.invokevirtual 54, 3) := by decide +kernel
theorem dX4_takes_70 : decode cX4_takes 70 = .ok (.aload_n 0, 1) := by decide +kernel
theorem dX4_takes_71 : decode cX4_takes 71 = .ok (.iload 5, 2) := by decide +kernel
theorem dX4_takes_73 : decode cX4_takes 73 = .ok (.iconst 3, 1) := by decide +kernel
theorem dX4_takes_74 : decode cX4_takes 74 = .ok (.iconst 0, 1) := by decide +kernel
theorem dX4_takes_75 : decode cX4_takes 75 = .ok (.invokevirtual 54, 3) := by decide +kernel
theorem dX4_takes_78 : decode cX4_takes 78 = .ok (.aload_n 0, 1) := by decide +kernel
theorem dX4_takes_79 : decode cX4_takes 79 = .ok (.iload 5, 2) := by decide +kernel
theorem dX4_takes_81 : decode cX4_takes 81 = .ok (.iconst 4, 1) := by decide +kernel
theorem dX4_takes_82 : decode cX4_takes 82 = .ok (.aload_n 0, 1) := by decide +kernel
theorem dX4_takes_83 : decode cX4_takes 83 = .ok (.getfield 7, 3) := by decide +kernel
theorem dX4_takes_86 : decode cX4_takes 86 = .ok (.iconst 0, 1) := by decide +kernel
theorem dX4_takes_87 : decode cX4_takes 87 = .ok (.iaload, 1) := by decide +kernel
theorem dX4_takes_88 : decode cX4_takes 88 = .ok (.invokevirtual 54, 3) := by decide +kernel
theorem dX4_takes_91 : decode cX4_takes 91 = .ok (.aload_n 0, 1) := by decide +kernel
theorem dX4_takes_92 : decode cX4_takes 92 = .ok (.iload 5, 2) := by decide +kernel
theorem dX4_takes_94 : decode cX4_takes 94 = .ok (.iconst 5, 1) := by decide +kernel
theorem dX4_takes_95 : decode cX4_takes 95 = .ok (.bipush (-9), 2) := by decide +kernel
