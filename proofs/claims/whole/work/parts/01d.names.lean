theorem dX1_dropWork_23 : decode cX1_dropWork 23 = .ok (.bipush 8, 2) := by decide +kernel
theorem dX1_dropWork_25 : decode cX1_dropWork 25 = .ok (.imul, 1) := by decide +kernel
theorem dX1_dropWork_26 : decode cX1_dropWork 26 = .ok (.iconst 3, 1) := by decide +kernel
theorem dX1_dropWork_27 : decode cX1_dropWork 27 = .ok (.iadd, 1) := by decide +kernel
theorem dX1_dropWork_28 : decode cX1_dropWork 28 = .ok (.iconst 2, 1) := by decide +kernel
theorem dX1_dropWork_29 : decode cX1_dropWork 29 = .ok (.iastore, 1) := by decide +kernel
theorem dX1_dropWork_30 : decode cX1_dropWork 30 = .ok (.iinc 1 1, 3) := by decide +kernel
theorem dX1_dropWork_33 : decode cX1_dropWork 33 = .ok (.goto (-31), 3) := by decide +kernel
theorem dX1_dropWork_36 : decode cX1_dropWork 36 = .ok (.aload_n 0, 1) := by decide +kernel
theorem dX1_dropWork_37 : decode cX1_dropWork 37 = .ok (.iconst 0, 1) := by decide +kernel
theorem dX1_dropWork_38 : decode cX1_dropWork 38 = .ok (.putfield 46, 3) := by decide +kernel
theorem dX1_dropWork_41 : decode cX1_dropWork 41 = .ok (.iconst 0, 1) := by decide +kernel
theorem dX1_dropWork_42 : decode cX1_dropWork 42 = .ok (.istore_n 1, 1) := by decide +kernel
theorem dX1_dropWork_43 : decode cX1_dropWork 43 = .ok (.iload_n 1, 1) := by decide +kernel
theorem dX1_dropWork_44 : decode cX1_dropWork 44 = .ok (.bipush 48, 2) := by decide +kernel
theorem dX1_dropWork_46 : decode cX1_dropWork 46 = .ok (.if_icmp .ge 42, 3) := by decide +kernel
theorem dX1_dropWork_49 : decode cX1_dropWork 49 = .ok (.aload_n 0, 1) := by decide +kernel
theorem dX1_dropWork_50 : decode cX1_dropWork 50 = .ok (.getfield 11, 3) := by decide +kernel
theorem dX1_dropWork_53 : decode cX1_dropWork 53 = .ok (.iconst 0, 1) := by decide +kernel
theorem dX1_dropWork_54 : decode cX1_dropWork 54 = .ok (.iload_n 1, 1) := by decide +kernel
theorem dX1_dropWork_55 : decode cX1_dropWork 55 = .ok (.invokestatic 71, 3) := by decide +kernel
theorem dX1_dropWork_58 : decode cX1_dropWork 58 = .ok (.iconst 3, 1) := by decide +kernel
theorem dX1_dropWork_59 : decode cX1_dropWork 59 = .ok (.iadd, 1) := by decide +kernel
theorem dX1_dropWork_60 : decode cX1_dropWork 60 = .ok (.iconst 0, 1) := by decide +kernel
theorem dX1_dropWork_61 : decode cX1_dropWork 61 = .ok (.iastore, 1) := by decide +kernel
theorem dX1_dropWork_62 : decode cX1_dropWork 62 = .ok (.aload_n 0, 1) := by decide +kernel
theorem dX1_dropWork_63 : decode cX1_dropWork 63 = .ok (.getfield 11, 3) := by decide +kernel
theorem dX1_dropWork_66 : decode cX1_dropWork 66 = .ok (.iconst 1, 1) := by decide +kernel
theorem dX1_dropWork_67 : decode cX1_dropWork 67 = .ok (.iload_n 1, 1) := by decide +kernel
theorem dX1_dropWork_68 : decode cX1_dropWork 68 = .ok (.invokestatic 71, 3) := by decide +kernel
theorem dX1_dropWork_71 : decode cX1_dropWork 71 = .ok (.iconst 3, 1) := by decide +kernel
theorem dX1_dropWork_72 : decode cX1_dropWork 72 = .ok (.iadd, 1) := by decide +kernel
theorem dX1_dropWork_73 : decode cX1_dropWork 73 = .ok (.iconst 0, 1) := by decide +kernel
theorem dX1_dropWork_74 : decode cX1_dropWork 74 = .ok (.iastore, 1) := by decide +kernel
theorem dX1_dropWork_75 : decode cX1_dropWork 75 = .ok (.aload_n 0, 1) := by decide +kernel
theorem dX1_dropWork_76 : decode cX1_dropWork 76 = .ok (.getfield 21, 3) := by decide +kernel
theorem dX1_dropWork_79 : decode cX1_dropWork 79 = .ok (.iload_n 1, 1) := by decide +kernel
theorem dX1_dropWork_80 : decode cX1_dropWork 80 = .ok (.iconst 0, 1) := by decide +kernel
theorem dX1_dropWork_81 : decode cX1_dropWork 81 = .ok (.iastore, 1) := by decide +kernel
theorem dX1_dropWork_82 : decode cX1_dropWork 82 = .ok (.iinc 1 1, 3) := by decide +kernel
theorem dX1_dropWork_85 : decode cX1_dropWork 85 = .ok (.goto (-42), 3) := by decide +kernel
theorem dX1_dropWork_88 : decode cX1_dropWork 88 = .ok (.iconst 0, 1) := by decide +kernel
theorem dX1_dropWork_89 : decode cX1_dropWork 89 = .ok (.istore_n 1, 1) := by decide +kernel
theorem dX1_dropWork_90 : decode cX1_dropWork 90 = .ok (.iload_n 1, 1) := by decide +kernel
theorem dX1_dropWork_91 : decode cX1_dropWork 91 = .ok (.iconst 4, 1) := by decide +kernel
theorem dX1_dropWork_92 : decode cX1_dropWork 92 = .ok (.if_icmp .ge 16, 3) := by decide +kernel
theorem dX1_dropWork_95 : decode cX1_dropWork 95 = .ok (.aload_n 0, 1) := by decide +kernel
theorem dX1_dropWork_96 : decode cX1_dropWork 96 = .ok (.getfield 24, 3) := by decide +kernel
theorem dX1_dropWork_99 : decode cX1_dropWork 99 = .ok (.iload_n 1, 1) := by decide +kernel
theorem dX1_dropWork_100 : decode cX1_dropWork 100 = .ok (.iconst 0, 1) := by decide +kernel
theorem dX1_dropWork_101 : decode cX1_dropWork 101 = .ok (.iastore, 1) := by decide +kernel
theorem dX1_dropWork_102 : decode cX1_dropWork 102 = .ok (.iinc 1 1, 3) := by decide +kernel
theorem dX1_dropWork_105 : decode cX1_dropWork 105 = .ok (.goto (-15), 3) := by decide +kernel
theorem dX1_dropWork_108 : decode cX1_dropWork 108 = .ok (.return_, 1) := by decide +kernel
set_option maxRecDepth 20000 in
theorem ggX1_sweepBlocks_X1_hasWork : GoodIn wsX1_sweepBlocks wsX1_hasWork := goodIn_r _ [6, 7, 35, 36, 37, 38, 39, 40, 41, 42, 43, 44, 45] (by decide +kernel) (by decide +kernel)
set_option maxRecDepth 20000 in
theorem gX1_sweepBlocks_X1_hasWork : GoodIn wsX1_sweepBlocks (wsV RX1 126 RX1 yX1_hasWork wsX1_hasWork) := goodIn_app (goodIn_of _ (by decide +kernel)) ggX1_sweepBlocks_X1_hasWork
set_option maxRecDepth 20000 in
theorem ggX1_sweepBlocks_X1_repairBlocks : GoodIn wsX1_sweepBlocks wsX1_repairBlocks := goodIn_r _ [11, 1, 12, 13, 14, 5, 15, 16, 17, 18, 19, 20, 21, 22, 23, 24, 25, 26, 27, 28, 29, 30, 31, 32, 33, 34, 35, 36, 37, 38, 39, 40, 41, 42, 43, 44, 45] (by decide +kernel) (by decide +kernel)
set_option maxRecDepth 20000 in
theorem gX1_sweepBlocks_X1_repairBlocks : GoodIn wsX1_sweepBlocks (wsV RX1 130 RX1 yX1_repairBlocks wsX1_repairBlocks) := goodIn_app (goodIn_of _ (by decide +kernel)) ggX1_sweepBlocks_X1_repairBlocks
theorem dX1_sweepBlocks_0 : decode cX1_sweepBlocks 0 = .ok (.aload_n 0, 1) := by decide +kernel
theorem dX1_sweepBlocks_1 : decode cX1_sweepBlocks 1 = .ok (.invokevirtual 126, 3) := by decide +kernel
theorem dX1_sweepBlocks_4 : decode cX1_sweepBlocks 4 = .ok (.ifCond .ne 16, 3) := by decide +kernel
theorem dX1_sweepBlocks_7 : decode cX1_sweepBlocks 7 = .ok (.aload_n 0, 1) := by decide +kernel
theorem dX1_sweepBlocks_8 : decode cX1_sweepBlocks 8 = .ok (.getfield 36, 3) := by decide +kernel
theorem dX1_sweepBlocks_11 : decode cX1_sweepBlocks 11 = .ok (.bipush 48, 2) := by decide +kernel
theorem dX1_sweepBlocks_13 : decode cX1_sweepBlocks 13 = .ok (.iadd, 1) := by decide +kernel
theorem dX1_sweepBlocks_14 : decode cX1_sweepBlocks 14 = .ok (.sipush 20000, 3) := by decide +kernel
theorem dX1_sweepBlocks_17 : decode cX1_sweepBlocks 17 = .ok (.if_icmp .le 6, 3) := by decide +kernel
theorem dX1_sweepBlocks_20 : decode cX1_sweepBlocks 20 = .ok (.bipush (-2), 2) := by decide +kernel
theorem dX1_sweepBlocks_22 : decode cX1_sweepBlocks 22 = .ok (.ireturn, 1) := by decide +kernel
theorem dX1_sweepBlocks_23 : decode cX1_sweepBlocks 23 = .ok (.aload_n 0, 1) := by decide +kernel
theorem dX1_sweepBlocks_24 : decode cX1_sweepBlocks 24 = .ok (.invokevirtual 130, 3) := by decide +kernel
theorem dX1_sweepBlocks_27 : decode cX1_sweepBlocks 27 = .ok (.ireturn, 1) := by decide +kernel
set_option maxRecDepth 20000 in
theorem ggX1_repairBlocks_X1_cellOf : GoodIn wsX1_repairBlocks wsX1_cellOf := goodIn_r _ [6] (by decide +kernel) (by decide +kernel)
set_option maxRecDepth 20000 in
theorem gX1_repairBlocks_X1_cellOf : GoodIn wsX1_repairBlocks (va_wsS RX1 71 yX1_cellOf wsX1_cellOf) := goodIn_app (goodIn_of _ (by decide +kernel)) ggX1_repairBlocks_X1_cellOf
set_option maxRecDepth 20000 in
theorem ggX1_repairBlocks_X1_repair : GoodIn wsX1_repairBlocks wsX1_repair := goodIn_r _ [10, 11, 12, 13, 14, 15, 5, 16, 17, 18, 19, 20, 26, 27, 28, 29, 30, 31, 32, 33, 34, 35, 36] (by decide +kernel) (by decide +kernel)
set_option maxRecDepth 20000 in
theorem gX1_repairBlocks_X1_repair : GoodIn wsX1_repairBlocks (wsV RX1 134 RX1 yX1_repair wsX1_repair) := goodIn_app (goodIn_of _ (by decide +kernel)) ggX1_repairBlocks_X1_repair
set_option maxRecDepth 20000 in
theorem ggX1_repairBlocks_X1_forgetWritten : GoodIn wsX1_repairBlocks wsX1_forgetWritten := goodIn_r _ [24, 25, 26, 27, 28, 29, 30, 31, 32, 33, 34, 35, 36] (by decide +kernel) (by decide +kernel)
set_option maxRecDepth 20000 in
theorem gX1_repairBlocks_X1_forgetWritten : GoodIn wsX1_repairBlocks (wsV RX1 27 RX1 yX1_forgetWritten wsX1_forgetWritten) := goodIn_app (goodIn_of _ (by decide +kernel)) ggX1_repairBlocks_X1_forgetWritten
theorem dX1_repairBlocks_0 : decode cX1_repairBlocks 0 = .ok (.iconst 0, 1) := by decide +kernel
theorem dX1_repairBlocks_1 : decode cX1_repairBlocks 1 = .ok (.istore_n 1, 1) := by decide +kernel
theorem dX1_repairBlocks_2 : decode cX1_repairBlocks 2 = .ok (.iconst 0, 1) := by decide +kernel
theorem dX1_repairBlocks_3 : decode cX1_repairBlocks 3 = .ok (.istore_n 2, 1) := by decide +kernel
theorem dX1_repairBlocks_4 : decode cX1_repairBlocks 4 = .ok (.iload_n 2, 1) := by decide +kernel
theorem dX1_repairBlocks_5 : decode cX1_repairBlocks 5 = .ok (.bipush 48, 2) := by decide +kernel
theorem dX1_repairBlocks_7 : decode cX1_repairBlocks 7 = .ok (.if_icmp .ge 26, 3) := by decide +kernel
theorem dX1_repairBlocks_10 : decode cX1_repairBlocks 10 = .ok (.iload_n 1, 1) := by decide +kernel
theorem dX1_repairBlocks_11 : decode cX1_repairBlocks 11 = .ok (.aload_n 0, 1) := by decide +kernel
theorem dX1_repairBlocks_12 : decode cX1_repairBlocks 12 = .ok (.iconst 0, 1) := by decide +kernel
theorem dX1_repairBlocks_13 : decode cX1_repairBlocks 13 = .ok (.iload_n 2, 1) := by decide +kernel
theorem dX1_repairBlocks_14 : decode cX1_repairBlocks 14 = .ok (.invokestatic 71, 3) := by decide +kernel
theorem dX1_repairBlocks_17 : decode cX1_repairBlocks 17 = .ok (.iconst 1, 1) := by decide +kernel
theorem dX1_repairBlocks_18 : decode cX1_repairBlocks 18 = .ok (.iload_n 2, 1) := by decide +kernel
theorem dX1_repairBlocks_19 : decode cX1_repairBlocks 19 = .ok (.invokestatic 71, 3) := by decide +kernel
theorem dX1_repairBlocks_22 : decode cX1_repairBlocks 22 = .ok (.invokevirtual 134, 3) := by decide +kernel
theorem dX1_repairBlocks_25 : decode cX1_repairBlocks 25 = .ok (.iadd, 1) := by decide +kernel
theorem dX1_repairBlocks_26 : decode cX1_repairBlocks 26 = .ok (.istore_n 1, 1) := by decide +kernel
theorem dX1_repairBlocks_27 : decode cX1_repairBlocks 27 = .ok (.iinc 2 1, 3) := by decide +kernel
theorem dX1_repairBlocks_30 : decode cX1_repairBlocks 30 = .ok (.goto (-26), 3) := by decide +kernel
theorem dX1_repairBlocks_33 : decode cX1_repairBlocks 33 = .ok (.aload_n 0, 1) := by decide +kernel
theorem dX1_repairBlocks_34 : decode cX1_repairBlocks 34 = .ok (.invokevirtual 27, 3) := by decide +kernel
theorem dX1_repairBlocks_37 : decode cX1_repairBlocks 37 = .ok (.aload_n 0, 1) := by decide +kernel
theorem dX1_repairBlocks_38 : decode cX1_repairBlocks 38 = .ok (.dup, 1) := by decide +kernel
theorem dX1_repairBlocks_39 : decode cX1_repairBlocks 39 = .ok (.getfield 36, 3) := by decide +kernel
theorem dX1_repairBlocks_42 : decode cX1_repairBlocks 42 = .ok (.bipush 48, 2) := by decide +kernel
theorem dX1_repairBlocks_44 : decode cX1_repairBlocks 44 = .ok (.iadd, 1) := by decide +kernel
theorem dX1_repairBlocks_45 : decode cX1_repairBlocks 45 = .ok (.putfield 36, 3) := by decide +kernel
theorem dX1_repairBlocks_48 : decode cX1_repairBlocks 48 = .ok (.aload_n 0, 1) := by decide +kernel
theorem dX1_repairBlocks_49 : decode cX1_repairBlocks 49 = .ok (.iconst 3, 1) := by decide +kernel
theorem dX1_repairBlocks_50 : decode cX1_repairBlocks 50 = .ok (.putfield 40, 3) := by decide +kernel
theorem dX1_repairBlocks_53 : decode cX1_repairBlocks 53 = .ok (.iload_n 1, 1) := by decide +kernel
theorem dX1_repairBlocks_54 : decode cX1_repairBlocks 54 = .ok (.ireturn, 1) := by decide +kernel
set_option maxRecDepth 20000 in
theorem ggX1_repair_X1_setWhole : GoodIn wsX1_repair wsX1_setWhole := goodIn_r _ [7, 1, 12, 13, 14, 15, 16, 17, 18, 19, 20, 21, 22] (by decide +kernel) (by decide +kernel)
set_option maxRecDepth 20000 in
theorem gX1_repair_X1_setWhole : GoodIn wsX1_repair (wsV RX1 120 RX1 yX1_setWhole wsX1_setWhole) := goodIn_app (goodIn_of _ (by decide +kernel)) ggX1_repair_X1_setWhole
set_option maxRecDepth 20000 in
theorem ggX1_repair_X1_takeOver : GoodIn wsX1_repair wsX1_takeOver := goodIn_r _ [11, 1, 3, 4, 5, 6, 7, 12, 13, 14, 15, 16, 17, 18, 19, 20, 21, 22] (by decide +kernel) (by decide +kernel)
set_option maxRecDepth 20000 in
theorem gX1_repair_X1_takeOver : GoodIn wsX1_repair (wsV RX1 98 RX1 yX1_takeOver wsX1_takeOver) := goodIn_app (goodIn_of _ (by decide +kernel)) ggX1_repair_X1_takeOver
theorem dX1_repair_0 : decode cX1_repair 0 = .ok (.aload_n 0, 1) := by decide +kernel
theorem dX1_repair_1 : decode cX1_repair 1 = .ok (.getfield 11, 3) := by decide +kernel
theorem dX1_repair_4 : decode cX1_repair 4 = .ok (.iload_n 1, 1) := by decide +kernel
theorem dX1_repair_5 : decode cX1_repair 5 = .ok (.iconst 2, 1) := by decide +kernel
theorem dX1_repair_6 : decode cX1_repair 6 = .ok (.iadd, 1) := by decide +kernel
theorem dX1_repair_7 : decode cX1_repair 7 = .ok (.iaload, 1) := by decide +kernel
theorem dX1_repair_8 : decode cX1_repair 8 = .ok (.ifCond .eq 7, 3) := by decide +kernel
theorem dX1_repair_11 : decode cX1_repair 11 = .ok (.iconst 1, 1) := by decide +kernel
theorem dX1_repair_12 : decode cX1_repair 12 = .ok (.goto 4, 3) := by decide +kernel
theorem dX1_repair_15 : decode cX1_repair 15 = .ok (.iconst 0, 1) := by decide +kernel
theorem dX1_repair_16 : decode cX1_repair 16 = .ok (.istore_n 3, 1) := by decide +kernel
theorem dX1_repair_17 : decode cX1_repair 17 = .ok (.aload_n 0, 1) := by decide +kernel
theorem dX1_repair_18 : decode cX1_repair 18 = .ok (.getfield 11, 3) := by decide +kernel
theorem dX1_repair_21 : decode cX1_repair 21 = .ok (.iload_n 2, 1) := by decide +kernel
theorem dX1_repair_22 : decode cX1_repair 22 = .ok (.iconst 2, 1) := by decide +kernel
theorem dX1_repair_23 : decode cX1_repair 23 = .ok (.iadd, 1) := by decide +kernel
theorem dX1_repair_24 : decode cX1_repair 24 = .ok (.iaload, 1) := by decide +kernel
theorem dX1_repair_25 : decode cX1_repair 25 = .ok (.ifCond .eq 7, 3) := by decide +kernel
theorem dX1_repair_28 : decode cX1_repair 28 = .ok (.iconst 1, 1) := by decide +kernel
theorem dX1_repair_29 : decode cX1_repair 29 = .ok (.goto 4, 3) := by decide +kernel
theorem dX1_repair_32 : decode cX1_repair 32 = .ok (.iconst 0, 1) := by decide +kernel
theorem dX1_repair_33 : decode cX1_repair 33 = .ok (.istore 4, 2) := by decide +kernel
theorem dX1_repair_35 : decode cX1_repair 35 = .ok (.iload_n 3, 1) := by decide +kernel
theorem dX1_repair_36 : decode cX1_repair 36 = .ok (.ifCond .eq 34, 3) := by decide +kernel
theorem dX1_repair_39 : decode cX1_repair 39 = .ok (.iload 4, 2) := by decide +kernel
theorem dX1_repair_41 : decode cX1_repair 41 = .ok (.ifCond .eq 29, 3) := by decide +kernel
theorem dX1_repair_44 : decode cX1_repair 44 = .ok (.aload_n 0, 1) := by decide +kernel
theorem dX1_repair_45 : decode cX1_repair 45 = .ok (.iload_n 1, 1) := by decide +kernel
theorem dX1_repair_46 : decode cX1_repair 46 = .ok (.iconst 0, 1) := by decide +kernel
theorem dX1_repair_47 : decode cX1_repair 47 = .ok (.iconst 0, 1) := by decide +kernel
theorem dX1_repair_48 : decode cX1_repair 48 = .ok (.invokevirtual 120, 3) := by decide +kernel
theorem dX1_repair_51 : decode cX1_repair 51 = .ok (.aload_n 0, 1) := by decide +kernel
theorem dX1_repair_52 : decode cX1_repair 52 = .ok (.iload_n 2, 1) := by decide +kernel
theorem dX1_repair_53 : decode cX1_repair 53 = .ok (.iconst 0, 1) := by decide +kernel
theorem dX1_repair_54 : decode cX1_repair 54 = .ok (.iconst 0, 1) := by decide +kernel
theorem dX1_repair_55 : decode cX1_repair 55 = .ok (.invokevirtual 120, 3) := by decide +kernel
theorem dX1_repair_58 : decode cX1_repair 58 = .ok (.aload_n 0, 1) := by decide +kernel
theorem dX1_repair_59 : decode cX1_repair 59 = .ok (.dup, 1) := by decide +kernel
theorem dX1_repair_60 : decode cX1_repair 60 = .ok (.getfield 49, 3) := by decide +kernel
theorem dX1_repair_63 : decode cX1_repair 63 = .ok (.iconst 1, 1) := by decide +kernel
theorem dX1_repair_64 : decode cX1_repair 64 = .ok (.iadd, 1) := by decide +kernel
theorem dX1_repair_65 : decode cX1_repair 65 = .ok (.putfield 49, 3) := by decide +kernel
theorem dX1_repair_68 : decode cX1_repair 68 = .ok (.iconst 0, 1) := by decide +kernel
theorem dX1_repair_69 : decode cX1_repair 69 = .ok (.ireturn, 1) := by decide +kernel
theorem dX1_repair_70 : decode cX1_repair 70 = .ok (.iload_n 3, 1) := by decide +kernel
theorem dX1_repair_71 : decode cX1_repair 71 = .ok (.ifCond .ne 12, 3) := by decide +kernel
theorem dX1_repair_74 : decode cX1_repair 74 = .ok (.iload 4, 2) := by decide +kernel
theorem dX1_repair_76 : decode cX1_repair 76 = .ok (.ifCond .ne 7, 3) := by decide +kernel
theorem dX1_repair_79 : decode cX1_repair 79 = .ok (.iconst 1, 1) := by decide +kernel
theorem dX1_repair_80 : decode cX1_repair 80 = .ok (.goto 4, 3) := by decide +kernel
theorem dX1_repair_83 : decode cX1_repair 83 = .ok (.iconst 0, 1) := by decide +kernel
theorem dX1_repair_84 : decode cX1_repair 84 = .ok (.istore 5, 2) := by decide +kernel
theorem dX1_repair_86 : decode cX1_repair 86 = .ok (.aload_n 0, 1) := by decide +kernel
theorem dX1_repair_87 : decode cX1_repair 87 = .ok (.getfield 11, 3) := by decide +kernel
theorem dX1_repair_90 : decode cX1_repair 90 = .ok (.iload_n 1, 1) := by decide +kernel
theorem dX1_repair_91 : decode cX1_repair 91 = .ok (.iconst 1, 1) := by decide +kernel
theorem dX1_repair_92 : decode cX1_repair 92 = .ok (.iadd, 1) := by decide +kernel
theorem dX1_repair_93 : decode cX1_repair 93 = .ok (.iaload, 1) := by decide +kernel
theorem dX1_repair_94 : decode cX1_repair 94 = .ok (.aload_n 0, 1) := by decide +kernel
theorem dX1_repair_95 : decode cX1_repair 95 = .ok (.getfield 11, 3) := by decide +kernel
theorem dX1_repair_98 : decode cX1_repair 98 = .ok (.iload_n 2, 1) := by decide +kernel
theorem dX1_repair_99 : decode cX1_repair 99 = .ok (.iconst 1, 1) := by decide +kernel
theorem dX1_repair_100 : decode cX1_repair 100 = .ok (.iadd, 1) := by decide +kernel
theorem dX1_repair_101 : decode cX1_repair 101 = .ok (.iaload, 1) := by decide +kernel
theorem dX1_repair_102 : decode cX1_repair 102 = .ok (.isub, 1) := by decide +kernel
theorem dX1_repair_103 : decode cX1_repair 103 = .ok (.istore 6, 2) := by decide +kernel
theorem dX1_repair_105 : decode cX1_repair 105 = .ok (.iload_n 3, 1) := by decide +kernel
theorem dX1_repair_106 : decode cX1_repair 106 = .ok (.ifCond .ne 13, 3) := by decide +kernel
theorem dX1_repair_109 : decode cX1_repair 109 = .ok (.iload 5, 2) := by decide +kernel
theorem dX1_repair_111 : decode cX1_repair 111 = .ok (.ifCond .eq 16, 3) := by decide +kernel
theorem dX1_repair_114 : decode cX1_repair 114 = .ok (.iload 6, 2) := by decide +kernel
theorem dX1_repair_116 : decode cX1_repair 116 = .ok (.ifCond .ge 11, 3) := by decide +kernel
theorem dX1_repair_119 : decode cX1_repair 119 = .ok (.aload_n 0, 1) := by decide +kernel
theorem dX1_repair_120 : decode cX1_repair 120 = .ok (.iload_n 1, 1) := by decide +kernel
theorem dX1_repair_121 : decode cX1_repair 121 = .ok (.iload_n 2, 1) := by decide +kernel
theorem dX1_repair_122 : decode cX1_repair 122 = .ok (.invokevirtual 98, 3) := by decide +kernel
theorem dX1_repair_125 : decode cX1_repair 125 = .ok (.iconst 1, 1) := by decide +kernel
theorem dX1_repair_126 : decode cX1_repair 126 = .ok (.ireturn, 1) := by decide +kernel
theorem dX1_repair_127 : decode cX1_repair 127 = .ok (.iload 4, 2) := by decide +kernel
theorem dX1_repair_129 : decode cX1_repair 129 = .ok (.ifCond .ne 13, 3) := by decide +kernel
theorem dX1_repair_132 : decode cX1_repair 132 = .ok (.iload 5, 2) := by decide +kernel
theorem dX1_repair_134 : decode cX1_repair 134 = .ok (.ifCond .eq 16, 3) := by decide +kernel
theorem dX1_repair_137 : decode cX1_repair 137 = .ok (.iload 6, 2) := by decide +kernel
theorem dX1_repair_139 : decode cX1_repair 139 = .ok (.ifCond .le 11, 3) := by decide +kernel
theorem dX1_repair_142 : decode cX1_repair 142 = .ok (.aload_n 0, 1) := by decide +kernel
theorem dX1_repair_143 : decode cX1_repair 143 = .ok (.iload_n 2, 1) := by decide +kernel
theorem dX1_repair_144 : decode cX1_repair 144 = .ok (.iload_n 1, 1) := by decide +kernel
theorem dX1_repair_145 : decode cX1_repair 145 = .ok (.invokevirtual 98, 3) := by decide +kernel
theorem dX1_repair_148 : decode cX1_repair 148 = .ok (.iconst 1, 1) := by decide +kernel
theorem dX1_repair_149 : decode cX1_repair 149 = .ok (.ireturn, 1) := by decide +kernel
theorem dX1_repair_150 : decode cX1_repair 150 = .ok (.iconst 0, 1) := by decide +kernel
theorem dX1_repair_151 : decode cX1_repair 151 = .ok (.ireturn, 1) := by decide +kernel
theorem dX2_init_0 : decode cX2_init 0 = .ok (.aload_n 0, 1) := by decide +kernel
theorem dX2_init_1 : decode cX2_init 1 = .ok (.invokespecial 1, 3) := by decide +kernel
theorem dX2_init_4 : decode cX2_init 4 = .ok (.aload_n 0, 1) := by decide +kernel
theorem dX2_init_5 : decode cX2_init 5 = .ok (.bipush 80, 2) := by decide +kernel
theorem dX2_init_7 : decode cX2_init 7 = .ok (.newarray .int, 2) := by decide +kernel
theorem dX2_init_9 : decode cX2_init 9 = .ok (.putfield 9, 3) := by decide +kernel
theorem dX2_init_12 : decode cX2_init 12 = .ok (.aload_n 0, 1) := by decide +kernel
theorem dX2_init_13 : decode cX2_init 13 = .ok (.sipush 240, 3) := by decide +kernel
theorem dX2_init_16 : decode cX2_init 16 = .ok (.newarray .int, 2) := by decide +kernel
theorem dX2_init_18 : decode cX2_init 18 = .ok (.putfield 13, 3) := by decide +kernel
theorem dX2_init_21 : decode cX2_init 21 = .ok (.aload_n 0, 1) := by decide +kernel
theorem dX2_init_22 : decode cX2_init 22 = .ok (.bipush 101, 2) := by decide +kernel
theorem dX2_init_24 : decode cX2_init 24 = .ok (.newarray .int, 2) := by decide +kernel
theorem dX2_init_26 : decode cX2_init 26 = .ok (.putfield 16, 3) := by decide +kernel
theorem dX2_init_29 : decode cX2_init 29 = .ok (.aload_n 0, 1) := by decide +kernel
theorem dX2_init_30 : decode cX2_init 30 = .ok (.iconst 3, 1) := by decide +kernel
theorem dX2_init_31 : decode cX2_init 31 = .ok (.newarray .int, 2) := by decide +kernel
theorem dX2_init_33 : decode cX2_init 33 = .ok (.putfield 19, 3) := by decide +kernel
theorem dX2_init_36 : decode cX2_init 36 = .ok (.aload_n 0, 1) := by decide +kernel
theorem dX2_init_37 : decode cX2_init 37 = .ok (.iconst 3, 1) := by decide +kernel
theorem dX2_init_38 : decode cX2_init 38 = .ok (.newarray .int, 2) := by decide +kernel
theorem dX2_init_40 : decode cX2_init 40 = .ok (.putfield 22, 3) := by decide +kernel
theorem dX2_init_43 : decode cX2_init 43 = .ok (.return_, 1) := by decide +kernel
theorem dX2_length_0 : decode cX2_length 0 = .ok (.aload_n 0, 1) := by decide +kernel
theorem dX2_length_1 : decode cX2_length 1 = .ok (.getfield 25, 3) := by decide +kernel
theorem dX2_length_4 : decode cX2_length 4 = .ok (.ireturn, 1) := by decide +kernel
theorem dX2_isFull_0 : decode cX2_isFull 0 = .ok (.aload_n 0, 1) := by decide +kernel
theorem dX2_isFull_1 : decode cX2_isFull 1 = .ok (.getfield 25, 3) := by decide +kernel
theorem dX2_isFull_4 : decode cX2_isFull 4 = .ok (.bipush 80, 2) := by decide +kernel
theorem dX2_isFull_6 : decode cX2_isFull 6 = .ok (.if_icmp .lt 7, 3) := by decide +kernel
theorem dX2_isFull_9 : decode cX2_isFull 9 = .ok (.iconst 1, 1) := by decide +kernel
theorem dX2_isFull_10 : decode cX2_isFull 10 = .ok (.goto 4, 3) := by decide +kernel
theorem dX2_isFull_13 : decode cX2_isFull 13 = .ok (.iconst 0, 1) := by decide +kernel
theorem dX2_isFull_14 : decode cX2_isFull 14 = .ok (.ireturn, 1) := by decide +kernel
set_option maxRecDepth 20000 in
theorem ggX2_addSign_X2_isFull : GoodIn wsX2_addSign wsX2_isFull := goodIn_r _ [7, 2, 8, 9, 10, 11, 12, 13, 14, 15, 16] (by decide +kernel) (by decide +kernel)
set_option maxRecDepth 20000 in
theorem gX2_addSign_X2_isFull : GoodIn wsX2_addSign (wsV RX2 29 RX2 yX2_isFull wsX2_isFull) := goodIn_app (goodIn_of _ (by decide +kernel)) ggX2_addSign_X2_isFull
theorem dX2_addSign_0 : decode cX2_addSign 0 = .ok (.aload_n 0, 1) := by decide +kernel
theorem dX2_addSign_1 : decode cX2_addSign 1 = .ok (.invokevirtual 29, 3) := by decide +kernel
theorem dX2_addSign_4 : decode cX2_addSign 4 = .ok (.ifCond .ne 23, 3) := by decide +kernel
theorem dX2_addSign_7 : decode cX2_addSign 7 = .ok (.aload_n 0, 1) := by decide +kernel
theorem dX2_addSign_8 : decode cX2_addSign 8 = .ok (.getfield 9, 3) := by decide +kernel
theorem dX2_addSign_11 : decode cX2_addSign 11 = .ok (.aload_n 0, 1) := by decide +kernel
theorem dX2_addSign_12 : decode cX2_addSign 12 = .ok (.getfield 25, 3) := by decide +kernel
theorem dX2_addSign_15 : decode cX2_addSign 15 = .ok (.iload_n 1, 1) := by decide +kernel
theorem dX2_addSign_16 : decode cX2_addSign 16 = .ok (.iastore, 1) := by decide +kernel
theorem dX2_addSign_17 : decode cX2_addSign 17 = .ok (.aload_n 0, 1) := by decide +kernel
theorem dX2_addSign_18 : decode cX2_addSign 18 = .ok (.dup, 1) := by decide +kernel
theorem dX2_addSign_19 : decode cX2_addSign 19 = .ok (.getfield 25, 3) := by decide +kernel
theorem dX2_addSign_22 : decode cX2_addSign 22 = .ok (.iconst 1, 1) := by decide +kernel
theorem dX2_addSign_23 : decode cX2_addSign 23 = .ok (.iadd, 1) := by decide +kernel
theorem dX2_addSign_24 : decode cX2_addSign 24 = .ok (.putfield 25, 3) := by decide +kernel
theorem dX2_addSign_27 : decode cX2_addSign 27 = .ok (.return_, 1) := by decide +kernel
theorem dX2_makeEmpty_0 : decode cX2_makeEmpty 0 = .ok (.aload_n 0, 1) := by decide +kernel
theorem dX2_makeEmpty_1 : decode cX2_makeEmpty 1 = .ok (.iconst 0, 1) := by decide +kernel
theorem dX2_makeEmpty_2 : decode cX2_makeEmpty 2 = .ok (.putfield 25, 3) := by decide +kernel
theorem dX2_makeEmpty_5 : decode cX2_makeEmpty 5 = .ok (.return_, 1) := by decide +kernel
theorem dX2_signAt_0 : decode cX2_signAt 0 = .ok (.iload_n 1, 1) := by decide +kernel
theorem dX2_signAt_1 : decode cX2_signAt 1 = .ok (.ifCond .lt 20, 3) := by decide +kernel
theorem dX2_signAt_4 : decode cX2_signAt 4 = .ok (.iload_n 1, 1) := by decide +kernel
theorem dX2_signAt_5 : decode cX2_signAt 5 = .ok (.aload_n 0, 1) := by decide +kernel
theorem dX2_signAt_6 : decode cX2_signAt 6 = .ok (.getfield 25, 3) := by decide +kernel
theorem dX2_signAt_9 : decode cX2_signAt 9 = .ok (.if_icmp .ge 12, 3) := by decide +kernel
theorem dX2_signAt_12 : decode cX2_signAt 12 = .ok (.aload_n 0, 1) := by decide +kernel
theorem dX2_signAt_13 : decode cX2_signAt 13 = .ok (.getfield 9, 3) := by decide +kernel
theorem dX2_signAt_16 : decode cX2_signAt 16 = .ok (.iload_n 1, 1) := by decide +kernel
theorem dX2_signAt_17 : decode cX2_signAt 17 = .ok (.iaload, 1) := by decide +kernel
theorem dX2_signAt_18 : decode cX2_signAt 18 = .ok (.goto 4, 3) := by decide +kernel
theorem dX2_signAt_21 : decode cX2_signAt 21 = .ok (.iconst 0, 1) := by decide +kernel
theorem dX2_signAt_22 : decode cX2_signAt 22 = .ok (.ireturn, 1) := by decide +kernel
theorem dX2_steps_0 : decode cX2_steps 0 = .ok (.aload_n 0, 1) := by decide +kernel
theorem dX2_steps_1 : decode cX2_steps 1 = .ok (.getfield 33, 3) := by decide +kernel
theorem dX2_steps_4 : decode cX2_steps 4 = .ok (.ireturn, 1) := by decide +kernel
theorem dX2_hasTooManySteps_0 : decode cX2_hasTooManySteps 0 = .ok (.aload_n 0, 1) := by decide +kernel
theorem dX2_hasTooManySteps_1 : decode cX2_hasTooManySteps 1 = .ok (.getfield 33, 3) := by decide +kernel
theorem dX2_hasTooManySteps_4 : decode cX2_hasTooManySteps 4 = .ok (.bipush 100, 2) := by decide +kernel
theorem dX2_hasTooManySteps_6 : decode cX2_hasTooManySteps 6 = .ok (.if_icmp .le 7, 3) := by decide +kernel
theorem dX2_hasTooManySteps_9 : decode cX2_hasTooManySteps 9 = .ok (.iconst 1, 1) := by decide +kernel
theorem dX2_hasTooManySteps_10 : decode cX2_hasTooManySteps 10 = .ok (.goto 4, 3) := by decide +kernel
theorem dX2_hasTooManySteps_13 : decode cX2_hasTooManySteps 13 = .ok (.iconst 0, 1) := by decide +kernel
theorem dX2_hasTooManySteps_14 : decode cX2_hasTooManySteps 14 = .ok (.ireturn, 1) := by decide +kernel
theorem dX2_letterOfStep_0 : decode cX2_letterOfStep 0 = .ok (.iload_n 1, 1) := by decide +kernel
theorem dX2_letterOfStep_1 : decode cX2_letterOfStep 1 = .ok (.ifCond .lt 20, 3) := by decide +kernel
theorem dX2_letterOfStep_4 : decode cX2_letterOfStep 4 = .ok (.iload_n 1, 1) := by decide +kernel
theorem dX2_letterOfStep_5 : decode cX2_letterOfStep 5 = .ok (.aload_n 0, 1) := by decide +kernel
theorem dX2_letterOfStep_6 : decode cX2_letterOfStep 6 = .ok (.getfield 33, 3) := by decide +kernel
theorem dX2_letterOfStep_9 : decode cX2_letterOfStep 9 = .ok (.if_icmp .ge 12, 3) := by decide +kernel
theorem dX2_letterOfStep_12 : decode cX2_letterOfStep 12 = .ok (.aload_n 0, 1) := by decide +kernel
theorem dX2_letterOfStep_13 : decode cX2_letterOfStep 13 = .ok (.getfield 16, 3) := by decide +kernel
theorem dX2_letterOfStep_16 : decode cX2_letterOfStep 16 = .ok (.iload_n 1, 1) := by decide +kernel
theorem dX2_letterOfStep_17 : decode cX2_letterOfStep 17 = .ok (.iaload, 1) := by decide +kernel
theorem dX2_letterOfStep_18 : decode cX2_letterOfStep 18 = .ok (.goto 4, 3) := by decide +kernel
theorem dX2_letterOfStep_21 : decode cX2_letterOfStep 21 = .ok (.iconst 0, 1) := by decide +kernel
theorem dX2_letterOfStep_22 : decode cX2_letterOfStep 22 = .ok (.ireturn, 1) := by decide +kernel
theorem dX2_numberBehind_0 : decode cX2_numberBehind 0 = .ok (.aload_n 0, 1) := by decide +kernel
theorem dX2_numberBehind_1 : decode cX2_numberBehind 1 = .ok (.getfield 13, 3) := by decide +kernel
theorem dX2_numberBehind_4 : decode cX2_numberBehind 4 = .ok (.iload_n 1, 1) := by decide +kernel
theorem dX2_numberBehind_5 : decode cX2_numberBehind 5 = .ok (.iconst 3, 1) := by decide +kernel
theorem dX2_numberBehind_6 : decode cX2_numberBehind 6 = .ok (.imul, 1) := by decide +kernel
theorem dX2_numberBehind_7 : decode cX2_numberBehind 7 = .ok (.iload_n 2, 1) := by decide +kernel
theorem dX2_numberBehind_8 : decode cX2_numberBehind 8 = .ok (.iadd, 1) := by decide +kernel
theorem dX2_numberBehind_9 : decode cX2_numberBehind 9 = .ok (.iaload, 1) := by decide +kernel
theorem dX2_numberBehind_10 : decode cX2_numberBehind 10 = .ok (.ireturn, 1) := by decide +kernel
theorem dX2_place_0 : decode cX2_place 0 = .ok (.aload_n 0, 1) := by decide +kernel
theorem dX2_place_1 : decode cX2_place 1 = .ok (.getfield 36, 3) := by decide +kernel
theorem dX2_place_4 : decode cX2_place 4 = .ok (.ireturn, 1) := by decide +kernel
set_option maxRecDepth 20000 in
theorem ggX2_isUnderstood_X2_readPiece : GoodIn wsX2_isUnderstood wsX2_readPiece := goodIn_r _ [9, 1, 10, 11, 12, 8, 13, 4, 14, 15, 16, 17, 18, 3, 19, 20, 2, 21, 22, 23, 24, 25, 26, 27, 28, 29, 30, 31, 32, 33, 34, 35, 36, 37, 38, 39, 40, 41, 42, 43, 44, 45, 46, 47, 48, 49, 50, 51, 52, 53, 54] (by decide +kernel) (by decide +kernel)
set_option maxRecDepth 20000 in
theorem gX2_isUnderstood_X2_readPiece : GoodIn wsX2_isUnderstood (wsV RX2 42 RX2 yX2_readPiece wsX2_readPiece) := goodIn_app (goodIn_of _ (by decide +kernel)) ggX2_isUnderstood_X2_readPiece
theorem dX2_isUnderstood_0 : decode cX2_isUnderstood 0 = .ok (.aload_n 0, 1) := by decide +kernel
theorem dX2_isUnderstood_1 : decode cX2_isUnderstood 1 = .ok (.iconst 0, 1) := by decide +kernel
theorem dX2_isUnderstood_2 : decode cX2_isUnderstood 2 = .ok (.putfield 36, 3) := by decide +kernel
theorem dX2_isUnderstood_5 : decode cX2_isUnderstood 5 = .ok (.aload_n 0, 1) := by decide +kernel
theorem dX2_isUnderstood_6 : decode cX2_isUnderstood 6 = .ok (.iconst 0, 1) := by decide +kernel
theorem dX2_isUnderstood_7 : decode cX2_isUnderstood 7 = .ok (.putfield 33, 3) := by decide +kernel
theorem dX2_isUnderstood_10 : decode cX2_isUnderstood 10 = .ok (.aload_n 0, 1) := by decide +kernel
theorem dX2_isUnderstood_11 : decode cX2_isUnderstood 11 = .ok (.iconst 0, 1) := by decide +kernel
theorem dX2_isUnderstood_12 : decode cX2_isUnderstood 12 = .ok (.putfield 39, 3) := by decide +kernel
theorem dX2_isUnderstood_15 : decode cX2_isUnderstood 15 = .ok (.iconst 0, 1) := by decide +kernel
theorem dX2_isUnderstood_16 : decode cX2_isUnderstood 16 = .ok (.istore_n 1, 1) := by decide +kernel
theorem dX2_isUnderstood_17 : decode cX2_isUnderstood 17 = .ok (.iload_n 1, 1) := by decide +kernel
theorem dX2_isUnderstood_18 : decode cX2_isUnderstood 18 = .ok (.bipush 80, 2) := by decide +kernel
theorem dX2_isUnderstood_20 : decode cX2_isUnderstood 20 = .ok (.if_icmp .ge 29, 3) := by decide +kernel
theorem dX2_isUnderstood_23 : decode cX2_isUnderstood 23 = .ok (.aload_n 0, 1) := by decide +kernel
theorem dX2_isUnderstood_24 : decode cX2_isUnderstood 24 = .ok (.getfield 36, 3) := by decide +kernel
theorem dX2_isUnderstood_27 : decode cX2_isUnderstood 27 = .ok (.aload_n 0, 1) := by decide +kernel
theorem dX2_isUnderstood_28 : decode cX2_isUnderstood 28 = .ok (.getfield 25, 3) := by decide +kernel
theorem dX2_isUnderstood_31 : decode cX2_isUnderstood 31 = .ok (.if_icmp .ge 18, 3) := by decide +kernel
theorem dX2_isUnderstood_34 : decode cX2_isUnderstood 34 = .ok (.aload_n 0, 1) := by decide +kernel
theorem dX2_isUnderstood_35 : decode cX2_isUnderstood 35 = .ok (.invokevirtual 42, 3) := by decide +kernel
theorem dX2_isUnderstood_38 : decode cX2_isUnderstood 38 = .ok (.ifCond .ne 5, 3) := by decide +kernel
theorem dX2_isUnderstood_41 : decode cX2_isUnderstood 41 = .ok (.iconst 0, 1) := by decide +kernel
theorem dX2_isUnderstood_42 : decode cX2_isUnderstood 42 = .ok (.ireturn, 1) := by decide +kernel
theorem dX2_isUnderstood_43 : decode cX2_isUnderstood 43 = .ok (.iinc 1 1, 3) := by decide +kernel
theorem dX2_isUnderstood_46 : decode cX2_isUnderstood 46 = .ok (.goto (-29), 3) := by decide +kernel
theorem dX2_isUnderstood_49 : decode cX2_isUnderstood 49 = .ok (.aload_n 0, 1) := by decide +kernel
theorem dX2_isUnderstood_50 : decode cX2_isUnderstood 50 = .ok (.getfield 39, 3) := by decide +kernel
theorem dX2_isUnderstood_53 : decode cX2_isUnderstood 53 = .ok (.ifCond .ne 7, 3) := by decide +kernel
theorem dX2_isUnderstood_56 : decode cX2_isUnderstood 56 = .ok (.iconst 1, 1) := by decide +kernel
theorem dX2_isUnderstood_57 : decode cX2_isUnderstood 57 = .ok (.goto 4, 3) := by decide +kernel
theorem dX2_isUnderstood_60 : decode cX2_isUnderstood 60 = .ok (.iconst 0, 1) := by decide +kernel
theorem dX2_isUnderstood_61 : decode cX2_isUnderstood 61 = .ok (.ireturn, 1) := by decide +kernel
set_option maxRecDepth 20000 in
theorem ggX2_readPiece_X2_signAt : GoodIn wsX2_readPiece wsX2_signAt := goodIn_r _ [6, 7, 8, 42, 43, 44, 45, 46, 47, 48, 49, 50] (by decide +kernel) (by decide +kernel)
set_option maxRecDepth 20000 in
theorem gX2_readPiece_X2_signAt : GoodIn wsX2_readPiece (wsV RX2 45 RX2 yX2_signAt wsX2_signAt) := goodIn_app (goodIn_of _ (by decide +kernel)) ggX2_readPiece_X2_signAt
set_option maxRecDepth 20000 in
theorem ggX2_readPiece_X2_openGroup : GoodIn wsX2_readPiece wsX2_openGroup := goodIn_r _ [12, 1, 13, 14, 15, 16, 2, 3, 4, 5, 6, 7, 8, 42, 43, 44, 45, 46, 47, 48, 49, 50] (by decide +kernel) (by decide +kernel)
set_option maxRecDepth 20000 in
theorem gX2_readPiece_X2_openGroup : GoodIn wsX2_readPiece (wsV RX2 49 RX2 yX2_openGroup wsX2_openGroup) := goodIn_app (goodIn_of _ (by decide +kernel)) ggX2_readPiece_X2_openGroup
set_option maxRecDepth 20000 in
theorem ggX2_readPiece_X2_closeGroup : GoodIn wsX2_readPiece wsX2_closeGroup := goodIn_r _ [20, 13, 15, 16, 14, 21, 1, 22, 23, 24, 5, 25, 42, 43, 44, 45, 46, 47, 48, 49, 50] (by decide +kernel) (by decide +kernel)
set_option maxRecDepth 20000 in
theorem gX2_readPiece_X2_closeGroup : GoodIn wsX2_readPiece (wsV RX2 52 RX2 yX2_closeGroup wsX2_closeGroup) := goodIn_app (goodIn_of _ (by decide +kernel)) ggX2_readPiece_X2_closeGroup
set_option maxRecDepth 20000 in
theorem ggX2_readPiece_X2_readAct : GoodIn wsX2_readPiece wsX2_readAct := goodIn_r _ [29, 1, 2, 3, 4, 5, 6, 7, 8, 22, 23, 24, 25, 16, 21, 30, 31, 32, 33, 34, 35, 36, 37, 38, 39, 40, 41, 42, 43, 44, 45, 46, 47, 48, 49, 50] (by decide +kernel) (by decide +kernel)
set_option maxRecDepth 20000 in
theorem gX2_readPiece_X2_readAct : GoodIn wsX2_readPiece (wsV RX2 55 RX2 yX2_readAct wsX2_readAct) := goodIn_app (goodIn_of _ (by decide +kernel)) ggX2_readPiece_X2_readAct
theorem dX2_readPiece_0 : decode cX2_readPiece 0 = .ok (.aload_n 0, 1) := by decide +kernel
theorem dX2_readPiece_1 : decode cX2_readPiece 1 = .ok (.aload_n 0, 1) := by decide +kernel
theorem dX2_readPiece_2 : decode cX2_readPiece 2 = .ok (.getfield 36, 3) := by decide +kernel
theorem dX2_readPiece_5 : decode cX2_readPiece 5 = .ok (.invokevirtual 45, 3) := by decide +kernel
theorem dX2_readPiece_8 : decode cX2_readPiece 8 = .ok (.istore_n 1, 1) := by decide +kernel
theorem dX2_readPiece_9 : decode cX2_readPiece 9 = .ok (.iload_n 1, 1) := by decide +kernel
theorem dX2_readPiece_10 : decode cX2_readPiece 10 = .ok (.bipush 40, 2) := by decide +kernel
theorem dX2_readPiece_12 : decode cX2_readPiece 12 = .ok (.if_icmp .eq 15, 3) := by decide +kernel
theorem dX2_readPiece_15 : decode cX2_readPiece 15 = .ok (.iload_n 1, 1) := by decide +kernel
theorem dX2_readPiece_16 : decode cX2_readPiece 16 = .ok (.bipush 50, 2) := by decide +kernel
theorem dX2_readPiece_18 : decode cX2_readPiece 18 = .ok (.if_icmp .lt 14, 3) := by decide +kernel
theorem dX2_readPiece_21 : decode cX2_readPiece 21 = .ok (.iload_n 1, 1) := by decide +kernel
theorem dX2_readPiece_22 : decode cX2_readPiece 22 = .ok (.bipush 57, 2) := by decide +kernel
theorem dX2_readPiece_24 : decode cX2_readPiece 24 = .ok (.if_icmp .gt 8, 3) := by decide +kernel
theorem dX2_readPiece_27 : decode cX2_readPiece 27 = .ok (.aload_n 0, 1) := by decide +kernel
theorem dX2_readPiece_28 : decode cX2_readPiece 28 = .ok (.invokevirtual 49, 3) := by decide +kernel
theorem dX2_readPiece_31 : decode cX2_readPiece 31 = .ok (.ireturn, 1) := by decide +kernel
theorem dX2_readPiece_32 : decode cX2_readPiece 32 = .ok (.iload_n 1, 1) := by decide +kernel
theorem dX2_readPiece_33 : decode cX2_readPiece 33 = .ok (.bipush 41, 2) := by decide +kernel
theorem dX2_readPiece_35 : decode cX2_readPiece 35 = .ok (.if_icmp .ne 8, 3) := by decide +kernel
theorem dX2_readPiece_38 : decode cX2_readPiece 38 = .ok (.aload_n 0, 1) := by decide +kernel
theorem dX2_readPiece_39 : decode cX2_readPiece 39 = .ok (.invokevirtual 52, 3) := by decide +kernel
theorem dX2_readPiece_42 : decode cX2_readPiece 42 = .ok (.ireturn, 1) := by decide +kernel
theorem dX2_readPiece_43 : decode cX2_readPiece 43 = .ok (.aload_n 0, 1) := by decide +kernel
theorem dX2_readPiece_44 : decode cX2_readPiece 44 = .ok (.invokevirtual 55, 3) := by decide +kernel
theorem dX2_readPiece_47 : decode cX2_readPiece 47 = .ok (.ireturn, 1) := by decide +kernel
set_option maxRecDepth 20000 in
theorem ggX2_openGroup_X2_signAt : GoodIn wsX2_openGroup wsX2_signAt := goodIn_r _ [10, 11, 12, 13, 14, 15, 16, 17, 18, 19, 20, 21] (by decide +kernel) (by decide +kernel)
set_option maxRecDepth 20000 in
theorem gX2_openGroup_X2_signAt : GoodIn wsX2_openGroup (wsV RX2 45 RX2 yX2_signAt wsX2_signAt) := goodIn_app (goodIn_of _ (by decide +kernel)) ggX2_openGroup_X2_signAt
theorem dX2_openGroup_0 : decode cX2_openGroup 0 = .ok (.iconst 1, 1) := by decide +kernel
theorem dX2_openGroup_1 : decode cX2_openGroup 1 = .ok (.istore_n 1, 1) := by decide +kernel
theorem dX2_openGroup_2 : decode cX2_openGroup 2 = .ok (.aload_n 0, 1) := by decide +kernel
theorem dX2_openGroup_3 : decode cX2_openGroup 3 = .ok (.aload_n 0, 1) := by decide +kernel
theorem dX2_openGroup_4 : decode cX2_openGroup 4 = .ok (.getfield 36, 3) := by decide +kernel
theorem dX2_openGroup_7 : decode cX2_openGroup 7 = .ok (.invokevirtual 45, 3) := by decide +kernel
theorem dX2_openGroup_10 : decode cX2_openGroup 10 = .ok (.bipush 40, 2) := by decide +kernel
theorem dX2_openGroup_12 : decode cX2_openGroup 12 = .ok (.if_icmp .eq 25, 3) := by decide +kernel
theorem dX2_openGroup_15 : decode cX2_openGroup 15 = .ok (.aload_n 0, 1) := by decide +kernel
theorem dX2_openGroup_16 : decode cX2_openGroup 16 = .ok (.aload_n 0, 1) := by decide +kernel
theorem dX2_openGroup_17 : decode cX2_openGroup 17 = .ok (.getfield 36, 3) := by decide +kernel
theorem dX2_openGroup_20 : decode cX2_openGroup 20 = .ok (.invokevirtual 45, 3) := by decide +kernel
theorem dX2_openGroup_23 : decode cX2_openGroup 23 = .ok (.bipush 48, 2) := by decide +kernel
theorem dX2_openGroup_25 : decode cX2_openGroup 25 = .ok (.isub, 1) := by decide +kernel
theorem dX2_openGroup_26 : decode cX2_openGroup 26 = .ok (.istore_n 1, 1) := by decide +kernel
theorem dX2_openGroup_27 : decode cX2_openGroup 27 = .ok (.aload_n 0, 1) := by decide +kernel
theorem dX2_openGroup_28 : decode cX2_openGroup 28 = .ok (.dup, 1) := by decide +kernel
theorem dX2_openGroup_29 : decode cX2_openGroup 29 = .ok (.getfield 36, 3) := by decide +kernel
theorem dX2_openGroup_32 : decode cX2_openGroup 32 = .ok (.iconst 1, 1) := by decide +kernel
theorem dX2_openGroup_33 : decode cX2_openGroup 33 = .ok (.iadd, 1) := by decide +kernel
theorem dX2_openGroup_34 : decode cX2_openGroup 34 = .ok (.putfield 36, 3) := by decide +kernel
theorem dX2_openGroup_37 : decode cX2_openGroup 37 = .ok (.aload_n 0, 1) := by decide +kernel
theorem dX2_openGroup_38 : decode cX2_openGroup 38 = .ok (.aload_n 0, 1) := by decide +kernel
theorem dX2_openGroup_39 : decode cX2_openGroup 39 = .ok (.getfield 36, 3) := by decide +kernel
theorem dX2_openGroup_42 : decode cX2_openGroup 42 = .ok (.invokevirtual 45, 3) := by decide +kernel
theorem dX2_openGroup_45 : decode cX2_openGroup 45 = .ok (.bipush 40, 2) := by decide +kernel
theorem dX2_openGroup_47 : decode cX2_openGroup 47 = .ok (.if_icmp .ne 11, 3) := by decide +kernel
theorem dX2_openGroup_50 : decode cX2_openGroup 50 = .ok (.aload_n 0, 1) := by decide +kernel
theorem dX2_openGroup_51 : decode cX2_openGroup 51 = .ok (.getfield 39, 3) := by decide +kernel
theorem dX2_openGroup_54 : decode cX2_openGroup 54 = .ok (.iconst 3, 1) := by decide +kernel
theorem dX2_openGroup_55 : decode cX2_openGroup 55 = .ok (.if_icmp .lt 5, 3) := by decide +kernel
theorem dX2_openGroup_58 : decode cX2_openGroup 58 = .ok (.iconst 0, 1) := by decide +kernel
theorem dX2_openGroup_59 : decode cX2_openGroup 59 = .ok (.ireturn, 1) := by decide +kernel
theorem dX2_openGroup_60 : decode cX2_openGroup 60 = .ok (.aload_n 0, 1) := by decide +kernel
theorem dX2_openGroup_61 : decode cX2_openGroup 61 = .ok (.getfield 19, 3) := by decide +kernel
theorem dX2_openGroup_64 : decode cX2_openGroup 64 = .ok (.aload_n 0, 1) := by decide +kernel
theorem dX2_openGroup_65 : decode cX2_openGroup 65 = .ok (.getfield 39, 3) := by decide +kernel
theorem dX2_openGroup_68 : decode cX2_openGroup 68 = .ok (.iload_n 1, 1) := by decide +kernel
theorem dX2_openGroup_69 : decode cX2_openGroup 69 = .ok (.iastore, 1) := by decide +kernel
theorem dX2_openGroup_70 : decode cX2_openGroup 70 = .ok (.aload_n 0, 1) := by decide +kernel
theorem dX2_openGroup_71 : decode cX2_openGroup 71 = .ok (.getfield 22, 3) := by decide +kernel
theorem dX2_openGroup_74 : decode cX2_openGroup 74 = .ok (.aload_n 0, 1) := by decide +kernel
theorem dX2_openGroup_75 : decode cX2_openGroup 75 = .ok (.getfield 39, 3) := by decide +kernel
theorem dX2_openGroup_78 : decode cX2_openGroup 78 = .ok (.aload_n 0, 1) := by decide +kernel
theorem dX2_openGroup_79 : decode cX2_openGroup 79 = .ok (.getfield 33, 3) := by decide +kernel
theorem dX2_openGroup_82 : decode cX2_openGroup 82 = .ok (.iastore, 1) := by decide +kernel
theorem dX2_openGroup_83 : decode cX2_openGroup 83 = .ok (.aload_n 0, 1) := by decide +kernel
theorem dX2_openGroup_84 : decode cX2_openGroup 84 = .ok (.dup, 1) := by decide +kernel
theorem dX2_openGroup_85 : decode cX2_openGroup 85 = .ok (.getfield 39, 3) := by decide +kernel
theorem dX2_openGroup_88 : decode cX2_openGroup 88 = .ok (.iconst 1, 1) := by decide +kernel
theorem dX2_openGroup_89 : decode cX2_openGroup 89 = .ok (.iadd, 1) := by decide +kernel
theorem dX2_openGroup_90 : decode cX2_openGroup 90 = .ok (.putfield 39, 3) := by decide +kernel
theorem dX2_openGroup_93 : decode cX2_openGroup 93 = .ok (.aload_n 0, 1) := by decide +kernel
theorem dX2_openGroup_94 : decode cX2_openGroup 94 = .ok (.dup, 1) := by decide +kernel
theorem dX2_openGroup_95 : decode cX2_openGroup 95 = .ok (.getfield 36, 3) := by decide +kernel
theorem dX2_openGroup_98 : decode cX2_openGroup 98 = .ok (.iconst 1, 1) := by decide +kernel
theorem dX2_openGroup_99 : decode cX2_openGroup 99 = .ok (.iadd, 1) := by decide +kernel
theorem dX2_openGroup_100 : decode cX2_openGroup 100 = .ok (.putfield 36, 3) := by decide +kernel
theorem dX2_openGroup_103 : decode cX2_openGroup 103 = .ok (.iconst 1, 1) := by decide +kernel
theorem dX2_openGroup_104 : decode cX2_openGroup 104 = .ok (.ireturn, 1) := by decide +kernel
set_option maxRecDepth 20000 in
theorem ggX2_closeGroup_X2_addStep : GoodIn wsX2_closeGroup wsX2_addStep := goodIn_r _ [11, 3, 5, 12, 13, 14, 15, 16, 17, 18, 19, 20] (by decide +kernel) (by decide +kernel)
set_option maxRecDepth 20000 in
theorem gX2_closeGroup_X2_addStep : GoodIn wsX2_closeGroup (wsV RX2 58 RX2 yX2_addStep wsX2_addStep) := goodIn_app (goodIn_of _ (by decide +kernel)) ggX2_closeGroup_X2_addStep
theorem dX2_closeGroup_0 : decode cX2_closeGroup 0 = .ok (.aload_n 0, 1) := by decide +kernel
theorem dX2_closeGroup_1 : decode cX2_closeGroup 1 = .ok (.getfield 39, 3) := by decide +kernel
theorem dX2_closeGroup_4 : decode cX2_closeGroup 4 = .ok (.ifCond .ne 5, 3) := by decide +kernel
theorem dX2_closeGroup_7 : decode cX2_closeGroup 7 = .ok (.iconst 0, 1) := by decide +kernel
theorem dX2_closeGroup_8 : decode cX2_closeGroup 8 = .ok (.ireturn, 1) := by decide +kernel
theorem dX2_closeGroup_9 : decode cX2_closeGroup 9 = .ok (.aload_n 0, 1) := by decide +kernel
theorem dX2_closeGroup_10 : decode cX2_closeGroup 10 = .ok (.dup, 1) := by decide +kernel
theorem dX2_closeGroup_11 : decode cX2_closeGroup 11 = .ok (.getfield 39, 3) := by decide +kernel
theorem dX2_closeGroup_14 : decode cX2_closeGroup 14 = .ok (.iconst 1, 1) := by decide +kernel
theorem dX2_closeGroup_15 : decode cX2_closeGroup 15 = .ok (.isub, 1) := by decide +kernel
theorem dX2_closeGroup_16 : decode cX2_closeGroup 16 = .ok (.putfield 39, 3) := by decide +kernel
theorem dX2_closeGroup_19 : decode cX2_closeGroup 19 = .ok (.aload_n 0, 1) := by decide +kernel
theorem dX2_closeGroup_20 : decode cX2_closeGroup 20 = .ok (.getfield 22, 3) := by decide +kernel
theorem dX2_closeGroup_23 : decode cX2_closeGroup 23 = .ok (.aload_n 0, 1) := by decide +kernel
theorem dX2_closeGroup_24 : decode cX2_closeGroup 24 = .ok (.getfield 39, 3) := by decide +kernel
theorem dX2_closeGroup_27 : decode cX2_closeGroup 27 = .ok (.iaload, 1) := by decide +kernel
theorem dX2_closeGroup_28 : decode cX2_closeGroup 28 = .ok (.istore_n 1, 1) := by decide +kernel
theorem dX2_closeGroup_29 : decode cX2_closeGroup 29 = .ok (.aload_n 0, 1) := by decide +kernel
theorem dX2_closeGroup_30 : decode cX2_closeGroup 30 = .ok (.getfield 33, 3) := by decide +kernel
theorem dX2_closeGroup_33 : decode cX2_closeGroup 33 = .ok (.istore_n 2, 1) := by decide +kernel
theorem dX2_closeGroup_34 : decode cX2_closeGroup 34 = .ok (.iconst 1, 1) := by decide +kernel
theorem dX2_closeGroup_35 : decode cX2_closeGroup 35 = .ok (.istore_n 3, 1) := by decide +kernel
theorem dX2_closeGroup_36 : decode cX2_closeGroup 36 = .ok (.iload_n 3, 1) := by decide +kernel
theorem dX2_closeGroup_37 : decode cX2_closeGroup 37 = .ok (.aload_n 0, 1) := by decide +kernel
theorem dX2_closeGroup_38 : decode cX2_closeGroup 38 = .ok (.getfield 19, 3) := by decide +kernel
theorem dX2_closeGroup_41 : decode cX2_closeGroup 41 = .ok (.aload_n 0, 1) := by decide +kernel
theorem dX2_closeGroup_42 : decode cX2_closeGroup 42 = .ok (.getfield 39, 3) := by decide +kernel
theorem dX2_closeGroup_45 : decode cX2_closeGroup 45 = .ok (.iaload, 1) := by decide +kernel
theorem dX2_closeGroup_46 : decode cX2_closeGroup 46 = .ok (.if_icmp .ge 35, 3) := by decide +kernel
theorem dX2_closeGroup_49 : decode cX2_closeGroup 49 = .ok (.iload_n 1, 1) := by decide +kernel
theorem dX2_closeGroup_50 : decode cX2_closeGroup 50 = .ok (.istore 4, 2) := by decide +kernel
theorem dX2_closeGroup_52 : decode cX2_closeGroup 52 = .ok (.iload 4, 2) := by decide +kernel
theorem dX2_closeGroup_54 : decode cX2_closeGroup 54 = .ok (.iload_n 2, 1) := by decide +kernel
theorem dX2_closeGroup_55 : decode cX2_closeGroup 55 = .ok (.if_icmp .ge 20, 3) := by decide +kernel
theorem dX2_closeGroup_58 : decode cX2_closeGroup 58 = .ok (.aload_n 0, 1) := by decide +kernel
theorem dX2_closeGroup_59 : decode cX2_closeGroup 59 = .ok (.aload_n 0, 1) := by decide +kernel
theorem dX2_closeGroup_60 : decode cX2_closeGroup 60 = .ok (.getfield 16, 3) := by decide +kernel
theorem dX2_closeGroup_63 : decode cX2_closeGroup 63 = .ok (.iload 4, 2) := by decide +kernel
theorem dX2_closeGroup_65 : decode cX2_closeGroup 65 = .ok (.iaload, 1) := by decide +kernel
theorem dX2_closeGroup_66 : decode cX2_closeGroup 66 = .ok (.invokevirtual 58, 3) := by decide +kernel
theorem dX2_closeGroup_69 : decode cX2_closeGroup 69 = .ok (.iinc 4 1, 3) := by decide +kernel
theorem dX2_closeGroup_72 : decode cX2_closeGroup 72 = .ok (.goto (-20), 3) := by decide +kernel
theorem dX2_closeGroup_75 : decode cX2_closeGroup 75 = .ok (.iinc 3 1, 3) := by decide +kernel
theorem dX2_closeGroup_78 : decode cX2_closeGroup 78 = .ok (.goto (-42), 3) := by decide +kernel
theorem dX2_closeGroup_81 : decode cX2_closeGroup 81 = .ok (.aload_n 0, 1) := by decide +kernel
theorem dX2_closeGroup_82 : decode cX2_closeGroup 82 = .ok (.dup, 1) := by decide +kernel
theorem dX2_closeGroup_83 : decode cX2_closeGroup 83 = .ok (.getfield 36, 3) := by decide +kernel
theorem dX2_closeGroup_86 : decode cX2_closeGroup 86 = .ok (.iconst 1, 1) := by decide +kernel
theorem dX2_closeGroup_87 : decode cX2_closeGroup 87 = .ok (.iadd, 1) := by decide +kernel
theorem dX2_closeGroup_88 : decode cX2_closeGroup 88 = .ok (.putfield 36, 3) := by decide +kernel
theorem dX2_closeGroup_91 : decode cX2_closeGroup 91 = .ok (.iconst 1, 1) := by decide +kernel
theorem dX2_closeGroup_92 : decode cX2_closeGroup 92 = .ok (.ireturn, 1) := by decide +kernel
theorem dX2_addStep_0 : decode cX2_addStep 0 = .ok (.aload_n 0, 1) := by decide +kernel
theorem dX2_addStep_1 : decode cX2_addStep 1 = .ok (.getfield 33, 3) := by decide +kernel
theorem dX2_addStep_4 : decode cX2_addStep 4 = .ok (.aload_n 0, 1) := by decide +kernel
theorem dX2_addStep_5 : decode cX2_addStep 5 = .ok (.getfield 16, 3) := by decide +kernel
theorem dX2_addStep_8 : decode cX2_addStep 8 = .ok (.arraylength, 1) := by decide +kernel
theorem dX2_addStep_9 : decode cX2_addStep 9 = .ok (.if_icmp .ge 23, 3) := by decide +kernel
theorem dX2_addStep_12 : decode cX2_addStep 12 = .ok (.aload_n 0, 1) := by decide +kernel
theorem dX2_addStep_13 : decode cX2_addStep 13 = .ok (.getfield 16, 3) := by decide +kernel
theorem dX2_addStep_16 : decode cX2_addStep 16 = .ok (.aload_n 0, 1) := by decide +kernel
theorem dX2_addStep_17 : decode cX2_addStep 17 = .ok (.getfield 33, 3) := by decide +kernel
theorem dX2_addStep_20 : decode cX2_addStep 20 = .ok (.iload_n 1, 1) := by decide +kernel
theorem dX2_addStep_21 : decode cX2_addStep 21 = .ok (.iastore, 1) := by decide +kernel
theorem dX2_addStep_22 : decode cX2_addStep 22 = .ok (.aload_n 0, 1) := by decide +kernel
theorem dX2_addStep_23 : decode cX2_addStep 23 = .ok (.dup, 1) := by decide +kernel
theorem dX2_addStep_24 : decode cX2_addStep 24 = .ok (.getfield 33, 3) := by decide +kernel
theorem dX2_addStep_27 : decode cX2_addStep 27 = .ok (.iconst 1, 1) := by decide +kernel
theorem dX2_addStep_28 : decode cX2_addStep 28 = .ok (.iadd, 1) := by decide +kernel
theorem dX2_addStep_29 : decode cX2_addStep 29 = .ok (.putfield 33, 3) := by decide +kernel
theorem dX2_addStep_32 : decode cX2_addStep 32 = .ok (.return_, 1) := by decide +kernel
set_option maxRecDepth 20000 in
theorem ggX2_readAct_X2_signAt : GoodIn wsX2_readAct wsX2_signAt := goodIn_r _ [6, 7, 8, 27, 28, 29, 30, 31, 32, 33, 34, 35] (by decide +kernel) (by decide +kernel)
set_option maxRecDepth 20000 in
theorem gX2_readAct_X2_signAt : GoodIn wsX2_readAct (wsV RX2 45 RX2 yX2_signAt wsX2_signAt) := goodIn_app (goodIn_of _ (by decide +kernel)) ggX2_readAct_X2_signAt
set_option maxRecDepth 20000 in
theorem ggX2_readAct_X2_addStep : GoodIn wsX2_readAct wsX2_addStep := goodIn_r _ [12, 13, 14, 27, 28, 29, 30, 31, 32, 33, 34, 35] (by decide +kernel) (by decide +kernel)
set_option maxRecDepth 20000 in
theorem gX2_readAct_X2_addStep : GoodIn wsX2_readAct (wsV RX2 58 RX2 yX2_addStep wsX2_addStep) := goodIn_app (goodIn_of _ (by decide +kernel)) ggX2_readAct_X2_addStep
set_option maxRecDepth 20000 in
theorem ggX2_readAct_X2_readNumber : GoodIn wsX2_readAct wsX2_readNumber := goodIn_r _ [18, 1, 19, 2, 3, 4, 5, 6, 7, 8, 20, 21, 22, 23, 24, 25, 26, 27, 28, 29, 30, 31, 32, 33, 34, 35] (by decide +kernel) (by decide +kernel)
set_option maxRecDepth 20000 in
theorem gX2_readAct_X2_readNumber : GoodIn wsX2_readAct (wsV RX2 62 RX2 yX2_readNumber wsX2_readNumber) := goodIn_app (goodIn_of _ (by decide +kernel)) ggX2_readAct_X2_readNumber
set_option maxRecDepth 20000 in
theorem ggX2_readAct_X2_readSign : GoodIn wsX2_readAct wsX2_readSign := goodIn_r _ [26, 1, 2, 3, 4, 5, 6, 7, 8, 27, 28, 29, 30, 31, 32, 33, 34, 35] (by decide +kernel) (by decide +kernel)
set_option maxRecDepth 20000 in
theorem gX2_readAct_X2_readSign : GoodIn wsX2_readAct (wsV RX2 66 RX2 yX2_readSign wsX2_readSign) := goodIn_app (goodIn_of _ (by decide +kernel)) ggX2_readAct_X2_readSign
theorem dX2_readAct_0 : decode cX2_readAct 0 = .ok (.aload_n 0, 1) := by decide +kernel
theorem dX2_readAct_1 : decode cX2_readAct 1 = .ok (.getfield 36, 3) := by decide +kernel
theorem dX2_readAct_4 : decode cX2_readAct 4 = .ok (.istore_n 1, 1) := by decide +kernel
theorem dX2_readAct_5 : decode cX2_readAct 5 = .ok (.aload_n 0, 1) := by decide +kernel
theorem dX2_readAct_6 : decode cX2_readAct 6 = .ok (.iload_n 1, 1) := by decide +kernel
theorem dX2_readAct_7 : decode cX2_readAct 7 = .ok (.invokevirtual 45, 3) := by decide +kernel
theorem dX2_readAct_10 : decode cX2_readAct 10 = .ok (.tableswitch 185 114 120 #[42, 185, 139, 185, 185, 85, 163], 42) := by decide +kernel
theorem dX2_readAct_52 : decode cX2_readAct 52 = .ok (.aload_n 0, 1) := by decide +kernel
theorem dX2_readAct_53 : decode cX2_readAct 53 = .ok (.dup, 1) := by decide +kernel
theorem dX2_readAct_54 : decode cX2_readAct 54 = .ok (.getfield 36, 3) := by decide +kernel
theorem dX2_readAct_57 : decode cX2_readAct 57 = .ok (.iconst 1, 1) := by decide +kernel
theorem dX2_readAct_58 : decode cX2_readAct 58 = .ok (.iadd, 1) := by decide +kernel
theorem dX2_readAct_59 : decode cX2_readAct 59 = .ok (.putfield 36, 3) := by decide +kernel
theorem dX2_readAct_62 : decode cX2_readAct 62 = .ok (.aload_n 0, 1) := by decide +kernel
theorem dX2_readAct_63 : decode cX2_readAct 63 = .ok (.iload_n 1, 1) := by decide +kernel
theorem dX2_readAct_64 : decode cX2_readAct 64 = .ok (.invokevirtual 58, 3) := by decide +kernel
theorem dX2_readAct_67 : decode cX2_readAct 67 = .ok (.aload_n 0, 1) := by decide +kernel
theorem dX2_readAct_68 : decode cX2_readAct 68 = .ok (.iload_n 1, 1) := by decide +kernel
theorem dX2_readAct_69 : decode cX2_readAct 69 = .ok (.iconst 0, 1) := by decide +kernel
theorem dX2_readAct_70 : decode cX2_readAct 70 = .ok (.bipush 44, 2) := by decide +kernel
theorem dX2_readAct_72 : decode cX2_readAct 72 = .ok (.invokevirtual 62, 3) := by decide +kernel
theorem dX2_readAct_75 : decode cX2_readAct 75 = .ok (.ifCond .eq 18, 3) := by decide +kernel
theorem dX2_readAct_78 : decode cX2_readAct 78 = .ok (.aload_n 0, 1) := by decide +kernel
theorem dX2_readAct_79 : decode cX2_readAct 79 = .ok (.iload_n 1, 1) := by decide +kernel
theorem dX2_readAct_80 : decode cX2_readAct 80 = .ok (.iconst 1, 1) := by decide +kernel
theorem dX2_readAct_81 : decode cX2_readAct 81 = .ok (.bipush 59, 2) := by decide +kernel
theorem dX2_readAct_83 : decode cX2_readAct 83 = .ok (.invokevirtual 62, 3) := by decide +kernel
theorem dX2_readAct_86 : decode cX2_readAct 86 = .ok (.ifCond .eq 7, 3) := by decide +kernel
theorem dX2_readAct_89 : decode cX2_readAct 89 = .ok (.iconst 1, 1) := by decide +kernel
theorem dX2_readAct_90 : decode cX2_readAct 90 = .ok (.goto 4, 3) := by decide +kernel
theorem dX2_readAct_93 : decode cX2_readAct 93 = .ok (.iconst 0, 1) := by decide +kernel
theorem dX2_readAct_94 : decode cX2_readAct 94 = .ok (.ireturn, 1) := by decide +kernel
theorem dX2_readAct_95 : decode cX2_readAct 95 = .ok (.aload_n 0, 1) := by decide +kernel
theorem dX2_readAct_96 : decode cX2_readAct 96 = .ok (.dup, 1) := by decide +kernel
theorem dX2_readAct_97 : decode cX2_readAct 97 = .ok (.getfield 36, 3) := by decide +kernel
theorem dX2_readAct_100 : decode cX2_readAct 100 = .ok (.iconst 1, 1) := by decide +kernel
theorem dX2_readAct_101 : decode cX2_readAct 101 = .ok (.iadd, 1) := by decide +kernel
theorem dX2_readAct_102 : decode cX2_readAct 102 = .ok (.putfield 36, 3) := by decide +kernel
theorem dX2_readAct_105 : decode cX2_readAct 105 = .ok (.aload_n 0, 1) := by decide +kernel
theorem dX2_readAct_106 : decode cX2_readAct 106 = .ok (.iload_n 1, 1) := by decide +kernel
theorem dX2_readAct_107 : decode cX2_readAct 107 = .ok (.invokevirtual 58, 3) := by decide +kernel
theorem dX2_readAct_110 : decode cX2_readAct 110 = .ok (.aload_n 0, 1) := by decide +kernel
theorem dX2_readAct_111 : decode cX2_readAct 111 = .ok (.iload_n 1, 1) := by decide +kernel
theorem dX2_readAct_112 : decode cX2_readAct 112 = .ok (.iconst 0, 1) := by decide +kernel
theorem dX2_readAct_113 : decode cX2_readAct 113 = .ok (.bipush 44, 2) := by decide +kernel
theorem dX2_readAct_115 : decode cX2_readAct 115 = .ok (.invokevirtual 62, 3) := by decide +kernel
theorem dX2_readAct_118 : decode cX2_readAct 118 = .ok (.ifCond .eq 29, 3) := by decide +kernel
theorem dX2_readAct_121 : decode cX2_readAct 121 = .ok (.aload_n 0, 1) := by decide +kernel
theorem dX2_readAct_122 : decode cX2_readAct 122 = .ok (.iload_n 1, 1) := by decide +kernel
theorem dX2_readAct_123 : decode cX2_readAct 123 = .ok (.iconst 1, 1) := by decide +kernel
theorem dX2_readAct_124 : decode cX2_readAct 124 = .ok (.bipush 61, 2) := by decide +kernel
theorem dX2_readAct_126 : decode cX2_readAct 126 = .ok (.invokevirtual 62, 3) := by decide +kernel
theorem dX2_readAct_129 : decode cX2_readAct 129 = .ok (.ifCond .eq 18, 3) := by decide +kernel
theorem dX2_readAct_132 : decode cX2_readAct 132 = .ok (.aload_n 0, 1) := by decide +kernel
theorem dX2_readAct_133 : decode cX2_readAct 133 = .ok (.iload_n 1, 1) := by decide +kernel
theorem dX2_readAct_134 : decode cX2_readAct 134 = .ok (.iconst 2, 1) := by decide +kernel
theorem dX2_readAct_135 : decode cX2_readAct 135 = .ok (.bipush 59, 2) := by decide +kernel
theorem dX2_readAct_137 : decode cX2_readAct 137 = .ok (.invokevirtual 62, 3) := by decide +kernel
theorem dX2_readAct_140 : decode cX2_readAct 140 = .ok (.ifCond .eq 7, 3) := by decide +kernel
theorem dX2_readAct_143 : decode cX2_readAct 143 = .ok (.iconst 1, 1) := by decide +kernel
theorem dX2_readAct_144 : decode cX2_readAct 144 = .ok (.goto 4, 3) := by decide +kernel
theorem dX2_readAct_147 : decode cX2_readAct 147 = .ok (.iconst 0, 1) := by decide +kernel
theorem dX2_readAct_148 : decode cX2_readAct 148 = .ok (.ireturn, 1) := by decide +kernel
theorem dX2_readAct_149 : decode cX2_readAct 149 = .ok (.aload_n 0, 1) := by decide +kernel
theorem dX2_readAct_150 : decode cX2_readAct 150 = .ok (.dup, 1) := by decide +kernel
theorem dX2_readAct_151 : decode cX2_readAct 151 = .ok (.getfield 36, 3) := by decide +kernel
theorem dX2_readAct_154 : decode cX2_readAct 154 = .ok (.iconst 1, 1) := by decide +kernel
theorem dX2_readAct_155 : decode cX2_readAct 155 = .ok (.iadd, 1) := by decide +kernel
theorem dX2_readAct_156 : decode cX2_readAct 156 = .ok (.putfield 36, 3) := by decide +kernel
theorem dX2_readAct_159 : decode cX2_readAct 159 = .ok (.aload_n 0, 1) := by decide +kernel
theorem dX2_readAct_160 : decode cX2_readAct 160 = .ok (.iload_n 1, 1) := by decide +kernel
theorem dX2_readAct_161 : decode cX2_readAct 161 = .ok (.invokevirtual 58, 3) := by decide +kernel
theorem dX2_readAct_164 : decode cX2_readAct 164 = .ok (.aload_n 0, 1) := by decide +kernel
theorem dX2_readAct_165 : decode cX2_readAct 165 = .ok (.iload_n 1, 1) := by decide +kernel
theorem dX2_readAct_166 : decode cX2_readAct 166 = .ok (.iconst 0, 1) := by decide +kernel
theorem dX2_readAct_167 : decode cX2_readAct 167 = .ok (.bipush 59, 2) := by decide +kernel
theorem dX2_readAct_169 : decode cX2_readAct 169 = .ok (.invokevirtual 62, 3) := by decide +kernel
theorem dX2_readAct_172 : decode cX2_readAct 172 = .ok (.ireturn, 1) := by decide +kernel
