theorem dX1_takeOrder_107 : decode cX1_takeOrder 107 = .ok (.getfield 15, 3) := by decide +kernel
theorem dX1_takeOrder_110 : decode cX1_takeOrder 110 = .ok (.iload 5, 2) := by decide +kernel
theorem dX1_takeOrder_112 : decode cX1_takeOrder 112 = .ok (.bipush 7, 2) := by decide +kernel
theorem dX1_takeOrder_114 : decode cX1_takeOrder 114 = .ok (.iadd, 1) := by decide +kernel
theorem dX1_takeOrder_115 : decode cX1_takeOrder 115 = .ok (.iload 4, 2) := by decide +kernel
theorem dX1_takeOrder_117 : decode cX1_takeOrder 117 = .ok (.iastore, 1) := by decide +kernel
theorem dX1_takeOrder_118 : decode cX1_takeOrder 118 = .ok (.aload_n 0, 1) := by decide +kernel
theorem dX1_takeOrder_119 : decode cX1_takeOrder 119 = .ok (.dup, 1) := by decide +kernel
theorem dX1_takeOrder_120 : decode cX1_takeOrder 120 = .ok (.getfield 46, 3) := by decide +kernel
theorem dX1_takeOrder_123 : decode cX1_takeOrder 123 = .ok (.iconst 1, 1) := by decide +kernel
theorem dX1_takeOrder_124 : decode cX1_takeOrder 124 = .ok (.iadd, 1) := by decide +kernel
theorem dX1_takeOrder_125 : decode cX1_takeOrder 125 = .ok (.putfield 46, 3) := by decide +kernel
theorem dX1_takeOrder_128 : decode cX1_takeOrder 128 = .ok (.aload_n 0, 1) := by decide +kernel
theorem dX1_takeOrder_129 : decode cX1_takeOrder 129 = .ok (.getfield 21, 3) := by decide +kernel
theorem dX1_takeOrder_132 : decode cX1_takeOrder 132 = .ok (.iload_n 2, 1) := by decide +kernel
theorem dX1_takeOrder_133 : decode cX1_takeOrder 133 = .ok (.iload_n 3, 1) := by decide +kernel
theorem dX1_takeOrder_134 : decode cX1_takeOrder 134 = .ok (.invokestatic 68, 3) := by decide +kernel
theorem dX1_takeOrder_137 : decode cX1_takeOrder 137 = .ok (.dup2, 1) := by decide +kernel
theorem dX1_takeOrder_138 : decode cX1_takeOrder 138 = .ok (.iaload, 1) := by decide +kernel
theorem dX1_takeOrder_139 : decode cX1_takeOrder 139 = .ok (.iconst 1, 1) := by decide +kernel
theorem dX1_takeOrder_140 : decode cX1_takeOrder 140 = .ok (.iadd, 1) := by decide +kernel
theorem dX1_takeOrder_141 : decode cX1_takeOrder 141 = .ok (.iastore, 1) := by decide +kernel
theorem dX1_takeOrder_142 : decode cX1_takeOrder 142 = .ok (.aload_n 0, 1) := by decide +kernel
theorem dX1_takeOrder_143 : decode cX1_takeOrder 143 = .ok (.getfield 24, 3) := by decide +kernel
theorem dX1_takeOrder_146 : decode cX1_takeOrder 146 = .ok (.iload_n 2, 1) := by decide +kernel
theorem dX1_takeOrder_147 : decode cX1_takeOrder 147 = .ok (.dup2, 1) := by decide +kernel
theorem dX1_takeOrder_148 : decode cX1_takeOrder 148 = .ok (.iaload, 1) := by decide +kernel
theorem dX1_takeOrder_149 : decode cX1_takeOrder 149 = .ok (.iconst 1, 1) := by decide +kernel
theorem dX1_takeOrder_150 : decode cX1_takeOrder 150 = .ok (.iadd, 1) := by decide +kernel
theorem dX1_takeOrder_151 : decode cX1_takeOrder 151 = .ok (.iastore, 1) := by decide +kernel
theorem dX1_takeOrder_152 : decode cX1_takeOrder 152 = .ok (.aload_n 0, 1) := by decide +kernel
theorem dX1_takeOrder_153 : decode cX1_takeOrder 153 = .ok (.dup, 1) := by decide +kernel
theorem dX1_takeOrder_154 : decode cX1_takeOrder 154 = .ok (.getfield 43, 3) := by decide +kernel
theorem dX1_takeOrder_157 : decode cX1_takeOrder 157 = .ok (.dup_x1, 1) := by decide +kernel
theorem dX1_takeOrder_158 : decode cX1_takeOrder 158 = .ok (.iconst 1, 1) := by decide +kernel
theorem dX1_takeOrder_159 : decode cX1_takeOrder 159 = .ok (.iadd, 1) := by decide +kernel
theorem dX1_takeOrder_160 : decode cX1_takeOrder 160 = .ok (.putfield 43, 3) := by decide +kernel
theorem dX1_takeOrder_163 : decode cX1_takeOrder 163 = .ok (.ireturn, 1) := by decide +kernel
theorem dX1_finish_0 : decode cX1_finish 0 = .ok (.iload_n 1, 1) := by decide +kernel
theorem dX1_finish_1 : decode cX1_finish 1 = .ok (.bipush 8, 2) := by decide +kernel
theorem dX1_finish_3 : decode cX1_finish 3 = .ok (.imul, 1) := by decide +kernel
theorem dX1_finish_4 : decode cX1_finish 4 = .ok (.istore 4, 2) := by decide +kernel
theorem dX1_finish_6 : decode cX1_finish 6 = .ok (.aload_n 0, 1) := by decide +kernel
theorem dX1_finish_7 : decode cX1_finish 7 = .ok (.getfield 15, 3) := by decide +kernel
theorem dX1_finish_10 : decode cX1_finish 10 = .ok (.iload 4, 2) := by decide +kernel
theorem dX1_finish_12 : decode cX1_finish 12 = .ok (.iconst 3, 1) := by decide +kernel
theorem dX1_finish_13 : decode cX1_finish 13 = .ok (.iadd, 1) := by decide +kernel
theorem dX1_finish_14 : decode cX1_finish 14 = .ok (.iconst 1, 1) := by decide +kernel
theorem dX1_finish_15 : decode cX1_finish 15 = .ok (.iastore, 1) := by decide +kernel
theorem dX1_finish_16 : decode cX1_finish 16 = .ok (.aload_n 0, 1) := by decide +kernel
theorem dX1_finish_17 : decode cX1_finish 17 = .ok (.getfield 15, 3) := by decide +kernel
theorem dX1_finish_20 : decode cX1_finish 20 = .ok (.iload 4, 2) := by decide +kernel
theorem dX1_finish_22 : decode cX1_finish 22 = .ok (.iconst 5, 1) := by decide +kernel
theorem dX1_finish_23 : decode cX1_finish 23 = .ok (.iadd, 1) := by decide +kernel
theorem dX1_finish_24 : decode cX1_finish 24 = .ok (.aload_n 0, 1) := by decide +kernel
theorem dX1_finish_25 : decode cX1_finish 25 = .ok (.getfield 36, 3) := by decide +kernel
theorem dX1_finish_28 : decode cX1_finish 28 = .ok (.iastore, 1) := by decide +kernel
theorem dX1_finish_29 : decode cX1_finish 29 = .ok (.aload_n 0, 1) := by decide +kernel
theorem dX1_finish_30 : decode cX1_finish 30 = .ok (.getfield 15, 3) := by decide +kernel
theorem dX1_finish_33 : decode cX1_finish 33 = .ok (.iload 4, 2) := by decide +kernel
theorem dX1_finish_35 : decode cX1_finish 35 = .ok (.bipush 6, 2) := by decide +kernel
theorem dX1_finish_37 : decode cX1_finish 37 = .ok (.iadd, 1) := by decide +kernel
theorem dX1_finish_38 : decode cX1_finish 38 = .ok (.iload_n 2, 1) := by decide +kernel
theorem dX1_finish_39 : decode cX1_finish 39 = .ok (.iastore, 1) := by decide +kernel
theorem dX1_finish_40 : decode cX1_finish 40 = .ok (.aload_n 0, 1) := by decide +kernel
theorem dX1_finish_41 : decode cX1_finish 41 = .ok (.getfield 15, 3) := by decide +kernel
theorem dX1_finish_44 : decode cX1_finish 44 = .ok (.iload 4, 2) := by decide +kernel
theorem dX1_finish_46 : decode cX1_finish 46 = .ok (.bipush 7, 2) := by decide +kernel
theorem dX1_finish_48 : decode cX1_finish 48 = .ok (.iadd, 1) := by decide +kernel
theorem dX1_finish_49 : decode cX1_finish 49 = .ok (.iload_n 3, 1) := by decide +kernel
theorem dX1_finish_50 : decode cX1_finish 50 = .ok (.iastore, 1) := by decide +kernel
theorem dX1_finish_51 : decode cX1_finish 51 = .ok (.aload_n 0, 1) := by decide +kernel
theorem dX1_finish_52 : decode cX1_finish 52 = .ok (.dup, 1) := by decide +kernel
theorem dX1_finish_53 : decode cX1_finish 53 = .ok (.getfield 46, 3) := by decide +kernel
theorem dX1_finish_56 : decode cX1_finish 56 = .ok (.iconst 1, 1) := by decide +kernel
theorem dX1_finish_57 : decode cX1_finish 57 = .ok (.isub, 1) := by decide +kernel
theorem dX1_finish_58 : decode cX1_finish 58 = .ok (.putfield 46, 3) := by decide +kernel
theorem dX1_finish_61 : decode cX1_finish 61 = .ok (.aload_n 0, 1) := by decide +kernel
theorem dX1_finish_62 : decode cX1_finish 62 = .ok (.getfield 21, 3) := by decide +kernel
theorem dX1_finish_65 : decode cX1_finish 65 = .ok (.aload_n 0, 1) := by decide +kernel
theorem dX1_finish_66 : decode cX1_finish 66 = .ok (.getfield 15, 3) := by decide +kernel
theorem dX1_finish_69 : decode cX1_finish 69 = .ok (.iload 4, 2) := by decide +kernel
theorem dX1_finish_71 : decode cX1_finish 71 = .ok (.iconst 1, 1) := by decide +kernel
theorem dX1_finish_72 : decode cX1_finish 72 = .ok (.iadd, 1) := by decide +kernel
theorem dX1_finish_73 : decode cX1_finish 73 = .ok (.iaload, 1) := by decide +kernel
theorem dX1_finish_74 : decode cX1_finish 74 = .ok (.bipush 12, 2) := by decide +kernel
theorem dX1_finish_76 : decode cX1_finish 76 = .ok (.imul, 1) := by decide +kernel
theorem dX1_finish_77 : decode cX1_finish 77 = .ok (.aload_n 0, 1) := by decide +kernel
theorem dX1_finish_78 : decode cX1_finish 78 = .ok (.getfield 15, 3) := by decide +kernel
theorem dX1_finish_81 : decode cX1_finish 81 = .ok (.iload 4, 2) := by decide +kernel
theorem dX1_finish_83 : decode cX1_finish 83 = .ok (.iconst 2, 1) := by decide +kernel
theorem dX1_finish_84 : decode cX1_finish 84 = .ok (.iadd, 1) := by decide +kernel
theorem dX1_finish_85 : decode cX1_finish 85 = .ok (.iaload, 1) := by decide +kernel
theorem dX1_finish_86 : decode cX1_finish 86 = .ok (.iadd, 1) := by decide +kernel
theorem dX1_finish_87 : decode cX1_finish 87 = .ok (.dup2, 1) := by decide +kernel
theorem dX1_finish_88 : decode cX1_finish 88 = .ok (.iaload, 1) := by decide +kernel
theorem dX1_finish_89 : decode cX1_finish 89 = .ok (.iconst 1, 1) := by decide +kernel
theorem dX1_finish_90 : decode cX1_finish 90 = .ok (.isub, 1) := by decide +kernel
theorem dX1_finish_91 : decode cX1_finish 91 = .ok (.iastore, 1) := by decide +kernel
theorem dX1_finish_92 : decode cX1_finish 92 = .ok (.aload_n 0, 1) := by decide +kernel
theorem dX1_finish_93 : decode cX1_finish 93 = .ok (.getfield 24, 3) := by decide +kernel
theorem dX1_finish_96 : decode cX1_finish 96 = .ok (.aload_n 0, 1) := by decide +kernel
theorem dX1_finish_97 : decode cX1_finish 97 = .ok (.getfield 15, 3) := by decide +kernel
theorem dX1_finish_100 : decode cX1_finish 100 = .ok (.iload 4, 2) := by decide +kernel
theorem dX1_finish_102 : decode cX1_finish 102 = .ok (.iconst 1, 1) := by decide +kernel
theorem dX1_finish_103 : decode cX1_finish 103 = .ok (.iadd, 1) := by decide +kernel
theorem dX1_finish_104 : decode cX1_finish 104 = .ok (.iaload, 1) := by decide +kernel
theorem dX1_finish_105 : decode cX1_finish 105 = .ok (.dup2, 1) := by decide +kernel
theorem dX1_finish_106 : decode cX1_finish 106 = .ok (.iaload, 1) := by decide +kernel
theorem dX1_finish_107 : decode cX1_finish 107 = .ok (.iconst 1, 1) := by decide +kernel
theorem dX1_finish_108 : decode cX1_finish 108 = .ok (.isub, 1) := by decide +kernel
theorem dX1_finish_109 : decode cX1_finish 109 = .ok (.iastore, 1) := by decide +kernel
theorem dX1_finish_110 : decode cX1_finish 110 = .ok (.return_, 1) := by decide +kernel
theorem dX1_firstWaiting_0 : decode cX1_firstWaiting 0 = .ok (.iconst 0, 1) := by decide +kernel
theorem dX1_firstWaiting_1 : decode cX1_firstWaiting 1 = .ok (.istore 4, 2) := by decide +kernel
theorem dX1_firstWaiting_3 : decode cX1_firstWaiting 3 = .ok (.iload 4, 2) := by decide +kernel
theorem dX1_firstWaiting_5 : decode cX1_firstWaiting 5 = .ok (.aload_n 0, 1) := by decide +kernel
theorem dX1_firstWaiting_6 : decode cX1_firstWaiting 6 = .ok (.getfield 43, 3) := by decide +kernel
theorem dX1_firstWaiting_9 : decode cX1_firstWaiting 9 = .ok (.if_icmp .ge 70, 3) := by decide +kernel
theorem dX1_firstWaiting_12 : decode cX1_firstWaiting 12 = .ok (.iload 4, 2) := by decide +kernel
theorem dX1_firstWaiting_14 : decode cX1_firstWaiting 14 = .ok (.bipush 8, 2) := by decide +kernel
theorem dX1_firstWaiting_16 : decode cX1_firstWaiting 16 = .ok (.imul, 1) := by decide +kernel
theorem dX1_firstWaiting_17 : decode cX1_firstWaiting 17 = .ok (.istore 5, 2) := by decide +kernel
theorem dX1_firstWaiting_19 : decode cX1_firstWaiting 19 = .ok (.aload_n 0, 1) := by decide +kernel
theorem dX1_firstWaiting_20 : decode cX1_firstWaiting 20 = .ok (.getfield 15, 3) := by decide +kernel
theorem dX1_firstWaiting_23 : decode cX1_firstWaiting 23 = .ok (.iload 5, 2) := by decide +kernel
theorem dX1_firstWaiting_25 : decode cX1_firstWaiting 25 = .ok (.iconst 3, 1) := by decide +kernel
theorem dX1_firstWaiting_26 : decode cX1_firstWaiting 26 = .ok (.iadd, 1) := by decide +kernel
theorem dX1_firstWaiting_27 : decode cX1_firstWaiting 27 = .ok (.iaload, 1) := by decide +kernel
theorem dX1_firstWaiting_28 : decode cX1_firstWaiting 28 = .ok (.ifCond .ne 45, 3) := by decide +kernel
theorem dX1_firstWaiting_31 : decode cX1_firstWaiting 31 = .ok (.aload_n 0, 1) := by decide +kernel
theorem dX1_firstWaiting_32 : decode cX1_firstWaiting 32 = .ok (.getfield 15, 3) := by decide +kernel
theorem dX1_firstWaiting_35 : decode cX1_firstWaiting 35 = .ok (.iload 5, 2) := by decide +kernel
theorem dX1_firstWaiting_37 : decode cX1_firstWaiting 37 = .ok (.iconst 0, 1) := by decide +kernel
theorem dX1_firstWaiting_38 : decode cX1_firstWaiting 38 = .ok (.iadd, 1) := by decide +kernel
theorem dX1_firstWaiting_39 : decode cX1_firstWaiting 39 = .ok (.iaload, 1) := by decide +kernel
theorem dX1_firstWaiting_40 : decode cX1_firstWaiting 40 = .ok (.iload_n 1, 1) := by decide +kernel
theorem dX1_firstWaiting_41 : decode cX1_firstWaiting 41 = .ok (.if_icmp .ne 32, 3) := by decide +kernel
theorem dX1_firstWaiting_44 : decode cX1_firstWaiting 44 = .ok (.aload_n 0, 1) := by decide +kernel
theorem dX1_firstWaiting_45 : decode cX1_firstWaiting 45 = .ok (.getfield 15, 3) := by decide +kernel
theorem dX1_firstWaiting_48 : decode cX1_firstWaiting 48 = .ok (.iload 5, 2) := by decide +kernel
theorem dX1_firstWaiting_50 : decode cX1_firstWaiting 50 = .ok (.iconst 1, 1) := by decide +kernel
theorem dX1_firstWaiting_51 : decode cX1_firstWaiting 51 = .ok (.iadd, 1) := by decide +kernel
theorem dX1_firstWaiting_52 : decode cX1_firstWaiting 52 = .ok (.iaload, 1) := by decide +kernel
theorem dX1_firstWaiting_53 : decode cX1_firstWaiting 53 = .ok (.iload_n 2, 1) := by decide +kernel
theorem dX1_firstWaiting_54 : decode cX1_firstWaiting 54 = .ok (.if_icmp .ne 19, 3) := by decide +kernel
theorem dX1_firstWaiting_57 : decode cX1_firstWaiting 57 = .ok (.aload_n 0, 1) := by decide +kernel
theorem dX1_firstWaiting_58 : decode cX1_firstWaiting 58 = .ok (.getfield 15, 3) := by decide +kernel
theorem dX1_firstWaiting_61 : decode cX1_firstWaiting 61 = .ok (.iload 5, 2) := by decide +kernel
theorem dX1_firstWaiting_63 : decode cX1_firstWaiting 63 = .ok (.iconst 2, 1) := by decide +kernel
theorem dX1_firstWaiting_64 : decode cX1_firstWaiting 64 = .ok (.iadd, 1) := by decide +kernel
theorem dX1_firstWaiting_65 : decode cX1_firstWaiting 65 = .ok (.iaload, 1) := by decide +kernel
theorem dX1_firstWaiting_66 : decode cX1_firstWaiting 66 = .ok (.iload_n 3, 1) := by decide +kernel
theorem dX1_firstWaiting_67 : decode cX1_firstWaiting 67 = .ok (.if_icmp .ne 6, 3) := by decide +kernel
theorem dX1_firstWaiting_70 : decode cX1_firstWaiting 70 = .ok (.iload 4, 2) := by decide +kernel
theorem dX1_firstWaiting_72 : decode cX1_firstWaiting 72 = .ok (.ireturn, 1) := by decide +kernel
theorem dX1_firstWaiting_73 : decode cX1_firstWaiting 73 = .ok (.iinc 4 1, 3) := by decide +kernel
theorem dX1_firstWaiting_76 : decode cX1_firstWaiting 76 = .ok (.goto (-73), 3) := by decide +kernel
theorem dX1_firstWaiting_79 : decode cX1_firstWaiting 79 = .ok (.bipush (-9), 2) := by decide +kernel
theorem dX1_firstWaiting_81 : decode cX1_firstWaiting 81 = .ok (.ireturn, 1) := by decide +kernel
set_option maxRecDepth 20000 in
theorem ggX1_letPass_X1_doTick : GoodIn wsX1_letPass wsX1_doTick := goodIn_r _ [7, 8, 9, 1, 10, 11, 12, 6, 13, 14, 15, 16, 17, 18, 19, 20, 21, 22, 23, 24, 25, 26, 27, 28, 29, 30, 31, 32, 33, 34, 35, 36, 37, 38, 39, 40, 41, 42, 43, 44, 45, 46, 47, 48, 49, 50, 51, 52, 53, 54, 55, 56, 57, 58, 59, 60, 61, 62, 63, 64, 65, 66, 67, 68, 2, 69, 70, 71, 72, 73, 74, 75, 76, 77, 78, 79, 80, 81, 82, 83, 84] (by decide +kernel) (by decide +kernel)
set_option maxRecDepth 20000 in
theorem gX1_letPass_X1_doTick : GoodIn wsX1_letPass (wsV RX1 88 RX1 yX1_doTick wsX1_doTick) := goodIn_app (goodIn_of _ (by decide +kernel)) ggX1_letPass_X1_doTick
theorem dX1_letPass_0 : decode cX1_letPass 0 = .ok (.iload_n 1, 1) := by decide +kernel
theorem dX1_letPass_1 : decode cX1_letPass 1 = .ok (.iconst 1, 1) := by decide +kernel
theorem dX1_letPass_2 : decode cX1_letPass 2 = .ok (.if_icmp .lt 10, 3) := by decide +kernel
theorem dX1_letPass_5 : decode cX1_letPass 5 = .ok (.iload_n 1, 1) := by decide +kernel
theorem dX1_letPass_6 : decode cX1_letPass 6 = .ok (.sipush 200, 3) := by decide +kernel
theorem dX1_letPass_9 : decode cX1_letPass 9 = .ok (.if_icmp .le 5, 3) := by decide +kernel
theorem dX1_letPass_12 : decode cX1_letPass 12 = .ok (.iconst (-1), 1) := by decide +kernel
theorem dX1_letPass_13 : decode cX1_letPass 13 = .ok (.ireturn, 1) := by decide +kernel
theorem dX1_letPass_14 : decode cX1_letPass 14 = .ok (.aload_n 0, 1) := by decide +kernel
theorem dX1_letPass_15 : decode cX1_letPass 15 = .ok (.getfield 36, 3) := by decide +kernel
theorem dX1_letPass_18 : decode cX1_letPass 18 = .ok (.iload_n 1, 1) := by decide +kernel
theorem dX1_letPass_19 : decode cX1_letPass 19 = .ok (.iadd, 1) := by decide +kernel
theorem dX1_letPass_20 : decode cX1_letPass 20 = .ok (.sipush 20000, 3) := by decide +kernel
theorem dX1_letPass_23 : decode cX1_letPass 23 = .ok (.if_icmp .le 6, 3) := by decide +kernel
theorem dX1_letPass_26 : decode cX1_letPass 26 = .ok (.bipush (-2), 2) := by decide +kernel
theorem dX1_letPass_28 : decode cX1_letPass 28 = .ok (.ireturn, 1) := by decide +kernel
theorem dX1_letPass_29 : decode cX1_letPass 29 = .ok (.aload_n 0, 1) := by decide +kernel
theorem dX1_letPass_30 : decode cX1_letPass 30 = .ok (.getfield 46, 3) := by decide +kernel
theorem dX1_letPass_33 : decode cX1_letPass 33 = .ok (.istore_n 2, 1) := by decide +kernel
theorem dX1_letPass_34 : decode cX1_letPass 34 = .ok (.iconst 0, 1) := by decide +kernel
theorem dX1_letPass_35 : decode cX1_letPass 35 = .ok (.istore_n 3, 1) := by decide +kernel
theorem dX1_letPass_36 : decode cX1_letPass 36 = .ok (.iload_n 3, 1) := by decide +kernel
theorem dX1_letPass_37 : decode cX1_letPass 37 = .ok (.iload_n 1, 1) := by decide +kernel
theorem dX1_letPass_38 : decode cX1_letPass 38 = .ok (.if_icmp .ge 13, 3) := by decide +kernel
theorem dX1_letPass_41 : decode cX1_letPass 41 = .ok (.aload_n 0, 1) := by decide +kernel
theorem dX1_letPass_42 : decode cX1_letPass 42 = .ok (.invokevirtual 88, 3) := by decide +kernel
theorem dX1_letPass_45 : decode cX1_letPass 45 = .ok (.iinc 3 1, 3) := by decide +kernel
theorem dX1_letPass_48 : decode cX1_letPass 48 = .ok (.goto (-12), 3) := by decide +kernel
theorem dX1_letPass_51 : decode cX1_letPass 51 = .ok (.iload_n 2, 1) := by decide +kernel
theorem dX1_letPass_52 : decode cX1_letPass 52 = .ok (.aload_n 0, 1) := by decide +kernel
theorem dX1_letPass_53 : decode cX1_letPass 53 = .ok (.getfield 46, 3) := by decide +kernel
theorem dX1_letPass_56 : decode cX1_letPass 56 = .ok (.isub, 1) := by decide +kernel
theorem dX1_letPass_57 : decode cX1_letPass 57 = .ok (.ireturn, 1) := by decide +kernel
set_option maxRecDepth 20000 in
theorem ggX1_doTick_X1_forgetWritten : GoodIn wsX1_doTick wsX1_forgetWritten := goodIn_r _ [8, 9, 70, 71, 72, 73, 74, 75, 76, 77, 78, 79, 80] (by decide +kernel) (by decide +kernel)
set_option maxRecDepth 20000 in
theorem gX1_doTick_X1_forgetWritten : GoodIn wsX1_doTick (wsV RX1 27 RX1 yX1_forgetWritten wsX1_forgetWritten) := goodIn_app (goodIn_of _ (by decide +kernel)) ggX1_doTick_X1_forgetWritten
set_option maxRecDepth 20000 in
theorem ggX1_doTick_X1_useHead : GoodIn wsX1_doTick wsX1_useHead := goodIn_r _ [13, 2, 14, 9, 15, 16, 17, 18, 7, 19, 3, 20, 21, 22, 23, 24, 25, 26, 27, 28, 29, 30, 31, 32, 33, 34, 35, 36, 37, 38, 39, 40, 41, 1, 42, 43, 44, 45, 46, 47, 48, 49, 50, 51, 52, 53, 54, 55, 56, 57, 58, 59, 60, 61, 62, 63, 64, 70, 71, 72, 73, 74, 75, 76, 77, 78, 79, 80] (by decide +kernel) (by decide +kernel)
set_option maxRecDepth 20000 in
theorem gX1_doTick_X1_useHead : GoodIn wsX1_doTick (wsV RX1 91 RX1 yX1_useHead wsX1_useHead) := goodIn_app (goodIn_of _ (by decide +kernel)) ggX1_doTick_X1_useHead
set_option maxRecDepth 20000 in
theorem ggX1_doTick_X1_moveArm : GoodIn wsX1_doTick wsX1_moveArm := goodIn_r _ [68, 2, 1, 69, 70, 71, 72, 73, 74, 75, 76, 77, 78, 79, 80] (by decide +kernel) (by decide +kernel)
set_option maxRecDepth 20000 in
theorem gX1_doTick_X1_moveArm : GoodIn wsX1_doTick (wsV RX1 95 RX1 yX1_moveArm wsX1_moveArm) := goodIn_app (goodIn_of _ (by decide +kernel)) ggX1_doTick_X1_moveArm
theorem dX1_doTick_0 : decode cX1_doTick 0 = .ok (.aload_n 0, 1) := by decide +kernel
theorem dX1_doTick_1 : decode cX1_doTick 1 = .ok (.invokevirtual 27, 3) := by decide +kernel
theorem dX1_doTick_4 : decode cX1_doTick 4 = .ok (.aload_n 0, 1) := by decide +kernel
theorem dX1_doTick_5 : decode cX1_doTick 5 = .ok (.getfield 24, 3) := by decide +kernel
theorem dX1_doTick_8 : decode cX1_doTick 8 = .ok (.aload_n 0, 1) := by decide +kernel
theorem dX1_doTick_9 : decode cX1_doTick 9 = .ok (.getfield 40, 3) := by decide +kernel
theorem dX1_doTick_12 : decode cX1_doTick 12 = .ok (.iaload, 1) := by decide +kernel
theorem dX1_doTick_13 : decode cX1_doTick 13 = .ok (.ifCond .le 16, 3) := by decide +kernel
theorem dX1_doTick_16 : decode cX1_doTick 16 = .ok (.aload_n 0, 1) := by decide +kernel
theorem dX1_doTick_17 : decode cX1_doTick 17 = .ok (.iconst 0, 1) := by decide +kernel
theorem dX1_doTick_18 : decode cX1_doTick 18 = .ok (.invokevirtual 91, 3) := by decide +kernel
theorem dX1_doTick_21 : decode cX1_doTick 21 = .ok (.aload_n 0, 1) := by decide +kernel
theorem dX1_doTick_22 : decode cX1_doTick 22 = .ok (.iconst 1, 1) := by decide +kernel
theorem dX1_doTick_23 : decode cX1_doTick 23 = .ok (.invokevirtual 91, 3) := by decide +kernel
theorem dX1_doTick_26 : decode cX1_doTick 26 = .ok (.goto 7, 3) := by decide +kernel
theorem dX1_doTick_29 : decode cX1_doTick 29 = .ok (.aload_n 0, 1) := by decide +kernel
theorem dX1_doTick_30 : decode cX1_doTick 30 = .ok (.invokevirtual 95, 3) := by decide +kernel
theorem dX1_doTick_33 : decode cX1_doTick 33 = .ok (.aload_n 0, 1) := by decide +kernel
theorem dX1_doTick_34 : decode cX1_doTick 34 = .ok (.dup, 1) := by decide +kernel
theorem dX1_doTick_35 : decode cX1_doTick 35 = .ok (.getfield 36, 3) := by decide +kernel
theorem dX1_doTick_38 : decode cX1_doTick 38 = .ok (.iconst 1, 1) := by decide +kernel
theorem dX1_doTick_39 : decode cX1_doTick 39 = .ok (.iadd, 1) := by decide +kernel
theorem dX1_doTick_40 : decode cX1_doTick 40 = .ok (.putfield 36, 3) := by decide +kernel
theorem dX1_doTick_43 : decode cX1_doTick 43 = .ok (.return_, 1) := by decide +kernel
theorem dX1_moveArm_0 : decode cX1_moveArm 0 = .ok (.iconst 1, 1) := by decide +kernel
theorem dX1_moveArm_1 : decode cX1_moveArm 1 = .ok (.istore_n 1, 1) := by decide +kernel
theorem dX1_moveArm_2 : decode cX1_moveArm 2 = .ok (.iload_n 1, 1) := by decide +kernel
theorem dX1_moveArm_3 : decode cX1_moveArm 3 = .ok (.iconst 4, 1) := by decide +kernel
theorem dX1_moveArm_4 : decode cX1_moveArm 4 = .ok (.if_icmp .ge 98, 3) := by decide +kernel
theorem dX1_moveArm_7 : decode cX1_moveArm 7 = .ok (.aload_n 0, 1) := by decide +kernel
theorem dX1_moveArm_8 : decode cX1_moveArm 8 = .ok (.getfield 40, 3) := by decide +kernel
theorem dX1_moveArm_11 : decode cX1_moveArm 11 = .ok (.iload_n 1, 1) := by decide +kernel
theorem dX1_moveArm_12 : decode cX1_moveArm 12 = .ok (.isub, 1) := by decide +kernel
theorem dX1_moveArm_13 : decode cX1_moveArm 13 = .ok (.ifCond .lt 38, 3) := by decide +kernel
theorem dX1_moveArm_16 : decode cX1_moveArm 16 = .ok (.aload_n 0, 1) := by decide +kernel
theorem dX1_moveArm_17 : decode cX1_moveArm 17 = .ok (.getfield 24, 3) := by decide +kernel
theorem dX1_moveArm_20 : decode cX1_moveArm 20 = .ok (.aload_n 0, 1) := by decide +kernel
theorem dX1_moveArm_21 : decode cX1_moveArm 21 = .ok (.getfield 40, 3) := by decide +kernel
theorem dX1_moveArm_24 : decode cX1_moveArm 24 = .ok (.iload_n 1, 1) := by decide +kernel
theorem dX1_moveArm_25 : decode cX1_moveArm 25 = .ok (.isub, 1) := by decide +kernel
theorem dX1_moveArm_26 : decode cX1_moveArm 26 = .ok (.iaload, 1) := by decide +kernel
theorem dX1_moveArm_27 : decode cX1_moveArm 27 = .ok (.ifCond .le 24, 3) := by decide +kernel
theorem dX1_moveArm_30 : decode cX1_moveArm 30 = .ok (.aload_n 0, 1) := by decide +kernel
theorem dX1_moveArm_31 : decode cX1_moveArm 31 = .ok (.dup, 1) := by decide +kernel
theorem dX1_moveArm_32 : decode cX1_moveArm 32 = .ok (.getfield 40, 3) := by decide +kernel
theorem dX1_moveArm_35 : decode cX1_moveArm 35 = .ok (.iconst 1, 1) := by decide +kernel
theorem dX1_moveArm_36 : decode cX1_moveArm 36 = .ok (.isub, 1) := by decide +kernel
theorem dX1_moveArm_37 : decode cX1_moveArm 37 = .ok (.putfield 40, 3) := by decide +kernel
theorem dX1_moveArm_40 : decode cX1_moveArm 40 = .ok (.aload_n 0, 1) := by decide +kernel
theorem dX1_moveArm_41 : decode cX1_moveArm 41 = .ok (.dup, 1) := by decide +kernel
theorem dX1_moveArm_42 : decode cX1_moveArm 42 = .ok (.getfield 52, 3) := by decide +kernel
theorem dX1_moveArm_45 : decode cX1_moveArm 45 = .ok (.iconst 1, 1) := by decide +kernel
theorem dX1_moveArm_46 : decode cX1_moveArm 46 = .ok (.iadd, 1) := by decide +kernel
theorem dX1_moveArm_47 : decode cX1_moveArm 47 = .ok (.putfield 52, 3) := by decide +kernel
theorem dX1_moveArm_50 : decode cX1_moveArm 50 = .ok (.return_, 1) := by decide +kernel
theorem dX1_moveArm_51 : decode cX1_moveArm 51 = .ok (.aload_n 0, 1) := by decide +kernel
theorem dX1_moveArm_52 : decode cX1_moveArm 52 = .ok (.getfield 40, 3) := by decide +kernel
theorem dX1_moveArm_55 : decode cX1_moveArm 55 = .ok (.iload_n 1, 1) := by decide +kernel
theorem dX1_moveArm_56 : decode cX1_moveArm 56 = .ok (.iadd, 1) := by decide +kernel
theorem dX1_moveArm_57 : decode cX1_moveArm 57 = .ok (.iconst 4, 1) := by decide +kernel
theorem dX1_moveArm_58 : decode cX1_moveArm 58 = .ok (.if_icmp .ge 38, 3) := by decide +kernel
theorem dX1_moveArm_61 : decode cX1_moveArm 61 = .ok (.aload_n 0, 1) := by decide +kernel
theorem dX1_moveArm_62 : decode cX1_moveArm 62 = .ok (.getfield 24, 3) := by decide +kernel
theorem dX1_moveArm_65 : decode cX1_moveArm 65 = .ok (.aload_n 0, 1) := by decide +kernel
theorem dX1_moveArm_66 : decode cX1_moveArm 66 = .ok (.getfield 40, 3) := by decide +kernel
theorem dX1_moveArm_69 : decode cX1_moveArm 69 = .ok (.iload_n 1, 1) := by decide +kernel
theorem dX1_moveArm_70 : decode cX1_moveArm 70 = .ok (.iadd, 1) := by decide +kernel
theorem dX1_moveArm_71 : decode cX1_moveArm 71 = .ok (.iaload, 1) := by decide +kernel
theorem dX1_moveArm_72 : decode cX1_moveArm 72 = .ok (.ifCond .le 24, 3) := by decide +kernel
theorem dX1_moveArm_75 : decode cX1_moveArm 75 = .ok (.aload_n 0, 1) := by decide +kernel
theorem dX1_moveArm_76 : decode cX1_moveArm 76 = .ok (.dup, 1) := by decide +kernel
theorem dX1_moveArm_77 : decode cX1_moveArm 77 = .ok (.getfield 40, 3) := by decide +kernel
theorem dX1_moveArm_80 : decode cX1_moveArm 80 = .ok (.iconst 1, 1) := by decide +kernel
theorem dX1_moveArm_81 : decode cX1_moveArm 81 = .ok (.iadd, 1) := by decide +kernel
theorem dX1_moveArm_82 : decode cX1_moveArm 82 = .ok (.putfield 40, 3) := by decide +kernel
theorem dX1_moveArm_85 : decode cX1_moveArm 85 = .ok (.aload_n 0, 1) := by decide +kernel
theorem dX1_moveArm_86 : decode cX1_moveArm 86 = .ok (.dup, 1) := by decide +kernel
theorem dX1_moveArm_87 : decode cX1_moveArm 87 = .ok (.getfield 52, 3) := by decide +kernel
theorem dX1_moveArm_90 : decode cX1_moveArm 90 = .ok (.iconst 1, 1) := by decide +kernel
theorem dX1_moveArm_91 : decode cX1_moveArm 91 = .ok (.iadd, 1) := by decide +kernel
theorem dX1_moveArm_92 : decode cX1_moveArm 92 = .ok (.putfield 52, 3) := by decide +kernel
theorem dX1_moveArm_95 : decode cX1_moveArm 95 = .ok (.return_, 1) := by decide +kernel
theorem dX1_moveArm_96 : decode cX1_moveArm 96 = .ok (.iinc 1 1, 3) := by decide +kernel
theorem dX1_moveArm_99 : decode cX1_moveArm 99 = .ok (.goto (-97), 3) := by decide +kernel
theorem dX1_moveArm_102 : decode cX1_moveArm 102 = .ok (.return_, 1) := by decide +kernel
set_option maxRecDepth 20000 in
theorem ggX1_useHead_X1_sectorUnder : GoodIn wsX1_useHead wsX1_sectorUnder := goodIn_r _ [9, 10, 11, 12, 13, 14, 57, 58, 59, 60, 61, 62, 63, 64, 65, 66, 67] (by decide +kernel) (by decide +kernel)
set_option maxRecDepth 20000 in
theorem gX1_useHead_X1_sectorUnder : GoodIn wsX1_useHead (wsV RX1 61 RX1 yX1_sectorUnder wsX1_sectorUnder) := goodIn_app (goodIn_of _ (by decide +kernel)) ggX1_useHead_X1_sectorUnder
set_option maxRecDepth 20000 in
theorem ggX1_useHead_X1_blockAt : GoodIn wsX1_useHead wsX1_blockAt := goodIn_r _ [17] (by decide +kernel) (by decide +kernel)
set_option maxRecDepth 20000 in
theorem gX1_useHead_X1_blockAt : GoodIn wsX1_useHead (va_wsS RX1 68 yX1_blockAt wsX1_blockAt) := goodIn_app (goodIn_of _ (by decide +kernel)) ggX1_useHead_X1_blockAt
set_option maxRecDepth 20000 in
theorem ggX1_useHead_X1_cellOf : GoodIn wsX1_useHead wsX1_cellOf := goodIn_r _ [20] (by decide +kernel) (by decide +kernel)
set_option maxRecDepth 20000 in
theorem gX1_useHead_X1_cellOf : GoodIn wsX1_useHead (va_wsS RX1 71 yX1_cellOf wsX1_cellOf) := goodIn_app (goodIn_of _ (by decide +kernel)) ggX1_useHead_X1_cellOf
set_option maxRecDepth 20000 in
theorem ggX1_useHead_X1_takeOver : GoodIn wsX1_useHead wsX1_takeOver := goodIn_r _ [24, 2, 25, 26, 27, 8, 28, 57, 58, 59, 60, 61, 62, 63, 64, 65, 66, 67] (by decide +kernel) (by decide +kernel)
set_option maxRecDepth 20000 in
theorem gX1_useHead_X1_takeOver : GoodIn wsX1_useHead (wsV RX1 98 RX1 yX1_takeOver wsX1_takeOver) := goodIn_app (goodIn_of _ (by decide +kernel)) ggX1_useHead_X1_takeOver
set_option maxRecDepth 20000 in
theorem ggX1_useHead_X1_setLate : GoodIn wsX1_useHead wsX1_setLate := goodIn_r _ [32, 33, 1, 2, 57, 58, 59, 60, 61, 62, 63, 64, 65, 66, 67] (by decide +kernel) (by decide +kernel)
set_option maxRecDepth 20000 in
theorem gX1_useHead_X1_setLate : GoodIn wsX1_useHead (wsV RX1 102 RX1 yX1_setLate wsX1_setLate) := goodIn_app (goodIn_of _ (by decide +kernel)) ggX1_useHead_X1_setLate
set_option maxRecDepth 20000 in
theorem ggX1_useHead_X1_firstWaiting : GoodIn wsX1_useHead wsX1_firstWaiting := goodIn_r _ [37, 38, 39, 57, 58, 59, 60, 61, 62, 63, 64, 65, 66, 67] (by decide +kernel) (by decide +kernel)
set_option maxRecDepth 20000 in
theorem gX1_useHead_X1_firstWaiting : GoodIn wsX1_useHead (wsV RX1 105 RX1 yX1_firstWaiting wsX1_firstWaiting) := goodIn_app (goodIn_of _ (by decide +kernel)) ggX1_useHead_X1_firstWaiting
set_option maxRecDepth 20000 in
theorem ggX1_useHead_X1_doWrite : GoodIn wsX1_useHead wsX1_doWrite := goodIn_r _ [43, 2, 44, 45, 46, 47, 3, 48, 49, 50, 8, 51, 39, 25, 26, 27, 28, 29, 30, 31, 32, 33, 1, 52, 53, 54, 55, 10, 56, 4, 57, 58, 59, 60, 61, 62, 63, 64, 65, 66, 67] (by decide +kernel) (by decide +kernel)
set_option maxRecDepth 20000 in
theorem gX1_useHead_X1_doWrite : GoodIn wsX1_useHead (wsV RX1 109 RX1 yX1_doWrite wsX1_doWrite) := goodIn_app (goodIn_of _ (by decide +kernel)) ggX1_useHead_X1_doWrite
set_option maxRecDepth 20000 in
theorem ggX1_useHead_X1_finish : GoodIn wsX1_useHead wsX1_finish := goodIn_r _ [55, 39, 10, 56, 4, 33, 57, 58, 59, 60, 61, 62, 63, 64, 65, 66, 67] (by decide +kernel) (by decide +kernel)
set_option maxRecDepth 20000 in
theorem gX1_useHead_X1_finish : GoodIn wsX1_useHead (wsV RX1 113 RX1 yX1_finish wsX1_finish) := goodIn_app (goodIn_of _ (by decide +kernel)) ggX1_useHead_X1_finish
theorem dX1_useHead_0 : decode cX1_useHead 0 = .ok (.aload_n 0, 1) := by decide +kernel
theorem dX1_useHead_1 : decode cX1_useHead 1 = .ok (.iload_n 1, 1) := by decide +kernel
theorem dX1_useHead_2 : decode cX1_useHead 2 = .ok (.invokevirtual 61, 3) := by decide +kernel
theorem dX1_useHead_5 : decode cX1_useHead 5 = .ok (.istore_n 2, 1) := by decide +kernel
theorem dX1_useHead_6 : decode cX1_useHead 6 = .ok (.aload_n 0, 1) := by decide +kernel
theorem dX1_useHead_7 : decode cX1_useHead 7 = .ok (.getfield 40, 3) := by decide +kernel
theorem dX1_useHead_10 : decode cX1_useHead 10 = .ok (.iload_n 2, 1) := by decide +kernel
theorem dX1_useHead_11 : decode cX1_useHead 11 = .ok (.invokestatic 68, 3) := by decide +kernel
theorem dX1_useHead_14 : decode cX1_useHead 14 = .ok (.istore_n 3, 1) := by decide +kernel
theorem dX1_useHead_15 : decode cX1_useHead 15 = .ok (.iload_n 1, 1) := by decide +kernel
theorem dX1_useHead_16 : decode cX1_useHead 16 = .ok (.iload_n 3, 1) := by decide +kernel
theorem dX1_useHead_17 : decode cX1_useHead 17 = .ok (.invokestatic 71, 3) := by decide +kernel
theorem dX1_useHead_20 : decode cX1_useHead 20 = .ok (.istore 4, 2) := by decide +kernel
theorem dX1_useHead_22 : decode cX1_useHead 22 = .ok (.iconst 1, 1) := by decide +kernel
theorem dX1_useHead_23 : decode cX1_useHead 23 = .ok (.iload_n 1, 1) := by decide +kernel
theorem dX1_useHead_24 : decode cX1_useHead 24 = .ok (.isub, 1) := by decide +kernel
theorem dX1_useHead_25 : decode cX1_useHead 25 = .ok (.iload_n 3, 1) := by decide +kernel
theorem dX1_useHead_26 : decode cX1_useHead 26 = .ok (.invokestatic 71, 3) := by decide +kernel
theorem dX1_useHead_29 : decode cX1_useHead 29 = .ok (.istore 5, 2) := by decide +kernel
theorem dX1_useHead_31 : decode cX1_useHead 31 = .ok (.aload_n 0, 1) := by decide +kernel
theorem dX1_useHead_32 : decode cX1_useHead 32 = .ok (.getfield 11, 3) := by decide +kernel
theorem dX1_useHead_35 : decode cX1_useHead 35 = .ok (.iload 4, 2) := by decide +kernel
theorem dX1_useHead_37 : decode cX1_useHead 37 = .ok (.iconst 3, 1) := by decide +kernel
theorem dX1_useHead_38 : decode cX1_useHead 38 = .ok (.iadd, 1) := by decide +kernel
theorem dX1_useHead_39 : decode cX1_useHead 39 = .ok (.iaload, 1) := by decide +kernel
theorem dX1_useHead_40 : decode cX1_useHead 40 = .ok (.ifCond .eq 39, 3) := by decide +kernel
theorem dX1_useHead_43 : decode cX1_useHead 43 = .ok (.aload_n 0, 1) := by decide +kernel
theorem dX1_useHead_44 : decode cX1_useHead 44 = .ok (.getfield 11, 3) := by decide +kernel
theorem dX1_useHead_47 : decode cX1_useHead 47 = .ok (.iload 5, 2) := by decide +kernel
theorem dX1_useHead_49 : decode cX1_useHead 49 = .ok (.iconst 2, 1) := by decide +kernel
theorem dX1_useHead_50 : decode cX1_useHead 50 = .ok (.iadd, 1) := by decide +kernel
theorem dX1_useHead_51 : decode cX1_useHead 51 = .ok (.iaload, 1) := by decide +kernel
theorem dX1_useHead_52 : decode cX1_useHead 52 = .ok (.ifCond .ne 27, 3) := by decide +kernel
theorem dX1_useHead_55 : decode cX1_useHead 55 = .ok (.aload_n 0, 1) := by decide +kernel
theorem dX1_useHead_56 : decode cX1_useHead 56 = .ok (.iload 4, 2) := by decide +kernel
theorem dX1_useHead_58 : decode cX1_useHead 58 = .ok (.iload 5, 2) := by decide +kernel
theorem dX1_useHead_60 : decode cX1_useHead 60 = .ok (.invokevirtual 98, 3) := by decide +kernel
theorem dX1_useHead_63 : decode cX1_useHead 63 = .ok (.aload_n 0, 1) := by decide +kernel
theorem dX1_useHead_64 : decode cX1_useHead 64 = .ok (.iload 4, 2) := by decide +kernel
theorem dX1_useHead_66 : decode cX1_useHead 66 = .ok (.iconst 0, 1) := by decide +kernel
theorem dX1_useHead_67 : decode cX1_useHead 67 = .ok (.invokevirtual 102, 3) := by decide +kernel
theorem dX1_useHead_70 : decode cX1_useHead 70 = .ok (.aload_n 0, 1) := by decide +kernel
theorem dX1_useHead_71 : decode cX1_useHead 71 = .ok (.getfield 18, 3) := by decide +kernel
theorem dX1_useHead_74 : decode cX1_useHead 74 = .ok (.iload_n 1, 1) := by decide +kernel
theorem dX1_useHead_75 : decode cX1_useHead 75 = .ok (.iload 4, 2) := by decide +kernel
theorem dX1_useHead_77 : decode cX1_useHead 77 = .ok (.iastore, 1) := by decide +kernel
theorem dX1_useHead_78 : decode cX1_useHead 78 = .ok (.return_, 1) := by decide +kernel
theorem dX1_useHead_79 : decode cX1_useHead 79 = .ok (.aload_n 0, 1) := by decide +kernel
theorem dX1_useHead_80 : decode cX1_useHead 80 = .ok (.getfield 21, 3) := by decide +kernel
theorem dX1_useHead_83 : decode cX1_useHead 83 = .ok (.iload_n 3, 1) := by decide +kernel
theorem dX1_useHead_84 : decode cX1_useHead 84 = .ok (.iaload, 1) := by decide +kernel
theorem dX1_useHead_85 : decode cX1_useHead 85 = .ok (.ifCond .ne 4, 3) := by decide +kernel
theorem dX1_useHead_88 : decode cX1_useHead 88 = .ok (.return_, 1) := by decide +kernel
theorem dX1_useHead_89 : decode cX1_useHead 89 = .ok (.aload_n 0, 1) := by decide +kernel
theorem dX1_useHead_90 : decode cX1_useHead 90 = .ok (.iconst 1, 1) := by decide +kernel
theorem dX1_useHead_91 : decode cX1_useHead 91 = .ok (.aload_n 0, 1) := by decide +kernel
theorem dX1_useHead_92 : decode cX1_useHead 92 = .ok (.getfield 40, 3) := by decide +kernel
theorem dX1_useHead_95 : decode cX1_useHead 95 = .ok (.iload_n 2, 1) := by decide +kernel
theorem dX1_useHead_96 : decode cX1_useHead 96 = .ok (.invokevirtual 105, 3) := by decide +kernel
theorem dX1_useHead_99 : decode cX1_useHead 99 = .ok (.istore 6, 2) := by decide +kernel
theorem dX1_useHead_101 : decode cX1_useHead 101 = .ok (.iload 6, 2) := by decide +kernel
theorem dX1_useHead_103 : decode cX1_useHead 103 = .ok (.bipush (-9), 2) := by decide +kernel
theorem dX1_useHead_105 : decode cX1_useHead 105 = .ok (.if_icmp .eq 15, 3) := by decide +kernel
theorem dX1_useHead_108 : decode cX1_useHead 108 = .ok (.aload_n 0, 1) := by decide +kernel
theorem dX1_useHead_109 : decode cX1_useHead 109 = .ok (.iload 6, 2) := by decide +kernel
theorem dX1_useHead_111 : decode cX1_useHead 111 = .ok (.iload_n 1, 1) := by decide +kernel
theorem dX1_useHead_112 : decode cX1_useHead 112 = .ok (.iload 4, 2) := by decide +kernel
theorem dX1_useHead_114 : decode cX1_useHead 114 = .ok (.iload 5, 2) := by decide +kernel
theorem dX1_useHead_116 : decode cX1_useHead 116 = .ok (.invokevirtual 109, 3) := by decide +kernel
theorem dX1_useHead_119 : decode cX1_useHead 119 = .ok (.return_, 1) := by decide +kernel
theorem dX1_useHead_120 : decode cX1_useHead 120 = .ok (.aload_n 0, 1) := by decide +kernel
theorem dX1_useHead_121 : decode cX1_useHead 121 = .ok (.iconst 0, 1) := by decide +kernel
theorem dX1_useHead_122 : decode cX1_useHead 122 = .ok (.aload_n 0, 1) := by decide +kernel
theorem dX1_useHead_123 : decode cX1_useHead 123 = .ok (.getfield 40, 3) := by decide +kernel
theorem dX1_useHead_126 : decode cX1_useHead 126 = .ok (.iload_n 2, 1) := by decide +kernel
theorem dX1_useHead_127 : decode cX1_useHead 127 = .ok (.invokevirtual 105, 3) := by decide +kernel
theorem dX1_useHead_130 : decode cX1_useHead 130 = .ok (.istore 7, 2) := by decide +kernel
theorem dX1_useHead_132 : decode cX1_useHead 132 = .ok (.iload 7, 2) := by decide +kernel
theorem dX1_useHead_134 : decode cX1_useHead 134 = .ok (.bipush (-9), 2) := by decide +kernel
theorem dX1_useHead_136 : decode cX1_useHead 136 = .ok (.if_icmp .eq 43, 3) := by decide +kernel
theorem dX1_useHead_139 : decode cX1_useHead 139 = .ok (.aload_n 0, 1) := by decide +kernel
theorem dX1_useHead_140 : decode cX1_useHead 140 = .ok (.getfield 11, 3) := by decide +kernel
theorem dX1_useHead_143 : decode cX1_useHead 143 = .ok (.iload 4, 2) := by decide +kernel
theorem dX1_useHead_145 : decode cX1_useHead 145 = .ok (.iconst 3, 1) := by decide +kernel
theorem dX1_useHead_146 : decode cX1_useHead 146 = .ok (.iadd, 1) := by decide +kernel
theorem dX1_useHead_147 : decode cX1_useHead 147 = .ok (.iaload, 1) := by decide +kernel
theorem dX1_useHead_148 : decode cX1_useHead 148 = .ok (.ifCond .ne 31, 3) := by decide +kernel
theorem dX1_useHead_151 : decode cX1_useHead 151 = .ok (.aload_n 0, 1) := by decide +kernel
theorem dX1_useHead_152 : decode cX1_useHead 152 = .ok (.getfield 11, 3) := by decide +kernel
theorem dX1_useHead_155 : decode cX1_useHead 155 = .ok (.iload 4, 2) := by decide +kernel
theorem dX1_useHead_157 : decode cX1_useHead 157 = .ok (.iconst 2, 1) := by decide +kernel
theorem dX1_useHead_158 : decode cX1_useHead 158 = .ok (.iadd, 1) := by decide +kernel
theorem dX1_useHead_159 : decode cX1_useHead 159 = .ok (.iaload, 1) := by decide +kernel
theorem dX1_useHead_160 : decode cX1_useHead 160 = .ok (.ifCond .ne 19, 3) := by decide +kernel
theorem dX1_useHead_163 : decode cX1_useHead 163 = .ok (.aload_n 0, 1) := by decide +kernel
theorem dX1_useHead_164 : decode cX1_useHead 164 = .ok (.iload 7, 2) := by decide +kernel
theorem dX1_useHead_166 : decode cX1_useHead 166 = .ok (.iload_n 1, 1) := by decide +kernel
theorem dX1_useHead_167 : decode cX1_useHead 167 = .ok (.aload_n 0, 1) := by decide +kernel
theorem dX1_useHead_168 : decode cX1_useHead 168 = .ok (.getfield 11, 3) := by decide +kernel
theorem dX1_useHead_171 : decode cX1_useHead 171 = .ok (.iload 4, 2) := by decide +kernel
theorem dX1_useHead_173 : decode cX1_useHead 173 = .ok (.iconst 0, 1) := by decide +kernel
theorem dX1_useHead_174 : decode cX1_useHead 174 = .ok (.iadd, 1) := by decide +kernel
theorem dX1_useHead_175 : decode cX1_useHead 175 = .ok (.iaload, 1) := by decide +kernel
theorem dX1_useHead_176 : decode cX1_useHead 176 = .ok (.invokevirtual 113, 3) := by decide +kernel
theorem dX1_useHead_179 : decode cX1_useHead 179 = .ok (.return_, 1) := by decide +kernel
set_option maxRecDepth 20000 in
theorem ggX1_doWrite_X1_ofOrder : GoodIn wsX1_doWrite wsX1_ofOrder := goodIn_r _ [11, 12, 30, 31, 32, 33, 34, 35, 36, 37, 38, 39, 40] (by decide +kernel) (by decide +kernel)
set_option maxRecDepth 20000 in
theorem gX1_doWrite_X1_ofOrder : GoodIn wsX1_doWrite (wsV RX1 65 RX1 yX1_ofOrder wsX1_ofOrder) := goodIn_app (goodIn_of _ (by decide +kernel)) ggX1_doWrite_X1_ofOrder
set_option maxRecDepth 20000 in
theorem ggX1_doWrite_X1_setWhole : GoodIn wsX1_doWrite wsX1_setWhole := goodIn_r _ [16, 1, 30, 31, 32, 33, 34, 35, 36, 37, 38, 39, 40] (by decide +kernel) (by decide +kernel)
set_option maxRecDepth 20000 in
theorem gX1_doWrite_X1_setWhole : GoodIn wsX1_doWrite (wsV RX1 120 RX1 yX1_setWhole wsX1_setWhole) := goodIn_app (goodIn_of _ (by decide +kernel)) ggX1_doWrite_X1_setWhole
set_option maxRecDepth 20000 in
theorem ggX1_doWrite_X1_setLate : GoodIn wsX1_doWrite wsX1_setLate := goodIn_r _ [20, 21, 22, 1, 30, 31, 32, 33, 34, 35, 36, 37, 38, 39, 40] (by decide +kernel) (by decide +kernel)
set_option maxRecDepth 20000 in
theorem gX1_doWrite_X1_setLate : GoodIn wsX1_doWrite (wsV RX1 102 RX1 yX1_setLate wsX1_setLate) := goodIn_app (goodIn_of _ (by decide +kernel)) ggX1_doWrite_X1_setLate
set_option maxRecDepth 20000 in
theorem ggX1_doWrite_X1_finish : GoodIn wsX1_doWrite wsX1_finish := goodIn_r _ [26, 12, 27, 28, 29, 21, 30, 31, 32, 33, 34, 35, 36, 37, 38, 39, 40] (by decide +kernel) (by decide +kernel)
set_option maxRecDepth 20000 in
theorem gX1_doWrite_X1_finish : GoodIn wsX1_doWrite (wsV RX1 113 RX1 yX1_finish wsX1_finish) := goodIn_app (goodIn_of _ (by decide +kernel)) ggX1_doWrite_X1_finish
theorem dX1_doWrite_0 : decode cX1_doWrite 0 = .ok (.aload_n 0, 1) := by decide +kernel
theorem dX1_doWrite_1 : decode cX1_doWrite 1 = .ok (.iload_n 1, 1) := by decide +kernel
theorem dX1_doWrite_2 : decode cX1_doWrite 2 = .ok (.bipush 7, 2) := by decide +kernel
theorem dX1_doWrite_4 : decode cX1_doWrite 4 = .ok (.invokevirtual 65, 3) := by decide +kernel
theorem dX1_doWrite_7 : decode cX1_doWrite 7 = .ok (.istore 5, 2) := by decide +kernel
theorem dX1_doWrite_9 : decode cX1_doWrite 9 = .ok (.aload_n 0, 1) := by decide +kernel
theorem dX1_doWrite_10 : decode cX1_doWrite 10 = .ok (.getfield 11, 3) := by decide +kernel
theorem dX1_doWrite_13 : decode cX1_doWrite 13 = .ok (.iload_n 3, 1) := by decide +kernel
theorem dX1_doWrite_14 : decode cX1_doWrite 14 = .ok (.iconst 1, 1) := by decide +kernel
theorem dX1_doWrite_15 : decode cX1_doWrite 15 = .ok (.iadd, 1) := by decide +kernel
theorem dX1_doWrite_16 : decode cX1_doWrite 16 = .ok (.iaload, 1) := by decide +kernel
theorem dX1_doWrite_17 : decode cX1_doWrite 17 = .ok (.aload_n 0, 1) := by decide +kernel
theorem dX1_doWrite_18 : decode cX1_doWrite 18 = .ok (.getfield 11, 3) := by decide +kernel
theorem dX1_doWrite_21 : decode cX1_doWrite 21 = .ok (.iload 4, 2) := by decide +kernel
theorem dX1_doWrite_23 : decode cX1_doWrite 23 = .ok (.iconst 1, 1) := by decide +kernel
theorem dX1_doWrite_24 : decode cX1_doWrite 24 = .ok (.iadd, 1) := by decide +kernel
theorem dX1_doWrite_25 : decode cX1_doWrite 25 = .ok (.iaload, 1) := by decide +kernel
theorem dX1_doWrite_26 : decode cX1_doWrite 26 = .ok (.invokestatic 117, 3) := by decide +kernel
theorem dX1_doWrite_29 : decode cX1_doWrite 29 = .ok (.iconst 1, 1) := by decide +kernel
theorem dX1_doWrite_30 : decode cX1_doWrite 30 = .ok (.iadd, 1) := by decide +kernel
theorem dX1_doWrite_31 : decode cX1_doWrite 31 = .ok (.istore 6, 2) := by decide +kernel
theorem dX1_doWrite_33 : decode cX1_doWrite 33 = .ok (.aload_n 0, 1) := by decide +kernel
theorem dX1_doWrite_34 : decode cX1_doWrite 34 = .ok (.iload_n 3, 1) := by decide +kernel
theorem dX1_doWrite_35 : decode cX1_doWrite 35 = .ok (.iload 5, 2) := by decide +kernel
theorem dX1_doWrite_37 : decode cX1_doWrite 37 = .ok (.iload 6, 2) := by decide +kernel
theorem dX1_doWrite_39 : decode cX1_doWrite 39 = .ok (.invokevirtual 120, 3) := by decide +kernel
theorem dX1_doWrite_42 : decode cX1_doWrite 42 = .ok (.aload_n 0, 1) := by decide +kernel
theorem dX1_doWrite_43 : decode cX1_doWrite 43 = .ok (.iload_n 3, 1) := by decide +kernel
theorem dX1_doWrite_44 : decode cX1_doWrite 44 = .ok (.iconst 0, 1) := by decide +kernel
theorem dX1_doWrite_45 : decode cX1_doWrite 45 = .ok (.invokevirtual 102, 3) := by decide +kernel
theorem dX1_doWrite_48 : decode cX1_doWrite 48 = .ok (.aload_n 0, 1) := by decide +kernel
theorem dX1_doWrite_49 : decode cX1_doWrite 49 = .ok (.iload 4, 2) := by decide +kernel
theorem dX1_doWrite_51 : decode cX1_doWrite 51 = .ok (.iconst 1, 1) := by decide +kernel
theorem dX1_doWrite_52 : decode cX1_doWrite 52 = .ok (.invokevirtual 102, 3) := by decide +kernel
theorem dX1_doWrite_55 : decode cX1_doWrite 55 = .ok (.aload_n 0, 1) := by decide +kernel
theorem dX1_doWrite_56 : decode cX1_doWrite 56 = .ok (.getfield 18, 3) := by decide +kernel
theorem dX1_doWrite_59 : decode cX1_doWrite 59 = .ok (.iload_n 2, 1) := by decide +kernel
theorem dX1_doWrite_60 : decode cX1_doWrite 60 = .ok (.iload_n 3, 1) := by decide +kernel
theorem dX1_doWrite_61 : decode cX1_doWrite 61 = .ok (.iastore, 1) := by decide +kernel
theorem dX1_doWrite_62 : decode cX1_doWrite 62 = .ok (.aload_n 0, 1) := by decide +kernel
theorem dX1_doWrite_63 : decode cX1_doWrite 63 = .ok (.iload_n 1, 1) := by decide +kernel
theorem dX1_doWrite_64 : decode cX1_doWrite 64 = .ok (.iload_n 2, 1) := by decide +kernel
theorem dX1_doWrite_65 : decode cX1_doWrite 65 = .ok (.iload 5, 2) := by decide +kernel
theorem dX1_doWrite_67 : decode cX1_doWrite 67 = .ok (.invokevirtual 113, 3) := by decide +kernel
theorem dX1_doWrite_70 : decode cX1_doWrite 70 = .ok (.return_, 1) := by decide +kernel
theorem dX1_cellOf_0 : decode cX1_cellOf 0 = .ok (.iload_n 0, 1) := by decide +kernel
theorem dX1_cellOf_1 : decode cX1_cellOf 1 = .ok (.bipush 48, 2) := by decide +kernel
theorem dX1_cellOf_3 : decode cX1_cellOf 3 = .ok (.imul, 1) := by decide +kernel
theorem dX1_cellOf_4 : decode cX1_cellOf 4 = .ok (.iload_n 1, 1) := by decide +kernel
theorem dX1_cellOf_5 : decode cX1_cellOf 5 = .ok (.iadd, 1) := by decide +kernel
theorem dX1_cellOf_6 : decode cX1_cellOf 6 = .ok (.iconst 4, 1) := by decide +kernel
theorem dX1_cellOf_7 : decode cX1_cellOf 7 = .ok (.imul, 1) := by decide +kernel
theorem dX1_cellOf_8 : decode cX1_cellOf 8 = .ok (.ireturn, 1) := by decide +kernel
set_option maxRecDepth 20000 in
theorem ggX1_takeOver_X1_setWhole : GoodIn wsX1_takeOver wsX1_setWhole := goodIn_r _ [6, 1, 7, 8, 9, 10, 11, 12, 13, 14, 15, 16, 17] (by decide +kernel) (by decide +kernel)
set_option maxRecDepth 20000 in
theorem gX1_takeOver_X1_setWhole : GoodIn wsX1_takeOver (wsV RX1 120 RX1 yX1_setWhole wsX1_setWhole) := goodIn_app (goodIn_of _ (by decide +kernel)) ggX1_takeOver_X1_setWhole
theorem dX1_takeOver_0 : decode cX1_takeOver 0 = .ok (.aload_n 0, 1) := by decide +kernel
theorem dX1_takeOver_1 : decode cX1_takeOver 1 = .ok (.iload_n 1, 1) := by decide +kernel
theorem dX1_takeOver_2 : decode cX1_takeOver 2 = .ok (.aload_n 0, 1) := by decide +kernel
theorem dX1_takeOver_3 : decode cX1_takeOver 3 = .ok (.getfield 11, 3) := by decide +kernel
theorem dX1_takeOver_6 : decode cX1_takeOver 6 = .ok (.iload_n 2, 1) := by decide +kernel
theorem dX1_takeOver_7 : decode cX1_takeOver 7 = .ok (.iconst 0, 1) := by decide +kernel
theorem dX1_takeOver_8 : decode cX1_takeOver 8 = .ok (.iadd, 1) := by decide +kernel
theorem dX1_takeOver_9 : decode cX1_takeOver 9 = .ok (.iaload, 1) := by decide +kernel
theorem dX1_takeOver_10 : decode cX1_takeOver 10 = .ok (.aload_n 0, 1) := by decide +kernel
theorem dX1_takeOver_11 : decode cX1_takeOver 11 = .ok (.getfield 11, 3) := by decide +kernel
theorem dX1_takeOver_14 : decode cX1_takeOver 14 = .ok (.iload_n 2, 1) := by decide +kernel
theorem dX1_takeOver_15 : decode cX1_takeOver 15 = .ok (.iconst 1, 1) := by decide +kernel
theorem dX1_takeOver_16 : decode cX1_takeOver 16 = .ok (.iadd, 1) := by decide +kernel
theorem dX1_takeOver_17 : decode cX1_takeOver 17 = .ok (.iaload, 1) := by decide +kernel
theorem dX1_takeOver_18 : decode cX1_takeOver 18 = .ok (.invokevirtual 120, 3) := by decide +kernel
theorem dX1_takeOver_21 : decode cX1_takeOver 21 = .ok (.return_, 1) := by decide +kernel
theorem dX1_setWhole_0 : decode cX1_setWhole 0 = .ok (.aload_n 0, 1) := by decide +kernel
theorem dX1_setWhole_1 : decode cX1_setWhole 1 = .ok (.getfield 11, 3) := by decide +kernel
theorem dX1_setWhole_4 : decode cX1_setWhole 4 = .ok (.iload_n 1, 1) := by decide +kernel
theorem dX1_setWhole_5 : decode cX1_setWhole 5 = .ok (.iconst 0, 1) := by decide +kernel
theorem dX1_setWhole_6 : decode cX1_setWhole 6 = .ok (.iadd, 1) := by decide +kernel
theorem dX1_setWhole_7 : decode cX1_setWhole 7 = .ok (.iload_n 2, 1) := by decide +kernel
theorem dX1_setWhole_8 : decode cX1_setWhole 8 = .ok (.iastore, 1) := by decide +kernel
theorem dX1_setWhole_9 : decode cX1_setWhole 9 = .ok (.aload_n 0, 1) := by decide +kernel
theorem dX1_setWhole_10 : decode cX1_setWhole 10 = .ok (.getfield 11, 3) := by decide +kernel
theorem dX1_setWhole_13 : decode cX1_setWhole 13 = .ok (.iload_n 1, 1) := by decide +kernel
theorem dX1_setWhole_14 : decode cX1_setWhole 14 = .ok (.iconst 1, 1) := by decide +kernel
theorem dX1_setWhole_15 : decode cX1_setWhole 15 = .ok (.iadd, 1) := by decide +kernel
theorem dX1_setWhole_16 : decode cX1_setWhole 16 = .ok (.iload_n 3, 1) := by decide +kernel
theorem dX1_setWhole_17 : decode cX1_setWhole 17 = .ok (.iastore, 1) := by decide +kernel
theorem dX1_setWhole_18 : decode cX1_setWhole 18 = .ok (.aload_n 0, 1) := by decide +kernel
theorem dX1_setWhole_19 : decode cX1_setWhole 19 = .ok (.getfield 11, 3) := by decide +kernel
theorem dX1_setWhole_22 : decode cX1_setWhole 22 = .ok (.iload_n 1, 1) := by decide +kernel
theorem dX1_setWhole_23 : decode cX1_setWhole 23 = .ok (.iconst 2, 1) := by decide +kernel
theorem dX1_setWhole_24 : decode cX1_setWhole 24 = .ok (.iadd, 1) := by decide +kernel
theorem dX1_setWhole_25 : decode cX1_setWhole 25 = .ok (.iconst 0, 1) := by decide +kernel
theorem dX1_setWhole_26 : decode cX1_setWhole 26 = .ok (.iastore, 1) := by decide +kernel
theorem dX1_setWhole_27 : decode cX1_setWhole 27 = .ok (.return_, 1) := by decide +kernel
theorem dX1_setLate_0 : decode cX1_setLate 0 = .ok (.aload_n 0, 1) := by decide +kernel
theorem dX1_setLate_1 : decode cX1_setLate 1 = .ok (.getfield 24, 3) := by decide +kernel
theorem dX1_setLate_4 : decode cX1_setLate 4 = .ok (.aload_n 0, 1) := by decide +kernel
theorem dX1_setLate_5 : decode cX1_setLate 5 = .ok (.getfield 40, 3) := by decide +kernel
theorem dX1_setLate_8 : decode cX1_setLate 8 = .ok (.dup2, 1) := by decide +kernel
theorem dX1_setLate_9 : decode cX1_setLate 9 = .ok (.iaload, 1) := by decide +kernel
theorem dX1_setLate_10 : decode cX1_setLate 10 = .ok (.iload_n 2, 1) := by decide +kernel
theorem dX1_setLate_11 : decode cX1_setLate 11 = .ok (.aload_n 0, 1) := by decide +kernel
theorem dX1_setLate_12 : decode cX1_setLate 12 = .ok (.getfield 11, 3) := by decide +kernel
theorem dX1_setLate_15 : decode cX1_setLate 15 = .ok (.iload_n 1, 1) := by decide +kernel
theorem dX1_setLate_16 : decode cX1_setLate 16 = .ok (.iconst 3, 1) := by decide +kernel
theorem dX1_setLate_17 : decode cX1_setLate 17 = .ok (.iadd, 1) := by decide +kernel
theorem dX1_setLate_18 : decode cX1_setLate 18 = .ok (.iaload, 1) := by decide +kernel
theorem dX1_setLate_19 : decode cX1_setLate 19 = .ok (.isub, 1) := by decide +kernel
theorem dX1_setLate_20 : decode cX1_setLate 20 = .ok (.iadd, 1) := by decide +kernel
theorem dX1_setLate_21 : decode cX1_setLate 21 = .ok (.iastore, 1) := by decide +kernel
theorem dX1_setLate_22 : decode cX1_setLate 22 = .ok (.aload_n 0, 1) := by decide +kernel
theorem dX1_setLate_23 : decode cX1_setLate 23 = .ok (.getfield 11, 3) := by decide +kernel
theorem dX1_setLate_26 : decode cX1_setLate 26 = .ok (.iload_n 1, 1) := by decide +kernel
theorem dX1_setLate_27 : decode cX1_setLate 27 = .ok (.iconst 3, 1) := by decide +kernel
theorem dX1_setLate_28 : decode cX1_setLate 28 = .ok (.iadd, 1) := by decide +kernel
theorem dX1_setLate_29 : decode cX1_setLate 29 = .ok (.iload_n 2, 1) := by decide +kernel
theorem dX1_setLate_30 : decode cX1_setLate 30 = .ok (.iastore, 1) := by decide +kernel
theorem dX1_setLate_31 : decode cX1_setLate 31 = .ok (.return_, 1) := by decide +kernel
theorem dX1_forgetWritten_0 : decode cX1_forgetWritten 0 = .ok (.iconst 0, 1) := by decide +kernel
theorem dX1_forgetWritten_1 : decode cX1_forgetWritten 1 = .ok (.istore_n 1, 1) := by decide +kernel
theorem dX1_forgetWritten_2 : decode cX1_forgetWritten 2 = .ok (.iload_n 1, 1) := by decide +kernel
theorem dX1_forgetWritten_3 : decode cX1_forgetWritten 3 = .ok (.iconst 2, 1) := by decide +kernel
theorem dX1_forgetWritten_4 : decode cX1_forgetWritten 4 = .ok (.if_icmp .ge 16, 3) := by decide +kernel
theorem dX1_forgetWritten_7 : decode cX1_forgetWritten 7 = .ok (.aload_n 0, 1) := by decide +kernel
theorem dX1_forgetWritten_8 : decode cX1_forgetWritten 8 = .ok (.getfield 18, 3) := by decide +kernel
theorem dX1_forgetWritten_11 : decode cX1_forgetWritten 11 = .ok (.iload_n 1, 1) := by decide +kernel
theorem dX1_forgetWritten_12 : decode cX1_forgetWritten 12 = .ok (.iconst (-1), 1) := by decide +kernel
theorem dX1_forgetWritten_13 : decode cX1_forgetWritten 13 = .ok (.iastore, 1) := by decide +kernel
theorem dX1_forgetWritten_14 : decode cX1_forgetWritten 14 = .ok (.iinc 1 1, 3) := by decide +kernel
theorem dX1_forgetWritten_17 : decode cX1_forgetWritten 17 = .ok (.goto (-15), 3) := by decide +kernel
theorem dX1_forgetWritten_20 : decode cX1_forgetWritten 20 = .ok (.return_, 1) := by decide +kernel
set_option maxRecDepth 20000 in
theorem ggX1_cutPower_X1_dropWork : GoodIn wsX1_cutPower wsX1_dropWork := goodIn_r _ [7, 8, 9, 10, 2, 11, 12, 13, 14, 15, 6, 16, 17, 18, 19, 20, 21, 22, 23, 24, 25, 26, 27, 28, 29, 30, 31, 32, 33, 34] (by decide +kernel) (by decide +kernel)
set_option maxRecDepth 20000 in
theorem gX1_cutPower_X1_dropWork : GoodIn wsX1_cutPower (wsV RX1 123 RX1 yX1_dropWork wsX1_dropWork) := goodIn_app (goodIn_of _ (by decide +kernel)) ggX1_cutPower_X1_dropWork
theorem dX1_cutPower_0 : decode cX1_cutPower 0 = .ok (.iconst 0, 1) := by decide +kernel
theorem dX1_cutPower_1 : decode cX1_cutPower 1 = .ok (.istore_n 1, 1) := by decide +kernel
theorem dX1_cutPower_2 : decode cX1_cutPower 2 = .ok (.iconst 0, 1) := by decide +kernel
theorem dX1_cutPower_3 : decode cX1_cutPower 3 = .ok (.istore_n 2, 1) := by decide +kernel
theorem dX1_cutPower_4 : decode cX1_cutPower 4 = .ok (.iload_n 2, 1) := by decide +kernel
theorem dX1_cutPower_5 : decode cX1_cutPower 5 = .ok (.iconst 2, 1) := by decide +kernel
theorem dX1_cutPower_6 : decode cX1_cutPower 6 = .ok (.if_icmp .ge 44, 3) := by decide +kernel
theorem dX1_cutPower_9 : decode cX1_cutPower 9 = .ok (.aload_n 0, 1) := by decide +kernel
theorem dX1_cutPower_10 : decode cX1_cutPower 10 = .ok (.getfield 18, 3) := by decide +kernel
theorem dX1_cutPower_13 : decode cX1_cutPower 13 = .ok (.iload_n 2, 1) := by decide +kernel
theorem dX1_cutPower_14 : decode cX1_cutPower 14 = .ok (.iaload, 1) := by decide +kernel
theorem dX1_cutPower_15 : decode cX1_cutPower 15 = .ok (.istore_n 3, 1) := by decide +kernel
theorem dX1_cutPower_16 : decode cX1_cutPower 16 = .ok (.iload_n 3, 1) := by decide +kernel
theorem dX1_cutPower_17 : decode cX1_cutPower 17 = .ok (.iconst (-1), 1) := by decide +kernel
theorem dX1_cutPower_18 : decode cX1_cutPower 18 = .ok (.if_icmp .eq 26, 3) := by decide +kernel
theorem dX1_cutPower_21 : decode cX1_cutPower 21 = .ok (.aload_n 0, 1) := by decide +kernel
theorem dX1_cutPower_22 : decode cX1_cutPower 22 = .ok (.getfield 11, 3) := by decide +kernel
theorem dX1_cutPower_25 : decode cX1_cutPower 25 = .ok (.iload_n 3, 1) := by decide +kernel
theorem dX1_cutPower_26 : decode cX1_cutPower 26 = .ok (.iconst 2, 1) := by decide +kernel
theorem dX1_cutPower_27 : decode cX1_cutPower 27 = .ok (.iadd, 1) := by decide +kernel
theorem dX1_cutPower_28 : decode cX1_cutPower 28 = .ok (.iaload, 1) := by decide +kernel
theorem dX1_cutPower_29 : decode cX1_cutPower 29 = .ok (.ifCond .ne 15, 3) := by decide +kernel
theorem dX1_cutPower_32 : decode cX1_cutPower 32 = .ok (.aload_n 0, 1) := by decide +kernel
theorem dX1_cutPower_33 : decode cX1_cutPower 33 = .ok (.getfield 11, 3) := by decide +kernel
theorem dX1_cutPower_36 : decode cX1_cutPower 36 = .ok (.iload_n 3, 1) := by decide +kernel
theorem dX1_cutPower_37 : decode cX1_cutPower 37 = .ok (.iconst 2, 1) := by decide +kernel
theorem dX1_cutPower_38 : decode cX1_cutPower 38 = .ok (.iadd, 1) := by decide +kernel
theorem dX1_cutPower_39 : decode cX1_cutPower 39 = .ok (.iconst 1, 1) := by decide +kernel
theorem dX1_cutPower_40 : decode cX1_cutPower 40 = .ok (.iastore, 1) := by decide +kernel
theorem dX1_cutPower_41 : decode cX1_cutPower 41 = .ok (.iinc 1 1, 3) := by decide +kernel
theorem dX1_cutPower_44 : decode cX1_cutPower 44 = .ok (.iinc 2 1, 3) := by decide +kernel
theorem dX1_cutPower_47 : decode cX1_cutPower 47 = .ok (.goto (-43), 3) := by decide +kernel
theorem dX1_cutPower_50 : decode cX1_cutPower 50 = .ok (.aload_n 0, 1) := by decide +kernel
theorem dX1_cutPower_51 : decode cX1_cutPower 51 = .ok (.invokevirtual 123, 3) := by decide +kernel
theorem dX1_cutPower_54 : decode cX1_cutPower 54 = .ok (.iload_n 1, 1) := by decide +kernel
theorem dX1_cutPower_55 : decode cX1_cutPower 55 = .ok (.ireturn, 1) := by decide +kernel
set_option maxRecDepth 20000 in
theorem ggX1_dropWork_X1_statusOf : GoodIn wsX1_dropWork wsX1_statusOf := goodIn_r _ [11, 12, 13, 14, 10, 15, 2, 19, 20, 21, 22, 23, 24, 25, 26, 27, 28, 29] (by decide +kernel) (by decide +kernel)
set_option maxRecDepth 20000 in
theorem gX1_dropWork_X1_statusOf : GoodIn wsX1_dropWork (wsV RX1 74 RX1 yX1_statusOf wsX1_statusOf) := goodIn_app (goodIn_of _ (by decide +kernel)) ggX1_dropWork_X1_statusOf
set_option maxRecDepth 20000 in
theorem ggX1_dropWork_X1_cellOf : GoodIn wsX1_dropWork wsX1_cellOf := goodIn_r _ [18] (by decide +kernel) (by decide +kernel)
set_option maxRecDepth 20000 in
theorem gX1_dropWork_X1_cellOf : GoodIn wsX1_dropWork (va_wsS RX1 71 yX1_cellOf wsX1_cellOf) := goodIn_app (goodIn_of _ (by decide +kernel)) ggX1_dropWork_X1_cellOf
theorem dX1_dropWork_0 : decode cX1_dropWork 0 = .ok (.iconst 0, 1) := by decide +kernel
theorem dX1_dropWork_1 : decode cX1_dropWork 1 = .ok (.istore_n 1, 1) := by decide +kernel
theorem dX1_dropWork_2 : decode cX1_dropWork 2 = .ok (.iload_n 1, 1) := by decide +kernel
theorem dX1_dropWork_3 : decode cX1_dropWork 3 = .ok (.aload_n 0, 1) := by decide +kernel
theorem dX1_dropWork_4 : decode cX1_dropWork 4 = .ok (.getfield 43, 3) := by decide +kernel
theorem dX1_dropWork_7 : decode cX1_dropWork 7 = .ok (.if_icmp .ge 29, 3) := by decide +kernel
theorem dX1_dropWork_10 : decode cX1_dropWork 10 = .ok (.aload_n 0, 1) := by decide +kernel
theorem dX1_dropWork_11 : decode cX1_dropWork 11 = .ok (.iload_n 1, 1) := by decide +kernel
theorem dX1_dropWork_12 : decode cX1_dropWork 12 = .ok (.invokevirtual 74, 3) := by decide +kernel
theorem dX1_dropWork_15 : decode cX1_dropWork 15 = .ok (.ifCond .ne 15, 3) := by decide +kernel
theorem dX1_dropWork_18 : decode cX1_dropWork 18 = .ok (.aload_n 0, 1) := by decide +kernel
theorem dX1_dropWork_19 : decode cX1_dropWork 19 = .ok (.getfield 15, 3) := by decide +kernel
theorem dX1_dropWork_22 : decode cX1_dropWork 22 = .ok (.iload_n 1, 1) := by decide +kernel
