set_option maxRecDepth 20000 in
theorem gX4_does_X4_pass : GoodIn wsX4_does (wsV RX4 150 RX4 yX4_pass wsX4_pass) := goodIn_app (goodIn_of _ (by decide +kernel)) ggX4_does_X4_pass
set_option maxRecDepth 20000 in
theorem ggX4_does_X4_cut : GoodIn wsX4_does wsX4_cut := goodIn_r _ [94, 26, 27, 28, 5, 29, 30, 31, 32, 17, 95, 96, 97, 98, 53, 54, 55, 56, 73, 74, 75, 76, 22, 23, 24, 25, 33, 34, 35, 36, 99, 100, 101, 102, 103, 104, 105, 106, 107, 108, 109] (by decide +kernel) (by decide +kernel)
set_option maxRecDepth 20000 in
theorem gX4_does_X4_cut : GoodIn wsX4_does (wsV RX4 153 RX4 yX4_cut wsX4_cut) := goodIn_app (goodIn_of _ (by decide +kernel)) ggX4_does_X4_cut
theorem dX4_does_0 : decode cX4_does 0 = .ok (.iload_n 1, 1) := by decide +kernel
theorem dX4_does_1 : decode cX4_does 1 = .ok (.lookupswitch 86 #[(114, 35), (116, 75), (119, 52)], 35) := by decide +kernel
theorem dX4_does_36 : decode cX4_does 36 = .ok (.aload_n 0, 1) := by decide +kernel
theorem dX4_does_37 : decode cX4_does 37 = .ok (.aload_n 0, 1) := by decide +kernel
theorem dX4_does_38 : decode cX4_does 38 = .ok (.getfield 28, 3) := by decide +kernel
theorem dX4_does_41 : decode cX4_does 41 = .ok (.iconst 0, 1) := by decide +kernel
theorem dX4_does_42 : decode cX4_does 42 = .ok (.iaload, 1) := by decide +kernel
theorem dX4_does_43 : decode cX4_does 43 = .ok (.aload_n 0, 1) := by decide +kernel
theorem dX4_does_44 : decode cX4_does 44 = .ok (.getfield 28, 3) := by decide +kernel
theorem dX4_does_47 : decode cX4_does 47 = .ok (.iconst 1, 1) := by decide +kernel
theorem dX4_does_48 : decode cX4_does 48 = .ok (.iaload, 1) := by decide +kernel
theorem dX4_does_49 : decode cX4_does 49 = .ok (.invokevirtual 144, 3) := by decide +kernel
theorem dX4_does_52 : decode cX4_does 52 = .ok (.ireturn, 1) := by decide +kernel
theorem dX4_does_53 : decode cX4_does 53 = .ok (.aload_n 0, 1) := by decide +kernel
theorem dX4_does_54 : decode cX4_does 54 = .ok (.aload_n 0, 1) := by decide +kernel
theorem dX4_does_55 : decode cX4_does 55 = .ok (.getfield 28, 3) := by decide +kernel
theorem dX4_does_58 : decode cX4_does 58 = .ok (.iconst 0, 1) := by decide +kernel
theorem dX4_does_59 : decode cX4_does 59 = .ok (.iaload, 1) := by decide +kernel
theorem dX4_does_60 : decode cX4_does 60 = .ok (.aload_n 0, 1) := by decide +kernel
theorem dX4_does_61 : decode cX4_does 61 = .ok (.getfield 28, 3) := by decide +kernel
theorem dX4_does_64 : decode cX4_does 64 = .ok (.iconst 1, 1) := by decide +kernel
theorem dX4_does_65 : decode cX4_does 65 = .ok (.iaload, 1) := by decide +kernel
theorem dX4_does_66 : decode cX4_does 66 = .ok (.aload_n 0, 1) := by decide +kernel
theorem dX4_does_67 : decode cX4_does 67 = .ok (.getfield 28, 3) := by decide +kernel
theorem dX4_does_70 : decode cX4_does 70 = .ok (.iconst 2, 1) := by decide +kernel
theorem dX4_does_71 : decode cX4_does 71 = .ok (.iaload, 1) := by decide +kernel
theorem dX4_does_72 : decode cX4_does 72 = .ok (.invokevirtual 147, 3) := by decide +kernel
theorem dX4_does_75 : decode cX4_does 75 = .ok (.ireturn, 1) := by decide +kernel
theorem dX4_does_76 : decode cX4_does 76 = .ok (.aload_n 0, 1) := by decide +kernel
theorem dX4_does_77 : decode cX4_does 77 = .ok (.aload_n 0, 1) := by decide +kernel
theorem dX4_does_78 : decode cX4_does 78 = .ok (.getfield 28, 3) := by decide +kernel
theorem dX4_does_81 : decode cX4_does 81 = .ok (.iconst 0, 1) := by decide +kernel
theorem dX4_does_82 : decode cX4_does 82 = .ok (.iaload, 1) := by decide +kernel
theorem dX4_does_83 : decode cX4_does 83 = .ok (.invokevirtual 150, 3) := by decide +kernel
theorem dX4_does_86 : decode cX4_does 86 = .ok (.ireturn, 1) := by decide +kernel
theorem dX4_does_87 : decode cX4_does 87 = .ok (.aload_n 0, 1) := by decide +kernel
theorem dX4_does_88 : decode cX4_does 88 = .ok (.invokevirtual 153, 3) := by decide +kernel
theorem dX4_does_91 : decode cX4_does 91 = .ok (.ireturn, 1) := by decide +kernel
set_option maxRecDepth 20000 in
theorem ggX4_goes_X4_here : GoodIn wsX4_goes wsX4_here := goodIn_r _ [9, 1, 2, 10, 127, 128, 129, 130, 131, 132, 133, 134, 135, 136, 137] (by decide +kernel) (by decide +kernel)
set_option maxRecDepth 20000 in
theorem gX4_goes_X4_here : GoodIn wsX4_goes (wsV RX4 129 RX4 yX4_here wsX4_here) := goodIn_app (goodIn_of _ (by decide +kernel)) ggX4_goes_X4_here
set_option maxRecDepth 20000 in
theorem ggX4_goes_X4_isLetter : GoodIn wsX4_goes wsX4_isLetter := goodIn_r _ [13] (by decide +kernel) (by decide +kernel)
set_option maxRecDepth 20000 in
theorem gX4_goes_X4_isLetter : GoodIn wsX4_goes (va_wsS RX4 138 yX4_isLetter wsX4_isLetter) := goodIn_app (goodIn_of _ (by decide +kernel)) ggX4_goes_X4_isLetter
set_option maxRecDepth 20000 in
theorem ggX4_goes_X4_readsAct : GoodIn wsX4_goes wsX4_readsAct := goodIn_r _ [17, 18, 19, 20, 8, 21, 1, 5, 6, 7, 9, 2, 10, 22, 23, 24, 25, 26, 27, 28, 29, 127, 128, 129, 130, 131, 132, 133, 134, 135, 136, 137] (by decide +kernel) (by decide +kernel)
set_option maxRecDepth 20000 in
theorem gX4_goes_X4_readsAct : GoodIn wsX4_goes (wsV RX4 141 RX4 yX4_readsAct wsX4_readsAct) := goodIn_app (goodIn_of _ (by decide +kernel)) ggX4_goes_X4_readsAct
set_option maxRecDepth 20000 in
theorem ggX4_goes_X4_does : GoodIn wsX4_goes wsX4_does := goodIn_r _ [33, 26, 34, 35, 36, 8, 37, 38, 39, 40, 27, 28, 29, 41, 42, 43, 44, 45, 46, 47, 48, 49, 50, 51, 52, 53, 54, 55, 56, 57, 58, 59, 60, 61, 62, 63, 64, 65, 66, 67, 68, 69, 70, 71, 72, 73, 74, 75, 76, 77, 78, 79, 80, 81, 82, 83, 84, 85, 86, 87, 88, 89, 90, 91, 92, 93, 94, 95, 96, 97, 98, 99, 100, 101, 102, 103, 104, 105, 106, 107, 108, 109, 110, 111, 112, 113, 114, 115, 116, 117, 118, 119, 120, 121, 122, 123, 124, 125, 126, 127, 128, 129, 130, 131, 132, 133, 134, 135, 136, 137] (by decide +kernel) (by decide +kernel)
set_option maxRecDepth 20000 in
theorem gX4_goes_X4_does : GoodIn wsX4_goes (wsV RX4 156 RX4 yX4_does wsX4_does) := goodIn_app (goodIn_of _ (by decide +kernel)) ggX4_goes_X4_does
theorem dX4_goes_0 : decode cX4_goes 0 = .ok (.iconst 0, 1) := by decide +kernel
theorem dX4_goes_1 : decode cX4_goes 1 = .ok (.istore_n 2, 1) := by decide +kernel
theorem dX4_goes_2 : decode cX4_goes 2 = .ok (.iconst 0, 1) := by decide +kernel
theorem dX4_goes_3 : decode cX4_goes 3 = .ok (.istore_n 3, 1) := by decide +kernel
theorem dX4_goes_4 : decode cX4_goes 4 = .ok (.aload_n 0, 1) := by decide +kernel
theorem dX4_goes_5 : decode cX4_goes 5 = .ok (.iconst 0, 1) := by decide +kernel
theorem dX4_goes_6 : decode cX4_goes 6 = .ok (.putfield 126, 3) := by decide +kernel
theorem dX4_goes_9 : decode cX4_goes 9 = .ok (.aload_n 0, 1) := by decide +kernel
theorem dX4_goes_10 : decode cX4_goes 10 = .ok (.getfield 126, 3) := by decide +kernel
theorem dX4_goes_13 : decode cX4_goes 13 = .ok (.aload_n 0, 1) := by decide +kernel
theorem dX4_goes_14 : decode cX4_goes 14 = .ok (.getfield 123, 3) := by decide +kernel
theorem dX4_goes_17 : decode cX4_goes 17 = .ok (.if_icmp .ge 219, 3) := by decide +kernel
theorem dX4_goes_20 : decode cX4_goes 20 = .ok (.aload_n 0, 1) := by decide +kernel
theorem dX4_goes_21 : decode cX4_goes 21 = .ok (.invokevirtual 129, 3) := by decide +kernel
theorem dX4_goes_24 : decode cX4_goes 24 = .ok (.istore 4, 2) := by decide +kernel
theorem dX4_goes_26 : decode cX4_goes 26 = .ok (.aload_n 0, 1) := by decide +kernel
theorem dX4_goes_27 : decode cX4_goes 27 = .ok (.getfield 126, 3) := by decide +kernel
theorem dX4_goes_30 : decode cX4_goes 30 = .ok (.istore 5, 2) := by decide +kernel
theorem dX4_goes_32 : decode cX4_goes 32 = .ok (.iload 4, 2) := by decide +kernel
theorem dX4_goes_34 : decode cX4_goes 34 = .ok (.invokestatic 138, 3) := by decide +kernel
theorem dX4_goes_37 : decode cX4_goes 37 = .ok (.ifCond .eq 52, 3) := by decide +kernel
theorem dX4_goes_40 : decode cX4_goes 40 = .ok (.aload_n 0, 1) := by decide +kernel
theorem dX4_goes_41 : decode cX4_goes 41 = .ok (.dup, 1) := by decide +kernel
theorem dX4_goes_42 : decode cX4_goes 42 = .ok (.getfield 126, 3) := by decide +kernel
theorem dX4_goes_45 : decode cX4_goes 45 = .ok (.iconst 1, 1) := by decide +kernel
theorem dX4_goes_46 : decode cX4_goes 46 = .ok (.iadd, 1) := by decide +kernel
theorem dX4_goes_47 : decode cX4_goes 47 = .ok (.putfield 126, 3) := by decide +kernel
theorem dX4_goes_50 : decode cX4_goes 50 = .ok (.aload_n 0, 1) := by decide +kernel
theorem dX4_goes_51 : decode cX4_goes 51 = .ok (.iload 4, 2) := by decide +kernel
theorem dX4_goes_53 : decode cX4_goes 53 = .ok (.invokevirtual 141, 3) := by decide +kernel
theorem dX4_goes_56 : decode cX4_goes 56 = .ok (.pop, 1) := by decide +kernel
theorem dX4_goes_57 : decode cX4_goes 57 = .ok (.iload_n 2, 1) := by decide +kernel
theorem dX4_goes_58 : decode cX4_goes 58 = .ok (.bipush 100, 2) := by decide +kernel
theorem dX4_goes_60 : decode cX4_goes 60 = .ok (.if_icmp .eq 16, 3) := by decide +kernel
theorem dX4_goes_63 : decode cX4_goes 63 = .ok (.iload_n 1, 1) := by decide +kernel
theorem dX4_goes_64 : decode cX4_goes 64 = .ok (.ifCond .eq 19, 3) := by decide +kernel
theorem dX4_goes_67 : decode cX4_goes 67 = .ok (.aload_n 0, 1) := by decide +kernel
theorem dX4_goes_68 : decode cX4_goes 68 = .ok (.iload 4, 2) := by decide +kernel
theorem dX4_goes_70 : decode cX4_goes 70 = .ok (.invokevirtual 156, 3) := by decide +kernel
theorem dX4_goes_73 : decode cX4_goes 73 = .ok (.ifCond .ge 10, 3) := by decide +kernel
theorem dX4_goes_76 : decode cX4_goes 76 = .ok (.sipush (-1000), 3) := by decide +kernel
theorem dX4_goes_79 : decode cX4_goes 79 = .ok (.iload 5, 2) := by decide +kernel
theorem dX4_goes_81 : decode cX4_goes 81 = .ok (.isub, 1) := by decide +kernel
theorem dX4_goes_82 : decode cX4_goes 82 = .ok (.ireturn, 1) := by decide +kernel
theorem dX4_goes_83 : decode cX4_goes 83 = .ok (.iinc 2 1, 3) := by decide +kernel
theorem dX4_goes_86 : decode cX4_goes 86 = .ok (.goto 147, 3) := by decide +kernel
theorem dX4_goes_89 : decode cX4_goes 89 = .ok (.iload 4, 2) := by decide +kernel
theorem dX4_goes_91 : decode cX4_goes 91 = .ok (.bipush 41, 2) := by decide +kernel
theorem dX4_goes_93 : decode cX4_goes 93 = .ok (.if_icmp .ne 84, 3) := by decide +kernel
theorem dX4_goes_96 : decode cX4_goes 96 = .ok (.aload_n 0, 1) := by decide +kernel
theorem dX4_goes_97 : decode cX4_goes 97 = .ok (.getfield 25, 3) := by decide +kernel
theorem dX4_goes_100 : decode cX4_goes 100 = .ok (.iload_n 3, 1) := by decide +kernel
theorem dX4_goes_101 : decode cX4_goes 101 = .ok (.iconst 1, 1) := by decide +kernel
theorem dX4_goes_102 : decode cX4_goes 102 = .ok (.isub, 1) := by decide +kernel
theorem dX4_goes_103 : decode cX4_goes 103 = .ok (.iaload, 1) := by decide +kernel
theorem dX4_goes_104 : decode cX4_goes 104 = .ok (.ifCond .le 7, 3) := by decide +kernel
theorem dX4_goes_107 : decode cX4_goes 107 = .ok (.iconst 1, 1) := by decide +kernel
theorem dX4_goes_108 : decode cX4_goes 108 = .ok (.goto 4, 3) := by decide +kernel
theorem dX4_goes_111 : decode cX4_goes 111 = .ok (.iconst 0, 1) := by decide +kernel
theorem dX4_goes_112 : decode cX4_goes 112 = .ok (.istore 6, 2) := by decide +kernel
theorem dX4_goes_114 : decode cX4_goes 114 = .ok (.aload_n 0, 1) := by decide +kernel
theorem dX4_goes_115 : decode cX4_goes 115 = .ok (.getfield 25, 3) := by decide +kernel
theorem dX4_goes_118 : decode cX4_goes 118 = .ok (.iload_n 3, 1) := by decide +kernel
theorem dX4_goes_119 : decode cX4_goes 119 = .ok (.iconst 1, 1) := by decide +kernel
theorem dX4_goes_120 : decode cX4_goes 120 = .ok (.isub, 1) := by decide +kernel
theorem dX4_goes_121 : decode cX4_goes 121 = .ok (.dup2, 1) := by decide +kernel
theorem dX4_goes_122 : decode cX4_goes 122 = .ok (.iaload, 1) := by decide +kernel
theorem dX4_goes_123 : decode cX4_goes 123 = .ok (.iload 6, 2) := by decide +kernel
theorem dX4_goes_125 : decode cX4_goes 125 = .ok (.ifCond .eq 7, 3) := by decide +kernel
theorem dX4_goes_128 : decode cX4_goes 128 = .ok (.iconst 1, 1) := by decide +kernel
theorem dX4_goes_129 : decode cX4_goes 129 = .ok (.goto 4, 3) := by decide +kernel
theorem dX4_goes_132 : decode cX4_goes 132 = .ok (.iconst 0, 1) := by decide +kernel
theorem dX4_goes_133 : decode cX4_goes 133 = .ok (.isub, 1) := by decide +kernel
theorem dX4_goes_134 : decode cX4_goes 134 = .ok (.iastore, 1) := by decide +kernel
theorem dX4_goes_135 : decode cX4_goes 135 = .ok (.aload_n 0, 1) := by decide +kernel
theorem dX4_goes_136 : decode cX4_goes 136 = .ok (.iload 6, 2) := by decide +kernel
theorem dX4_goes_138 : decode cX4_goes 138 = .ok (.ifCond .eq 14, 3) := by decide +kernel
theorem dX4_goes_141 : decode cX4_goes 141 = .ok (.aload_n 0, 1) := by decide +kernel
theorem dX4_goes_142 : decode cX4_goes 142 = .ok (.getfield 22, 3) := by decide +kernel
theorem dX4_goes_145 : decode cX4_goes 145 = .ok (.iload_n 3, 1) := by decide +kernel
theorem dX4_goes_146 : decode cX4_goes 146 = .ok (.iconst 1, 1) := by decide +kernel
theorem dX4_goes_147 : decode cX4_goes 147 = .ok (.isub, 1) := by decide +kernel
theorem dX4_goes_148 : decode cX4_goes 148 = .ok (.iaload, 1) := by decide +kernel
theorem dX4_goes_149 : decode cX4_goes 149 = .ok (.goto 9, 3) := by decide +kernel
theorem dX4_goes_152 : decode cX4_goes 152 = .ok (.aload_n 0, 1) := by decide +kernel
theorem dX4_goes_153 : decode cX4_goes 153 = .ok (.getfield 126, 3) := by decide +kernel
theorem dX4_goes_156 : decode cX4_goes 156 = .ok (.iconst 1, 1) := by decide +kernel
theorem dX4_goes_157 : decode cX4_goes 157 = .ok (.iadd, 1) := by decide +kernel
theorem dX4_goes_158 : decode cX4_goes 158 = .ok (.putfield 126, 3) := by decide +kernel
theorem dX4_goes_161 : decode cX4_goes 161 = .ok (.iload_n 3, 1) := by decide +kernel
theorem dX4_goes_162 : decode cX4_goes 162 = .ok (.iload 6, 2) := by decide +kernel
theorem dX4_goes_164 : decode cX4_goes 164 = .ok (.ifCond .eq 7, 3) := by decide +kernel
theorem dX4_goes_167 : decode cX4_goes 167 = .ok (.iconst 0, 1) := by decide +kernel
theorem dX4_goes_168 : decode cX4_goes 168 = .ok (.goto 4, 3) := by decide +kernel
theorem dX4_goes_171 : decode cX4_goes 171 = .ok (.iconst 1, 1) := by decide +kernel
theorem dX4_goes_172 : decode cX4_goes 172 = .ok (.isub, 1) := by decide +kernel
theorem dX4_goes_173 : decode cX4_goes 173 = .ok (.istore_n 3, 1) := by decide +kernel
theorem dX4_goes_174 : decode cX4_goes 174 = .ok (.goto 59, 3) := by decide +kernel
theorem dX4_goes_177 : decode cX4_goes 177 = .ok (.aload_n 0, 1) := by decide +kernel
theorem dX4_goes_178 : decode cX4_goes 178 = .ok (.getfield 25, 3) := by decide +kernel
theorem dX4_goes_181 : decode cX4_goes 181 = .ok (.iload_n 3, 1) := by decide +kernel
theorem dX4_goes_182 : decode cX4_goes 182 = .ok (.iload 4, 2) := by decide +kernel
theorem dX4_goes_184 : decode cX4_goes 184 = .ok (.bipush 40, 2) := by decide +kernel
theorem dX4_goes_186 : decode cX4_goes 186 = .ok (.if_icmp .ne 7, 3) := by decide +kernel
theorem dX4_goes_189 : decode cX4_goes 189 = .ok (.iconst 0, 1) := by decide +kernel
theorem dX4_goes_190 : decode cX4_goes 190 = .ok (.goto 8, 3) := by decide +kernel
theorem dX4_goes_193 : decode cX4_goes 193 = .ok (.iload 4, 2) := by decide +kernel
theorem dX4_goes_195 : decode cX4_goes 195 = .ok (.bipush 49, 2) := by decide +kernel
theorem dX4_goes_197 : decode cX4_goes 197 = .ok (.isub, 1) := by decide +kernel
theorem dX4_goes_198 : decode cX4_goes 198 = .ok (.iastore, 1) := by decide +kernel
theorem dX4_goes_199 : decode cX4_goes 199 = .ok (.aload_n 0, 1) := by decide +kernel
theorem dX4_goes_200 : decode cX4_goes 200 = .ok (.dup, 1) := by decide +kernel
theorem dX4_goes_201 : decode cX4_goes 201 = .ok (.getfield 126, 3) := by decide +kernel
theorem dX4_goes_204 : decode cX4_goes 204 = .ok (.iload 4, 2) := by decide +kernel
theorem dX4_goes_206 : decode cX4_goes 206 = .ok (.bipush 40, 2) := by decide +kernel
theorem dX4_goes_208 : decode cX4_goes 208 = .ok (.if_icmp .ne 7, 3) := by decide +kernel
theorem dX4_goes_211 : decode cX4_goes 211 = .ok (.iconst 1, 1) := by decide +kernel
theorem dX4_goes_212 : decode cX4_goes 212 = .ok (.goto 4, 3) := by decide +kernel
theorem dX4_goes_215 : decode cX4_goes 215 = .ok (.iconst 2, 1) := by decide +kernel
theorem dX4_goes_216 : decode cX4_goes 216 = .ok (.iadd, 1) := by decide +kernel
theorem dX4_goes_217 : decode cX4_goes 217 = .ok (.putfield 126, 3) := by decide +kernel
theorem dX4_goes_220 : decode cX4_goes 220 = .ok (.aload_n 0, 1) := by decide +kernel
theorem dX4_goes_221 : decode cX4_goes 221 = .ok (.getfield 22, 3) := by decide +kernel
theorem dX4_goes_224 : decode cX4_goes 224 = .ok (.iload_n 3, 1) := by decide +kernel
theorem dX4_goes_225 : decode cX4_goes 225 = .ok (.aload_n 0, 1) := by decide +kernel
theorem dX4_goes_226 : decode cX4_goes 226 = .ok (.getfield 126, 3) := by decide +kernel
theorem dX4_goes_229 : decode cX4_goes 229 = .ok (.iastore, 1) := by decide +kernel
theorem dX4_goes_230 : decode cX4_goes 230 = .ok (.iinc 3 1, 3) := by decide +kernel
theorem dX4_goes_233 : decode cX4_goes 233 = .ok (.goto (-224), 3) := by decide +kernel
theorem dX4_goes_236 : decode cX4_goes 236 = .ok (.iload_n 2, 1) := by decide +kernel
theorem dX4_goes_237 : decode cX4_goes 237 = .ok (.ireturn, 1) := by decide +kernel
set_option maxRecDepth 20000 in
theorem ggX4_run_X4_readsAll : GoodIn wsX4_run wsX4_readsAll := goodIn_r _ [9, 1, 10, 11, 12, 13, 8, 14, 15, 16, 17, 18, 19, 20, 21, 22, 23, 24, 25, 26, 27, 28, 29, 30, 31, 32, 33, 34, 144, 145, 146, 147, 148, 149, 150, 151, 152, 153, 154] (by decide +kernel) (by decide +kernel)
set_option maxRecDepth 20000 in
theorem gX4_run_X4_readsAll : GoodIn wsX4_run (wsV RX4 159 RX4 yX4_readsAll wsX4_readsAll) := goodIn_app (goodIn_of _ (by decide +kernel)) ggX4_run_X4_readsAll
set_option maxRecDepth 20000 in
theorem ggX4_run_X4_goes : GoodIn wsX4_run wsX4_goes := goodIn_r _ [38, 1, 10, 39, 40, 11, 12, 13, 8, 14, 15, 16, 17, 18, 19, 20, 21, 22, 23, 24, 25, 26, 27, 28, 29, 30, 31, 32, 33, 34, 41, 42, 43, 44, 45, 46, 47, 48, 49, 50, 51, 52, 53, 54, 55, 3, 56, 57, 58, 59, 60, 61, 62, 63, 64, 65, 66, 67, 2, 68, 69, 70, 71, 72, 73, 74, 75, 76, 77, 78, 79, 80, 81, 82, 83, 84, 85, 86, 87, 88, 89, 90, 91, 92, 93, 94, 95, 96, 97, 98, 99, 100, 101, 102, 103, 104, 105, 106, 107, 108, 109, 110, 111, 112, 113, 114, 115, 116, 117, 118, 119, 120, 121, 122, 123, 124, 125, 126, 127, 128, 129, 130, 131, 132, 133, 134, 135, 144, 145, 146, 147, 148, 149, 150, 151, 152, 153, 154] (by decide +kernel) (by decide +kernel)
set_option maxRecDepth 20000 in
theorem gX4_run_X4_goes : GoodIn wsX4_run (wsV RX4 163 RX4 yX4_goes wsX4_goes) := goodIn_app (goodIn_of _ (by decide +kernel)) ggX4_run_X4_goes
set_option maxRecDepth 20000 in
theorem ggX4_run_X4_puts : GoodIn wsX4_run wsX4_puts := goodIn_r _ [139, 4, 3, 144, 145, 146, 147, 148, 149, 150, 151, 152, 153, 154] (by decide +kernel) (by decide +kernel)
set_option maxRecDepth 20000 in
theorem gX4_run_X4_puts : GoodIn wsX4_run (wsV RX4 167 RX4 yX4_puts wsX4_puts) := goodIn_app (goodIn_of _ (by decide +kernel)) ggX4_run_X4_puts
set_option maxRecDepth 20000 in
theorem ggX4_run_X4_back : GoodIn wsX4_run wsX4_back := goodIn_r _ [143, 3, 4, 144, 145, 146, 147, 148, 149, 150, 151, 152, 153, 154] (by decide +kernel) (by decide +kernel)
set_option maxRecDepth 20000 in
theorem gX4_run_X4_back : GoodIn wsX4_run (wsV RX4 170 RX4 yX4_back wsX4_back) := goodIn_app (goodIn_of _ (by decide +kernel)) ggX4_run_X4_back
set_option maxRecDepth 20000 in
theorem ggX4_run_X4_saves : GoodIn wsX4_run wsX4_saves := goodIn_r _ [67, 2, 68, 69, 3, 144, 145, 146, 147, 148, 149, 150, 151, 152, 153, 154] (by decide +kernel) (by decide +kernel)
set_option maxRecDepth 20000 in
theorem gX4_run_X4_saves : GoodIn wsX4_run (wsV RX4 51 RX4 yX4_saves wsX4_saves) := goodIn_app (goodIn_of _ (by decide +kernel)) ggX4_run_X4_saves
theorem dX4_run_0 : decode cX4_run 0 = .ok (.aload_n 0, 1) := by decide +kernel
theorem dX4_run_1 : decode cX4_run 1 = .ok (.invokevirtual 159, 3) := by decide +kernel
theorem dX4_run_4 : decode cX4_run 4 = .ok (.ifCond .ne 12, 3) := by decide +kernel
theorem dX4_run_7 : decode cX4_run 7 = .ok (.sipush (-1000), 3) := by decide +kernel
theorem dX4_run_10 : decode cX4_run 10 = .ok (.aload_n 0, 1) := by decide +kernel
theorem dX4_run_11 : decode cX4_run 11 = .ok (.getfield 126, 3) := by decide +kernel
theorem dX4_run_14 : decode cX4_run 14 = .ok (.isub, 1) := by decide +kernel
theorem dX4_run_15 : decode cX4_run 15 = .ok (.ireturn, 1) := by decide +kernel
theorem dX4_run_16 : decode cX4_run 16 = .ok (.aload_n 0, 1) := by decide +kernel
theorem dX4_run_17 : decode cX4_run 17 = .ok (.iconst 0, 1) := by decide +kernel
theorem dX4_run_18 : decode cX4_run 18 = .ok (.invokevirtual 163, 3) := by decide +kernel
theorem dX4_run_21 : decode cX4_run 21 = .ok (.istore_n 1, 1) := by decide +kernel
theorem dX4_run_22 : decode cX4_run 22 = .ok (.iload_n 1, 1) := by decide +kernel
theorem dX4_run_23 : decode cX4_run 23 = .ok (.ifCond .ge 5, 3) := by decide +kernel
theorem dX4_run_26 : decode cX4_run 26 = .ok (.iload_n 1, 1) := by decide +kernel
theorem dX4_run_27 : decode cX4_run 27 = .ok (.ireturn, 1) := by decide +kernel
theorem dX4_run_28 : decode cX4_run 28 = .ok (.aload_n 0, 1) := by decide +kernel
theorem dX4_run_29 : decode cX4_run 29 = .ok (.invokevirtual 167, 3) := by decide +kernel
theorem dX4_run_32 : decode cX4_run 32 = .ok (.aload_n 0, 1) := by decide +kernel
theorem dX4_run_33 : decode cX4_run 33 = .ok (.iconst 1, 1) := by decide +kernel
theorem dX4_run_34 : decode cX4_run 34 = .ok (.putfield 31, 3) := by decide +kernel
theorem dX4_run_37 : decode cX4_run 37 = .ok (.aload_n 0, 1) := by decide +kernel
theorem dX4_run_38 : decode cX4_run 38 = .ok (.iconst 1, 1) := by decide +kernel
theorem dX4_run_39 : decode cX4_run 39 = .ok (.invokevirtual 163, 3) := by decide +kernel
theorem dX4_run_42 : decode cX4_run 42 = .ok (.istore_n 1, 1) := by decide +kernel
theorem dX4_run_43 : decode cX4_run 43 = .ok (.aload_n 0, 1) := by decide +kernel
theorem dX4_run_44 : decode cX4_run 44 = .ok (.iconst 0, 1) := by decide +kernel
theorem dX4_run_45 : decode cX4_run 45 = .ok (.putfield 31, 3) := by decide +kernel
theorem dX4_run_48 : decode cX4_run 48 = .ok (.iload_n 1, 1) := by decide +kernel
theorem dX4_run_49 : decode cX4_run 49 = .ok (.ifCond .ge 9, 3) := by decide +kernel
theorem dX4_run_52 : decode cX4_run 52 = .ok (.aload_n 0, 1) := by decide +kernel
theorem dX4_run_53 : decode cX4_run 53 = .ok (.invokevirtual 170, 3) := by decide +kernel
theorem dX4_run_56 : decode cX4_run 56 = .ok (.iload_n 1, 1) := by decide +kernel
theorem dX4_run_57 : decode cX4_run 57 = .ok (.ireturn, 1) := by decide +kernel
theorem dX4_run_58 : decode cX4_run 58 = .ok (.iconst 0, 1) := by decide +kernel
theorem dX4_run_59 : decode cX4_run 59 = .ok (.istore_n 2, 1) := by decide +kernel
theorem dX4_run_60 : decode cX4_run 60 = .ok (.iload_n 2, 1) := by decide +kernel
theorem dX4_run_61 : decode cX4_run 61 = .ok (.sipush 965, 3) := by decide +kernel
theorem dX4_run_64 : decode cX4_run 64 = .ok (.if_icmp .ge 35, 3) := by decide +kernel
theorem dX4_run_67 : decode cX4_run 67 = .ok (.aload_n 0, 1) := by decide +kernel
theorem dX4_run_68 : decode cX4_run 68 = .ok (.getfield 7, 3) := by decide +kernel
theorem dX4_run_71 : decode cX4_run 71 = .ok (.iload_n 2, 1) := by decide +kernel
theorem dX4_run_72 : decode cX4_run 72 = .ok (.iaload, 1) := by decide +kernel
theorem dX4_run_73 : decode cX4_run 73 = .ok (.istore_n 3, 1) := by decide +kernel
theorem dX4_run_74 : decode cX4_run 74 = .ok (.aload_n 0, 1) := by decide +kernel
theorem dX4_run_75 : decode cX4_run 75 = .ok (.getfield 7, 3) := by decide +kernel
theorem dX4_run_78 : decode cX4_run 78 = .ok (.iload_n 2, 1) := by decide +kernel
theorem dX4_run_79 : decode cX4_run 79 = .ok (.aload_n 0, 1) := by decide +kernel
theorem dX4_run_80 : decode cX4_run 80 = .ok (.getfield 16, 3) := by decide +kernel
theorem dX4_run_83 : decode cX4_run 83 = .ok (.iload_n 2, 1) := by decide +kernel
theorem dX4_run_84 : decode cX4_run 84 = .ok (.iaload, 1) := by decide +kernel
theorem dX4_run_85 : decode cX4_run 85 = .ok (.iastore, 1) := by decide +kernel
theorem dX4_run_86 : decode cX4_run 86 = .ok (.aload_n 0, 1) := by decide +kernel
theorem dX4_run_87 : decode cX4_run 87 = .ok (.getfield 16, 3) := by decide +kernel
theorem dX4_run_90 : decode cX4_run 90 = .ok (.iload_n 2, 1) := by decide +kernel
theorem dX4_run_91 : decode cX4_run 91 = .ok (.iload_n 3, 1) := by decide +kernel
theorem dX4_run_92 : decode cX4_run 92 = .ok (.iastore, 1) := by decide +kernel
theorem dX4_run_93 : decode cX4_run 93 = .ok (.iinc 2 1, 3) := by decide +kernel
theorem dX4_run_96 : decode cX4_run 96 = .ok (.goto (-36), 3) := by decide +kernel
theorem dX4_run_99 : decode cX4_run 99 = .ok (.aload_n 0, 1) := by decide +kernel
theorem dX4_run_100 : decode cX4_run 100 = .ok (.invokevirtual 51, 3) := by decide +kernel
theorem dX4_run_103 : decode cX4_run 103 = .ok (.aload_n 0, 1) := by decide +kernel
theorem dX4_run_104 : decode cX4_run 104 = .ok (.invokevirtual 170, 3) := by decide +kernel
theorem dX4_run_107 : decode cX4_run 107 = .ok (.iload_n 1, 1) := by decide +kernel
theorem dX4_run_108 : decode cX4_run 108 = .ok (.ireturn, 1) := by decide +kernel
set_option maxRecDepth 20000 in
theorem ggX4_unlike_X4_of : GoodIn wsX4_unlike wsX4_of := goodIn_r _ [5, 6, 7, 8, 9, 10, 11, 12, 13, 14, 15, 16, 17] (by decide +kernel) (by decide +kernel)
set_option maxRecDepth 20000 in
theorem gX4_unlike_X4_of : GoodIn wsX4_unlike (wsV RX4 66 RX4 yX4_of wsX4_of) := goodIn_app (goodIn_of _ (by decide +kernel)) ggX4_unlike_X4_of
theorem dX4_unlike_0 : decode cX4_unlike 0 = .ok (.iconst 0, 1) := by decide +kernel
theorem dX4_unlike_1 : decode cX4_unlike 1 = .ok (.istore_n 1, 1) := by decide +kernel
theorem dX4_unlike_2 : decode cX4_unlike 2 = .ok (.iconst 0, 1) := by decide +kernel
theorem dX4_unlike_3 : decode cX4_unlike 3 = .ok (.istore_n 2, 1) := by decide +kernel
theorem dX4_unlike_4 : decode cX4_unlike 4 = .ok (.iload_n 2, 1) := by decide +kernel
theorem dX4_unlike_5 : decode cX4_unlike 5 = .ok (.bipush 48, 2) := by decide +kernel
theorem dX4_unlike_7 : decode cX4_unlike 7 = .ok (.if_icmp .ge 51, 3) := by decide +kernel
theorem dX4_unlike_10 : decode cX4_unlike 10 = .ok (.iload_n 1, 1) := by decide +kernel
theorem dX4_unlike_11 : decode cX4_unlike 11 = .ok (.aload_n 0, 1) := by decide +kernel
theorem dX4_unlike_12 : decode cX4_unlike 12 = .ok (.iconst 0, 1) := by decide +kernel
theorem dX4_unlike_13 : decode cX4_unlike 13 = .ok (.iload_n 2, 1) := by decide +kernel
theorem dX4_unlike_14 : decode cX4_unlike 14 = .ok (.iconst 0, 1) := by decide +kernel
theorem dX4_unlike_15 : decode cX4_unlike 15 = .ok (.invokevirtual 66, 3) := by decide +kernel
theorem dX4_unlike_18 : decode cX4_unlike 18 = .ok (.aload_n 0, 1) := by decide +kernel
theorem dX4_unlike_19 : decode cX4_unlike 19 = .ok (.iconst 1, 1) := by decide +kernel
theorem dX4_unlike_20 : decode cX4_unlike 20 = .ok (.iload_n 2, 1) := by decide +kernel
theorem dX4_unlike_21 : decode cX4_unlike 21 = .ok (.iconst 0, 1) := by decide +kernel
theorem dX4_unlike_22 : decode cX4_unlike 22 = .ok (.invokevirtual 66, 3) := by decide +kernel
theorem dX4_unlike_25 : decode cX4_unlike 25 = .ok (.if_icmp .ne 20, 3) := by decide +kernel
theorem dX4_unlike_28 : decode cX4_unlike 28 = .ok (.aload_n 0, 1) := by decide +kernel
theorem dX4_unlike_29 : decode cX4_unlike 29 = .ok (.iconst 0, 1) := by decide +kernel
theorem dX4_unlike_30 : decode cX4_unlike 30 = .ok (.iload_n 2, 1) := by decide +kernel
theorem dX4_unlike_31 : decode cX4_unlike 31 = .ok (.iconst 1, 1) := by decide +kernel
theorem dX4_unlike_32 : decode cX4_unlike 32 = .ok (.invokevirtual 66, 3) := by decide +kernel
theorem dX4_unlike_35 : decode cX4_unlike 35 = .ok (.aload_n 0, 1) := by decide +kernel
theorem dX4_unlike_36 : decode cX4_unlike 36 = .ok (.iconst 1, 1) := by decide +kernel
theorem dX4_unlike_37 : decode cX4_unlike 37 = .ok (.iload_n 2, 1) := by decide +kernel
theorem dX4_unlike_38 : decode cX4_unlike 38 = .ok (.iconst 1, 1) := by decide +kernel
theorem dX4_unlike_39 : decode cX4_unlike 39 = .ok (.invokevirtual 66, 3) := by decide +kernel
theorem dX4_unlike_42 : decode cX4_unlike 42 = .ok (.if_icmp .eq 7, 3) := by decide +kernel
theorem dX4_unlike_45 : decode cX4_unlike 45 = .ok (.iconst 1, 1) := by decide +kernel
theorem dX4_unlike_46 : decode cX4_unlike 46 = .ok (.goto 4, 3) := by decide +kernel
theorem dX4_unlike_49 : decode cX4_unlike 49 = .ok (.iconst 0, 1) := by decide +kernel
theorem dX4_unlike_50 : decode cX4_unlike 50 = .ok (.iadd, 1) := by decide +kernel
theorem dX4_unlike_51 : decode cX4_unlike 51 = .ok (.istore_n 1, 1) := by decide +kernel
theorem dX4_unlike_52 : decode cX4_unlike 52 = .ok (.iinc 2 1, 3) := by decide +kernel
theorem dX4_unlike_55 : decode cX4_unlike 55 = .ok (.goto (-51), 3) := by decide +kernel
theorem dX4_unlike_58 : decode cX4_unlike 58 = .ok (.iload_n 1, 1) := by decide +kernel
theorem dX4_unlike_59 : decode cX4_unlike 59 = .ok (.ireturn, 1) := by decide +kernel
set_option maxRecDepth 20000 in
theorem ggX4_count_X4_sectorUnder : GoodIn wsX4_count wsX4_sectorUnder := goodIn_r _ [8, 1, 29, 30, 31, 32, 33, 34, 35, 36, 37, 38, 39] (by decide +kernel) (by decide +kernel)
set_option maxRecDepth 20000 in
theorem gX4_count_X4_sectorUnder : GoodIn wsX4_count (wsV RX4 81 RX4 yX4_sectorUnder wsX4_sectorUnder) := goodIn_app (goodIn_of _ (by decide +kernel)) ggX4_count_X4_sectorUnder
set_option maxRecDepth 20000 in
theorem ggX4_count_X4_inState : GoodIn wsX4_count wsX4_inState := goodIn_r _ [12, 1, 13, 14, 15, 7, 16, 29, 30, 31, 32, 33, 34, 35, 36, 37, 38, 39] (by decide +kernel) (by decide +kernel)
set_option maxRecDepth 20000 in
theorem gX4_count_X4_inState : GoodIn wsX4_count (wsV RX4 47 RX4 yX4_inState wsX4_inState) := goodIn_app (goodIn_of _ (by decide +kernel)) ggX4_count_X4_inState
set_option maxRecDepth 20000 in
theorem ggX4_count_X4_copiesThat : GoodIn wsX4_count wsX4_copiesThat := goodIn_r _ [20, 21, 22, 23, 7, 24, 1, 29, 30, 31, 32, 33, 34, 35, 36, 37, 38, 39] (by decide +kernel) (by decide +kernel)
set_option maxRecDepth 20000 in
theorem gX4_count_X4_copiesThat : GoodIn wsX4_count (wsV RX4 117 RX4 yX4_copiesThat wsX4_copiesThat) := goodIn_app (goodIn_of _ (by decide +kernel)) ggX4_count_X4_copiesThat
set_option maxRecDepth 20000 in
theorem ggX4_count_X4_unlike : GoodIn wsX4_count wsX4_unlike := goodIn_r _ [28, 21, 22, 23, 7, 24, 1, 29, 30, 31, 32, 33, 34, 35, 36, 37, 38, 39] (by decide +kernel) (by decide +kernel)
set_option maxRecDepth 20000 in
theorem gX4_count_X4_unlike : GoodIn wsX4_count (wsV RX4 173 RX4 yX4_unlike wsX4_unlike) := goodIn_app (goodIn_of _ (by decide +kernel)) ggX4_count_X4_unlike
theorem dX4_count_0 : decode cX4_count 0 = .ok (.iload_n 1, 1) := by decide +kernel
theorem dX4_count_1 : decode cX4_count 1 = .ok (.tableswitch 153 0 14 #[75, 82, 89, 89, 97, 104, 104, 104, 112, 118, 124, 129, 136, 143, 148], 75) := by decide +kernel
theorem dX4_count_76 : decode cX4_count 76 = .ok (.aload_n 0, 1) := by decide +kernel
theorem dX4_count_77 : decode cX4_count 77 = .ok (.getfield 7, 3) := by decide +kernel
theorem dX4_count_80 : decode cX4_count 80 = .ok (.iconst 0, 1) := by decide +kernel
theorem dX4_count_81 : decode cX4_count 81 = .ok (.iaload, 1) := by decide +kernel
theorem dX4_count_82 : decode cX4_count 82 = .ok (.ireturn, 1) := by decide +kernel
theorem dX4_count_83 : decode cX4_count 83 = .ok (.aload_n 0, 1) := by decide +kernel
theorem dX4_count_84 : decode cX4_count 84 = .ok (.getfield 7, 3) := by decide +kernel
theorem dX4_count_87 : decode cX4_count 87 = .ok (.iconst 1, 1) := by decide +kernel
theorem dX4_count_88 : decode cX4_count 88 = .ok (.iaload, 1) := by decide +kernel
theorem dX4_count_89 : decode cX4_count 89 = .ok (.ireturn, 1) := by decide +kernel
theorem dX4_count_90 : decode cX4_count 90 = .ok (.aload_n 0, 1) := by decide +kernel
theorem dX4_count_91 : decode cX4_count 91 = .ok (.iload_n 1, 1) := by decide +kernel
theorem dX4_count_92 : decode cX4_count 92 = .ok (.iconst 2, 1) := by decide +kernel
theorem dX4_count_93 : decode cX4_count 93 = .ok (.isub, 1) := by decide +kernel
theorem dX4_count_94 : decode cX4_count 94 = .ok (.invokevirtual 81, 3) := by decide +kernel
theorem dX4_count_97 : decode cX4_count 97 = .ok (.ireturn, 1) := by decide +kernel
theorem dX4_count_98 : decode cX4_count 98 = .ok (.aload_n 0, 1) := by decide +kernel
theorem dX4_count_99 : decode cX4_count 99 = .ok (.getfield 7, 3) := by decide +kernel
theorem dX4_count_102 : decode cX4_count 102 = .ok (.iconst 2, 1) := by decide +kernel
theorem dX4_count_103 : decode cX4_count 103 = .ok (.iaload, 1) := by decide +kernel
theorem dX4_count_104 : decode cX4_count 104 = .ok (.ireturn, 1) := by decide +kernel
theorem dX4_count_105 : decode cX4_count 105 = .ok (.aload_n 0, 1) := by decide +kernel
theorem dX4_count_106 : decode cX4_count 106 = .ok (.iload_n 1, 1) := by decide +kernel
theorem dX4_count_107 : decode cX4_count 107 = .ok (.iconst 5, 1) := by decide +kernel
theorem dX4_count_108 : decode cX4_count 108 = .ok (.isub, 1) := by decide +kernel
theorem dX4_count_109 : decode cX4_count 109 = .ok (.invokevirtual 47, 3) := by decide +kernel
theorem dX4_count_112 : decode cX4_count 112 = .ok (.ireturn, 1) := by decide +kernel
theorem dX4_count_113 : decode cX4_count 113 = .ok (.aload_n 0, 1) := by decide +kernel
theorem dX4_count_114 : decode cX4_count 114 = .ok (.iconst 3, 1) := by decide +kernel
theorem dX4_count_115 : decode cX4_count 115 = .ok (.invokevirtual 117, 3) := by decide +kernel
theorem dX4_count_118 : decode cX4_count 118 = .ok (.ireturn, 1) := by decide +kernel
theorem dX4_count_119 : decode cX4_count 119 = .ok (.aload_n 0, 1) := by decide +kernel
theorem dX4_count_120 : decode cX4_count 120 = .ok (.iconst 2, 1) := by decide +kernel
theorem dX4_count_121 : decode cX4_count 121 = .ok (.invokevirtual 117, 3) := by decide +kernel
theorem dX4_count_124 : decode cX4_count 124 = .ok (.ireturn, 1) := by decide +kernel
theorem dX4_count_125 : decode cX4_count 125 = .ok (.aload_n 0, 1) := by decide +kernel
theorem dX4_count_126 : decode cX4_count 126 = .ok (.invokevirtual 173, 3) := by decide +kernel
theorem dX4_count_129 : decode cX4_count 129 = .ok (.ireturn, 1) := by decide +kernel
theorem dX4_count_130 : decode cX4_count 130 = .ok (.aload_n 0, 1) := by decide +kernel
theorem dX4_count_131 : decode cX4_count 131 = .ok (.getfield 7, 3) := by decide +kernel
theorem dX4_count_134 : decode cX4_count 134 = .ok (.iconst 3, 1) := by decide +kernel
theorem dX4_count_135 : decode cX4_count 135 = .ok (.iaload, 1) := by decide +kernel
theorem dX4_count_136 : decode cX4_count 136 = .ok (.ireturn, 1) := by decide +kernel
theorem dX4_count_137 : decode cX4_count 137 = .ok (.aload_n 0, 1) := by decide +kernel
theorem dX4_count_138 : decode cX4_count 138 = .ok (.getfield 7, 3) := by decide +kernel
theorem dX4_count_141 : decode cX4_count 141 = .ok (.iconst 4, 1) := by decide +kernel
theorem dX4_count_142 : decode cX4_count 142 = .ok (.iaload, 1) := by decide +kernel
theorem dX4_count_143 : decode cX4_count 143 = .ok (.ireturn, 1) := by decide +kernel
theorem dX4_count_144 : decode cX4_count 144 = .ok (.aload_n 0, 1) := by decide +kernel
theorem dX4_count_145 : decode cX4_count 145 = .ok (.getfield 35, 3) := by decide +kernel
theorem dX4_count_148 : decode cX4_count 148 = .ok (.ireturn, 1) := by decide +kernel
theorem dX4_count_149 : decode cX4_count 149 = .ok (.aload_n 0, 1) := by decide +kernel
theorem dX4_count_150 : decode cX4_count 150 = .ok (.getfield 123, 3) := by decide +kernel
theorem dX4_count_153 : decode cX4_count 153 = .ok (.ireturn, 1) := by decide +kernel
theorem dX4_count_154 : decode cX4_count 154 = .ok (.iconst (-1), 1) := by decide +kernel
theorem dX4_count_155 : decode cX4_count 155 = .ok (.ireturn, 1) := by decide +kernel
set_option maxRecDepth 20000 in
theorem ggX4_copy_X4_within : GoodIn wsX4_copy wsX4_within := goodIn_r _ [4] (by decide +kernel) (by decide +kernel)
set_option maxRecDepth 20000 in
theorem gX4_copy_X4_within : GoodIn wsX4_copy (va_wsS RX4 39 yX4_within wsX4_within) := goodIn_app (goodIn_of _ (by decide +kernel)) ggX4_copy_X4_within
set_option maxRecDepth 20000 in
theorem ggX4_copy_X4_isBlock : GoodIn wsX4_copy wsX4_isBlock := goodIn_r _ [7, 1, 2, 3, 4] (by decide +kernel) (by decide +kernel)
set_option maxRecDepth 20000 in
theorem gX4_copy_X4_isBlock : GoodIn wsX4_copy (va_wsS RX4 58 yX4_isBlock wsX4_isBlock) := goodIn_app (goodIn_of _ (by decide +kernel)) ggX4_copy_X4_isBlock
set_option maxRecDepth 20000 in
theorem ggX4_copy_X4_of : GoodIn wsX4_copy wsX4_of := goodIn_r _ [11, 12, 13, 14, 15, 16, 17, 18, 19, 20, 21, 22, 23] (by decide +kernel) (by decide +kernel)
set_option maxRecDepth 20000 in
theorem gX4_copy_X4_of : GoodIn wsX4_copy (wsV RX4 66 RX4 yX4_of wsX4_of) := goodIn_app (goodIn_of _ (by decide +kernel)) ggX4_copy_X4_of
theorem dX4_copy_0 : decode cX4_copy 0 = .ok (.iload_n 1, 1) := by decide +kernel
theorem dX4_copy_1 : decode cX4_copy 1 = .ok (.iconst 0, 1) := by decide +kernel
theorem dX4_copy_2 : decode cX4_copy 2 = .ok (.iconst 1, 1) := by decide +kernel
theorem dX4_copy_3 : decode cX4_copy 3 = .ok (.invokestatic 39, 3) := by decide +kernel
theorem dX4_copy_6 : decode cX4_copy 6 = .ok (.ifCond .eq 21, 3) := by decide +kernel
theorem dX4_copy_9 : decode cX4_copy 9 = .ok (.iload_n 2, 1) := by decide +kernel
theorem dX4_copy_10 : decode cX4_copy 10 = .ok (.iload_n 3, 1) := by decide +kernel
theorem dX4_copy_11 : decode cX4_copy 11 = .ok (.invokestatic 58, 3) := by decide +kernel
theorem dX4_copy_14 : decode cX4_copy 14 = .ok (.ifCond .eq 13, 3) := by decide +kernel
theorem dX4_copy_17 : decode cX4_copy 17 = .ok (.iload 4, 2) := by decide +kernel
theorem dX4_copy_19 : decode cX4_copy 19 = .ok (.iconst 0, 1) := by decide +kernel
theorem dX4_copy_20 : decode cX4_copy 20 = .ok (.iconst 3, 1) := by decide +kernel
theorem dX4_copy_21 : decode cX4_copy 21 = .ok (.invokestatic 39, 3) := by decide +kernel
theorem dX4_copy_24 : decode cX4_copy 24 = .ok (.ifCond .ne 5, 3) := by decide +kernel
theorem dX4_copy_27 : decode cX4_copy 27 = .ok (.iconst (-1), 1) := by decide +kernel
theorem dX4_copy_28 : decode cX4_copy 28 = .ok (.ireturn, 1) := by decide +kernel
theorem dX4_copy_29 : decode cX4_copy 29 = .ok (.aload_n 0, 1) := by decide +kernel
theorem dX4_copy_30 : decode cX4_copy 30 = .ok (.iload_n 1, 1) := by decide +kernel
theorem dX4_copy_31 : decode cX4_copy 31 = .ok (.bipush 12, 2) := by decide +kernel
theorem dX4_copy_33 : decode cX4_copy 33 = .ok (.iload_n 2, 1) := by decide +kernel
theorem dX4_copy_34 : decode cX4_copy 34 = .ok (.imul, 1) := by decide +kernel
theorem dX4_copy_35 : decode cX4_copy 35 = .ok (.iload_n 3, 1) := by decide +kernel
theorem dX4_copy_36 : decode cX4_copy 36 = .ok (.iadd, 1) := by decide +kernel
theorem dX4_copy_37 : decode cX4_copy 37 = .ok (.iload 4, 2) := by decide +kernel
theorem dX4_copy_39 : decode cX4_copy 39 = .ok (.invokevirtual 66, 3) := by decide +kernel
theorem dX4_copy_42 : decode cX4_copy 42 = .ok (.ireturn, 1) := by decide +kernel
set_option maxRecDepth 20000 in
theorem ggX4_isOrder_X4_within : GoodIn wsX4_isOrder wsX4_within := goodIn_r _ [5] (by decide +kernel) (by decide +kernel)
set_option maxRecDepth 20000 in
theorem gX4_isOrder_X4_within : GoodIn wsX4_isOrder (va_wsS RX4 39 yX4_within wsX4_within) := goodIn_app (goodIn_of _ (by decide +kernel)) ggX4_isOrder_X4_within
theorem dX4_isOrder_0 : decode cX4_isOrder 0 = .ok (.iload_n 1, 1) := by decide +kernel
theorem dX4_isOrder_1 : decode cX4_isOrder 1 = .ok (.iconst 0, 1) := by decide +kernel
theorem dX4_isOrder_2 : decode cX4_isOrder 2 = .ok (.aload_n 0, 1) := by decide +kernel
theorem dX4_isOrder_3 : decode cX4_isOrder 3 = .ok (.getfield 7, 3) := by decide +kernel
theorem dX4_isOrder_6 : decode cX4_isOrder 6 = .ok (.iconst 2, 1) := by decide +kernel
theorem dX4_isOrder_7 : decode cX4_isOrder 7 = .ok (.iaload, 1) := by decide +kernel
theorem dX4_isOrder_8 : decode cX4_isOrder 8 = .ok (.iconst 1, 1) := by decide +kernel
theorem dX4_isOrder_9 : decode cX4_isOrder 9 = .ok (.isub, 1) := by decide +kernel
theorem dX4_isOrder_10 : decode cX4_isOrder 10 = .ok (.invokestatic 39, 3) := by decide +kernel
theorem dX4_isOrder_13 : decode cX4_isOrder 13 = .ok (.ireturn, 1) := by decide +kernel
set_option maxRecDepth 20000 in
theorem ggX4_order_X4_isOrder : GoodIn wsX4_order wsX4_isOrder := goodIn_r _ [5, 6, 7, 8, 4, 9, 14, 15, 16, 17, 18, 19, 20, 21, 22, 23, 24] (by decide +kernel) (by decide +kernel)
set_option maxRecDepth 20000 in
theorem gX4_order_X4_isOrder : GoodIn wsX4_order (wsV RX4 176 RX4 yX4_isOrder wsX4_isOrder) := goodIn_app (goodIn_of _ (by decide +kernel)) ggX4_order_X4_isOrder
set_option maxRecDepth 20000 in
theorem ggX4_order_X4_within : GoodIn wsX4_order wsX4_within := goodIn_r _ [9] (by decide +kernel) (by decide +kernel)
set_option maxRecDepth 20000 in
theorem gX4_order_X4_within : GoodIn wsX4_order (va_wsS RX4 39 yX4_within wsX4_within) := goodIn_app (goodIn_of _ (by decide +kernel)) ggX4_order_X4_within
set_option maxRecDepth 20000 in
theorem ggX4_order_X4_told : GoodIn wsX4_order wsX4_told := goodIn_r _ [13, 6, 14, 15, 16, 17, 18, 19, 20, 21, 22, 23, 24] (by decide +kernel) (by decide +kernel)
set_option maxRecDepth 20000 in
theorem gX4_order_X4_told : GoodIn wsX4_order (wsV RX4 43 RX4 yX4_told wsX4_told) := goodIn_app (goodIn_of _ (by decide +kernel)) ggX4_order_X4_told
theorem dX4_order_0 : decode cX4_order 0 = .ok (.aload_n 0, 1) := by decide +kernel
theorem dX4_order_1 : decode cX4_order 1 = .ok (.iload_n 1, 1) := by decide +kernel
theorem dX4_order_2 : decode cX4_order 2 = .ok (.invokevirtual 176, 3) := by decide +kernel
theorem dX4_order_5 : decode cX4_order 5 = .ok (.ifCond .eq 22, 3) := by decide +kernel
theorem dX4_order_8 : decode cX4_order 8 = .ok (.iload_n 2, 1) := by decide +kernel
theorem dX4_order_9 : decode cX4_order 9 = .ok (.iconst 0, 1) := by decide +kernel
theorem dX4_order_10 : decode cX4_order 10 = .ok (.bipush 7, 2) := by decide +kernel
theorem dX4_order_12 : decode cX4_order 12 = .ok (.invokestatic 39, 3) := by decide +kernel
theorem dX4_order_15 : decode cX4_order 15 = .ok (.ifCond .eq 12, 3) := by decide +kernel
theorem dX4_order_18 : decode cX4_order 18 = .ok (.aload_n 0, 1) := by decide +kernel
theorem dX4_order_19 : decode cX4_order 19 = .ok (.iload_n 1, 1) := by decide +kernel
theorem dX4_order_20 : decode cX4_order 20 = .ok (.iload_n 2, 1) := by decide +kernel
theorem dX4_order_21 : decode cX4_order 21 = .ok (.invokevirtual 43, 3) := by decide +kernel
theorem dX4_order_24 : decode cX4_order 24 = .ok (.goto 4, 3) := by decide +kernel
theorem dX4_order_27 : decode cX4_order 27 = .ok (.iconst (-1), 1) := by decide +kernel
theorem dX4_order_28 : decode cX4_order 28 = .ok (.ireturn, 1) := by decide +kernel
set_option maxRecDepth 20000 in
theorem ggX4_waitOf_X4_told : GoodIn wsX4_waitOf wsX4_told := goodIn_r _ [5, 6, 7, 8, 9, 10, 11, 12, 13, 14, 15, 16, 17] (by decide +kernel) (by decide +kernel)
set_option maxRecDepth 20000 in
theorem gX4_waitOf_X4_told : GoodIn wsX4_waitOf (wsV RX4 43 RX4 yX4_told wsX4_told) := goodIn_app (goodIn_of _ (by decide +kernel)) ggX4_waitOf_X4_told
theorem dX4_waitOf_0 : decode cX4_waitOf 0 = .ok (.aload_n 0, 1) := by decide +kernel
theorem dX4_waitOf_1 : decode cX4_waitOf 1 = .ok (.iload_n 1, 1) := by decide +kernel
theorem dX4_waitOf_2 : decode cX4_waitOf 2 = .ok (.iconst 5, 1) := by decide +kernel
theorem dX4_waitOf_3 : decode cX4_waitOf 3 = .ok (.invokevirtual 43, 3) := by decide +kernel
theorem dX4_waitOf_6 : decode cX4_waitOf 6 = .ok (.aload_n 0, 1) := by decide +kernel
theorem dX4_waitOf_7 : decode cX4_waitOf 7 = .ok (.iload_n 1, 1) := by decide +kernel
theorem dX4_waitOf_8 : decode cX4_waitOf 8 = .ok (.iconst 4, 1) := by decide +kernel
theorem dX4_waitOf_9 : decode cX4_waitOf 9 = .ok (.invokevirtual 43, 3) := by decide +kernel
theorem dX4_waitOf_12 : decode cX4_waitOf 12 = .ok (.isub, 1) := by decide +kernel
theorem dX4_waitOf_13 : decode cX4_waitOf 13 = .ok (.ireturn, 1) := by decide +kernel
set_option maxRecDepth 20000 in
theorem ggX4_waits_X4_within : GoodIn wsX4_waits wsX4_within := goodIn_r _ [5] (by decide +kernel) (by decide +kernel)
set_option maxRecDepth 20000 in
theorem gX4_waits_X4_within : GoodIn wsX4_waits (va_wsS RX4 39 yX4_within wsX4_within) := goodIn_app (goodIn_of _ (by decide +kernel)) ggX4_waits_X4_within
set_option maxRecDepth 20000 in
theorem ggX4_waits_X4_told : GoodIn wsX4_waits wsX4_told := goodIn_r _ [9, 1, 14, 15, 16, 17, 18, 19, 20, 21, 22, 23, 24] (by decide +kernel) (by decide +kernel)
set_option maxRecDepth 20000 in
theorem gX4_waits_X4_told : GoodIn wsX4_waits (wsV RX4 43 RX4 yX4_told wsX4_told) := goodIn_app (goodIn_of _ (by decide +kernel)) ggX4_waits_X4_told
set_option maxRecDepth 20000 in
theorem ggX4_waits_X4_waitOf : GoodIn wsX4_waits wsX4_waitOf := goodIn_r _ [13, 6, 7, 8, 4, 9, 1, 14, 15, 16, 17, 18, 19, 20, 21, 22, 23, 24] (by decide +kernel) (by decide +kernel)
set_option maxRecDepth 20000 in
theorem gX4_waits_X4_waitOf : GoodIn wsX4_waits (wsV RX4 179 RX4 yX4_waitOf wsX4_waitOf) := goodIn_app (goodIn_of _ (by decide +kernel)) ggX4_waits_X4_waitOf
theorem dX4_waits_0 : decode cX4_waits 0 = .ok (.iload_n 1, 1) := by decide +kernel
theorem dX4_waits_1 : decode cX4_waits 1 = .ok (.iconst 0, 1) := by decide +kernel
theorem dX4_waits_2 : decode cX4_waits 2 = .ok (.iconst 2, 1) := by decide +kernel
theorem dX4_waits_3 : decode cX4_waits 3 = .ok (.invokestatic 39, 3) := by decide +kernel
theorem dX4_waits_6 : decode cX4_waits 6 = .ok (.ifCond .ne 5, 3) := by decide +kernel
theorem dX4_waits_9 : decode cX4_waits 9 = .ok (.iconst (-1), 1) := by decide +kernel
theorem dX4_waits_10 : decode cX4_waits 10 = .ok (.ireturn, 1) := by decide +kernel
theorem dX4_waits_11 : decode cX4_waits 11 = .ok (.iconst 0, 1) := by decide +kernel
theorem dX4_waits_12 : decode cX4_waits 12 = .ok (.istore_n 2, 1) := by decide +kernel
theorem dX4_waits_13 : decode cX4_waits 13 = .ok (.bipush (-9), 2) := by decide +kernel
theorem dX4_waits_15 : decode cX4_waits 15 = .ok (.istore_n 3, 1) := by decide +kernel
theorem dX4_waits_16 : decode cX4_waits 16 = .ok (.iconst 0, 1) := by decide +kernel
theorem dX4_waits_17 : decode cX4_waits 17 = .ok (.istore 4, 2) := by decide +kernel
theorem dX4_waits_19 : decode cX4_waits 19 = .ok (.iload 4, 2) := by decide +kernel
theorem dX4_waits_21 : decode cX4_waits 21 = .ok (.aload_n 0, 1) := by decide +kernel
theorem dX4_waits_22 : decode cX4_waits 22 = .ok (.getfield 7, 3) := by decide +kernel
theorem dX4_waits_25 : decode cX4_waits 25 = .ok (.iconst 2, 1) := by decide +kernel
theorem dX4_waits_26 : decode cX4_waits 26 = .ok (.iaload, 1) := by decide +kernel
theorem dX4_waits_27 : decode cX4_waits 27 = .ok (.if_icmp .ge 77, 3) := by decide +kernel
theorem dX4_waits_30 : decode cX4_waits 30 = .ok (.aload_n 0, 1) := by decide +kernel
theorem dX4_waits_31 : decode cX4_waits 31 = .ok (.iload 4, 2) := by decide +kernel
theorem dX4_waits_33 : decode cX4_waits 33 = .ok (.iconst 3, 1) := by decide +kernel
theorem dX4_waits_34 : decode cX4_waits 34 = .ok (.invokevirtual 43, 3) := by decide +kernel
theorem dX4_waits_37 : decode cX4_waits 37 = .ok (.iconst 1, 1) := by decide +kernel
theorem dX4_waits_38 : decode cX4_waits 38 = .ok (.if_icmp .ne 7, 3) := by decide +kernel
theorem dX4_waits_41 : decode cX4_waits 41 = .ok (.iconst 1, 1) := by decide +kernel
theorem dX4_waits_42 : decode cX4_waits 42 = .ok (.goto 4, 3) := by decide +kernel
theorem dX4_waits_45 : decode cX4_waits 45 = .ok (.iconst 0, 1) := by decide +kernel
theorem dX4_waits_46 : decode cX4_waits 46 = .ok (.istore 5, 2) := by decide +kernel
theorem dX4_waits_48 : decode cX4_waits 48 = .ok (.iload_n 2, 1) := by decide +kernel
theorem dX4_waits_49 : decode cX4_waits 49 = .ok (.iload 5, 2) := by decide +kernel
theorem dX4_waits_51 : decode cX4_waits 51 = .ok (.ifCond .eq 12, 3) := by decide +kernel
theorem dX4_waits_54 : decode cX4_waits 54 = .ok (.aload_n 0, 1) := by decide +kernel
theorem dX4_waits_55 : decode cX4_waits 55 = .ok (.iload 4, 2) := by decide +kernel
theorem dX4_waits_57 : decode cX4_waits 57 = .ok (.invokevirtual 179, 3) := by decide +kernel
theorem dX4_waits_60 : decode cX4_waits 60 = .ok (.goto 4, 3) := by decide +kernel
theorem dX4_waits_63 : decode cX4_waits 63 = .ok (.iconst 0, 1) := by decide +kernel
theorem dX4_waits_64 : decode cX4_waits 64 = .ok (.iadd, 1) := by decide +kernel
theorem dX4_waits_65 : decode cX4_waits 65 = .ok (.istore_n 2, 1) := by decide +kernel
theorem dX4_waits_66 : decode cX4_waits 66 = .ok (.iload 5, 2) := by decide +kernel
theorem dX4_waits_68 : decode cX4_waits 68 = .ok (.ifCond .eq 28, 3) := by decide +kernel
theorem dX4_waits_71 : decode cX4_waits 71 = .ok (.iload_n 3, 1) := by decide +kernel
theorem dX4_waits_72 : decode cX4_waits 72 = .ok (.bipush (-9), 2) := by decide +kernel
theorem dX4_waits_74 : decode cX4_waits 74 = .ok (.if_icmp .eq 17, 3) := by decide +kernel
theorem dX4_waits_77 : decode cX4_waits 77 = .ok (.aload_n 0, 1) := by decide +kernel
theorem dX4_waits_78 : decode cX4_waits 78 = .ok (.iload 4, 2) := by decide +kernel
theorem dX4_waits_80 : decode cX4_waits 80 = .ok (.invokevirtual 179, 3) := by decide +kernel
theorem dX4_waits_83 : decode cX4_waits 83 = .ok (.aload_n 0, 1) := by decide +kernel
theorem dX4_waits_84 : decode cX4_waits 84 = .ok (.iload_n 3, 1) := by decide +kernel
theorem dX4_waits_85 : decode cX4_waits 85 = .ok (.invokevirtual 179, 3) := by decide +kernel
theorem dX4_waits_88 : decode cX4_waits 88 = .ok (.if_icmp .le 8, 3) := by decide +kernel
theorem dX4_waits_91 : decode cX4_waits 91 = .ok (.iload 4, 2) := by decide +kernel
theorem dX4_waits_93 : decode cX4_waits 93 = .ok (.goto 4, 3) := by decide +kernel
theorem dX4_waits_96 : decode cX4_waits 96 = .ok (.iload_n 3, 1) := by decide +kernel
theorem dX4_waits_97 : decode cX4_waits 97 = .ok (.istore_n 3, 1) := by decide +kernel
theorem dX4_waits_98 : decode cX4_waits 98 = .ok (.iinc 4 1, 3) := by decide +kernel
theorem dX4_waits_101 : decode cX4_waits 101 = .ok (.goto (-82), 3) := by decide +kernel
theorem dX4_waits_104 : decode cX4_waits 104 = .ok (.iload_n 1, 1) := by decide +kernel
theorem dX4_waits_105 : decode cX4_waits 105 = .ok (.ifCond .ne 7, 3) := by decide +kernel
theorem dX4_waits_108 : decode cX4_waits 108 = .ok (.iload_n 2, 1) := by decide +kernel
theorem dX4_waits_109 : decode cX4_waits 109 = .ok (.goto 23, 3) := by decide +kernel
theorem dX4_waits_112 : decode cX4_waits 112 = .ok (.iload_n 3, 1) := by decide +kernel
theorem dX4_waits_113 : decode cX4_waits 113 = .ok (.bipush (-9), 2) := by decide +kernel
theorem dX4_waits_115 : decode cX4_waits 115 = .ok (.if_icmp .eq 8, 3) := by decide +kernel
theorem dX4_waits_118 : decode cX4_waits 118 = .ok (.iload_n 1, 1) := by decide +kernel
theorem dX4_waits_119 : decode cX4_waits 119 = .ok (.iconst 2, 1) := by decide +kernel
theorem dX4_waits_120 : decode cX4_waits 120 = .ok (.if_icmp .ne 7, 3) := by decide +kernel
theorem dX4_waits_123 : decode cX4_waits 123 = .ok (.iload_n 3, 1) := by decide +kernel
theorem dX4_waits_124 : decode cX4_waits 124 = .ok (.goto 8, 3) := by decide +kernel
theorem dX4_waits_127 : decode cX4_waits 127 = .ok (.aload_n 0, 1) := by decide +kernel
theorem dX4_waits_128 : decode cX4_waits 128 = .ok (.iload_n 3, 1) := by decide +kernel
theorem dX4_waits_129 : decode cX4_waits 129 = .ok (.invokevirtual 179, 3) := by decide +kernel
theorem dX4_waits_132 : decode cX4_waits 132 = .ok (.ireturn, 1) := by decide +kernel
set_option maxRecDepth 20000 in
theorem ggX4_ticksTo_X4_sectorUnder : GoodIn wsX4_ticksTo wsX4_sectorUnder := goodIn_r _ [5, 6, 7, 8, 9, 10, 11, 12, 13, 14, 15, 16, 17] (by decide +kernel) (by decide +kernel)
set_option maxRecDepth 20000 in
theorem gX4_ticksTo_X4_sectorUnder : GoodIn wsX4_ticksTo (wsV RX4 81 RX4 yX4_sectorUnder wsX4_sectorUnder) := goodIn_app (goodIn_of _ (by decide +kernel)) ggX4_ticksTo_X4_sectorUnder
theorem dX4_ticksTo_0 : decode cX4_ticksTo 0 = .ok (.iload_n 2, 1) := by decide +kernel
theorem dX4_ticksTo_1 : decode cX4_ticksTo 1 = .ok (.aload_n 0, 1) := by decide +kernel
theorem dX4_ticksTo_2 : decode cX4_ticksTo 2 = .ok (.iload_n 1, 1) := by decide +kernel
theorem dX4_ticksTo_3 : decode cX4_ticksTo 3 = .ok (.invokevirtual 81, 3) := by decide +kernel
theorem dX4_ticksTo_6 : decode cX4_ticksTo 6 = .ok (.isub, 1) := by decide +kernel
theorem dX4_ticksTo_7 : decode cX4_ticksTo 7 = .ok (.bipush 12, 2) := by decide +kernel
theorem dX4_ticksTo_9 : decode cX4_ticksTo 9 = .ok (.iadd, 1) := by decide +kernel
theorem dX4_ticksTo_10 : decode cX4_ticksTo 10 = .ok (.bipush 12, 2) := by decide +kernel
theorem dX4_ticksTo_12 : decode cX4_ticksTo 12 = .ok (.irem, 1) := by decide +kernel
theorem dX4_ticksTo_13 : decode cX4_ticksTo 13 = .ok (.ireturn, 1) := by decide +kernel
set_option maxRecDepth 20000 in
theorem ggX4_nearer_X4_within : GoodIn wsX4_nearer wsX4_within := goodIn_r _ [4] (by decide +kernel) (by decide +kernel)
set_option maxRecDepth 20000 in
theorem gX4_nearer_X4_within : GoodIn wsX4_nearer (va_wsS RX4 39 yX4_within wsX4_within) := goodIn_app (goodIn_of _ (by decide +kernel)) ggX4_nearer_X4_within
set_option maxRecDepth 20000 in
theorem ggX4_nearer_X4_ticksTo : GoodIn wsX4_nearer wsX4_ticksTo := goodIn_r _ [8, 9, 10, 11, 3, 12, 13, 14, 15, 16, 17, 18, 19, 20, 21, 22, 23, 24] (by decide +kernel) (by decide +kernel)
set_option maxRecDepth 20000 in
theorem gX4_nearer_X4_ticksTo : GoodIn wsX4_nearer (wsV RX4 182 RX4 yX4_ticksTo wsX4_ticksTo) := goodIn_app (goodIn_of _ (by decide +kernel)) ggX4_nearer_X4_ticksTo
theorem dX4_nearer_0 : decode cX4_nearer 0 = .ok (.iload_n 1, 1) := by decide +kernel
theorem dX4_nearer_1 : decode cX4_nearer 1 = .ok (.iconst 0, 1) := by decide +kernel
theorem dX4_nearer_2 : decode cX4_nearer 2 = .ok (.bipush 11, 2) := by decide +kernel
theorem dX4_nearer_4 : decode cX4_nearer 4 = .ok (.invokestatic 39, 3) := by decide +kernel
theorem dX4_nearer_7 : decode cX4_nearer 7 = .ok (.ifCond .eq 12, 3) := by decide +kernel
theorem dX4_nearer_10 : decode cX4_nearer 10 = .ok (.iload_n 2, 1) := by decide +kernel
theorem dX4_nearer_11 : decode cX4_nearer 11 = .ok (.iconst 0, 1) := by decide +kernel
theorem dX4_nearer_12 : decode cX4_nearer 12 = .ok (.iconst 1, 1) := by decide +kernel
theorem dX4_nearer_13 : decode cX4_nearer 13 = .ok (.invokestatic 39, 3) := by decide +kernel
theorem dX4_nearer_16 : decode cX4_nearer 16 = .ok (.ifCond .ne 5, 3) := by decide +kernel
theorem dX4_nearer_19 : decode cX4_nearer 19 = .ok (.iconst (-1), 1) := by decide +kernel
theorem dX4_nearer_20 : decode cX4_nearer 20 = .ok (.ireturn, 1) := by decide +kernel
theorem dX4_nearer_21 : decode cX4_nearer 21 = .ok (.aload_n 0, 1) := by decide +kernel
theorem dX4_nearer_22 : decode cX4_nearer 22 = .ok (.iconst 0, 1) := by decide +kernel
theorem dX4_nearer_23 : decode cX4_nearer 23 = .ok (.iload_n 1, 1) := by decide +kernel
theorem dX4_nearer_24 : decode cX4_nearer 24 = .ok (.invokevirtual 182, 3) := by decide +kernel
theorem dX4_nearer_27 : decode cX4_nearer 27 = .ok (.istore_n 3, 1) := by decide +kernel
theorem dX4_nearer_28 : decode cX4_nearer 28 = .ok (.aload_n 0, 1) := by decide +kernel
theorem dX4_nearer_29 : decode cX4_nearer 29 = .ok (.iconst 1, 1) := by decide +kernel
theorem dX4_nearer_30 : decode cX4_nearer 30 = .ok (.iload_n 1, 1) := by decide +kernel
theorem dX4_nearer_31 : decode cX4_nearer 31 = .ok (.invokevirtual 182, 3) := by decide +kernel
theorem dX4_nearer_34 : decode cX4_nearer 34 = .ok (.istore 4, 2) := by decide +kernel
theorem dX4_nearer_36 : decode cX4_nearer 36 = .ok (.iload_n 2, 1) := by decide +kernel
theorem dX4_nearer_37 : decode cX4_nearer 37 = .ok (.ifCond .ne 17, 3) := by decide +kernel
theorem dX4_nearer_40 : decode cX4_nearer 40 = .ok (.iload_n 3, 1) := by decide +kernel
theorem dX4_nearer_41 : decode cX4_nearer 41 = .ok (.iload 4, 2) := by decide +kernel
theorem dX4_nearer_43 : decode cX4_nearer 43 = .ok (.if_icmp .ge 7, 3) := by decide +kernel
theorem dX4_nearer_46 : decode cX4_nearer 46 = .ok (.iconst 0, 1) := by decide +kernel
theorem dX4_nearer_47 : decode cX4_nearer 47 = .ok (.goto 19, 3) := by decide +kernel
theorem dX4_nearer_50 : decode cX4_nearer 50 = .ok (.iconst 1, 1) := by decide +kernel
theorem dX4_nearer_51 : decode cX4_nearer 51 = .ok (.goto 15, 3) := by decide +kernel
theorem dX4_nearer_54 : decode cX4_nearer 54 = .ok (.iload_n 3, 1) := by decide +kernel
theorem dX4_nearer_55 : decode cX4_nearer 55 = .ok (.iload 4, 2) := by decide +kernel
theorem dX4_nearer_57 : decode cX4_nearer 57 = .ok (.if_icmp .ge 7, 3) := by decide +kernel
theorem dX4_nearer_60 : decode cX4_nearer 60 = .ok (.iload_n 3, 1) := by decide +kernel
theorem dX4_nearer_61 : decode cX4_nearer 61 = .ok (.goto 5, 3) := by decide +kernel
theorem dX4_nearer_64 : decode cX4_nearer 64 = .ok (.iload 4, 2) := by decide +kernel
theorem dX4_nearer_66 : decode cX4_nearer 66 = .ok (.ireturn, 1) := by decide +kernel
set_option maxRecDepth 20000 in
theorem ggX4_doneIn_X4_isOrder : GoodIn wsX4_doneIn wsX4_isOrder := goodIn_r _ [5, 6, 7, 8, 4, 9, 73, 74, 75, 76, 77, 78, 79, 80, 81, 82, 83] (by decide +kernel) (by decide +kernel)
set_option maxRecDepth 20000 in
theorem gX4_doneIn_X4_isOrder : GoodIn wsX4_doneIn (wsV RX4 176 RX4 yX4_isOrder wsX4_isOrder) := goodIn_app (goodIn_of _ (by decide +kernel)) ggX4_doneIn_X4_isOrder
set_option maxRecDepth 20000 in
theorem ggX4_doneIn_X4_puts : GoodIn wsX4_doneIn wsX4_puts := goodIn_r _ [13, 14, 6, 73, 74, 75, 76, 77, 78, 79, 80, 81, 82, 83] (by decide +kernel) (by decide +kernel)
set_option maxRecDepth 20000 in
theorem gX4_doneIn_X4_puts : GoodIn wsX4_doneIn (wsV RX4 167 RX4 yX4_puts wsX4_puts) := goodIn_app (goodIn_of _ (by decide +kernel)) ggX4_doneIn_X4_puts
