theorem dX2_readAct_173 : decode cX2_readAct 173 = .ok (.aload_n 0, 1) := by decide +kernel
theorem dX2_readAct_174 : decode cX2_readAct 174 = .ok (.dup, 1) := by decide +kernel
theorem dX2_readAct_175 : decode cX2_readAct 175 = .ok (.getfield 36, 3) := by decide +kernel
theorem dX2_readAct_178 : decode cX2_readAct 178 = .ok (.iconst 1, 1) := by decide +kernel
theorem dX2_readAct_179 : decode cX2_readAct 179 = .ok (.iadd, 1) := by decide +kernel
theorem dX2_readAct_180 : decode cX2_readAct 180 = .ok (.putfield 36, 3) := by decide +kernel
theorem dX2_readAct_183 : decode cX2_readAct 183 = .ok (.aload_n 0, 1) := by decide +kernel
theorem dX2_readAct_184 : decode cX2_readAct 184 = .ok (.iload_n 1, 1) := by decide +kernel
theorem dX2_readAct_185 : decode cX2_readAct 185 = .ok (.invokevirtual 58, 3) := by decide +kernel
theorem dX2_readAct_188 : decode cX2_readAct 188 = .ok (.aload_n 0, 1) := by decide +kernel
theorem dX2_readAct_189 : decode cX2_readAct 189 = .ok (.bipush 59, 2) := by decide +kernel
theorem dX2_readAct_191 : decode cX2_readAct 191 = .ok (.invokevirtual 66, 3) := by decide +kernel
theorem dX2_readAct_194 : decode cX2_readAct 194 = .ok (.ireturn, 1) := by decide +kernel
theorem dX2_readAct_195 : decode cX2_readAct 195 = .ok (.iconst 0, 1) := by decide +kernel
theorem dX2_readAct_196 : decode cX2_readAct 196 = .ok (.ireturn, 1) := by decide +kernel
set_option maxRecDepth 20000 in
theorem ggX2_readSign_X2_signAt : GoodIn wsX2_readSign wsX2_signAt := goodIn_r _ [6, 7, 8, 9, 10, 11, 12, 13, 14, 15, 16, 17] (by decide +kernel) (by decide +kernel)
set_option maxRecDepth 20000 in
theorem gX2_readSign_X2_signAt : GoodIn wsX2_readSign (wsV RX2 45 RX2 yX2_signAt wsX2_signAt) := goodIn_app (goodIn_of _ (by decide +kernel)) ggX2_readSign_X2_signAt
theorem dX2_readSign_0 : decode cX2_readSign 0 = .ok (.aload_n 0, 1) := by decide +kernel
theorem dX2_readSign_1 : decode cX2_readSign 1 = .ok (.aload_n 0, 1) := by decide +kernel
theorem dX2_readSign_2 : decode cX2_readSign 2 = .ok (.getfield 36, 3) := by decide +kernel
theorem dX2_readSign_5 : decode cX2_readSign 5 = .ok (.invokevirtual 45, 3) := by decide +kernel
theorem dX2_readSign_8 : decode cX2_readSign 8 = .ok (.iload_n 1, 1) := by decide +kernel
theorem dX2_readSign_9 : decode cX2_readSign 9 = .ok (.if_icmp .eq 5, 3) := by decide +kernel
theorem dX2_readSign_12 : decode cX2_readSign 12 = .ok (.iconst 0, 1) := by decide +kernel
theorem dX2_readSign_13 : decode cX2_readSign 13 = .ok (.ireturn, 1) := by decide +kernel
theorem dX2_readSign_14 : decode cX2_readSign 14 = .ok (.aload_n 0, 1) := by decide +kernel
theorem dX2_readSign_15 : decode cX2_readSign 15 = .ok (.dup, 1) := by decide +kernel
theorem dX2_readSign_16 : decode cX2_readSign 16 = .ok (.getfield 36, 3) := by decide +kernel
theorem dX2_readSign_19 : decode cX2_readSign 19 = .ok (.iconst 1, 1) := by decide +kernel
theorem dX2_readSign_20 : decode cX2_readSign 20 = .ok (.iadd, 1) := by decide +kernel
theorem dX2_readSign_21 : decode cX2_readSign 21 = .ok (.putfield 36, 3) := by decide +kernel
theorem dX2_readSign_24 : decode cX2_readSign 24 = .ok (.iconst 1, 1) := by decide +kernel
theorem dX2_readSign_25 : decode cX2_readSign 25 = .ok (.ireturn, 1) := by decide +kernel
set_option maxRecDepth 20000 in
theorem ggX2_readNumber_X2_signAt : GoodIn wsX2_readNumber wsX2_signAt := goodIn_r _ [7, 8, 9, 17, 18, 19, 20, 21, 22, 23, 24, 25] (by decide +kernel) (by decide +kernel)
set_option maxRecDepth 20000 in
theorem gX2_readNumber_X2_signAt : GoodIn wsX2_readNumber (wsV RX2 45 RX2 yX2_signAt wsX2_signAt) := goodIn_app (goodIn_of _ (by decide +kernel)) ggX2_readNumber_X2_signAt
set_option maxRecDepth 20000 in
theorem ggX2_readNumber_X2_isDigit : GoodIn wsX2_readNumber wsX2_isDigit := goodIn_r _ [12] (by decide +kernel) (by decide +kernel)
set_option maxRecDepth 20000 in
theorem gX2_readNumber_X2_isDigit : GoodIn wsX2_readNumber (va_wsS RX2 70 yX2_isDigit wsX2_isDigit) := goodIn_app (goodIn_of _ (by decide +kernel)) ggX2_readNumber_X2_isDigit
set_option maxRecDepth 20000 in
theorem ggX2_readNumber_X2_readSign : GoodIn wsX2_readNumber wsX2_readSign := goodIn_r _ [16, 1, 3, 4, 5, 6, 7, 8, 9, 17, 18, 19, 20, 21, 22, 23, 24, 25] (by decide +kernel) (by decide +kernel)
set_option maxRecDepth 20000 in
theorem gX2_readNumber_X2_readSign : GoodIn wsX2_readNumber (wsV RX2 66 RX2 yX2_readSign wsX2_readSign) := goodIn_app (goodIn_of _ (by decide +kernel)) ggX2_readNumber_X2_readSign
theorem dX2_readNumber_0 : decode cX2_readNumber 0 = .ok (.iconst 0, 1) := by decide +kernel
theorem dX2_readNumber_1 : decode cX2_readNumber 1 = .ok (.istore 4, 2) := by decide +kernel
theorem dX2_readNumber_3 : decode cX2_readNumber 3 = .ok (.iconst 0, 1) := by decide +kernel
theorem dX2_readNumber_4 : decode cX2_readNumber 4 = .ok (.istore 5, 2) := by decide +kernel
theorem dX2_readNumber_6 : decode cX2_readNumber 6 = .ok (.iload 5, 2) := by decide +kernel
theorem dX2_readNumber_8 : decode cX2_readNumber 8 = .ok (.iconst 3, 1) := by decide +kernel
theorem dX2_readNumber_9 : decode cX2_readNumber 9 = .ok (.if_icmp .ge 62, 3) := by decide +kernel
theorem dX2_readNumber_12 : decode cX2_readNumber 12 = .ok (.aload_n 0, 1) := by decide +kernel
theorem dX2_readNumber_13 : decode cX2_readNumber 13 = .ok (.aload_n 0, 1) := by decide +kernel
theorem dX2_readNumber_14 : decode cX2_readNumber 14 = .ok (.getfield 36, 3) := by decide +kernel
theorem dX2_readNumber_17 : decode cX2_readNumber 17 = .ok (.invokevirtual 45, 3) := by decide +kernel
theorem dX2_readNumber_20 : decode cX2_readNumber 20 = .ok (.invokestatic 70, 3) := by decide +kernel
theorem dX2_readNumber_23 : decode cX2_readNumber 23 = .ok (.ifCond .eq 48, 3) := by decide +kernel
theorem dX2_readNumber_26 : decode cX2_readNumber 26 = .ok (.iload 5, 2) := by decide +kernel
theorem dX2_readNumber_28 : decode cX2_readNumber 28 = .ok (.ifCond .eq 8, 3) := by decide +kernel
theorem dX2_readNumber_31 : decode cX2_readNumber 31 = .ok (.iload 4, 2) := by decide +kernel
theorem dX2_readNumber_33 : decode cX2_readNumber 33 = .ok (.ifCond .le 38, 3) := by decide +kernel
theorem dX2_readNumber_36 : decode cX2_readNumber 36 = .ok (.iload 4, 2) := by decide +kernel
theorem dX2_readNumber_38 : decode cX2_readNumber 38 = .ok (.bipush 10, 2) := by decide +kernel
theorem dX2_readNumber_40 : decode cX2_readNumber 40 = .ok (.imul, 1) := by decide +kernel
theorem dX2_readNumber_41 : decode cX2_readNumber 41 = .ok (.aload_n 0, 1) := by decide +kernel
theorem dX2_readNumber_42 : decode cX2_readNumber 42 = .ok (.aload_n 0, 1) := by decide +kernel
theorem dX2_readNumber_43 : decode cX2_readNumber 43 = .ok (.getfield 36, 3) := by decide +kernel
theorem dX2_readNumber_46 : decode cX2_readNumber 46 = .ok (.invokevirtual 45, 3) := by decide +kernel
theorem dX2_readNumber_49 : decode cX2_readNumber 49 = .ok (.iadd, 1) := by decide +kernel
theorem dX2_readNumber_50 : decode cX2_readNumber 50 = .ok (.bipush 48, 2) := by decide +kernel
theorem dX2_readNumber_52 : decode cX2_readNumber 52 = .ok (.isub, 1) := by decide +kernel
theorem dX2_readNumber_53 : decode cX2_readNumber 53 = .ok (.istore 4, 2) := by decide +kernel
theorem dX2_readNumber_55 : decode cX2_readNumber 55 = .ok (.iinc 5 1, 3) := by decide +kernel
theorem dX2_readNumber_58 : decode cX2_readNumber 58 = .ok (.aload_n 0, 1) := by decide +kernel
theorem dX2_readNumber_59 : decode cX2_readNumber 59 = .ok (.dup, 1) := by decide +kernel
theorem dX2_readNumber_60 : decode cX2_readNumber 60 = .ok (.getfield 36, 3) := by decide +kernel
theorem dX2_readNumber_63 : decode cX2_readNumber 63 = .ok (.iconst 1, 1) := by decide +kernel
theorem dX2_readNumber_64 : decode cX2_readNumber 64 = .ok (.iadd, 1) := by decide +kernel
theorem dX2_readNumber_65 : decode cX2_readNumber 65 = .ok (.putfield 36, 3) := by decide +kernel
theorem dX2_readNumber_68 : decode cX2_readNumber 68 = .ok (.goto (-62), 3) := by decide +kernel
theorem dX2_readNumber_71 : decode cX2_readNumber 71 = .ok (.aload_n 0, 1) := by decide +kernel
theorem dX2_readNumber_72 : decode cX2_readNumber 72 = .ok (.getfield 13, 3) := by decide +kernel
theorem dX2_readNumber_75 : decode cX2_readNumber 75 = .ok (.iload_n 1, 1) := by decide +kernel
theorem dX2_readNumber_76 : decode cX2_readNumber 76 = .ok (.iconst 3, 1) := by decide +kernel
theorem dX2_readNumber_77 : decode cX2_readNumber 77 = .ok (.imul, 1) := by decide +kernel
theorem dX2_readNumber_78 : decode cX2_readNumber 78 = .ok (.iload_n 2, 1) := by decide +kernel
theorem dX2_readNumber_79 : decode cX2_readNumber 79 = .ok (.iadd, 1) := by decide +kernel
theorem dX2_readNumber_80 : decode cX2_readNumber 80 = .ok (.iload 4, 2) := by decide +kernel
theorem dX2_readNumber_82 : decode cX2_readNumber 82 = .ok (.iastore, 1) := by decide +kernel
theorem dX2_readNumber_83 : decode cX2_readNumber 83 = .ok (.iload 5, 2) := by decide +kernel
theorem dX2_readNumber_85 : decode cX2_readNumber 85 = .ok (.ifCond .le 15, 3) := by decide +kernel
theorem dX2_readNumber_88 : decode cX2_readNumber 88 = .ok (.aload_n 0, 1) := by decide +kernel
theorem dX2_readNumber_89 : decode cX2_readNumber 89 = .ok (.iload_n 3, 1) := by decide +kernel
theorem dX2_readNumber_90 : decode cX2_readNumber 90 = .ok (.invokevirtual 66, 3) := by decide +kernel
theorem dX2_readNumber_93 : decode cX2_readNumber 93 = .ok (.ifCond .eq 7, 3) := by decide +kernel
theorem dX2_readNumber_96 : decode cX2_readNumber 96 = .ok (.iconst 1, 1) := by decide +kernel
theorem dX2_readNumber_97 : decode cX2_readNumber 97 = .ok (.goto 4, 3) := by decide +kernel
theorem dX2_readNumber_100 : decode cX2_readNumber 100 = .ok (.iconst 0, 1) := by decide +kernel
theorem dX2_readNumber_101 : decode cX2_readNumber 101 = .ok (.ireturn, 1) := by decide +kernel
theorem dX2_isDigit_0 : decode cX2_isDigit 0 = .ok (.iload_n 0, 1) := by decide +kernel
theorem dX2_isDigit_1 : decode cX2_isDigit 1 = .ok (.bipush 48, 2) := by decide +kernel
theorem dX2_isDigit_3 : decode cX2_isDigit 3 = .ok (.if_icmp .lt 13, 3) := by decide +kernel
theorem dX2_isDigit_6 : decode cX2_isDigit 6 = .ok (.iload_n 0, 1) := by decide +kernel
theorem dX2_isDigit_7 : decode cX2_isDigit 7 = .ok (.bipush 57, 2) := by decide +kernel
theorem dX2_isDigit_9 : decode cX2_isDigit 9 = .ok (.if_icmp .gt 7, 3) := by decide +kernel
theorem dX2_isDigit_12 : decode cX2_isDigit 12 = .ok (.iconst 1, 1) := by decide +kernel
theorem dX2_isDigit_13 : decode cX2_isDigit 13 = .ok (.goto 4, 3) := by decide +kernel
theorem dX2_isDigit_16 : decode cX2_isDigit 16 = .ok (.iconst 0, 1) := by decide +kernel
theorem dX2_isDigit_17 : decode cX2_isDigit 17 = .ok (.ireturn, 1) := by decide +kernel
set_option maxRecDepth 20000 in
theorem ggX3_init_X1_init : GoodIn wsX3_init wsX1_init := goodIn_r _ [19, 20, 2, 3, 21, 22, 23, 24, 25, 26, 27, 28, 29, 6, 30, 46, 47, 48, 49, 50, 51, 52, 53, 54, 55, 56] (by decide +kernel) (by decide +kernel)
set_option maxRecDepth 20000 in
theorem gX3_init_X1_init : GoodIn wsX3_init (wsX1_init) := ggX3_init_X1_init
set_option maxRecDepth 20000 in
theorem ggX3_init_X0_init : GoodIn wsX3_init wsX0_init := goodIn_r _ [33, 34, 2, 3, 35, 36, 5, 6, 37, 18, 19, 20, 21, 22, 23, 24, 25, 26, 27, 28, 29, 30, 61, 62, 63, 46, 47, 48, 49, 50, 51, 52, 53, 54, 55, 56] (by decide +kernel) (by decide +kernel)
set_option maxRecDepth 20000 in
theorem gX3_init_X0_init : GoodIn wsX3_init (wsX0_init) := ggX3_init_X0_init
set_option maxRecDepth 20000 in
theorem ggX3_init_X2_init : GoodIn wsX3_init wsX2_init := goodIn_r _ [39, 40, 2, 3, 21, 41, 42, 43, 44, 45, 64, 65, 66, 67, 68, 69, 70, 71, 72] (by decide +kernel) (by decide +kernel)
set_option maxRecDepth 20000 in
theorem gX3_init_X2_init_n28 : GoodIn wsX3_init (wsX2_init) := ggX3_init_X2_init
theorem dX3_init_0 : decode cX3_init 0 = .ok (.aload_n 0, 1) := by decide +kernel
theorem dX3_init_1 : decode cX3_init 1 = .ok (.invokespecial 1, 3) := by decide +kernel
theorem dX3_init_4 : decode cX3_init 4 = .ok (.aload_n 0, 1) := by decide +kernel
theorem dX3_init_5 : decode cX3_init 5 = .ok (.new 7, 3) := by decide +kernel
theorem dX3_init_8 : decode cX3_init 8 = .ok (.dup, 1) := by decide +kernel
theorem dX3_init_9 : decode cX3_init 9 = .ok (.invokespecial 9, 3) := by decide +kernel
theorem dX3_init_12 : decode cX3_init 12 = .ok (.putfield 10, 3) := by decide +kernel
theorem dX3_init_15 : decode cX3_init 15 = .ok (.aload_n 0, 1) := by decide +kernel
theorem dX3_init_16 : decode cX3_init 16 = .ok (.new 7, 3) := by decide +kernel
theorem dX3_init_19 : decode cX3_init 19 = .ok (.dup, 1) := by decide +kernel
theorem dX3_init_20 : decode cX3_init 20 = .ok (.invokespecial 9, 3) := by decide +kernel
theorem dX3_init_23 : decode cX3_init 23 = .ok (.putfield 16, 3) := by decide +kernel
theorem dX3_init_26 : decode cX3_init 26 = .ok (.aload_n 0, 1) := by decide +kernel
theorem dX3_init_27 : decode cX3_init 27 = .ok (.new 19, 3) := by decide +kernel
theorem dX3_init_30 : decode cX3_init 30 = .ok (.dup, 1) := by decide +kernel
theorem dX3_init_31 : decode cX3_init 31 = .ok (.invokespecial 21, 3) := by decide +kernel
theorem dX3_init_34 : decode cX3_init 34 = .ok (.putfield 22, 3) := by decide +kernel
theorem dX3_init_37 : decode cX3_init 37 = .ok (.aload_n 0, 1) := by decide +kernel
theorem dX3_init_38 : decode cX3_init 38 = .ok (.new 26, 3) := by decide +kernel
theorem dX3_init_41 : decode cX3_init 41 = .ok (.dup, 1) := by decide +kernel
theorem dX3_init_42 : decode cX3_init 42 = .ok (.invokespecial 28, 3) := by decide +kernel
theorem dX3_init_45 : decode cX3_init 45 = .ok (.putfield 29, 3) := by decide +kernel
theorem dX3_init_48 : decode cX3_init 48 = .ok (.return_, 1) := by decide +kernel
set_option maxRecDepth 20000 in
theorem ggX3_read_X0_note : GoodIn wsX3_read wsX0_note := goodIn_r _ [7, 8, 9, 10, 6, 11, 12, 13, 14, 15, 16, 17, 18, 19, 20, 21, 22, 23, 24, 25, 26, 27, 28, 29, 30, 31, 32, 33, 34, 35, 36, 37, 38, 66, 67, 68, 69, 70, 71, 72, 73, 74, 75, 76, 77, 78, 79] (by decide +kernel) (by decide +kernel)
set_option maxRecDepth 20000 in
theorem gX3_read_X0_note : GoodIn wsX3_read (wsV RX3 33 RX0 yX0_note wsX0_note) := goodIn_app (goodIn_of _ (by decide +kernel)) ggX3_read_X0_note
set_option maxRecDepth 20000 in
theorem ggX3_read_X1_takeRead : GoodIn wsX3_read wsX1_takeRead := goodIn_r _ [42, 43, 44, 22, 45, 46, 47, 48, 49, 35, 36, 29, 33, 31, 32, 50, 51, 52, 69, 70, 71, 72, 73, 74, 75, 76, 77, 78, 79] (by decide +kernel) (by decide +kernel)
set_option maxRecDepth 20000 in
theorem gX3_read_X1_takeRead : GoodIn wsX3_read (wsV RX3 37 RX1 yX1_takeRead wsX1_takeRead) := goodIn_app (goodIn_of _ (by decide +kernel)) ggX3_read_X1_takeRead
set_option maxRecDepth 20000 in
theorem ggX3_read_X3_settle : GoodIn wsX3_read wsX3_settle := goodIn_r _ [57, 1, 58, 59, 60, 6, 61, 14, 13, 15, 16, 17, 18, 62, 63, 64, 65, 66, 67, 68] (by decide +kernel) (by decide +kernel)
set_option maxRecDepth 20000 in
theorem gX3_read_X3_settle : GoodIn wsX3_read (wsV RX3 41 RX3 yX3_settle wsX3_settle) := goodIn_app (goodIn_of _ (by decide +kernel)) ggX3_read_X3_settle
theorem dX3_read_0 : decode cX3_read 0 = .ok (.aload_n 0, 1) := by decide +kernel
theorem dX3_read_1 : decode cX3_read 1 = .ok (.getfield 22, 3) := by decide +kernel
theorem dX3_read_4 : decode cX3_read 4 = .ok (.aload_n 0, 1) := by decide +kernel
theorem dX3_read_5 : decode cX3_read 5 = .ok (.getfield 10, 3) := by decide +kernel
theorem dX3_read_8 : decode cX3_read 8 = .ok (.invokevirtual 33, 3) := by decide +kernel
theorem dX3_read_11 : decode cX3_read 11 = .ok (.aload_n 0, 1) := by decide +kernel
theorem dX3_read_12 : decode cX3_read 12 = .ok (.aload_n 0, 1) := by decide +kernel
theorem dX3_read_13 : decode cX3_read 13 = .ok (.getfield 10, 3) := by decide +kernel
theorem dX3_read_16 : decode cX3_read 16 = .ok (.iload_n 1, 1) := by decide +kernel
theorem dX3_read_17 : decode cX3_read 17 = .ok (.iload_n 2, 1) := by decide +kernel
theorem dX3_read_18 : decode cX3_read 18 = .ok (.invokevirtual 37, 3) := by decide +kernel
theorem dX3_read_21 : decode cX3_read 21 = .ok (.invokevirtual 41, 3) := by decide +kernel
theorem dX3_read_24 : decode cX3_read 24 = .ok (.ireturn, 1) := by decide +kernel
set_option maxRecDepth 20000 in
theorem ggX3_write_X0_note : GoodIn wsX3_write wsX0_note := goodIn_r _ [7, 8, 9, 10, 6, 11, 12, 13, 14, 15, 16, 17, 18, 19, 20, 21, 22, 23, 24, 25, 26, 27, 28, 29, 30, 31, 32, 33, 34, 35, 36, 37, 38, 66, 67, 68, 69, 70, 71, 72, 73, 74, 75, 76, 77, 78, 79] (by decide +kernel) (by decide +kernel)
set_option maxRecDepth 20000 in
theorem gX3_write_X0_note : GoodIn wsX3_write (wsV RX3 33 RX0 yX0_note wsX0_note) := goodIn_app (goodIn_of _ (by decide +kernel)) ggX3_write_X0_note
set_option maxRecDepth 20000 in
theorem ggX3_write_X1_takeWrite : GoodIn wsX3_write wsX1_takeWrite := goodIn_r _ [42, 43, 44, 22, 45, 46, 47, 48, 49, 35, 36, 29, 33, 31, 32, 50, 51, 52, 69, 70, 71, 72, 73, 74, 75, 76, 77, 78, 79] (by decide +kernel) (by decide +kernel)
set_option maxRecDepth 20000 in
theorem gX3_write_X1_takeWrite : GoodIn wsX3_write (wsV RX3 45 RX1 yX1_takeWrite wsX1_takeWrite) := goodIn_app (goodIn_of _ (by decide +kernel)) ggX3_write_X1_takeWrite
set_option maxRecDepth 20000 in
theorem ggX3_write_X3_settle : GoodIn wsX3_write wsX3_settle := goodIn_r _ [57, 1, 58, 59, 60, 6, 61, 14, 13, 15, 16, 17, 18, 62, 63, 64, 65, 66, 67, 68] (by decide +kernel) (by decide +kernel)
set_option maxRecDepth 20000 in
theorem gX3_write_X3_settle : GoodIn wsX3_write (wsV RX3 41 RX3 yX3_settle wsX3_settle) := goodIn_app (goodIn_of _ (by decide +kernel)) ggX3_write_X3_settle
theorem dX3_write_0 : decode cX3_write 0 = .ok (.aload_n 0, 1) := by decide +kernel
theorem dX3_write_1 : decode cX3_write 1 = .ok (.getfield 22, 3) := by decide +kernel
theorem dX3_write_4 : decode cX3_write 4 = .ok (.aload_n 0, 1) := by decide +kernel
theorem dX3_write_5 : decode cX3_write 5 = .ok (.getfield 10, 3) := by decide +kernel
theorem dX3_write_8 : decode cX3_write 8 = .ok (.invokevirtual 33, 3) := by decide +kernel
theorem dX3_write_11 : decode cX3_write 11 = .ok (.aload_n 0, 1) := by decide +kernel
theorem dX3_write_12 : decode cX3_write 12 = .ok (.aload_n 0, 1) := by decide +kernel
theorem dX3_write_13 : decode cX3_write 13 = .ok (.getfield 10, 3) := by decide +kernel
theorem dX3_write_16 : decode cX3_write 16 = .ok (.iload_n 1, 1) := by decide +kernel
theorem dX3_write_17 : decode cX3_write 17 = .ok (.iload_n 2, 1) := by decide +kernel
theorem dX3_write_18 : decode cX3_write 18 = .ok (.iload_n 3, 1) := by decide +kernel
theorem dX3_write_19 : decode cX3_write 19 = .ok (.invokevirtual 45, 3) := by decide +kernel
theorem dX3_write_22 : decode cX3_write 22 = .ok (.invokevirtual 41, 3) := by decide +kernel
theorem dX3_write_25 : decode cX3_write 25 = .ok (.ireturn, 1) := by decide +kernel
set_option maxRecDepth 20000 in
theorem ggX3_pass_X0_note : GoodIn wsX3_pass wsX0_note := goodIn_r _ [7, 8, 9, 10, 6, 11, 12, 13, 14, 15, 16, 17, 18, 19, 20, 21, 22, 23, 24, 25, 26, 27, 28, 29, 30, 31, 32, 33, 34, 35, 36, 37, 38, 115, 116, 117, 118, 119, 120, 121, 122, 123, 124, 125, 126, 127, 128] (by decide +kernel) (by decide +kernel)
set_option maxRecDepth 20000 in
theorem gX3_pass_X0_note : GoodIn wsX3_pass (wsV RX3 33 RX0 yX0_note wsX0_note) := goodIn_app (goodIn_of _ (by decide +kernel)) ggX3_pass_X0_note
set_option maxRecDepth 20000 in
theorem ggX3_pass_X1_letPass : GoodIn wsX3_pass wsX1_letPass := goodIn_r _ [42, 33, 36, 43, 44, 45, 22, 46, 32, 34, 47, 48, 49, 50, 30, 51, 52, 53, 54, 24, 31, 55, 56, 57, 58, 59, 16, 17, 18, 60, 61, 62, 63, 64, 65, 66, 67, 68, 69, 70, 71, 72, 73, 74, 75, 76, 77, 78, 79, 80, 81, 35, 29, 82, 83, 84, 85, 86, 87, 88, 89, 90, 91, 92, 93, 94, 95, 96, 97, 98, 99, 100, 101, 38, 118, 119, 120, 121, 122, 123, 124, 125, 126, 127, 128] (by decide +kernel) (by decide +kernel)
set_option maxRecDepth 20000 in
theorem gX3_pass_X1_letPass : GoodIn wsX3_pass (wsV RX3 49 RX1 yX1_letPass wsX1_letPass) := goodIn_app (goodIn_of _ (by decide +kernel)) ggX3_pass_X1_letPass
set_option maxRecDepth 20000 in
theorem ggX3_pass_X3_settle : GoodIn wsX3_pass wsX3_settle := goodIn_r _ [106, 1, 107, 108, 109, 6, 110, 14, 13, 15, 16, 17, 18, 111, 112, 113, 114, 115, 116, 117] (by decide +kernel) (by decide +kernel)
set_option maxRecDepth 20000 in
theorem gX3_pass_X3_settle : GoodIn wsX3_pass (wsV RX3 41 RX3 yX3_settle wsX3_settle) := goodIn_app (goodIn_of _ (by decide +kernel)) ggX3_pass_X3_settle
theorem dX3_pass_0 : decode cX3_pass 0 = .ok (.aload_n 0, 1) := by decide +kernel
theorem dX3_pass_1 : decode cX3_pass 1 = .ok (.getfield 22, 3) := by decide +kernel
theorem dX3_pass_4 : decode cX3_pass 4 = .ok (.aload_n 0, 1) := by decide +kernel
theorem dX3_pass_5 : decode cX3_pass 5 = .ok (.getfield 10, 3) := by decide +kernel
theorem dX3_pass_8 : decode cX3_pass 8 = .ok (.invokevirtual 33, 3) := by decide +kernel
theorem dX3_pass_11 : decode cX3_pass 11 = .ok (.aload_n 0, 1) := by decide +kernel
theorem dX3_pass_12 : decode cX3_pass 12 = .ok (.aload_n 0, 1) := by decide +kernel
theorem dX3_pass_13 : decode cX3_pass 13 = .ok (.getfield 10, 3) := by decide +kernel
theorem dX3_pass_16 : decode cX3_pass 16 = .ok (.iload_n 1, 1) := by decide +kernel
theorem dX3_pass_17 : decode cX3_pass 17 = .ok (.invokevirtual 49, 3) := by decide +kernel
theorem dX3_pass_20 : decode cX3_pass 20 = .ok (.invokevirtual 41, 3) := by decide +kernel
theorem dX3_pass_23 : decode cX3_pass 23 = .ok (.ireturn, 1) := by decide +kernel
set_option maxRecDepth 20000 in
theorem ggX3_cut_X0_note : GoodIn wsX3_cut wsX0_note := goodIn_r _ [7, 8, 9, 10, 6, 11, 12, 13, 14, 15, 16, 17, 18, 19, 20, 21, 22, 23, 24, 25, 26, 27, 28, 29, 30, 31, 32, 33, 34, 35, 36, 37, 38, 71, 72, 73, 74, 75, 76, 77, 78, 79, 80, 81, 82, 83, 84] (by decide +kernel) (by decide +kernel)
set_option maxRecDepth 20000 in
theorem gX3_cut_X0_note : GoodIn wsX3_cut (wsV RX3 33 RX0 yX0_note wsX0_note) := goodIn_app (goodIn_of _ (by decide +kernel)) ggX3_cut_X0_note
set_option maxRecDepth 20000 in
theorem ggX3_cut_X1_cutPower : GoodIn wsX3_cut wsX1_cutPower := goodIn_r _ [42, 30, 24, 43, 44, 45, 22, 46, 35, 29, 36, 31, 32, 47, 48, 49, 50, 51, 52, 53, 54, 55, 56, 57, 74, 75, 76, 77, 78, 79, 80, 81, 82, 83, 84] (by decide +kernel) (by decide +kernel)
set_option maxRecDepth 20000 in
theorem gX3_cut_X1_cutPower : GoodIn wsX3_cut (wsV RX3 52 RX1 yX1_cutPower wsX1_cutPower) := goodIn_app (goodIn_of _ (by decide +kernel)) ggX3_cut_X1_cutPower
set_option maxRecDepth 20000 in
theorem ggX3_cut_X3_settle : GoodIn wsX3_cut wsX3_settle := goodIn_r _ [62, 1, 63, 64, 65, 6, 66, 14, 13, 15, 16, 17, 18, 67, 68, 69, 70, 71, 72, 73] (by decide +kernel) (by decide +kernel)
set_option maxRecDepth 20000 in
theorem gX3_cut_X3_settle : GoodIn wsX3_cut (wsV RX3 41 RX3 yX3_settle wsX3_settle) := goodIn_app (goodIn_of _ (by decide +kernel)) ggX3_cut_X3_settle
theorem dX3_cut_0 : decode cX3_cut 0 = .ok (.aload_n 0, 1) := by decide +kernel
theorem dX3_cut_1 : decode cX3_cut 1 = .ok (.getfield 22, 3) := by decide +kernel
theorem dX3_cut_4 : decode cX3_cut 4 = .ok (.aload_n 0, 1) := by decide +kernel
theorem dX3_cut_5 : decode cX3_cut 5 = .ok (.getfield 10, 3) := by decide +kernel
theorem dX3_cut_8 : decode cX3_cut 8 = .ok (.invokevirtual 33, 3) := by decide +kernel
theorem dX3_cut_11 : decode cX3_cut 11 = .ok (.aload_n 0, 1) := by decide +kernel
theorem dX3_cut_12 : decode cX3_cut 12 = .ok (.aload_n 0, 1) := by decide +kernel
theorem dX3_cut_13 : decode cX3_cut 13 = .ok (.getfield 10, 3) := by decide +kernel
theorem dX3_cut_16 : decode cX3_cut 16 = .ok (.invokevirtual 52, 3) := by decide +kernel
theorem dX3_cut_19 : decode cX3_cut 19 = .ok (.invokevirtual 41, 3) := by decide +kernel
theorem dX3_cut_22 : decode cX3_cut 22 = .ok (.ireturn, 1) := by decide +kernel
set_option maxRecDepth 20000 in
theorem ggX3_sweep_X0_note : GoodIn wsX3_sweep wsX0_note := goodIn_r _ [7, 8, 9, 10, 6, 11, 12, 13, 14, 15, 16, 17, 18, 19, 20, 21, 22, 23, 24, 25, 26, 27, 28, 29, 30, 31, 32, 33, 34, 35, 36, 37, 38, 83, 84, 85, 86, 87, 88, 89, 90, 91, 92, 93, 94, 95, 96] (by decide +kernel) (by decide +kernel)
set_option maxRecDepth 20000 in
theorem gX3_sweep_X0_note : GoodIn wsX3_sweep (wsV RX3 33 RX0 yX0_note wsX0_note) := goodIn_app (goodIn_of _ (by decide +kernel)) ggX3_sweep_X0_note
set_option maxRecDepth 20000 in
theorem ggX3_sweep_X1_sweepBlocks : GoodIn wsX3_sweep wsX1_sweepBlocks := goodIn_r _ [42, 33, 43, 44, 45, 22, 46, 32, 47, 48, 49, 50, 34, 51, 52, 53, 54, 55, 56, 57, 24, 37, 58, 59, 60, 61, 62, 63, 64, 65, 66, 67, 68, 69, 30, 86, 87, 88, 89, 90, 91, 92, 93, 94, 95, 96] (by decide +kernel) (by decide +kernel)
set_option maxRecDepth 20000 in
theorem gX3_sweep_X1_sweepBlocks : GoodIn wsX3_sweep (wsV RX3 56 RX1 yX1_sweepBlocks wsX1_sweepBlocks) := goodIn_app (goodIn_of _ (by decide +kernel)) ggX3_sweep_X1_sweepBlocks
set_option maxRecDepth 20000 in
theorem ggX3_sweep_X3_settle : GoodIn wsX3_sweep wsX3_settle := goodIn_r _ [74, 1, 75, 76, 77, 6, 78, 14, 13, 15, 16, 17, 18, 79, 80, 81, 82, 83, 84, 85] (by decide +kernel) (by decide +kernel)
set_option maxRecDepth 20000 in
theorem gX3_sweep_X3_settle : GoodIn wsX3_sweep (wsV RX3 41 RX3 yX3_settle wsX3_settle) := goodIn_app (goodIn_of _ (by decide +kernel)) ggX3_sweep_X3_settle
theorem dX3_sweep_0 : decode cX3_sweep 0 = .ok (.aload_n 0, 1) := by decide +kernel
theorem dX3_sweep_1 : decode cX3_sweep 1 = .ok (.getfield 22, 3) := by decide +kernel
theorem dX3_sweep_4 : decode cX3_sweep 4 = .ok (.aload_n 0, 1) := by decide +kernel
theorem dX3_sweep_5 : decode cX3_sweep 5 = .ok (.getfield 10, 3) := by decide +kernel
theorem dX3_sweep_8 : decode cX3_sweep 8 = .ok (.invokevirtual 33, 3) := by decide +kernel
theorem dX3_sweep_11 : decode cX3_sweep 11 = .ok (.aload_n 0, 1) := by decide +kernel
theorem dX3_sweep_12 : decode cX3_sweep 12 = .ok (.aload_n 0, 1) := by decide +kernel
theorem dX3_sweep_13 : decode cX3_sweep 13 = .ok (.getfield 10, 3) := by decide +kernel
theorem dX3_sweep_16 : decode cX3_sweep 16 = .ok (.invokevirtual 56, 3) := by decide +kernel
theorem dX3_sweep_19 : decode cX3_sweep 19 = .ok (.invokevirtual 41, 3) := by decide +kernel
theorem dX3_sweep_22 : decode cX3_sweep 22 = .ok (.ireturn, 1) := by decide +kernel
set_option maxRecDepth 20000 in
theorem ggX3_undo_X0_size : GoodIn wsX3_undo wsX0_size := goodIn_r _ [7, 8, 51, 52, 53] (by decide +kernel) (by decide +kernel)
set_option maxRecDepth 20000 in
theorem gX3_undo_X0_size : GoodIn wsX3_undo (wsV RX3 59 RX0 yX0_size wsX0_size) := goodIn_app (goodIn_of _ (by decide +kernel)) ggX3_undo_X0_size
set_option maxRecDepth 20000 in
theorem ggX3_undo_X0_dropLatest : GoodIn wsX3_undo wsX0_dropLatest := goodIn_r _ [12, 8, 51, 52, 53] (by decide +kernel) (by decide +kernel)
set_option maxRecDepth 20000 in
theorem gX3_undo_X0_dropLatest : GoodIn wsX3_undo (wsV RX3 62 RX0 yX0_dropLatest wsX0_dropLatest) := goodIn_app (goodIn_of _ (by decide +kernel)) ggX3_undo_X0_dropLatest
set_option maxRecDepth 20000 in
theorem ggX3_undo_X0_restoreNoted : GoodIn wsX3_undo wsX0_restoreNoted := goodIn_r _ [16, 17, 18, 19, 6, 20, 21, 22, 8, 23, 24, 25, 26, 27, 28, 29, 30, 31, 32, 33, 34, 35, 36, 37, 38, 39, 40, 41, 42, 43, 44, 45, 46, 51, 52, 53, 54, 55, 56, 57, 58, 59, 60, 61, 62, 63, 64] (by decide +kernel) (by decide +kernel)
set_option maxRecDepth 20000 in
theorem gX3_undo_X0_restoreNoted : GoodIn wsX3_undo (wsV RX3 65 RX0 yX0_restoreNoted wsX0_restoreNoted) := goodIn_app (goodIn_of _ (by decide +kernel)) ggX3_undo_X0_restoreNoted
theorem dX3_undo_0 : decode cX3_undo 0 = .ok (.aload_n 0, 1) := by decide +kernel
theorem dX3_undo_1 : decode cX3_undo 1 = .ok (.getfield 22, 3) := by decide +kernel
theorem dX3_undo_4 : decode cX3_undo 4 = .ok (.invokevirtual 59, 3) := by decide +kernel
theorem dX3_undo_7 : decode cX3_undo 7 = .ok (.ifCond .ne 6, 3) := by decide +kernel
theorem dX3_undo_10 : decode cX3_undo 10 = .ok (.bipush (-2), 2) := by decide +kernel
theorem dX3_undo_12 : decode cX3_undo 12 = .ok (.ireturn, 1) := by decide +kernel
theorem dX3_undo_13 : decode cX3_undo 13 = .ok (.aload_n 0, 1) := by decide +kernel
theorem dX3_undo_14 : decode cX3_undo 14 = .ok (.getfield 22, 3) := by decide +kernel
theorem dX3_undo_17 : decode cX3_undo 17 = .ok (.invokevirtual 62, 3) := by decide +kernel
theorem dX3_undo_20 : decode cX3_undo 20 = .ok (.aload_n 0, 1) := by decide +kernel
theorem dX3_undo_21 : decode cX3_undo 21 = .ok (.getfield 22, 3) := by decide +kernel
theorem dX3_undo_24 : decode cX3_undo 24 = .ok (.aload_n 0, 1) := by decide +kernel
theorem dX3_undo_25 : decode cX3_undo 25 = .ok (.getfield 10, 3) := by decide +kernel
theorem dX3_undo_28 : decode cX3_undo 28 = .ok (.invokevirtual 65, 3) := by decide +kernel
theorem dX3_undo_31 : decode cX3_undo 31 = .ok (.aload_n 0, 1) := by decide +kernel
theorem dX3_undo_32 : decode cX3_undo 32 = .ok (.getfield 22, 3) := by decide +kernel
theorem dX3_undo_35 : decode cX3_undo 35 = .ok (.invokevirtual 59, 3) := by decide +kernel
theorem dX3_undo_38 : decode cX3_undo 38 = .ok (.ireturn, 1) := by decide +kernel
set_option maxRecDepth 20000 in
theorem ggX3_append_X2_isFull : GoodIn wsX3_append wsX2_isFull := goodIn_r _ [6, 7, 22, 23, 24, 25, 26, 27, 28, 29, 30] (by decide +kernel) (by decide +kernel)
set_option maxRecDepth 20000 in
theorem gX3_append_X2_isFull : GoodIn wsX3_append (wsV RX3 68 RX2 yX2_isFull wsX2_isFull) := goodIn_app (goodIn_of _ (by decide +kernel)) ggX3_append_X2_isFull
set_option maxRecDepth 20000 in
theorem ggX3_append_X2_addSign : GoodIn wsX3_append wsX2_addSign := goodIn_r _ [11, 12, 7, 13, 3, 4, 5, 6, 22, 23, 24, 25, 26, 27, 28, 29, 30] (by decide +kernel) (by decide +kernel)
set_option maxRecDepth 20000 in
theorem gX3_append_X2_addSign : GoodIn wsX3_append (wsV RX3 72 RX2 yX2_addSign wsX2_addSign) := goodIn_app (goodIn_of _ (by decide +kernel)) ggX3_append_X2_addSign
set_option maxRecDepth 20000 in
theorem ggX3_append_X2_length : GoodIn wsX3_append wsX2_length := goodIn_r _ [17, 7, 22, 23, 24, 25, 26, 27, 28, 29, 30] (by decide +kernel) (by decide +kernel)
set_option maxRecDepth 20000 in
theorem gX3_append_X2_length : GoodIn wsX3_append (wsV RX3 76 RX2 yX2_length wsX2_length) := goodIn_app (goodIn_of _ (by decide +kernel)) ggX3_append_X2_length
theorem dX3_append_0 : decode cX3_append 0 = .ok (.iload_n 1, 1) := by decide +kernel
theorem dX3_append_1 : decode cX3_append 1 = .ok (.iconst 1, 1) := by decide +kernel
theorem dX3_append_2 : decode cX3_append 2 = .ok (.if_icmp .lt 10, 3) := by decide +kernel
theorem dX3_append_5 : decode cX3_append 5 = .ok (.iload_n 1, 1) := by decide +kernel
theorem dX3_append_6 : decode cX3_append 6 = .ok (.sipush 255, 3) := by decide +kernel
theorem dX3_append_9 : decode cX3_append 9 = .ok (.if_icmp .le 5, 3) := by decide +kernel
theorem dX3_append_12 : decode cX3_append 12 = .ok (.iconst (-1), 1) := by decide +kernel
theorem dX3_append_13 : decode cX3_append 13 = .ok (.ireturn, 1) := by decide +kernel
theorem dX3_append_14 : decode cX3_append 14 = .ok (.aload_n 0, 1) := by decide +kernel
theorem dX3_append_15 : decode cX3_append 15 = .ok (.getfield 29, 3) := by decide +kernel
theorem dX3_append_18 : decode cX3_append 18 = .ok (.invokevirtual 68, 3) := by decide +kernel
theorem dX3_append_21 : decode cX3_append 21 = .ok (.ifCond .eq 6, 3) := by decide +kernel
theorem dX3_append_24 : decode cX3_append 24 = .ok (.bipush (-3), 2) := by decide +kernel
theorem dX3_append_26 : decode cX3_append 26 = .ok (.ireturn, 1) := by decide +kernel
theorem dX3_append_27 : decode cX3_append 27 = .ok (.aload_n 0, 1) := by decide +kernel
theorem dX3_append_28 : decode cX3_append 28 = .ok (.getfield 29, 3) := by decide +kernel
theorem dX3_append_31 : decode cX3_append 31 = .ok (.iload_n 1, 1) := by decide +kernel
theorem dX3_append_32 : decode cX3_append 32 = .ok (.invokevirtual 72, 3) := by decide +kernel
theorem dX3_append_35 : decode cX3_append 35 = .ok (.aload_n 0, 1) := by decide +kernel
theorem dX3_append_36 : decode cX3_append 36 = .ok (.getfield 29, 3) := by decide +kernel
theorem dX3_append_39 : decode cX3_append 39 = .ok (.invokevirtual 76, 3) := by decide +kernel
theorem dX3_append_42 : decode cX3_append 42 = .ok (.ireturn, 1) := by decide +kernel
set_option maxRecDepth 20000 in
theorem ggX3_clearText_X2_length : GoodIn wsX3_clearText wsX2_length := goodIn_r _ [6, 7, 16, 17, 18, 19, 20, 21, 22, 23, 24] (by decide +kernel) (by decide +kernel)
set_option maxRecDepth 20000 in
theorem gX3_clearText_X2_length : GoodIn wsX3_clearText (wsV RX3 76 RX2 yX2_length wsX2_length) := goodIn_app (goodIn_of _ (by decide +kernel)) ggX3_clearText_X2_length
set_option maxRecDepth 20000 in
theorem ggX3_clearText_X2_makeEmpty : GoodIn wsX3_clearText wsX2_makeEmpty := goodIn_r _ [11, 7, 16, 17, 18, 19, 20, 21, 22, 23, 24] (by decide +kernel) (by decide +kernel)
set_option maxRecDepth 20000 in
theorem gX3_clearText_X2_makeEmpty : GoodIn wsX3_clearText (wsV RX3 79 RX2 yX2_makeEmpty wsX2_makeEmpty) := goodIn_app (goodIn_of _ (by decide +kernel)) ggX3_clearText_X2_makeEmpty
theorem dX3_clearText_0 : decode cX3_clearText 0 = .ok (.aload_n 0, 1) := by decide +kernel
theorem dX3_clearText_1 : decode cX3_clearText 1 = .ok (.getfield 29, 3) := by decide +kernel
theorem dX3_clearText_4 : decode cX3_clearText 4 = .ok (.invokevirtual 76, 3) := by decide +kernel
theorem dX3_clearText_7 : decode cX3_clearText 7 = .ok (.istore_n 1, 1) := by decide +kernel
theorem dX3_clearText_8 : decode cX3_clearText 8 = .ok (.aload_n 0, 1) := by decide +kernel
theorem dX3_clearText_9 : decode cX3_clearText 9 = .ok (.getfield 29, 3) := by decide +kernel
theorem dX3_clearText_12 : decode cX3_clearText 12 = .ok (.invokevirtual 79, 3) := by decide +kernel
theorem dX3_clearText_15 : decode cX3_clearText 15 = .ok (.iload_n 1, 1) := by decide +kernel
theorem dX3_clearText_16 : decode cX3_clearText 16 = .ok (.ireturn, 1) := by decide +kernel
set_option maxRecDepth 20000 in
theorem ggX3_run_X2_isUnderstood : GoodIn wsX3_run wsX2_isUnderstood := goodIn_r _ [8, 9, 10, 11, 12, 13, 14, 15, 7, 16, 17, 18, 19, 20, 21, 22, 23, 24, 25, 26, 27, 28, 29, 30, 31, 32, 33, 34, 35, 36, 37, 38, 39, 40, 41, 42, 43, 44, 45, 46, 47, 48, 49, 50, 51, 52, 217, 218, 219, 220, 221, 222, 223, 224, 225] (by decide +kernel) (by decide +kernel)
set_option maxRecDepth 20000 in
theorem gX3_run_X2_isUnderstood : GoodIn wsX3_run (wsV RX3 82 RX2 yX2_isUnderstood wsX2_isUnderstood) := goodIn_app (goodIn_of _ (by decide +kernel)) ggX3_run_X2_isUnderstood
set_option maxRecDepth 20000 in
theorem ggX3_run_X2_place : GoodIn wsX3_run wsX2_place := goodIn_r _ [56, 9, 217, 218, 219, 220, 221, 222, 223, 224, 225] (by decide +kernel) (by decide +kernel)
set_option maxRecDepth 20000 in
theorem gX3_run_X2_place : GoodIn wsX3_run (wsV RX3 85 RX2 yX2_place wsX2_place) := goodIn_app (goodIn_of _ (by decide +kernel)) ggX3_run_X2_place
set_option maxRecDepth 20000 in
theorem ggX3_run_X2_hasTooManySteps : GoodIn wsX3_run wsX2_hasTooManySteps := goodIn_r _ [60, 10, 217, 218, 219, 220, 221, 222, 223, 224, 225] (by decide +kernel) (by decide +kernel)
set_option maxRecDepth 20000 in
theorem gX3_run_X2_hasTooManySteps : GoodIn wsX3_run (wsV RX3 88 RX2 yX2_hasTooManySteps wsX2_hasTooManySteps) := goodIn_app (goodIn_of _ (by decide +kernel)) ggX3_run_X2_hasTooManySteps
set_option maxRecDepth 20000 in
theorem ggX3_run_X2_letterOfStep : GoodIn wsX3_run wsX2_letterOfStep := goodIn_r _ [64, 10, 32, 217, 218, 219, 220, 221, 222, 223, 224, 225] (by decide +kernel) (by decide +kernel)
set_option maxRecDepth 20000 in
theorem gX3_run_X2_letterOfStep : GoodIn wsX3_run (wsV RX3 91 RX2 yX2_letterOfStep wsX2_letterOfStep) := goodIn_app (goodIn_of _ (by decide +kernel)) ggX3_run_X2_letterOfStep
set_option maxRecDepth 20000 in
theorem ggX3_run_X0_note : GoodIn wsX3_run wsX0_note := goodIn_r _ [69, 70, 71, 72, 68, 73, 74, 75, 76, 77, 78, 79, 80, 81, 82, 83, 84, 85, 86, 87, 88, 89, 90, 91, 92, 93, 94, 95, 96, 97, 98, 99, 100, 226, 227, 228, 229, 230, 231, 232, 233, 234, 235, 236, 237, 238, 239] (by decide +kernel) (by decide +kernel)
set_option maxRecDepth 20000 in
theorem gX3_run_X0_note : GoodIn wsX3_run (wsV RX3 33 RX0 yX0_note wsX0_note) := goodIn_app (goodIn_of _ (by decide +kernel)) ggX3_run_X0_note
set_option maxRecDepth 20000 in
theorem ggX3_run_X2_steps : GoodIn wsX3_run wsX2_steps := goodIn_r _ [104, 10, 217, 218, 219, 220, 221, 222, 223, 224, 225] (by decide +kernel) (by decide +kernel)
set_option maxRecDepth 20000 in
theorem gX3_run_X2_steps : GoodIn wsX3_run (wsV RX3 94 RX2 yX2_steps wsX2_steps) := goodIn_app (goodIn_of _ (by decide +kernel)) ggX3_run_X2_steps
set_option maxRecDepth 20000 in
theorem ggX3_run_X3_perform : GoodIn wsX3_run wsX3_perform := goodIn_r _ [109, 1, 3, 110, 111, 112, 7, 113, 45, 114, 18, 19, 20, 12, 21, 115, 116, 117, 84, 118, 119, 120, 121, 122, 123, 124, 125, 97, 98, 91, 95, 93, 94, 126, 127, 128, 129, 130, 131, 132, 133, 134, 135, 136, 137, 138, 139, 140, 96, 141, 142, 143, 144, 92, 145, 146, 147, 148, 86, 149, 150, 151, 152, 153, 78, 79, 80, 154, 155, 156, 157, 158, 159, 160, 161, 162, 163, 164, 165, 166, 167, 168, 169, 170, 171, 172, 173, 174, 175, 176, 177, 178, 179, 180, 181, 182, 183, 184, 185, 186, 187, 188, 189, 190, 191, 192, 100, 193, 194, 195, 196, 197, 198, 199, 200, 201, 202, 203, 204, 213, 214, 215, 216, 217, 218, 219, 220, 221, 222, 223, 224, 225, 229, 230, 231, 232, 233, 234, 235, 236, 237, 238, 239] (by decide +kernel) (by decide +kernel)
set_option maxRecDepth 20000 in
theorem gX3_run_X3_perform : GoodIn wsX3_run (wsV RX3 97 RX3 yX3_perform wsX3_perform) := goodIn_app (goodIn_of _ (by decide +kernel)) ggX3_run_X3_perform
set_option maxRecDepth 20000 in
theorem ggX3_run_X0_restoreNoted : GoodIn wsX3_run wsX0_restoreNoted := goodIn_r _ [208, 70, 71, 72, 68, 73, 74, 75, 76, 77, 78, 79, 80, 81, 82, 83, 84, 85, 86, 87, 88, 89, 90, 91, 92, 93, 94, 95, 96, 97, 98, 99, 100, 226, 227, 228, 229, 230, 231, 232, 233, 234, 235, 236, 237, 238, 239] (by decide +kernel) (by decide +kernel)
set_option maxRecDepth 20000 in
theorem gX3_run_X0_restoreNoted : GoodIn wsX3_run (wsV RX3 65 RX0 yX0_restoreNoted wsX0_restoreNoted) := goodIn_app (goodIn_of _ (by decide +kernel)) ggX3_run_X0_restoreNoted
set_option maxRecDepth 20000 in
theorem ggX3_run_X0_keepNoted : GoodIn wsX3_run wsX0_keepNoted := goodIn_r _ [212, 76, 75, 77, 78, 79, 80, 226, 227, 228] (by decide +kernel) (by decide +kernel)
set_option maxRecDepth 20000 in
theorem gX3_run_X0_keepNoted : GoodIn wsX3_run (wsV RX3 100 RX0 yX0_keepNoted wsX0_keepNoted) := goodIn_app (goodIn_of _ (by decide +kernel)) ggX3_run_X0_keepNoted
theorem dX3_run_0 : decode cX3_run 0 = .ok (.aload_n 0, 1) := by decide +kernel
theorem dX3_run_1 : decode cX3_run 1 = .ok (.getfield 29, 3) := by decide +kernel
theorem dX3_run_4 : decode cX3_run 4 = .ok (.invokevirtual 82, 3) := by decide +kernel
theorem dX3_run_7 : decode cX3_run 7 = .ok (.ifCond .ne 15, 3) := by decide +kernel
theorem dX3_run_10 : decode cX3_run 10 = .ok (.sipush (-1000), 3) := by decide +kernel
theorem dX3_run_13 : decode cX3_run 13 = .ok (.aload_n 0, 1) := by decide +kernel
theorem dX3_run_14 : decode cX3_run 14 = .ok (.getfield 29, 3) := by decide +kernel
theorem dX3_run_17 : decode cX3_run 17 = .ok (.invokevirtual 85, 3) := by decide +kernel
theorem dX3_run_20 : decode cX3_run 20 = .ok (.isub, 1) := by decide +kernel
theorem dX3_run_21 : decode cX3_run 21 = .ok (.ireturn, 1) := by decide +kernel
theorem dX3_run_22 : decode cX3_run 22 = .ok (.aload_n 0, 1) := by decide +kernel
theorem dX3_run_23 : decode cX3_run 23 = .ok (.getfield 29, 3) := by decide +kernel
theorem dX3_run_26 : decode cX3_run 26 = .ok (.invokevirtual 88, 3) := by decide +kernel
theorem dX3_run_29 : decode cX3_run 29 = .ok (.ifCond .eq 17, 3) := by decide +kernel
theorem dX3_run_32 : decode cX3_run 32 = .ok (.sipush (-1000), 3) := by decide +kernel
theorem dX3_run_35 : decode cX3_run 35 = .ok (.aload_n 0, 1) := by decide +kernel
theorem dX3_run_36 : decode cX3_run 36 = .ok (.getfield 29, 3) := by decide +kernel
theorem dX3_run_39 : decode cX3_run 39 = .ok (.bipush 100, 2) := by decide +kernel
theorem dX3_run_41 : decode cX3_run 41 = .ok (.invokevirtual 91, 3) := by decide +kernel
theorem dX3_run_44 : decode cX3_run 44 = .ok (.isub, 1) := by decide +kernel
theorem dX3_run_45 : decode cX3_run 45 = .ok (.ireturn, 1) := by decide +kernel
theorem dX3_run_46 : decode cX3_run 46 = .ok (.aload_n 0, 1) := by decide +kernel
theorem dX3_run_47 : decode cX3_run 47 = .ok (.getfield 22, 3) := by decide +kernel
theorem dX3_run_50 : decode cX3_run 50 = .ok (.aload_n 0, 1) := by decide +kernel
theorem dX3_run_51 : decode cX3_run 51 = .ok (.getfield 10, 3) := by decide +kernel
theorem dX3_run_54 : decode cX3_run 54 = .ok (.invokevirtual 33, 3) := by decide +kernel
theorem dX3_run_57 : decode cX3_run 57 = .ok (.aload_n 0, 1) := by decide +kernel
theorem dX3_run_58 : decode cX3_run 58 = .ok (.getfield 29, 3) := by decide +kernel
theorem dX3_run_61 : decode cX3_run 61 = .ok (.invokevirtual 94, 3) := by decide +kernel
theorem dX3_run_64 : decode cX3_run 64 = .ok (.istore_n 1, 1) := by decide +kernel
theorem dX3_run_65 : decode cX3_run 65 = .ok (.iconst 0, 1) := by decide +kernel
theorem dX3_run_66 : decode cX3_run 66 = .ok (.istore_n 2, 1) := by decide +kernel
theorem dX3_run_67 : decode cX3_run 67 = .ok (.iload_n 2, 1) := by decide +kernel
theorem dX3_run_68 : decode cX3_run 68 = .ok (.iload_n 1, 1) := by decide +kernel
theorem dX3_run_69 : decode cX3_run 69 = .ok (.if_icmp .ge 43, 3) := by decide +kernel
theorem dX3_run_72 : decode cX3_run 72 = .ok (.aload_n 0, 1) := by decide +kernel
theorem dX3_run_73 : decode cX3_run 73 = .ok (.getfield 29, 3) := by decide +kernel
theorem dX3_run_76 : decode cX3_run 76 = .ok (.iload_n 2, 1) := by decide +kernel
theorem dX3_run_77 : decode cX3_run 77 = .ok (.invokevirtual 91, 3) := by decide +kernel
theorem dX3_run_80 : decode cX3_run 80 = .ok (.istore_n 3, 1) := by decide +kernel
theorem dX3_run_81 : decode cX3_run 81 = .ok (.aload_n 0, 1) := by decide +kernel
theorem dX3_run_82 : decode cX3_run 82 = .ok (.iload_n 3, 1) := by decide +kernel
theorem dX3_run_83 : decode cX3_run 83 = .ok (.invokevirtual 97, 3) := by decide +kernel
theorem dX3_run_86 : decode cX3_run 86 = .ok (.ifCond .ge 20, 3) := by decide +kernel
theorem dX3_run_89 : decode cX3_run 89 = .ok (.aload_n 0, 1) := by decide +kernel
theorem dX3_run_90 : decode cX3_run 90 = .ok (.getfield 22, 3) := by decide +kernel
theorem dX3_run_93 : decode cX3_run 93 = .ok (.aload_n 0, 1) := by decide +kernel
theorem dX3_run_94 : decode cX3_run 94 = .ok (.getfield 10, 3) := by decide +kernel
theorem dX3_run_97 : decode cX3_run 97 = .ok (.invokevirtual 65, 3) := by decide +kernel
theorem dX3_run_100 : decode cX3_run 100 = .ok (.sipush (-1000), 3) := by decide +kernel
theorem dX3_run_103 : decode cX3_run 103 = .ok (.iload_n 3, 1) := by decide +kernel
theorem dX3_run_104 : decode cX3_run 104 = .ok (.isub, 1) := by decide +kernel
theorem dX3_run_105 : decode cX3_run 105 = .ok (.ireturn, 1) := by decide +kernel
theorem dX3_run_106 : decode cX3_run 106 = .ok (.iinc 2 1, 3) := by decide +kernel
theorem dX3_run_109 : decode cX3_run 109 = .ok (.goto (-42), 3) := by decide +kernel
theorem dX3_run_112 : decode cX3_run 112 = .ok (.aload_n 0, 1) := by decide +kernel
theorem dX3_run_113 : decode cX3_run 113 = .ok (.getfield 22, 3) := by decide +kernel
theorem dX3_run_116 : decode cX3_run 116 = .ok (.invokevirtual 100, 3) := by decide +kernel
theorem dX3_run_119 : decode cX3_run 119 = .ok (.iload_n 1, 1) := by decide +kernel
theorem dX3_run_120 : decode cX3_run 120 = .ok (.ireturn, 1) := by decide +kernel
set_option maxRecDepth 20000 in
theorem ggX3_count_X1_tick : GoodIn wsX3_count wsX1_tick := goodIn_r _ [8, 9, 79, 80, 81, 82, 83, 84, 85, 86, 87, 88, 89] (by decide +kernel) (by decide +kernel)
set_option maxRecDepth 20000 in
theorem gX3_count_X1_tick : GoodIn wsX3_count (wsV RX3 103 RX1 yX1_tick wsX1_tick) := goodIn_app (goodIn_of _ (by decide +kernel)) ggX3_count_X1_tick
set_option maxRecDepth 20000 in
theorem ggX3_count_X1_arm : GoodIn wsX3_count wsX1_arm := goodIn_r _ [13, 14, 79, 80, 81, 82, 83, 84, 85, 86, 87, 88, 89] (by decide +kernel) (by decide +kernel)
set_option maxRecDepth 20000 in
theorem gX3_count_X1_arm : GoodIn wsX3_count (wsV RX3 106 RX1 yX1_arm wsX1_arm) := goodIn_app (goodIn_of _ (by decide +kernel)) ggX3_count_X1_arm
set_option maxRecDepth 20000 in
theorem ggX3_count_X1_sectorUnder : GoodIn wsX3_count wsX1_sectorUnder := goodIn_r _ [18, 9, 19, 20, 21, 22, 79, 80, 81, 82, 83, 84, 85, 86, 87, 88, 89] (by decide +kernel) (by decide +kernel)
set_option maxRecDepth 20000 in
theorem gX3_count_X1_sectorUnder : GoodIn wsX3_count (wsV RX3 109 RX1 yX1_sectorUnder wsX1_sectorUnder) := goodIn_app (goodIn_of _ (by decide +kernel)) ggX3_count_X1_sectorUnder
set_option maxRecDepth 20000 in
theorem ggX3_count_X1_taken : GoodIn wsX3_count wsX1_taken := goodIn_r _ [26, 27, 79, 80, 81, 82, 83, 84, 85, 86, 87, 88, 89] (by decide +kernel) (by decide +kernel)
set_option maxRecDepth 20000 in
theorem gX3_count_X1_taken : GoodIn wsX3_count (wsV RX3 112 RX1 yX1_taken wsX1_taken) := goodIn_app (goodIn_of _ (by decide +kernel)) ggX3_count_X1_taken
set_option maxRecDepth 20000 in
theorem ggX3_count_X1_countOrders : GoodIn wsX3_count wsX1_countOrders := goodIn_r _ [31, 27, 32, 33, 34, 7, 35, 36, 37, 38, 39, 40, 79, 80, 81, 82, 83, 84, 85, 86, 87, 88, 89] (by decide +kernel) (by decide +kernel)
set_option maxRecDepth 20000 in
theorem gX3_count_X1_countOrders : GoodIn wsX3_count (wsV RX3 115 RX1 yX1_countOrders wsX1_countOrders) := goodIn_app (goodIn_of _ (by decide +kernel)) ggX3_count_X1_countOrders
set_option maxRecDepth 20000 in
theorem ggX3_count_X1_countCopies : GoodIn wsX3_count wsX1_countCopies := goodIn_r _ [44, 45, 46, 47, 7, 48, 79, 80, 81, 82, 83, 84, 85, 86, 87, 88, 89] (by decide +kernel) (by decide +kernel)
set_option maxRecDepth 20000 in
theorem gX3_count_X1_countCopies : GoodIn wsX3_count (wsV RX3 118 RX1 yX1_countCopies wsX1_countCopies) := goodIn_app (goodIn_of _ (by decide +kernel)) ggX3_count_X1_countCopies
set_option maxRecDepth 20000 in
theorem ggX3_count_X1_countUnlikeBlocks : GoodIn wsX3_count wsX1_countUnlikeBlocks := goodIn_r _ [52, 45, 46, 47, 7, 48, 79, 80, 81, 82, 83, 84, 85, 86, 87, 88, 89] (by decide +kernel) (by decide +kernel)
set_option maxRecDepth 20000 in
theorem gX3_count_X1_countUnlikeBlocks : GoodIn wsX3_count (wsV RX3 121 RX1 yX1_countUnlikeBlocks wsX1_countUnlikeBlocks) := goodIn_app (goodIn_of _ (by decide +kernel)) ggX3_count_X1_countUnlikeBlocks
set_option maxRecDepth 20000 in
theorem ggX3_count_X1_wiped : GoodIn wsX3_count wsX1_wiped := goodIn_r _ [56, 57, 79, 80, 81, 82, 83, 84, 85, 86, 87, 88, 89] (by decide +kernel) (by decide +kernel)
set_option maxRecDepth 20000 in
theorem gX3_count_X1_wiped : GoodIn wsX3_count (wsV RX3 124 RX1 yX1_wiped wsX1_wiped) := goodIn_app (goodIn_of _ (by decide +kernel)) ggX3_count_X1_wiped
set_option maxRecDepth 20000 in
theorem ggX3_count_X1_moves : GoodIn wsX3_count wsX1_moves := goodIn_r _ [61, 62, 79, 80, 81, 82, 83, 84, 85, 86, 87, 88, 89] (by decide +kernel) (by decide +kernel)
set_option maxRecDepth 20000 in
theorem gX3_count_X1_moves : GoodIn wsX3_count (wsV RX3 127 RX1 yX1_moves wsX1_moves) := goodIn_app (goodIn_of _ (by decide +kernel)) ggX3_count_X1_moves
set_option maxRecDepth 20000 in
theorem ggX3_count_X0_size : GoodIn wsX3_count wsX0_size := goodIn_r _ [67, 68, 90, 91, 92] (by decide +kernel) (by decide +kernel)
set_option maxRecDepth 20000 in
theorem gX3_count_X0_size : GoodIn wsX3_count (wsV RX3 59 RX0 yX0_size wsX0_size) := goodIn_app (goodIn_of _ (by decide +kernel)) ggX3_count_X0_size
set_option maxRecDepth 20000 in
theorem ggX3_count_X2_length : GoodIn wsX3_count wsX2_length := goodIn_r _ [73, 74, 93, 94, 95, 96, 97, 98, 99, 100, 101] (by decide +kernel) (by decide +kernel)
set_option maxRecDepth 20000 in
theorem gX3_count_X2_length : GoodIn wsX3_count (wsV RX3 76 RX2 yX2_length wsX2_length) := goodIn_app (goodIn_of _ (by decide +kernel)) ggX3_count_X2_length
theorem dX3_count_0 : decode cX3_count 0 = .ok (.iload_n 1, 1) := by decide +kernel
theorem dX3_count_1 : decode cX3_count 1 = .ok (.tableswitch 202 0 14 #[75, 83, 91, 100, 109, 117, 126, 135, 144, 153, 162, 170, 178, 186, 194], 75) := by decide +kernel
theorem dX3_count_76 : decode cX3_count 76 = .ok (.aload_n 0, 1) := by decide +kernel
theorem dX3_count_77 : decode cX3_count 77 = .ok (.getfield 10, 3) := by decide +kernel
theorem dX3_count_80 : decode cX3_count 80 = .ok (.invokevirtual 103, 3) := by decide +kernel
theorem dX3_count_83 : decode cX3_count 83 = .ok (.ireturn, 1) := by decide +kernel
theorem dX3_count_84 : decode cX3_count 84 = .ok (.aload_n 0, 1) := by decide +kernel
theorem dX3_count_85 : decode cX3_count 85 = .ok (.getfield 10, 3) := by decide +kernel
theorem dX3_count_88 : decode cX3_count 88 = .ok (.invokevirtual 106, 3) := by decide +kernel
theorem dX3_count_91 : decode cX3_count 91 = .ok (.ireturn, 1) := by decide +kernel
theorem dX3_count_92 : decode cX3_count 92 = .ok (.aload_n 0, 1) := by decide +kernel
theorem dX3_count_93 : decode cX3_count 93 = .ok (.getfield 10, 3) := by decide +kernel
theorem dX3_count_96 : decode cX3_count 96 = .ok (.iconst 0, 1) := by decide +kernel
theorem dX3_count_97 : decode cX3_count 97 = .ok (.invokevirtual 109, 3) := by decide +kernel
theorem dX3_count_100 : decode cX3_count 100 = .ok (.ireturn, 1) := by decide +kernel
theorem dX3_count_101 : decode cX3_count 101 = .ok (.aload_n 0, 1) := by decide +kernel
theorem dX3_count_102 : decode cX3_count 102 = .ok (.getfield 10, 3) := by decide +kernel
theorem dX3_count_105 : decode cX3_count 105 = .ok (.iconst 1, 1) := by decide +kernel
theorem dX3_count_106 : decode cX3_count 106 = .ok (.invokevirtual 109, 3) := by decide +kernel
theorem dX3_count_109 : decode cX3_count 109 = .ok (.ireturn, 1) := by decide +kernel
theorem dX3_count_110 : decode cX3_count 110 = .ok (.aload_n 0, 1) := by decide +kernel
theorem dX3_count_111 : decode cX3_count 111 = .ok (.getfield 10, 3) := by decide +kernel
theorem dX3_count_114 : decode cX3_count 114 = .ok (.invokevirtual 112, 3) := by decide +kernel
theorem dX3_count_117 : decode cX3_count 117 = .ok (.ireturn, 1) := by decide +kernel
theorem dX3_count_118 : decode cX3_count 118 = .ok (.aload_n 0, 1) := by decide +kernel
theorem dX3_count_119 : decode cX3_count 119 = .ok (.getfield 10, 3) := by decide +kernel
theorem dX3_count_122 : decode cX3_count 122 = .ok (.iconst 0, 1) := by decide +kernel
theorem dX3_count_123 : decode cX3_count 123 = .ok (.invokevirtual 115, 3) := by decide +kernel
theorem dX3_count_126 : decode cX3_count 126 = .ok (.ireturn, 1) := by decide +kernel
theorem dX3_count_127 : decode cX3_count 127 = .ok (.aload_n 0, 1) := by decide +kernel
theorem dX3_count_128 : decode cX3_count 128 = .ok (.getfield 10, 3) := by decide +kernel
theorem dX3_count_131 : decode cX3_count 131 = .ok (.iconst 1, 1) := by decide +kernel
theorem dX3_count_132 : decode cX3_count 132 = .ok (.invokevirtual 115, 3) := by decide +kernel
theorem dX3_count_135 : decode cX3_count 135 = .ok (.ireturn, 1) := by decide +kernel
theorem dX3_count_136 : decode cX3_count 136 = .ok (.aload_n 0, 1) := by decide +kernel
theorem dX3_count_137 : decode cX3_count 137 = .ok (.getfield 10, 3) := by decide +kernel
theorem dX3_count_140 : decode cX3_count 140 = .ok (.iconst 2, 1) := by decide +kernel
theorem dX3_count_141 : decode cX3_count 141 = .ok (.invokevirtual 115, 3) := by decide +kernel
theorem dX3_count_144 : decode cX3_count 144 = .ok (.ireturn, 1) := by decide +kernel
theorem dX3_count_145 : decode cX3_count 145 = .ok (.aload_n 0, 1) := by decide +kernel
theorem dX3_count_146 : decode cX3_count 146 = .ok (.getfield 10, 3) := by decide +kernel
theorem dX3_count_149 : decode cX3_count 149 = .ok (.iconst 3, 1) := by decide +kernel
theorem dX3_count_150 : decode cX3_count 150 = .ok (.invokevirtual 118, 3) := by decide +kernel
theorem dX3_count_153 : decode cX3_count 153 = .ok (.ireturn, 1) := by decide +kernel
theorem dX3_count_154 : decode cX3_count 154 = .ok (.aload_n 0, 1) := by decide +kernel
theorem dX3_count_155 : decode cX3_count 155 = .ok (.getfield 10, 3) := by decide +kernel
theorem dX3_count_158 : decode cX3_count 158 = .ok (.iconst 2, 1) := by decide +kernel
theorem dX3_count_159 : decode cX3_count 159 = .ok (.invokevirtual 118, 3) := by decide +kernel
theorem dX3_count_162 : decode cX3_count 162 = .ok (.ireturn, 1) := by decide +kernel
theorem dX3_count_163 : decode cX3_count 163 = .ok (.aload_n 0, 1) := by decide +kernel
theorem dX3_count_164 : decode cX3_count 164 = .ok (.getfield 10, 3) := by decide +kernel
theorem dX3_count_167 : decode cX3_count 167 = .ok (.invokevirtual 121, 3) := by decide +kernel
theorem dX3_count_170 : decode cX3_count 170 = .ok (.ireturn, 1) := by decide +kernel
theorem dX3_count_171 : decode cX3_count 171 = .ok (.aload_n 0, 1) := by decide +kernel
theorem dX3_count_172 : decode cX3_count 172 = .ok (.getfield 10, 3) := by decide +kernel
theorem dX3_count_175 : decode cX3_count 175 = .ok (.invokevirtual 124, 3) := by decide +kernel
theorem dX3_count_178 : decode cX3_count 178 = .ok (.ireturn, 1) := by decide +kernel
theorem dX3_count_179 : decode cX3_count 179 = .ok (.aload_n 0, 1) := by decide +kernel
theorem dX3_count_180 : decode cX3_count 180 = .ok (.getfield 10, 3) := by decide +kernel
theorem dX3_count_183 : decode cX3_count 183 = .ok (.invokevirtual 127, 3) := by decide +kernel
theorem dX3_count_186 : decode cX3_count 186 = .ok (.ireturn, 1) := by decide +kernel
theorem dX3_count_187 : decode cX3_count 187 = .ok (.aload_n 0, 1) := by decide +kernel
theorem dX3_count_188 : decode cX3_count 188 = .ok (.getfield 22, 3) := by decide +kernel
theorem dX3_count_191 : decode cX3_count 191 = .ok (.invokevirtual 59, 3) := by decide +kernel
theorem dX3_count_194 : decode cX3_count 194 = .ok (.ireturn, 1) := by decide +kernel
theorem dX3_count_195 : decode cX3_count 195 = .ok (.aload_n 0, 1) := by decide +kernel
theorem dX3_count_196 : decode cX3_count 196 = .ok (.getfield 29, 3) := by decide +kernel
theorem dX3_count_199 : decode cX3_count 199 = .ok (.invokevirtual 76, 3) := by decide +kernel
theorem dX3_count_202 : decode cX3_count 202 = .ok (.ireturn, 1) := by decide +kernel
theorem dX3_count_203 : decode cX3_count 203 = .ok (.iconst (-1), 1) := by decide +kernel
theorem dX3_count_204 : decode cX3_count 204 = .ok (.ireturn, 1) := by decide +kernel
set_option maxRecDepth 20000 in
theorem ggX3_copy_X1_isBlock : GoodIn wsX3_copy wsX1_isBlock := goodIn_r _ [5] (by decide +kernel) (by decide +kernel)
set_option maxRecDepth 20000 in
theorem gX3_copy_X1_isBlock : GoodIn wsX3_copy (va_wsS RX3 130 yX1_isBlock wsX1_isBlock) := goodIn_app (goodIn_of _ (by decide +kernel)) ggX3_copy_X1_isBlock
set_option maxRecDepth 20000 in
theorem ggX3_copy_X1_ofCopy : GoodIn wsX3_copy wsX1_ofCopy := goodIn_r _ [9, 10, 11, 12, 4, 13, 14, 15, 16, 21, 22, 23, 24, 25, 26, 27, 28, 29, 30, 31] (by decide +kernel) (by decide +kernel)
set_option maxRecDepth 20000 in
theorem gX3_copy_X1_ofCopy : GoodIn wsX3_copy (wsV RX3 134 RX1 yX1_ofCopy wsX1_ofCopy) := goodIn_app (goodIn_of _ (by decide +kernel)) ggX3_copy_X1_ofCopy
theorem dX3_copy_0 : decode cX3_copy 0 = .ok (.iload_n 1, 1) := by decide +kernel
theorem dX3_copy_1 : decode cX3_copy 1 = .ok (.ifCond .lt 27, 3) := by decide +kernel
theorem dX3_copy_4 : decode cX3_copy 4 = .ok (.iload_n 1, 1) := by decide +kernel
theorem dX3_copy_5 : decode cX3_copy 5 = .ok (.iconst 2, 1) := by decide +kernel
theorem dX3_copy_6 : decode cX3_copy 6 = .ok (.if_icmp .ge 22, 3) := by decide +kernel
theorem dX3_copy_9 : decode cX3_copy 9 = .ok (.iload_n 2, 1) := by decide +kernel
theorem dX3_copy_10 : decode cX3_copy 10 = .ok (.iload_n 3, 1) := by decide +kernel
theorem dX3_copy_11 : decode cX3_copy 11 = .ok (.invokestatic 130, 3) := by decide +kernel
theorem dX3_copy_14 : decode cX3_copy 14 = .ok (.ifCond .eq 14, 3) := by decide +kernel
theorem dX3_copy_17 : decode cX3_copy 17 = .ok (.iload 4, 2) := by decide +kernel
theorem dX3_copy_19 : decode cX3_copy 19 = .ok (.ifCond .lt 9, 3) := by decide +kernel
theorem dX3_copy_22 : decode cX3_copy 22 = .ok (.iload 4, 2) := by decide +kernel
theorem dX3_copy_24 : decode cX3_copy 24 = .ok (.iconst 4, 1) := by decide +kernel
theorem dX3_copy_25 : decode cX3_copy 25 = .ok (.if_icmp .lt 5, 3) := by decide +kernel
theorem dX3_copy_28 : decode cX3_copy 28 = .ok (.iconst (-1), 1) := by decide +kernel
theorem dX3_copy_29 : decode cX3_copy 29 = .ok (.ireturn, 1) := by decide +kernel
theorem dX3_copy_30 : decode cX3_copy 30 = .ok (.aload_n 0, 1) := by decide +kernel
theorem dX3_copy_31 : decode cX3_copy 31 = .ok (.getfield 10, 3) := by decide +kernel
theorem dX3_copy_34 : decode cX3_copy 34 = .ok (.iload_n 1, 1) := by decide +kernel
theorem dX3_copy_35 : decode cX3_copy 35 = .ok (.iload_n 2, 1) := by decide +kernel
theorem dX3_copy_36 : decode cX3_copy 36 = .ok (.iload_n 3, 1) := by decide +kernel
theorem dX3_copy_37 : decode cX3_copy 37 = .ok (.iload 4, 2) := by decide +kernel
theorem dX3_copy_39 : decode cX3_copy 39 = .ok (.invokevirtual 134, 3) := by decide +kernel
theorem dX3_copy_42 : decode cX3_copy 42 = .ok (.ireturn, 1) := by decide +kernel
set_option maxRecDepth 20000 in
theorem ggX3_order_X1_hasOrder : GoodIn wsX3_order wsX1_hasOrder := goodIn_r _ [6, 7, 17, 18, 19, 20, 21, 22, 23, 24, 25, 26, 27] (by decide +kernel) (by decide +kernel)
set_option maxRecDepth 20000 in
theorem gX3_order_X1_hasOrder : GoodIn wsX3_order (wsV RX3 138 RX1 yX1_hasOrder wsX1_hasOrder) := goodIn_app (goodIn_of _ (by decide +kernel)) ggX3_order_X1_hasOrder
set_option maxRecDepth 20000 in
theorem ggX3_order_X1_ofOrder : GoodIn wsX3_order wsX1_ofOrder := goodIn_r _ [11, 12, 17, 18, 19, 20, 21, 22, 23, 24, 25, 26, 27] (by decide +kernel) (by decide +kernel)
set_option maxRecDepth 20000 in
theorem gX3_order_X1_ofOrder : GoodIn wsX3_order (wsV RX3 142 RX1 yX1_ofOrder wsX1_ofOrder) := goodIn_app (goodIn_of _ (by decide +kernel)) ggX3_order_X1_ofOrder
theorem dX3_order_0 : decode cX3_order 0 = .ok (.aload_n 0, 1) := by decide +kernel
theorem dX3_order_1 : decode cX3_order 1 = .ok (.getfield 10, 3) := by decide +kernel
theorem dX3_order_4 : decode cX3_order 4 = .ok (.iload_n 1, 1) := by decide +kernel
theorem dX3_order_5 : decode cX3_order 5 = .ok (.invokevirtual 138, 3) := by decide +kernel
theorem dX3_order_8 : decode cX3_order 8 = .ok (.ifCond .eq 13, 3) := by decide +kernel
theorem dX3_order_11 : decode cX3_order 11 = .ok (.iload_n 2, 1) := by decide +kernel
theorem dX3_order_12 : decode cX3_order 12 = .ok (.ifCond .lt 9, 3) := by decide +kernel
theorem dX3_order_15 : decode cX3_order 15 = .ok (.iload_n 2, 1) := by decide +kernel
theorem dX3_order_16 : decode cX3_order 16 = .ok (.bipush 8, 2) := by decide +kernel
theorem dX3_order_18 : decode cX3_order 18 = .ok (.if_icmp .lt 5, 3) := by decide +kernel
theorem dX3_order_21 : decode cX3_order 21 = .ok (.iconst (-1), 1) := by decide +kernel
theorem dX3_order_22 : decode cX3_order 22 = .ok (.ireturn, 1) := by decide +kernel
theorem dX3_order_23 : decode cX3_order 23 = .ok (.aload_n 0, 1) := by decide +kernel
theorem dX3_order_24 : decode cX3_order 24 = .ok (.getfield 10, 3) := by decide +kernel
theorem dX3_order_27 : decode cX3_order 27 = .ok (.iload_n 1, 1) := by decide +kernel
theorem dX3_order_28 : decode cX3_order 28 = .ok (.iload_n 2, 1) := by decide +kernel
theorem dX3_order_29 : decode cX3_order 29 = .ok (.invokevirtual 142, 3) := by decide +kernel
theorem dX3_order_32 : decode cX3_order 32 = .ok (.ireturn, 1) := by decide +kernel
set_option maxRecDepth 20000 in
theorem ggX3_waits_X1_sumOfWaits : GoodIn wsX3_waits wsX1_sumOfWaits := goodIn_r _ [6, 7, 8, 9, 10, 5, 11, 12, 13, 14, 15, 16, 17, 18, 19, 20, 30, 31, 32, 33, 34, 35, 36, 37, 38, 39, 40] (by decide +kernel) (by decide +kernel)
set_option maxRecDepth 20000 in
theorem gX3_waits_X1_sumOfWaits : GoodIn wsX3_waits (wsV RX3 145 RX1 yX1_sumOfWaits wsX1_sumOfWaits) := goodIn_app (goodIn_of _ (by decide +kernel)) ggX3_waits_X1_sumOfWaits
set_option maxRecDepth 20000 in
theorem ggX3_waits_X1_longestWaiter : GoodIn wsX3_waits wsX1_longestWaiter := goodIn_r _ [24, 7, 8, 9, 10, 5, 11, 12, 13, 14, 15, 16, 17, 18, 19, 20, 30, 31, 32, 33, 34, 35, 36, 37, 38, 39, 40] (by decide +kernel) (by decide +kernel)
set_option maxRecDepth 20000 in
theorem gX3_waits_X1_longestWaiter : GoodIn wsX3_waits (wsV RX3 148 RX1 yX1_longestWaiter wsX1_longestWaiter) := goodIn_app (goodIn_of _ (by decide +kernel)) ggX3_waits_X1_longestWaiter
set_option maxRecDepth 20000 in
theorem ggX3_waits_X1_waitOf : GoodIn wsX3_waits wsX1_waitOf := goodIn_r _ [20, 12, 13, 14, 5, 15, 16, 30, 31, 32, 33, 34, 35, 36, 37, 38, 39, 40] (by decide +kernel) (by decide +kernel)
set_option maxRecDepth 20000 in
theorem gX3_waits_X1_waitOf : GoodIn wsX3_waits (wsV RX3 151 RX1 yX1_waitOf wsX1_waitOf) := goodIn_app (goodIn_of _ (by decide +kernel)) ggX3_waits_X1_waitOf
theorem dX3_waits_0 : decode cX3_waits 0 = .ok (.iload_n 1, 1) := by decide +kernel
theorem dX3_waits_1 : decode cX3_waits 1 = .ok (.ifCond .lt 8, 3) := by decide +kernel
theorem dX3_waits_4 : decode cX3_waits 4 = .ok (.iload_n 1, 1) := by decide +kernel
theorem dX3_waits_5 : decode cX3_waits 5 = .ok (.iconst 2, 1) := by decide +kernel
theorem dX3_waits_6 : decode cX3_waits 6 = .ok (.if_icmp .le 5, 3) := by decide +kernel
theorem dX3_waits_9 : decode cX3_waits 9 = .ok (.iconst (-1), 1) := by decide +kernel
theorem dX3_waits_10 : decode cX3_waits 10 = .ok (.ireturn, 1) := by decide +kernel
theorem dX3_waits_11 : decode cX3_waits 11 = .ok (.iload_n 1, 1) := by decide +kernel
theorem dX3_waits_12 : decode cX3_waits 12 = .ok (.ifCond .ne 11, 3) := by decide +kernel
theorem dX3_waits_15 : decode cX3_waits 15 = .ok (.aload_n 0, 1) := by decide +kernel
