theorem dX4_takes_97 : decode cX4_takes 97 = .ok (.invokevirtual 54, 3) := by decide +kernel
theorem dX4_takes_100 : decode cX4_takes 100 = .ok (.aload_n 0, 1) := by decide +kernel
theorem dX4_takes_101 : decode cX4_takes 101 = .ok (.iload 5, 2) := by decide +kernel
theorem dX4_takes_103 : decode cX4_takes 103 = .ok (.bipush 6, 2) := by decide +kernel
theorem dX4_takes_105 : decode cX4_takes 105 = .ok (.bipush (-9), 2) := by decide +kernel
theorem dX4_takes_107 : decode cX4_takes 107 = .ok (.invokevirtual 54, 3) := by decide +kernel
theorem dX4_takes_110 : decode cX4_takes 110 = .ok (.aload_n 0, 1) := by decide +kernel
theorem dX4_takes_111 : decode cX4_takes 111 = .ok (.iload 5, 2) := by decide +kernel
theorem dX4_takes_113 : decode cX4_takes 113 = .ok (.bipush 7, 2) := by decide +kernel
theorem dX4_takes_115 : decode cX4_takes 115 = .ok (.iload_n 1, 1) := by decide +kernel
theorem dX4_takes_116 : decode cX4_takes 116 = .ok (.iconst 1, 1) := by decide +kernel
theorem dX4_takes_117 : decode cX4_takes 117 = .ok (.if_icmp .ne 8, 3) := by decide +kernel
theorem dX4_takes_120 : decode cX4_takes 120 = .ok (.iload 4, 2) := by decide +kernel
theorem dX4_takes_122 : decode cX4_takes 122 = .ok (.goto 5, 3) := by decide +kernel
theorem dX4_takes_125 : decode cX4_takes 125 = .ok (.bipush (-9), 2) := by decide +kernel
theorem dX4_takes_127 : decode cX4_takes 127 = .ok (.invokevirtual 54, 3) := by decide +kernel
theorem dX4_takes_130 : decode cX4_takes 130 = .ok (.iload 5, 2) := by decide +kernel
theorem dX4_takes_132 : decode cX4_takes 132 = .ok (.ireturn, 1) := by decide +kernel
set_option maxRecDepth 20000 in
theorem ggX4_read_X4_isBlock : GoodIn wsX4_read wsX4_isBlock := goodIn_r _ [4, 5, 6, 3, 7] (by decide +kernel) (by decide +kernel)
set_option maxRecDepth 20000 in
theorem gX4_read_X4_isBlock : GoodIn wsX4_read (va_wsS RX4 58 yX4_isBlock wsX4_isBlock) := goodIn_app (goodIn_of _ (by decide +kernel)) ggX4_read_X4_isBlock
set_option maxRecDepth 20000 in
theorem ggX4_read_X4_takes : GoodIn wsX4_read wsX4_takes := goodIn_r _ [11, 12, 13, 14, 15, 3, 16, 17, 18, 19, 20, 21, 22, 23, 24, 25, 26, 27, 28, 29, 30, 31, 32, 33, 34, 35, 36, 37, 38, 39, 40, 41, 42] (by decide +kernel) (by decide +kernel)
set_option maxRecDepth 20000 in
theorem gX4_read_X4_takes : GoodIn wsX4_read (wsV RX4 62 RX4 yX4_takes wsX4_takes) := goodIn_app (goodIn_of _ (by decide +kernel)) ggX4_read_X4_takes
theorem dX4_read_0 : decode cX4_read 0 = .ok (.iload_n 1, 1) := by decide +kernel
theorem dX4_read_1 : decode cX4_read 1 = .ok (.iload_n 2, 1) := by decide +kernel
theorem dX4_read_2 : decode cX4_read 2 = .ok (.invokestatic 58, 3) := by decide +kernel
theorem dX4_read_5 : decode cX4_read 5 = .ok (.ifCond .eq 14, 3) := by decide +kernel
theorem dX4_read_8 : decode cX4_read 8 = .ok (.aload_n 0, 1) := by decide +kernel
theorem dX4_read_9 : decode cX4_read 9 = .ok (.iconst 0, 1) := by decide +kernel
theorem dX4_read_10 : decode cX4_read 10 = .ok (.iload_n 1, 1) := by decide +kernel
theorem dX4_read_11 : decode cX4_read 11 = .ok (.iload_n 2, 1) := by decide +kernel
theorem dX4_read_12 : decode cX4_read 12 = .ok (.iconst 0, 1) := by decide +kernel
theorem dX4_read_13 : decode cX4_read 13 = .ok (.invokevirtual 62, 3) := by decide +kernel
theorem dX4_read_16 : decode cX4_read 16 = .ok (.goto 4, 3) := by decide +kernel
theorem dX4_read_19 : decode cX4_read 19 = .ok (.iconst (-1), 1) := by decide +kernel
theorem dX4_read_20 : decode cX4_read 20 = .ok (.ireturn, 1) := by decide +kernel
set_option maxRecDepth 20000 in
theorem ggX4_write_X4_isBlock : GoodIn wsX4_write wsX4_isBlock := goodIn_r _ [4, 5, 6, 3, 7] (by decide +kernel) (by decide +kernel)
set_option maxRecDepth 20000 in
theorem gX4_write_X4_isBlock : GoodIn wsX4_write (va_wsS RX4 58 yX4_isBlock wsX4_isBlock) := goodIn_app (goodIn_of _ (by decide +kernel)) ggX4_write_X4_isBlock
set_option maxRecDepth 20000 in
theorem ggX4_write_X4_within : GoodIn wsX4_write wsX4_within := goodIn_r _ [7] (by decide +kernel) (by decide +kernel)
set_option maxRecDepth 20000 in
theorem gX4_write_X4_within : GoodIn wsX4_write (va_wsS RX4 39 yX4_within wsX4_within) := goodIn_app (goodIn_of _ (by decide +kernel)) ggX4_write_X4_within
set_option maxRecDepth 20000 in
theorem ggX4_write_X4_takes : GoodIn wsX4_write wsX4_takes := goodIn_r _ [11, 12, 13, 14, 15, 3, 16, 17, 18, 19, 20, 21, 22, 23, 24, 25, 26, 27, 28, 29, 30, 31, 32, 33, 34, 35, 36, 37, 38, 39, 40, 41, 42] (by decide +kernel) (by decide +kernel)
set_option maxRecDepth 20000 in
theorem gX4_write_X4_takes : GoodIn wsX4_write (wsV RX4 62 RX4 yX4_takes wsX4_takes) := goodIn_app (goodIn_of _ (by decide +kernel)) ggX4_write_X4_takes
theorem dX4_write_0 : decode cX4_write 0 = .ok (.iload_n 1, 1) := by decide +kernel
theorem dX4_write_1 : decode cX4_write 1 = .ok (.iload_n 2, 1) := by decide +kernel
theorem dX4_write_2 : decode cX4_write 2 = .ok (.invokestatic 58, 3) := by decide +kernel
theorem dX4_write_5 : decode cX4_write 5 = .ok (.ifCond .eq 25, 3) := by decide +kernel
theorem dX4_write_8 : decode cX4_write 8 = .ok (.iload_n 3, 1) := by decide +kernel
theorem dX4_write_9 : decode cX4_write 9 = .ok (.iconst 0, 1) := by decide +kernel
theorem dX4_write_10 : decode cX4_write 10 = .ok (.sipush 999, 3) := by decide +kernel
theorem dX4_write_13 : decode cX4_write 13 = .ok (.invokestatic 39, 3) := by decide +kernel
theorem dX4_write_16 : decode cX4_write 16 = .ok (.ifCond .eq 14, 3) := by decide +kernel
theorem dX4_write_19 : decode cX4_write 19 = .ok (.aload_n 0, 1) := by decide +kernel
theorem dX4_write_20 : decode cX4_write 20 = .ok (.iconst 1, 1) := by decide +kernel
theorem dX4_write_21 : decode cX4_write 21 = .ok (.iload_n 1, 1) := by decide +kernel
theorem dX4_write_22 : decode cX4_write 22 = .ok (.iload_n 2, 1) := by decide +kernel
theorem dX4_write_23 : decode cX4_write 23 = .ok (.iload_n 3, 1) := by decide +kernel
theorem dX4_write_24 : decode cX4_write 24 = .ok (.invokevirtual 62, 3) := by decide +kernel
theorem dX4_write_27 : decode cX4_write 27 = .ok (.goto 4, 3) := by decide +kernel
theorem dX4_write_30 : decode cX4_write 30 = .ok (.iconst (-1), 1) := by decide +kernel
theorem dX4_write_31 : decode cX4_write 31 = .ok (.ireturn, 1) := by decide +kernel
set_option maxRecDepth 20000 in
theorem ggX4_hasWork_X4_told : GoodIn wsX4_hasWork wsX4_told := goodIn_r _ [6, 1, 11, 12, 13, 14, 15, 16, 17, 18, 19, 20, 21] (by decide +kernel) (by decide +kernel)
set_option maxRecDepth 20000 in
theorem gX4_hasWork_X4_told : GoodIn wsX4_hasWork (wsV RX4 43 RX4 yX4_told wsX4_told) := goodIn_app (goodIn_of _ (by decide +kernel)) ggX4_hasWork_X4_told
set_option maxRecDepth 20000 in
theorem ggX4_hasWork_X4_of : GoodIn wsX4_hasWork wsX4_of := goodIn_r _ [10, 1, 11, 12, 13, 14, 15, 16, 17, 18, 19, 20, 21] (by decide +kernel) (by decide +kernel)
set_option maxRecDepth 20000 in
theorem gX4_hasWork_X4_of : GoodIn wsX4_hasWork (wsV RX4 66 RX4 yX4_of wsX4_of) := goodIn_app (goodIn_of _ (by decide +kernel)) ggX4_hasWork_X4_of
theorem dX4_hasWork_0 : decode cX4_hasWork 0 = .ok (.iconst 0, 1) := by decide +kernel
theorem dX4_hasWork_1 : decode cX4_hasWork 1 = .ok (.istore_n 2, 1) := by decide +kernel
theorem dX4_hasWork_2 : decode cX4_hasWork 2 = .ok (.iconst 0, 1) := by decide +kernel
theorem dX4_hasWork_3 : decode cX4_hasWork 3 = .ok (.istore_n 3, 1) := by decide +kernel
theorem dX4_hasWork_4 : decode cX4_hasWork 4 = .ok (.iload_n 3, 1) := by decide +kernel
theorem dX4_hasWork_5 : decode cX4_hasWork 5 = .ok (.aload_n 0, 1) := by decide +kernel
theorem dX4_hasWork_6 : decode cX4_hasWork 6 = .ok (.getfield 7, 3) := by decide +kernel
theorem dX4_hasWork_9 : decode cX4_hasWork 9 = .ok (.iconst 2, 1) := by decide +kernel
theorem dX4_hasWork_10 : decode cX4_hasWork 10 = .ok (.iaload, 1) := by decide +kernel
theorem dX4_hasWork_11 : decode cX4_hasWork 11 = .ok (.if_icmp .ge 38, 3) := by decide +kernel
theorem dX4_hasWork_14 : decode cX4_hasWork 14 = .ok (.iload_n 2, 1) := by decide +kernel
theorem dX4_hasWork_15 : decode cX4_hasWork 15 = .ok (.ifCond .ne 22, 3) := by decide +kernel
theorem dX4_hasWork_18 : decode cX4_hasWork 18 = .ok (.aload_n 0, 1) := by decide +kernel
theorem dX4_hasWork_19 : decode cX4_hasWork 19 = .ok (.iload_n 3, 1) := by decide +kernel
theorem dX4_hasWork_20 : decode cX4_hasWork 20 = .ok (.iconst 3, 1) := by decide +kernel
theorem dX4_hasWork_21 : decode cX4_hasWork 21 = .ok (.invokevirtual 43, 3) := by decide +kernel
theorem dX4_hasWork_24 : decode cX4_hasWork 24 = .ok (.ifCond .ne 17, 3) := by decide +kernel
theorem dX4_hasWork_27 : decode cX4_hasWork 27 = .ok (.aload_n 0, 1) := by decide +kernel
theorem dX4_hasWork_28 : decode cX4_hasWork 28 = .ok (.iload_n 3, 1) := by decide +kernel
theorem dX4_hasWork_29 : decode cX4_hasWork 29 = .ok (.iconst 1, 1) := by decide +kernel
theorem dX4_hasWork_30 : decode cX4_hasWork 30 = .ok (.invokevirtual 43, 3) := by decide +kernel
theorem dX4_hasWork_33 : decode cX4_hasWork 33 = .ok (.iload_n 1, 1) := by decide +kernel
theorem dX4_hasWork_34 : decode cX4_hasWork 34 = .ok (.if_icmp .ne 7, 3) := by decide +kernel
theorem dX4_hasWork_37 : decode cX4_hasWork 37 = .ok (.iconst 1, 1) := by decide +kernel
theorem dX4_hasWork_38 : decode cX4_hasWork 38 = .ok (.goto 4, 3) := by decide +kernel
theorem dX4_hasWork_41 : decode cX4_hasWork 41 = .ok (.iconst 0, 1) := by decide +kernel
theorem dX4_hasWork_42 : decode cX4_hasWork 42 = .ok (.istore_n 2, 1) := by decide +kernel
theorem dX4_hasWork_43 : decode cX4_hasWork 43 = .ok (.iinc 3 1, 3) := by decide +kernel
theorem dX4_hasWork_46 : decode cX4_hasWork 46 = .ok (.goto (-42), 3) := by decide +kernel
theorem dX4_hasWork_49 : decode cX4_hasWork 49 = .ok (.iconst 0, 1) := by decide +kernel
theorem dX4_hasWork_50 : decode cX4_hasWork 50 = .ok (.istore_n 3, 1) := by decide +kernel
theorem dX4_hasWork_51 : decode cX4_hasWork 51 = .ok (.iload_n 3, 1) := by decide +kernel
theorem dX4_hasWork_52 : decode cX4_hasWork 52 = .ok (.bipush 12, 2) := by decide +kernel
theorem dX4_hasWork_54 : decode cX4_hasWork 54 = .ok (.if_icmp .ge 51, 3) := by decide +kernel
theorem dX4_hasWork_57 : decode cX4_hasWork 57 = .ok (.iload_n 2, 1) := by decide +kernel
theorem dX4_hasWork_58 : decode cX4_hasWork 58 = .ok (.ifCond .ne 35, 3) := by decide +kernel
theorem dX4_hasWork_61 : decode cX4_hasWork 61 = .ok (.aload_n 0, 1) := by decide +kernel
theorem dX4_hasWork_62 : decode cX4_hasWork 62 = .ok (.iconst 0, 1) := by decide +kernel
theorem dX4_hasWork_63 : decode cX4_hasWork 63 = .ok (.bipush 12, 2) := by decide +kernel
theorem dX4_hasWork_65 : decode cX4_hasWork 65 = .ok (.iload_n 1, 1) := by decide +kernel
theorem dX4_hasWork_66 : decode cX4_hasWork 66 = .ok (.imul, 1) := by decide +kernel
theorem dX4_hasWork_67 : decode cX4_hasWork 67 = .ok (.iload_n 3, 1) := by decide +kernel
theorem dX4_hasWork_68 : decode cX4_hasWork 68 = .ok (.iadd, 1) := by decide +kernel
theorem dX4_hasWork_69 : decode cX4_hasWork 69 = .ok (.iconst 3, 1) := by decide +kernel
theorem dX4_hasWork_70 : decode cX4_hasWork 70 = .ok (.invokevirtual 66, 3) := by decide +kernel
theorem dX4_hasWork_73 : decode cX4_hasWork 73 = .ok (.iconst 1, 1) := by decide +kernel
theorem dX4_hasWork_74 : decode cX4_hasWork 74 = .ok (.if_icmp .eq 19, 3) := by decide +kernel
theorem dX4_hasWork_77 : decode cX4_hasWork 77 = .ok (.aload_n 0, 1) := by decide +kernel
theorem dX4_hasWork_78 : decode cX4_hasWork 78 = .ok (.iconst 1, 1) := by decide +kernel
theorem dX4_hasWork_79 : decode cX4_hasWork 79 = .ok (.bipush 12, 2) := by decide +kernel
theorem dX4_hasWork_81 : decode cX4_hasWork 81 = .ok (.iload_n 1, 1) := by decide +kernel
theorem dX4_hasWork_82 : decode cX4_hasWork 82 = .ok (.imul, 1) := by decide +kernel
theorem dX4_hasWork_83 : decode cX4_hasWork 83 = .ok (.iload_n 3, 1) := by decide +kernel
theorem dX4_hasWork_84 : decode cX4_hasWork 84 = .ok (.iadd, 1) := by decide +kernel
theorem dX4_hasWork_85 : decode cX4_hasWork 85 = .ok (.iconst 3, 1) := by decide +kernel
theorem dX4_hasWork_86 : decode cX4_hasWork 86 = .ok (.invokevirtual 66, 3) := by decide +kernel
theorem dX4_hasWork_89 : decode cX4_hasWork 89 = .ok (.iconst 1, 1) := by decide +kernel
theorem dX4_hasWork_90 : decode cX4_hasWork 90 = .ok (.if_icmp .ne 7, 3) := by decide +kernel
theorem dX4_hasWork_93 : decode cX4_hasWork 93 = .ok (.iconst 1, 1) := by decide +kernel
theorem dX4_hasWork_94 : decode cX4_hasWork 94 = .ok (.goto 4, 3) := by decide +kernel
theorem dX4_hasWork_97 : decode cX4_hasWork 97 = .ok (.iconst 0, 1) := by decide +kernel
theorem dX4_hasWork_98 : decode cX4_hasWork 98 = .ok (.istore_n 2, 1) := by decide +kernel
theorem dX4_hasWork_99 : decode cX4_hasWork 99 = .ok (.iinc 3 1, 3) := by decide +kernel
theorem dX4_hasWork_102 : decode cX4_hasWork 102 = .ok (.goto (-51), 3) := by decide +kernel
theorem dX4_hasWork_105 : decode cX4_hasWork 105 = .ok (.iload_n 2, 1) := by decide +kernel
theorem dX4_hasWork_106 : decode cX4_hasWork 106 = .ok (.ireturn, 1) := by decide +kernel
theorem dX4_size_0 : decode cX4_size 0 = .ok (.iload_n 0, 1) := by decide +kernel
theorem dX4_size_1 : decode cX4_size 1 = .ok (.ifCond .ge 8, 3) := by decide +kernel
theorem dX4_size_4 : decode cX4_size 4 = .ok (.iload_n 0, 1) := by decide +kernel
theorem dX4_size_5 : decode cX4_size 5 = .ok (.ineg, 1) := by decide +kernel
theorem dX4_size_6 : decode cX4_size 6 = .ok (.goto 4, 3) := by decide +kernel
theorem dX4_size_9 : decode cX4_size 9 = .ok (.iload_n 0, 1) := by decide +kernel
theorem dX4_size_10 : decode cX4_size 10 = .ok (.ireturn, 1) := by decide +kernel
set_option maxRecDepth 20000 in
theorem ggX4_nearest_X4_size : GoodIn wsX4_nearest wsX4_size := goodIn_r _ [5] (by decide +kernel) (by decide +kernel)
set_option maxRecDepth 20000 in
theorem gX4_nearest_X4_size : GoodIn wsX4_nearest (va_wsS RX4 70 yX4_size wsX4_size) := goodIn_app (goodIn_of _ (by decide +kernel)) ggX4_nearest_X4_size
set_option maxRecDepth 20000 in
theorem ggX4_nearest_X4_hasWork : GoodIn wsX4_nearest wsX4_hasWork := goodIn_r _ [9, 1, 10, 11, 12, 4, 13, 14, 15, 16, 17, 18, 19, 20, 21, 22, 23, 24, 25, 26, 27, 28] (by decide +kernel) (by decide +kernel)
set_option maxRecDepth 20000 in
theorem gX4_nearest_X4_hasWork : GoodIn wsX4_nearest (wsV RX4 73 RX4 yX4_hasWork wsX4_hasWork) := goodIn_app (goodIn_of _ (by decide +kernel)) ggX4_nearest_X4_hasWork
theorem dX4_nearest_0 : decode cX4_nearest 0 = .ok (.bipush (-9), 2) := by decide +kernel
theorem dX4_nearest_2 : decode cX4_nearest 2 = .ok (.istore_n 1, 1) := by decide +kernel
theorem dX4_nearest_3 : decode cX4_nearest 3 = .ok (.iconst 0, 1) := by decide +kernel
theorem dX4_nearest_4 : decode cX4_nearest 4 = .ok (.istore_n 2, 1) := by decide +kernel
theorem dX4_nearest_5 : decode cX4_nearest 5 = .ok (.iload_n 2, 1) := by decide +kernel
theorem dX4_nearest_6 : decode cX4_nearest 6 = .ok (.iconst 4, 1) := by decide +kernel
theorem dX4_nearest_7 : decode cX4_nearest 7 = .ok (.if_icmp .ge 64, 3) := by decide +kernel
theorem dX4_nearest_10 : decode cX4_nearest 10 = .ok (.iload_n 1, 1) := by decide +kernel
theorem dX4_nearest_11 : decode cX4_nearest 11 = .ok (.bipush (-9), 2) := by decide +kernel
theorem dX4_nearest_13 : decode cX4_nearest 13 = .ok (.if_icmp .eq 28, 3) := by decide +kernel
theorem dX4_nearest_16 : decode cX4_nearest 16 = .ok (.iload_n 2, 1) := by decide +kernel
theorem dX4_nearest_17 : decode cX4_nearest 17 = .ok (.aload_n 0, 1) := by decide +kernel
theorem dX4_nearest_18 : decode cX4_nearest 18 = .ok (.getfield 7, 3) := by decide +kernel
theorem dX4_nearest_21 : decode cX4_nearest 21 = .ok (.iconst 1, 1) := by decide +kernel
theorem dX4_nearest_22 : decode cX4_nearest 22 = .ok (.iaload, 1) := by decide +kernel
theorem dX4_nearest_23 : decode cX4_nearest 23 = .ok (.isub, 1) := by decide +kernel
theorem dX4_nearest_24 : decode cX4_nearest 24 = .ok (.invokestatic 70, 3) := by decide +kernel
theorem dX4_nearest_27 : decode cX4_nearest 27 = .ok (.iload_n 1, 1) := by decide +kernel
theorem dX4_nearest_28 : decode cX4_nearest 28 = .ok (.aload_n 0, 1) := by decide +kernel
theorem dX4_nearest_29 : decode cX4_nearest 29 = .ok (.getfield 7, 3) := by decide +kernel
theorem dX4_nearest_32 : decode cX4_nearest 32 = .ok (.iconst 1, 1) := by decide +kernel
theorem dX4_nearest_33 : decode cX4_nearest 33 = .ok (.iaload, 1) := by decide +kernel
theorem dX4_nearest_34 : decode cX4_nearest 34 = .ok (.isub, 1) := by decide +kernel
theorem dX4_nearest_35 : decode cX4_nearest 35 = .ok (.invokestatic 70, 3) := by decide +kernel
theorem dX4_nearest_38 : decode cX4_nearest 38 = .ok (.if_icmp .ge 7, 3) := by decide +kernel
theorem dX4_nearest_41 : decode cX4_nearest 41 = .ok (.iconst 1, 1) := by decide +kernel
theorem dX4_nearest_42 : decode cX4_nearest 42 = .ok (.goto 4, 3) := by decide +kernel
theorem dX4_nearest_45 : decode cX4_nearest 45 = .ok (.iconst 0, 1) := by decide +kernel
theorem dX4_nearest_46 : decode cX4_nearest 46 = .ok (.istore_n 3, 1) := by decide +kernel
theorem dX4_nearest_47 : decode cX4_nearest 47 = .ok (.aload_n 0, 1) := by decide +kernel
theorem dX4_nearest_48 : decode cX4_nearest 48 = .ok (.iload_n 2, 1) := by decide +kernel
theorem dX4_nearest_49 : decode cX4_nearest 49 = .ok (.invokevirtual 73, 3) := by decide +kernel
theorem dX4_nearest_52 : decode cX4_nearest 52 = .ok (.ifCond .eq 11, 3) := by decide +kernel
theorem dX4_nearest_55 : decode cX4_nearest 55 = .ok (.iload_n 3, 1) := by decide +kernel
theorem dX4_nearest_56 : decode cX4_nearest 56 = .ok (.ifCond .eq 7, 3) := by decide +kernel
theorem dX4_nearest_59 : decode cX4_nearest 59 = .ok (.iload_n 2, 1) := by decide +kernel
theorem dX4_nearest_60 : decode cX4_nearest 60 = .ok (.goto 4, 3) := by decide +kernel
theorem dX4_nearest_63 : decode cX4_nearest 63 = .ok (.iload_n 1, 1) := by decide +kernel
theorem dX4_nearest_64 : decode cX4_nearest 64 = .ok (.istore_n 1, 1) := by decide +kernel
theorem dX4_nearest_65 : decode cX4_nearest 65 = .ok (.iinc 2 1, 3) := by decide +kernel
theorem dX4_nearest_68 : decode cX4_nearest 68 = .ok (.goto (-63), 3) := by decide +kernel
theorem dX4_nearest_71 : decode cX4_nearest 71 = .ok (.iload_n 1, 1) := by decide +kernel
theorem dX4_nearest_72 : decode cX4_nearest 72 = .ok (.ireturn, 1) := by decide +kernel
set_option maxRecDepth 20000 in
theorem ggX4_firstFor_X4_told : GoodIn wsX4_firstFor wsX4_told := goodIn_r _ [6, 1, 7, 8, 9, 10, 11, 12, 13, 14, 15, 16, 17] (by decide +kernel) (by decide +kernel)
set_option maxRecDepth 20000 in
theorem gX4_firstFor_X4_told : GoodIn wsX4_firstFor (wsV RX4 43 RX4 yX4_told wsX4_told) := goodIn_app (goodIn_of _ (by decide +kernel)) ggX4_firstFor_X4_told
theorem dX4_firstFor_0 : decode cX4_firstFor 0 = .ok (.iconst 0, 1) := by decide +kernel
theorem dX4_firstFor_1 : decode cX4_firstFor 1 = .ok (.istore_n 3, 1) := by decide +kernel
theorem dX4_firstFor_2 : decode cX4_firstFor 2 = .ok (.iload_n 3, 1) := by decide +kernel
theorem dX4_firstFor_3 : decode cX4_firstFor 3 = .ok (.aload_n 0, 1) := by decide +kernel
theorem dX4_firstFor_4 : decode cX4_firstFor 4 = .ok (.getfield 7, 3) := by decide +kernel
theorem dX4_firstFor_7 : decode cX4_firstFor 7 = .ok (.iconst 2, 1) := by decide +kernel
theorem dX4_firstFor_8 : decode cX4_firstFor 8 = .ok (.iaload, 1) := by decide +kernel
theorem dX4_firstFor_9 : decode cX4_firstFor 9 = .ok (.if_icmp .ge 50, 3) := by decide +kernel
theorem dX4_firstFor_12 : decode cX4_firstFor 12 = .ok (.aload_n 0, 1) := by decide +kernel
theorem dX4_firstFor_13 : decode cX4_firstFor 13 = .ok (.iload_n 3, 1) := by decide +kernel
theorem dX4_firstFor_14 : decode cX4_firstFor 14 = .ok (.iconst 3, 1) := by decide +kernel
theorem dX4_firstFor_15 : decode cX4_firstFor 15 = .ok (.invokevirtual 43, 3) := by decide +kernel
theorem dX4_firstFor_18 : decode cX4_firstFor 18 = .ok (.ifCond .ne 35, 3) := by decide +kernel
theorem dX4_firstFor_21 : decode cX4_firstFor 21 = .ok (.aload_n 0, 1) := by decide +kernel
theorem dX4_firstFor_22 : decode cX4_firstFor 22 = .ok (.iload_n 3, 1) := by decide +kernel
theorem dX4_firstFor_23 : decode cX4_firstFor 23 = .ok (.iconst 0, 1) := by decide +kernel
theorem dX4_firstFor_24 : decode cX4_firstFor 24 = .ok (.invokevirtual 43, 3) := by decide +kernel
theorem dX4_firstFor_27 : decode cX4_firstFor 27 = .ok (.iload_n 1, 1) := by decide +kernel
theorem dX4_firstFor_28 : decode cX4_firstFor 28 = .ok (.if_icmp .ne 25, 3) := by decide +kernel
theorem dX4_firstFor_31 : decode cX4_firstFor 31 = .ok (.bipush 12, 2) := by decide +kernel
theorem dX4_firstFor_33 : decode cX4_firstFor 33 = .ok (.aload_n 0, 1) := by decide +kernel
theorem dX4_firstFor_34 : decode cX4_firstFor 34 = .ok (.iload_n 3, 1) := by decide +kernel
theorem dX4_firstFor_35 : decode cX4_firstFor 35 = .ok (.iconst 1, 1) := by decide +kernel
theorem dX4_firstFor_36 : decode cX4_firstFor 36 = .ok (.invokevirtual 43, 3) := by decide +kernel
theorem dX4_firstFor_39 : decode cX4_firstFor 39 = .ok (.imul, 1) := by decide +kernel
theorem dX4_firstFor_40 : decode cX4_firstFor 40 = .ok (.aload_n 0, 1) := by decide +kernel
theorem dX4_firstFor_41 : decode cX4_firstFor 41 = .ok (.iload_n 3, 1) := by decide +kernel
theorem dX4_firstFor_42 : decode cX4_firstFor 42 = .ok (.iconst 2, 1) := by decide +kernel
theorem dX4_firstFor_43 : decode cX4_firstFor 43 = .ok (.invokevirtual 43, 3) := by decide +kernel
theorem dX4_firstFor_46 : decode cX4_firstFor 46 = .ok (.iadd, 1) := by decide +kernel
theorem dX4_firstFor_47 : decode cX4_firstFor 47 = .ok (.iload_n 2, 1) := by decide +kernel
theorem dX4_firstFor_48 : decode cX4_firstFor 48 = .ok (.if_icmp .ne 5, 3) := by decide +kernel
theorem dX4_firstFor_51 : decode cX4_firstFor 51 = .ok (.iload_n 3, 1) := by decide +kernel
theorem dX4_firstFor_52 : decode cX4_firstFor 52 = .ok (.ireturn, 1) := by decide +kernel
theorem dX4_firstFor_53 : decode cX4_firstFor 53 = .ok (.iinc 3 1, 3) := by decide +kernel
theorem dX4_firstFor_56 : decode cX4_firstFor 56 = .ok (.goto (-54), 3) := by decide +kernel
theorem dX4_firstFor_59 : decode cX4_firstFor 59 = .ok (.bipush (-9), 2) := by decide +kernel
theorem dX4_firstFor_61 : decode cX4_firstFor 61 = .ok (.ireturn, 1) := by decide +kernel
set_option maxRecDepth 20000 in
theorem ggX4_ends_X4_tell : GoodIn wsX4_ends wsX4_tell := goodIn_r _ [6, 1, 7, 8, 9, 10, 11, 12, 13, 14, 15, 16, 17] (by decide +kernel) (by decide +kernel)
set_option maxRecDepth 20000 in
theorem gX4_ends_X4_tell : GoodIn wsX4_ends (wsV RX4 54 RX4 yX4_tell wsX4_tell) := goodIn_app (goodIn_of _ (by decide +kernel)) ggX4_ends_X4_tell
theorem dX4_ends_0 : decode cX4_ends 0 = .ok (.aload_n 0, 1) := by decide +kernel
theorem dX4_ends_1 : decode cX4_ends 1 = .ok (.iload_n 1, 1) := by decide +kernel
theorem dX4_ends_2 : decode cX4_ends 2 = .ok (.iconst 3, 1) := by decide +kernel
theorem dX4_ends_3 : decode cX4_ends 3 = .ok (.iconst 1, 1) := by decide +kernel
theorem dX4_ends_4 : decode cX4_ends 4 = .ok (.invokevirtual 54, 3) := by decide +kernel
theorem dX4_ends_7 : decode cX4_ends 7 = .ok (.aload_n 0, 1) := by decide +kernel
theorem dX4_ends_8 : decode cX4_ends 8 = .ok (.iload_n 1, 1) := by decide +kernel
theorem dX4_ends_9 : decode cX4_ends 9 = .ok (.iconst 5, 1) := by decide +kernel
theorem dX4_ends_10 : decode cX4_ends 10 = .ok (.aload_n 0, 1) := by decide +kernel
theorem dX4_ends_11 : decode cX4_ends 11 = .ok (.getfield 7, 3) := by decide +kernel
theorem dX4_ends_14 : decode cX4_ends 14 = .ok (.iconst 0, 1) := by decide +kernel
theorem dX4_ends_15 : decode cX4_ends 15 = .ok (.iaload, 1) := by decide +kernel
theorem dX4_ends_16 : decode cX4_ends 16 = .ok (.invokevirtual 54, 3) := by decide +kernel
theorem dX4_ends_19 : decode cX4_ends 19 = .ok (.aload_n 0, 1) := by decide +kernel
theorem dX4_ends_20 : decode cX4_ends 20 = .ok (.iload_n 1, 1) := by decide +kernel
theorem dX4_ends_21 : decode cX4_ends 21 = .ok (.bipush 6, 2) := by decide +kernel
theorem dX4_ends_23 : decode cX4_ends 23 = .ok (.iload_n 2, 1) := by decide +kernel
theorem dX4_ends_24 : decode cX4_ends 24 = .ok (.invokevirtual 54, 3) := by decide +kernel
theorem dX4_ends_27 : decode cX4_ends 27 = .ok (.return_, 1) := by decide +kernel
set_option maxRecDepth 20000 in
theorem ggX4_writes_X4_put : GoodIn wsX4_writes wsX4_put := goodIn_r _ [6, 1, 7, 8, 9, 10, 11, 12, 13, 14, 15, 16, 17] (by decide +kernel) (by decide +kernel)
set_option maxRecDepth 20000 in
theorem gX4_writes_X4_put : GoodIn wsX4_writes (wsV RX4 77 RX4 yX4_put wsX4_put) := goodIn_app (goodIn_of _ (by decide +kernel)) ggX4_writes_X4_put
theorem dX4_writes_0 : decode cX4_writes 0 = .ok (.aload_n 0, 1) := by decide +kernel
theorem dX4_writes_1 : decode cX4_writes 1 = .ok (.iload_n 1, 1) := by decide +kernel
theorem dX4_writes_2 : decode cX4_writes 2 = .ok (.iload_n 2, 1) := by decide +kernel
theorem dX4_writes_3 : decode cX4_writes 3 = .ok (.iconst 0, 1) := by decide +kernel
theorem dX4_writes_4 : decode cX4_writes 4 = .ok (.iload_n 3, 1) := by decide +kernel
theorem dX4_writes_5 : decode cX4_writes 5 = .ok (.invokevirtual 77, 3) := by decide +kernel
theorem dX4_writes_8 : decode cX4_writes 8 = .ok (.aload_n 0, 1) := by decide +kernel
theorem dX4_writes_9 : decode cX4_writes 9 = .ok (.iload_n 1, 1) := by decide +kernel
theorem dX4_writes_10 : decode cX4_writes 10 = .ok (.iload_n 2, 1) := by decide +kernel
theorem dX4_writes_11 : decode cX4_writes 11 = .ok (.iconst 1, 1) := by decide +kernel
theorem dX4_writes_12 : decode cX4_writes 12 = .ok (.iload 4, 2) := by decide +kernel
theorem dX4_writes_14 : decode cX4_writes 14 = .ok (.invokevirtual 77, 3) := by decide +kernel
theorem dX4_writes_17 : decode cX4_writes 17 = .ok (.aload_n 0, 1) := by decide +kernel
theorem dX4_writes_18 : decode cX4_writes 18 = .ok (.iload_n 1, 1) := by decide +kernel
theorem dX4_writes_19 : decode cX4_writes 19 = .ok (.iload_n 2, 1) := by decide +kernel
theorem dX4_writes_20 : decode cX4_writes 20 = .ok (.iconst 2, 1) := by decide +kernel
theorem dX4_writes_21 : decode cX4_writes 21 = .ok (.iconst 0, 1) := by decide +kernel
theorem dX4_writes_22 : decode cX4_writes 22 = .ok (.invokevirtual 77, 3) := by decide +kernel
theorem dX4_writes_25 : decode cX4_writes 25 = .ok (.aload_n 0, 1) := by decide +kernel
theorem dX4_writes_26 : decode cX4_writes 26 = .ok (.iload_n 1, 1) := by decide +kernel
theorem dX4_writes_27 : decode cX4_writes 27 = .ok (.iload_n 2, 1) := by decide +kernel
theorem dX4_writes_28 : decode cX4_writes 28 = .ok (.iconst 3, 1) := by decide +kernel
theorem dX4_writes_29 : decode cX4_writes 29 = .ok (.iconst 0, 1) := by decide +kernel
theorem dX4_writes_30 : decode cX4_writes 30 = .ok (.invokevirtual 77, 3) := by decide +kernel
theorem dX4_writes_33 : decode cX4_writes 33 = .ok (.aload_n 0, 1) := by decide +kernel
theorem dX4_writes_34 : decode cX4_writes 34 = .ok (.iload_n 1, 1) := by decide +kernel
theorem dX4_writes_35 : decode cX4_writes 35 = .ok (.iload_n 2, 1) := by decide +kernel
theorem dX4_writes_36 : decode cX4_writes 36 = .ok (.iconst 4, 1) := by decide +kernel
theorem dX4_writes_37 : decode cX4_writes 37 = .ok (.aload_n 0, 1) := by decide +kernel
theorem dX4_writes_38 : decode cX4_writes 38 = .ok (.getfield 7, 3) := by decide +kernel
theorem dX4_writes_41 : decode cX4_writes 41 = .ok (.iconst 0, 1) := by decide +kernel
theorem dX4_writes_42 : decode cX4_writes 42 = .ok (.iaload, 1) := by decide +kernel
theorem dX4_writes_43 : decode cX4_writes 43 = .ok (.invokevirtual 77, 3) := by decide +kernel
theorem dX4_writes_46 : decode cX4_writes 46 = .ok (.return_, 1) := by decide +kernel
theorem dX4_sectorUnder_0 : decode cX4_sectorUnder 0 = .ok (.aload_n 0, 1) := by decide +kernel
theorem dX4_sectorUnder_1 : decode cX4_sectorUnder 1 = .ok (.getfield 7, 3) := by decide +kernel
theorem dX4_sectorUnder_4 : decode cX4_sectorUnder 4 = .ok (.iconst 0, 1) := by decide +kernel
theorem dX4_sectorUnder_5 : decode cX4_sectorUnder 5 = .ok (.iaload, 1) := by decide +kernel
theorem dX4_sectorUnder_6 : decode cX4_sectorUnder 6 = .ok (.bipush 6, 2) := by decide +kernel
theorem dX4_sectorUnder_8 : decode cX4_sectorUnder 8 = .ok (.iload_n 1, 1) := by decide +kernel
theorem dX4_sectorUnder_9 : decode cX4_sectorUnder 9 = .ok (.imul, 1) := by decide +kernel
theorem dX4_sectorUnder_10 : decode cX4_sectorUnder 10 = .ok (.iadd, 1) := by decide +kernel
theorem dX4_sectorUnder_11 : decode cX4_sectorUnder 11 = .ok (.bipush 12, 2) := by decide +kernel
theorem dX4_sectorUnder_13 : decode cX4_sectorUnder 13 = .ok (.irem, 1) := by decide +kernel
theorem dX4_sectorUnder_14 : decode cX4_sectorUnder 14 = .ok (.ireturn, 1) := by decide +kernel
theorem dX4_most_0 : decode cX4_most 0 = .ok (.iload_n 0, 1) := by decide +kernel
theorem dX4_most_1 : decode cX4_most 1 = .ok (.iload_n 1, 1) := by decide +kernel
theorem dX4_most_2 : decode cX4_most 2 = .ok (.if_icmp .le 7, 3) := by decide +kernel
theorem dX4_most_5 : decode cX4_most 5 = .ok (.iload_n 0, 1) := by decide +kernel
theorem dX4_most_6 : decode cX4_most 6 = .ok (.goto 4, 3) := by decide +kernel
theorem dX4_most_9 : decode cX4_most 9 = .ok (.iload_n 1, 1) := by decide +kernel
theorem dX4_most_10 : decode cX4_most 10 = .ok (.ireturn, 1) := by decide +kernel
set_option maxRecDepth 20000 in
theorem ggX4_heads_X4_sectorUnder : GoodIn wsX4_heads wsX4_sectorUnder := goodIn_r _ [6, 1, 38, 39, 40, 41, 42, 43, 44, 45, 46, 47, 48] (by decide +kernel) (by decide +kernel)
set_option maxRecDepth 20000 in
theorem gX4_heads_X4_sectorUnder : GoodIn wsX4_heads (wsV RX4 81 RX4 yX4_sectorUnder wsX4_sectorUnder) := goodIn_app (goodIn_of _ (by decide +kernel)) ggX4_heads_X4_sectorUnder
set_option maxRecDepth 20000 in
theorem ggX4_heads_X4_firstFor : GoodIn wsX4_heads wsX4_firstFor := goodIn_r _ [10, 1, 11, 12, 13, 5, 14, 38, 39, 40, 41, 42, 43, 44, 45, 46, 47, 48] (by decide +kernel) (by decide +kernel)
set_option maxRecDepth 20000 in
theorem gX4_heads_X4_firstFor : GoodIn wsX4_heads (wsV RX4 84 RX4 yX4_firstFor wsX4_firstFor) := goodIn_app (goodIn_of _ (by decide +kernel)) ggX4_heads_X4_firstFor
set_option maxRecDepth 20000 in
theorem ggX4_heads_X4_of : GoodIn wsX4_heads wsX4_of := goodIn_r _ [18, 1, 38, 39, 40, 41, 42, 43, 44, 45, 46, 47, 48] (by decide +kernel) (by decide +kernel)
set_option maxRecDepth 20000 in
theorem gX4_heads_X4_of : GoodIn wsX4_heads (wsV RX4 66 RX4 yX4_of wsX4_of) := goodIn_app (goodIn_of _ (by decide +kernel)) ggX4_heads_X4_of
set_option maxRecDepth 20000 in
theorem ggX4_heads_X4_writes : GoodIn wsX4_heads wsX4_writes := goodIn_r _ [22, 1, 23, 24, 25, 5, 26, 38, 39, 40, 41, 42, 43, 44, 45, 46, 47, 48] (by decide +kernel) (by decide +kernel)
set_option maxRecDepth 20000 in
theorem gX4_heads_X4_writes : GoodIn wsX4_heads (wsV RX4 87 RX4 yX4_writes wsX4_writes) := goodIn_app (goodIn_of _ (by decide +kernel)) ggX4_heads_X4_writes
set_option maxRecDepth 20000 in
theorem ggX4_heads_X4_told : GoodIn wsX4_heads wsX4_told := goodIn_r _ [14, 1, 38, 39, 40, 41, 42, 43, 44, 45, 46, 47, 48] (by decide +kernel) (by decide +kernel)
set_option maxRecDepth 20000 in
theorem gX4_heads_X4_told : GoodIn wsX4_heads (wsV RX4 43 RX4 yX4_told wsX4_told) := goodIn_app (goodIn_of _ (by decide +kernel)) ggX4_heads_X4_told
set_option maxRecDepth 20000 in
theorem ggX4_heads_X4_most : GoodIn wsX4_heads wsX4_most := goodIn_r _ [29] (by decide +kernel) (by decide +kernel)
set_option maxRecDepth 20000 in
theorem gX4_heads_X4_most : GoodIn wsX4_heads (va_wsS RX4 90 yX4_most wsX4_most) := goodIn_app (goodIn_of _ (by decide +kernel)) ggX4_heads_X4_most
set_option maxRecDepth 20000 in
theorem ggX4_heads_X4_put : GoodIn wsX4_heads wsX4_put := goodIn_r _ [26, 1, 38, 39, 40, 41, 42, 43, 44, 45, 46, 47, 48] (by decide +kernel) (by decide +kernel)
set_option maxRecDepth 20000 in
theorem gX4_heads_X4_put : GoodIn wsX4_heads (wsV RX4 77 RX4 yX4_put wsX4_put) := goodIn_app (goodIn_of _ (by decide +kernel)) ggX4_heads_X4_put
set_option maxRecDepth 20000 in
theorem ggX4_heads_X4_ends : GoodIn wsX4_heads wsX4_ends := goodIn_r _ [33, 1, 34, 35, 36, 5, 37, 38, 39, 40, 41, 42, 43, 44, 45, 46, 47, 48] (by decide +kernel) (by decide +kernel)
set_option maxRecDepth 20000 in
theorem gX4_heads_X4_ends : GoodIn wsX4_heads (wsV RX4 93 RX4 yX4_ends wsX4_ends) := goodIn_app (goodIn_of _ (by decide +kernel)) ggX4_heads_X4_ends
set_option maxRecDepth 20000 in
theorem ggX4_heads_X4_tell : GoodIn wsX4_heads wsX4_tell := goodIn_r _ [37, 1, 38, 39, 40, 41, 42, 43, 44, 45, 46, 47, 48] (by decide +kernel) (by decide +kernel)
set_option maxRecDepth 20000 in
theorem gX4_heads_X4_tell : GoodIn wsX4_heads (wsV RX4 54 RX4 yX4_tell wsX4_tell) := goodIn_app (goodIn_of _ (by decide +kernel)) ggX4_heads_X4_tell
theorem dX4_heads_0 : decode cX4_heads 0 = .ok (.bipush 12, 2) := by decide +kernel
theorem dX4_heads_2 : decode cX4_heads 2 = .ok (.aload_n 0, 1) := by decide +kernel
theorem dX4_heads_3 : decode cX4_heads 3 = .ok (.getfield 7, 3) := by decide +kernel
theorem dX4_heads_6 : decode cX4_heads 6 = .ok (.iconst 1, 1) := by decide +kernel
theorem dX4_heads_7 : decode cX4_heads 7 = .ok (.iaload, 1) := by decide +kernel
theorem dX4_heads_8 : decode cX4_heads 8 = .ok (.imul, 1) := by decide +kernel
theorem dX4_heads_9 : decode cX4_heads 9 = .ok (.aload_n 0, 1) := by decide +kernel
theorem dX4_heads_10 : decode cX4_heads 10 = .ok (.iload_n 1, 1) := by decide +kernel
theorem dX4_heads_11 : decode cX4_heads 11 = .ok (.invokevirtual 81, 3) := by decide +kernel
theorem dX4_heads_14 : decode cX4_heads 14 = .ok (.iadd, 1) := by decide +kernel
theorem dX4_heads_15 : decode cX4_heads 15 = .ok (.istore_n 2, 1) := by decide +kernel
theorem dX4_heads_16 : decode cX4_heads 16 = .ok (.iconst 1, 1) := by decide +kernel
theorem dX4_heads_17 : decode cX4_heads 17 = .ok (.iload_n 1, 1) := by decide +kernel
theorem dX4_heads_18 : decode cX4_heads 18 = .ok (.isub, 1) := by decide +kernel
theorem dX4_heads_19 : decode cX4_heads 19 = .ok (.istore_n 3, 1) := by decide +kernel
theorem dX4_heads_20 : decode cX4_heads 20 = .ok (.aload_n 0, 1) := by decide +kernel
theorem dX4_heads_21 : decode cX4_heads 21 = .ok (.iconst 1, 1) := by decide +kernel
theorem dX4_heads_22 : decode cX4_heads 22 = .ok (.iload_n 2, 1) := by decide +kernel
theorem dX4_heads_23 : decode cX4_heads 23 = .ok (.invokevirtual 84, 3) := by decide +kernel
theorem dX4_heads_26 : decode cX4_heads 26 = .ok (.istore 4, 2) := by decide +kernel
theorem dX4_heads_28 : decode cX4_heads 28 = .ok (.aload_n 0, 1) := by decide +kernel
theorem dX4_heads_29 : decode cX4_heads 29 = .ok (.iconst 0, 1) := by decide +kernel
theorem dX4_heads_30 : decode cX4_heads 30 = .ok (.iload_n 2, 1) := by decide +kernel
theorem dX4_heads_31 : decode cX4_heads 31 = .ok (.invokevirtual 84, 3) := by decide +kernel
theorem dX4_heads_34 : decode cX4_heads 34 = .ok (.istore 5, 2) := by decide +kernel
theorem dX4_heads_36 : decode cX4_heads 36 = .ok (.aload_n 0, 1) := by decide +kernel
theorem dX4_heads_37 : decode cX4_heads 37 = .ok (.iload_n 1, 1) := by decide +kernel
theorem dX4_heads_38 : decode cX4_heads 38 = .ok (.iload_n 2, 1) := by decide +kernel
theorem dX4_heads_39 : decode cX4_heads 39 = .ok (.iconst 3, 1) := by decide +kernel
theorem dX4_heads_40 : decode cX4_heads 40 = .ok (.invokevirtual 66, 3) := by decide +kernel
theorem dX4_heads_43 : decode cX4_heads 43 = .ok (.iconst 1, 1) := by decide +kernel
theorem dX4_heads_44 : decode cX4_heads 44 = .ok (.if_icmp .ne 36, 3) := by decide +kernel
theorem dX4_heads_47 : decode cX4_heads 47 = .ok (.aload_n 0, 1) := by decide +kernel
theorem dX4_heads_48 : decode cX4_heads 48 = .ok (.iload_n 3, 1) := by decide +kernel
theorem dX4_heads_49 : decode cX4_heads 49 = .ok (.iload_n 2, 1) := by decide +kernel
theorem dX4_heads_50 : decode cX4_heads 50 = .ok (.iconst 2, 1) := by decide +kernel
theorem dX4_heads_51 : decode cX4_heads 51 = .ok (.invokevirtual 66, 3) := by decide +kernel
theorem dX4_heads_54 : decode cX4_heads 54 = .ok (.ifCond .ne 26, 3) := by decide +kernel
theorem dX4_heads_57 : decode cX4_heads 57 = .ok (.aload_n 0, 1) := by decide +kernel
theorem dX4_heads_58 : decode cX4_heads 58 = .ok (.iload_n 1, 1) := by decide +kernel
theorem dX4_heads_59 : decode cX4_heads 59 = .ok (.iload_n 2, 1) := by decide +kernel
theorem dX4_heads_60 : decode cX4_heads 60 = .ok (.aload_n 0, 1) := by decide +kernel
theorem dX4_heads_61 : decode cX4_heads 61 = .ok (.iload_n 3, 1) := by decide +kernel
theorem dX4_heads_62 : decode cX4_heads 62 = .ok (.iload_n 2, 1) := by decide +kernel
theorem dX4_heads_63 : decode cX4_heads 63 = .ok (.iconst 0, 1) := by decide +kernel
theorem dX4_heads_64 : decode cX4_heads 64 = .ok (.invokevirtual 66, 3) := by decide +kernel
theorem dX4_heads_67 : decode cX4_heads 67 = .ok (.aload_n 0, 1) := by decide +kernel
theorem dX4_heads_68 : decode cX4_heads 68 = .ok (.iload_n 3, 1) := by decide +kernel
theorem dX4_heads_69 : decode cX4_heads 69 = .ok (.iload_n 2, 1) := by decide +kernel
theorem dX4_heads_70 : decode cX4_heads 70 = .ok (.iconst 1, 1) := by decide +kernel
theorem dX4_heads_71 : decode cX4_heads 71 = .ok (.invokevirtual 66, 3) := by decide +kernel
theorem dX4_heads_74 : decode cX4_heads 74 = .ok (.invokevirtual 87, 3) := by decide +kernel
theorem dX4_heads_77 : decode cX4_heads 77 = .ok (.goto 110, 3) := by decide +kernel
theorem dX4_heads_80 : decode cX4_heads 80 = .ok (.iload 4, 2) := by decide +kernel
theorem dX4_heads_82 : decode cX4_heads 82 = .ok (.bipush (-9), 2) := by decide +kernel
theorem dX4_heads_84 : decode cX4_heads 84 = .ok (.if_icmp .eq 54, 3) := by decide +kernel
theorem dX4_heads_87 : decode cX4_heads 87 = .ok (.aload_n 0, 1) := by decide +kernel
theorem dX4_heads_88 : decode cX4_heads 88 = .ok (.iload_n 1, 1) := by decide +kernel
theorem dX4_heads_89 : decode cX4_heads 89 = .ok (.iload_n 2, 1) := by decide +kernel
theorem dX4_heads_90 : decode cX4_heads 90 = .ok (.aload_n 0, 1) := by decide +kernel
theorem dX4_heads_91 : decode cX4_heads 91 = .ok (.iload 4, 2) := by decide +kernel
theorem dX4_heads_93 : decode cX4_heads 93 = .ok (.bipush 7, 2) := by decide +kernel
theorem dX4_heads_95 : decode cX4_heads 95 = .ok (.invokevirtual 43, 3) := by decide +kernel
theorem dX4_heads_98 : decode cX4_heads 98 = .ok (.aload_n 0, 1) := by decide +kernel
theorem dX4_heads_99 : decode cX4_heads 99 = .ok (.iconst 0, 1) := by decide +kernel
theorem dX4_heads_100 : decode cX4_heads 100 = .ok (.iload_n 2, 1) := by decide +kernel
theorem dX4_heads_101 : decode cX4_heads 101 = .ok (.iconst 1, 1) := by decide +kernel
theorem dX4_heads_102 : decode cX4_heads 102 = .ok (.invokevirtual 66, 3) := by decide +kernel
theorem dX4_heads_105 : decode cX4_heads 105 = .ok (.aload_n 0, 1) := by decide +kernel
theorem dX4_heads_106 : decode cX4_heads 106 = .ok (.iconst 1, 1) := by decide +kernel
theorem dX4_heads_107 : decode cX4_heads 107 = .ok (.iload_n 2, 1) := by decide +kernel
theorem dX4_heads_108 : decode cX4_heads 108 = .ok (.iconst 1, 1) := by decide +kernel
theorem dX4_heads_109 : decode cX4_heads 109 = .ok (.invokevirtual 66, 3) := by decide +kernel
theorem dX4_heads_112 : decode cX4_heads 112 = .ok (.invokestatic 90, 3) := by decide +kernel
theorem dX4_heads_115 : decode cX4_heads 115 = .ok (.iconst 1, 1) := by decide +kernel
theorem dX4_heads_116 : decode cX4_heads 116 = .ok (.iadd, 1) := by decide +kernel
theorem dX4_heads_117 : decode cX4_heads 117 = .ok (.invokevirtual 87, 3) := by decide +kernel
theorem dX4_heads_120 : decode cX4_heads 120 = .ok (.aload_n 0, 1) := by decide +kernel
theorem dX4_heads_121 : decode cX4_heads 121 = .ok (.iload_n 3, 1) := by decide +kernel
theorem dX4_heads_122 : decode cX4_heads 122 = .ok (.iload_n 2, 1) := by decide +kernel
theorem dX4_heads_123 : decode cX4_heads 123 = .ok (.iconst 3, 1) := by decide +kernel
theorem dX4_heads_124 : decode cX4_heads 124 = .ok (.iconst 1, 1) := by decide +kernel
theorem dX4_heads_125 : decode cX4_heads 125 = .ok (.invokevirtual 77, 3) := by decide +kernel
theorem dX4_heads_128 : decode cX4_heads 128 = .ok (.aload_n 0, 1) := by decide +kernel
theorem dX4_heads_129 : decode cX4_heads 129 = .ok (.iload 4, 2) := by decide +kernel
theorem dX4_heads_131 : decode cX4_heads 131 = .ok (.iload_n 1, 1) := by decide +kernel
theorem dX4_heads_132 : decode cX4_heads 132 = .ok (.invokevirtual 93, 3) := by decide +kernel
theorem dX4_heads_135 : decode cX4_heads 135 = .ok (.goto 52, 3) := by decide +kernel
theorem dX4_heads_138 : decode cX4_heads 138 = .ok (.iload 5, 2) := by decide +kernel
theorem dX4_heads_140 : decode cX4_heads 140 = .ok (.bipush (-9), 2) := by decide +kernel
theorem dX4_heads_142 : decode cX4_heads 142 = .ok (.if_icmp .eq 45, 3) := by decide +kernel
theorem dX4_heads_145 : decode cX4_heads 145 = .ok (.aload_n 0, 1) := by decide +kernel
theorem dX4_heads_146 : decode cX4_heads 146 = .ok (.iload_n 1, 1) := by decide +kernel
theorem dX4_heads_147 : decode cX4_heads 147 = .ok (.iload_n 2, 1) := by decide +kernel
theorem dX4_heads_148 : decode cX4_heads 148 = .ok (.iconst 3, 1) := by decide +kernel
theorem dX4_heads_149 : decode cX4_heads 149 = .ok (.invokevirtual 66, 3) := by decide +kernel
theorem dX4_heads_152 : decode cX4_heads 152 = .ok (.ifCond .ne 35, 3) := by decide +kernel
theorem dX4_heads_155 : decode cX4_heads 155 = .ok (.aload_n 0, 1) := by decide +kernel
theorem dX4_heads_156 : decode cX4_heads 156 = .ok (.iload_n 1, 1) := by decide +kernel
theorem dX4_heads_157 : decode cX4_heads 157 = .ok (.iload_n 2, 1) := by decide +kernel
theorem dX4_heads_158 : decode cX4_heads 158 = .ok (.iconst 2, 1) := by decide +kernel
theorem dX4_heads_159 : decode cX4_heads 159 = .ok (.invokevirtual 66, 3) := by decide +kernel
theorem dX4_heads_162 : decode cX4_heads 162 = .ok (.ifCond .ne 25, 3) := by decide +kernel
theorem dX4_heads_165 : decode cX4_heads 165 = .ok (.aload_n 0, 1) := by decide +kernel
theorem dX4_heads_166 : decode cX4_heads 166 = .ok (.iload 5, 2) := by decide +kernel
theorem dX4_heads_168 : decode cX4_heads 168 = .ok (.bipush 7, 2) := by decide +kernel
theorem dX4_heads_170 : decode cX4_heads 170 = .ok (.aload_n 0, 1) := by decide +kernel
theorem dX4_heads_171 : decode cX4_heads 171 = .ok (.iload_n 1, 1) := by decide +kernel
theorem dX4_heads_172 : decode cX4_heads 172 = .ok (.iload_n 2, 1) := by decide +kernel
theorem dX4_heads_173 : decode cX4_heads 173 = .ok (.iconst 0, 1) := by decide +kernel
theorem dX4_heads_174 : decode cX4_heads 174 = .ok (.invokevirtual 66, 3) := by decide +kernel
theorem dX4_heads_177 : decode cX4_heads 177 = .ok (.invokevirtual 54, 3) := by decide +kernel
theorem dX4_heads_180 : decode cX4_heads 180 = .ok (.aload_n 0, 1) := by decide +kernel
theorem dX4_heads_181 : decode cX4_heads 181 = .ok (.iload 5, 2) := by decide +kernel
theorem dX4_heads_183 : decode cX4_heads 183 = .ok (.iload_n 1, 1) := by decide +kernel
theorem dX4_heads_184 : decode cX4_heads 184 = .ok (.invokevirtual 93, 3) := by decide +kernel
theorem dX4_heads_187 : decode cX4_heads 187 = .ok (.return_, 1) := by decide +kernel
set_option maxRecDepth 20000 in
theorem ggX4_passes_X4_hasWork : GoodIn wsX4_passes wsX4_hasWork := goodIn_r _ [6, 1, 7, 8, 9, 5, 10, 11, 12, 13, 14, 53, 54, 55, 56, 57, 58, 59, 60, 61, 62, 63] (by decide +kernel) (by decide +kernel)
set_option maxRecDepth 20000 in
theorem gX4_passes_X4_hasWork : GoodIn wsX4_passes (wsV RX4 73 RX4 yX4_hasWork wsX4_hasWork) := goodIn_app (goodIn_of _ (by decide +kernel)) ggX4_passes_X4_hasWork
set_option maxRecDepth 20000 in
theorem ggX4_passes_X4_heads : GoodIn wsX4_passes wsX4_heads := goodIn_r _ [18, 1, 19, 20, 21, 5, 22, 23, 24, 25, 26, 7, 8, 9, 10, 11, 12, 13, 14, 27, 28, 29, 30, 31, 32, 33, 34, 35, 36, 37, 38, 39, 40, 41, 42, 43, 44, 45, 53, 54, 55, 56, 57, 58, 59, 60, 61, 62, 63] (by decide +kernel) (by decide +kernel)
set_option maxRecDepth 20000 in
theorem gX4_passes_X4_heads : GoodIn wsX4_passes (wsV RX4 97 RX4 yX4_heads wsX4_heads) := goodIn_app (goodIn_of _ (by decide +kernel)) ggX4_passes_X4_heads
set_option maxRecDepth 20000 in
theorem ggX4_passes_X4_nearest : GoodIn wsX4_passes wsX4_nearest := goodIn_r _ [49, 1, 50, 51, 5, 52, 2, 3, 4, 6, 7, 8, 9, 10, 11, 12, 13, 14, 53, 54, 55, 56, 57, 58, 59, 60, 61, 62, 63] (by decide +kernel) (by decide +kernel)
set_option maxRecDepth 20000 in
theorem gX4_passes_X4_nearest : GoodIn wsX4_passes (wsV RX4 101 RX4 yX4_nearest wsX4_nearest) := goodIn_app (goodIn_of _ (by decide +kernel)) ggX4_passes_X4_nearest
theorem dX4_passes_0 : decode cX4_passes 0 = .ok (.aload_n 0, 1) := by decide +kernel
theorem dX4_passes_1 : decode cX4_passes 1 = .ok (.aload_n 0, 1) := by decide +kernel
theorem dX4_passes_2 : decode cX4_passes 2 = .ok (.getfield 7, 3) := by decide +kernel
theorem dX4_passes_5 : decode cX4_passes 5 = .ok (.iconst 1, 1) := by decide +kernel
theorem dX4_passes_6 : decode cX4_passes 6 = .ok (.iaload, 1) := by decide +kernel
theorem dX4_passes_7 : decode cX4_passes 7 = .ok (.invokevirtual 73, 3) := by decide +kernel
theorem dX4_passes_10 : decode cX4_passes 10 = .ok (.ifCond .eq 16, 3) := by decide +kernel
theorem dX4_passes_13 : decode cX4_passes 13 = .ok (.aload_n 0, 1) := by decide +kernel
theorem dX4_passes_14 : decode cX4_passes 14 = .ok (.iconst 0, 1) := by decide +kernel
theorem dX4_passes_15 : decode cX4_passes 15 = .ok (.invokevirtual 97, 3) := by decide +kernel
theorem dX4_passes_18 : decode cX4_passes 18 = .ok (.aload_n 0, 1) := by decide +kernel
theorem dX4_passes_19 : decode cX4_passes 19 = .ok (.iconst 1, 1) := by decide +kernel
theorem dX4_passes_20 : decode cX4_passes 20 = .ok (.invokevirtual 97, 3) := by decide +kernel
theorem dX4_passes_23 : decode cX4_passes 23 = .ok (.goto 48, 3) := by decide +kernel
theorem dX4_passes_26 : decode cX4_passes 26 = .ok (.aload_n 0, 1) := by decide +kernel
theorem dX4_passes_27 : decode cX4_passes 27 = .ok (.invokevirtual 101, 3) := by decide +kernel
theorem dX4_passes_30 : decode cX4_passes 30 = .ok (.istore_n 1, 1) := by decide +kernel
theorem dX4_passes_31 : decode cX4_passes 31 = .ok (.iload_n 1, 1) := by decide +kernel
theorem dX4_passes_32 : decode cX4_passes 32 = .ok (.bipush (-9), 2) := by decide +kernel
theorem dX4_passes_34 : decode cX4_passes 34 = .ok (.if_icmp .eq 37, 3) := by decide +kernel
theorem dX4_passes_37 : decode cX4_passes 37 = .ok (.aload_n 0, 1) := by decide +kernel
theorem dX4_passes_38 : decode cX4_passes 38 = .ok (.getfield 7, 3) := by decide +kernel
theorem dX4_passes_41 : decode cX4_passes 41 = .ok (.iconst 1, 1) := by decide +kernel
theorem dX4_passes_42 : decode cX4_passes 42 = .ok (.dup2, 1) := by decide +kernel
theorem dX4_passes_43 : decode cX4_passes 43 = .ok (.iaload, 1) := by decide +kernel
theorem dX4_passes_44 : decode cX4_passes 44 = .ok (.iload_n 1, 1) := by decide +kernel
theorem dX4_passes_45 : decode cX4_passes 45 = .ok (.aload_n 0, 1) := by decide +kernel
theorem dX4_passes_46 : decode cX4_passes 46 = .ok (.getfield 7, 3) := by decide +kernel
theorem dX4_passes_49 : decode cX4_passes 49 = .ok (.iconst 1, 1) := by decide +kernel
theorem dX4_passes_50 : decode cX4_passes 50 = .ok (.iaload, 1) := by decide +kernel
theorem dX4_passes_51 : decode cX4_passes 51 = .ok (.if_icmp .le 7, 3) := by decide +kernel
theorem dX4_passes_54 : decode cX4_passes 54 = .ok (.iconst 1, 1) := by decide +kernel
theorem dX4_passes_55 : decode cX4_passes 55 = .ok (.goto 4, 3) := by decide +kernel
theorem dX4_passes_58 : decode cX4_passes 58 = .ok (.iconst (-1), 1) := by decide +kernel
theorem dX4_passes_59 : decode cX4_passes 59 = .ok (.iadd, 1) := by decide +kernel
theorem dX4_passes_60 : decode cX4_passes 60 = .ok (.iastore, 1) := by decide +kernel
theorem dX4_passes_61 : decode cX4_passes 61 = .ok (.aload_n 0, 1) := by decide +kernel
theorem dX4_passes_62 : decode cX4_passes 62 = .ok (.getfield 7, 3) := by decide +kernel
theorem dX4_passes_65 : decode cX4_passes 65 = .ok (.iconst 4, 1) := by decide +kernel
theorem dX4_passes_66 : decode cX4_passes 66 = .ok (.dup2, 1) := by decide +kernel
theorem dX4_passes_67 : decode cX4_passes 67 = .ok (.iaload, 1) := by decide +kernel
theorem dX4_passes_68 : decode cX4_passes 68 = .ok (.iconst 1, 1) := by decide +kernel
theorem dX4_passes_69 : decode cX4_passes 69 = .ok (.iadd, 1) := by decide +kernel
theorem dX4_passes_70 : decode cX4_passes 70 = .ok (.iastore, 1) := by decide +kernel
theorem dX4_passes_71 : decode cX4_passes 71 = .ok (.aload_n 0, 1) := by decide +kernel
theorem dX4_passes_72 : decode cX4_passes 72 = .ok (.getfield 7, 3) := by decide +kernel
theorem dX4_passes_75 : decode cX4_passes 75 = .ok (.iconst 0, 1) := by decide +kernel
theorem dX4_passes_76 : decode cX4_passes 76 = .ok (.dup2, 1) := by decide +kernel
theorem dX4_passes_77 : decode cX4_passes 77 = .ok (.iaload, 1) := by decide +kernel
theorem dX4_passes_78 : decode cX4_passes 78 = .ok (.iconst 1, 1) := by decide +kernel
theorem dX4_passes_79 : decode cX4_passes 79 = .ok (.iadd, 1) := by decide +kernel
theorem dX4_passes_80 : decode cX4_passes 80 = .ok (.iastore, 1) := by decide +kernel
theorem dX4_passes_81 : decode cX4_passes 81 = .ok (.return_, 1) := by decide +kernel
set_option maxRecDepth 20000 in
theorem ggX4_pass_X4_within : GoodIn wsX4_pass wsX4_within := goodIn_r _ [5] (by decide +kernel) (by decide +kernel)
set_option maxRecDepth 20000 in
theorem gX4_pass_X4_within : GoodIn wsX4_pass (va_wsS RX4 39 yX4_within wsX4_within) := goodIn_app (goodIn_of _ (by decide +kernel)) ggX4_pass_X4_within
set_option maxRecDepth 20000 in
theorem ggX4_pass_X4_saves : GoodIn wsX4_pass wsX4_saves := goodIn_r _ [9, 10, 11, 12, 1, 71, 72, 73, 74, 75, 76, 77, 78, 79, 80, 81] (by decide +kernel) (by decide +kernel)
set_option maxRecDepth 20000 in
theorem gX4_pass_X4_saves : GoodIn wsX4_pass (wsV RX4 51 RX4 yX4_saves wsX4_saves) := goodIn_app (goodIn_of _ (by decide +kernel)) ggX4_pass_X4_saves
set_option maxRecDepth 20000 in
theorem ggX4_pass_X4_inState : GoodIn wsX4_pass wsX4_inState := goodIn_r _ [16, 1, 17, 18, 19, 4, 20, 71, 72, 73, 74, 75, 76, 77, 78, 79, 80, 81] (by decide +kernel) (by decide +kernel)
set_option maxRecDepth 20000 in
theorem gX4_pass_X4_inState : GoodIn wsX4_pass (wsV RX4 47 RX4 yX4_inState wsX4_inState) := goodIn_app (goodIn_of _ (by decide +kernel)) ggX4_pass_X4_inState
set_option maxRecDepth 20000 in
theorem ggX4_pass_X4_passes : GoodIn wsX4_pass wsX4_passes := goodIn_r _ [24, 1, 25, 26, 27, 4, 28, 17, 18, 19, 20, 29, 30, 31, 32, 33, 34, 35, 36, 37, 38, 39, 40, 41, 42, 43, 44, 45, 46, 47, 48, 49, 50, 51, 52, 53, 54, 55, 56, 57, 58, 59, 60, 61, 62, 63, 64, 65, 66, 67, 68, 69, 70, 71, 72, 73, 74, 75, 76, 77, 78, 79, 80, 81] (by decide +kernel) (by decide +kernel)
set_option maxRecDepth 20000 in
theorem gX4_pass_X4_passes : GoodIn wsX4_pass (wsV RX4 105 RX4 yX4_passes wsX4_passes) := goodIn_app (goodIn_of _ (by decide +kernel)) ggX4_pass_X4_passes
theorem dX4_pass_0 : decode cX4_pass 0 = .ok (.iload_n 1, 1) := by decide +kernel
theorem dX4_pass_1 : decode cX4_pass 1 = .ok (.iconst 1, 1) := by decide +kernel
theorem dX4_pass_2 : decode cX4_pass 2 = .ok (.sipush 200, 3) := by decide +kernel
theorem dX4_pass_5 : decode cX4_pass 5 = .ok (.invokestatic 39, 3) := by decide +kernel
theorem dX4_pass_8 : decode cX4_pass 8 = .ok (.ifCond .ne 5, 3) := by decide +kernel
theorem dX4_pass_11 : decode cX4_pass 11 = .ok (.iconst (-1), 1) := by decide +kernel
theorem dX4_pass_12 : decode cX4_pass 12 = .ok (.ireturn, 1) := by decide +kernel
theorem dX4_pass_13 : decode cX4_pass 13 = .ok (.aload_n 0, 1) := by decide +kernel
theorem dX4_pass_14 : decode cX4_pass 14 = .ok (.getfield 7, 3) := by decide +kernel
theorem dX4_pass_17 : decode cX4_pass 17 = .ok (.iconst 0, 1) := by decide +kernel
theorem dX4_pass_18 : decode cX4_pass 18 = .ok (.iaload, 1) := by decide +kernel
theorem dX4_pass_19 : decode cX4_pass 19 = .ok (.iload_n 1, 1) := by decide +kernel
theorem dX4_pass_20 : decode cX4_pass 20 = .ok (.iadd, 1) := by decide +kernel
theorem dX4_pass_21 : decode cX4_pass 21 = .ok (.sipush 20000, 3) := by decide +kernel
theorem dX4_pass_24 : decode cX4_pass 24 = .ok (.if_icmp .le 6, 3) := by decide +kernel
theorem dX4_pass_27 : decode cX4_pass 27 = .ok (.bipush (-2), 2) := by decide +kernel
theorem dX4_pass_29 : decode cX4_pass 29 = .ok (.ireturn, 1) := by decide +kernel
theorem dX4_pass_30 : decode cX4_pass 30 = .ok (.aload_n 0, 1) := by decide +kernel
theorem dX4_pass_31 : decode cX4_pass 31 = .ok (.invokevirtual 51, 3) := by decide +kernel
theorem dX4_pass_34 : decode cX4_pass 34 = .ok (.aload_n 0, 1) := by decide +kernel
theorem dX4_pass_35 : decode cX4_pass 35 = .ok (.iconst 1, 1) := by decide +kernel
theorem dX4_pass_36 : decode cX4_pass 36 = .ok (.invokevirtual 47, 3) := by decide +kernel
theorem dX4_pass_39 : decode cX4_pass 39 = .ok (.istore_n 2, 1) := by decide +kernel
theorem dX4_pass_40 : decode cX4_pass 40 = .ok (.iconst 0, 1) := by decide +kernel
theorem dX4_pass_41 : decode cX4_pass 41 = .ok (.istore_n 3, 1) := by decide +kernel
theorem dX4_pass_42 : decode cX4_pass 42 = .ok (.iload_n 3, 1) := by decide +kernel
theorem dX4_pass_43 : decode cX4_pass 43 = .ok (.iload_n 1, 1) := by decide +kernel
theorem dX4_pass_44 : decode cX4_pass 44 = .ok (.if_icmp .ge 13, 3) := by decide +kernel
theorem dX4_pass_47 : decode cX4_pass 47 = .ok (.aload_n 0, 1) := by decide +kernel
theorem dX4_pass_48 : decode cX4_pass 48 = .ok (.invokevirtual 105, 3) := by decide +kernel
theorem dX4_pass_51 : decode cX4_pass 51 = .ok (.iinc 3 1, 3) := by decide +kernel
theorem dX4_pass_54 : decode cX4_pass 54 = .ok (.goto (-12), 3) := by decide +kernel
theorem dX4_pass_57 : decode cX4_pass 57 = .ok (.aload_n 0, 1) := by decide +kernel
theorem dX4_pass_58 : decode cX4_pass 58 = .ok (.iconst 1, 1) := by decide +kernel
theorem dX4_pass_59 : decode cX4_pass 59 = .ok (.invokevirtual 47, 3) := by decide +kernel
theorem dX4_pass_62 : decode cX4_pass 62 = .ok (.iload_n 2, 1) := by decide +kernel
theorem dX4_pass_63 : decode cX4_pass 63 = .ok (.isub, 1) := by decide +kernel
theorem dX4_pass_64 : decode cX4_pass 64 = .ok (.ireturn, 1) := by decide +kernel
set_option maxRecDepth 20000 in
theorem ggX4_cuts_X4_of : GoodIn wsX4_cuts wsX4_of := goodIn_r _ [6, 1, 19, 20, 21, 22, 23, 24, 25, 26, 27, 28, 29] (by decide +kernel) (by decide +kernel)
set_option maxRecDepth 20000 in
theorem gX4_cuts_X4_of : GoodIn wsX4_cuts (wsV RX4 66 RX4 yX4_of wsX4_of) := goodIn_app (goodIn_of _ (by decide +kernel)) ggX4_cuts_X4_of
set_option maxRecDepth 20000 in
theorem ggX4_cuts_X4_put : GoodIn wsX4_cuts wsX4_put := goodIn_r _ [10, 1, 19, 20, 21, 22, 23, 24, 25, 26, 27, 28, 29] (by decide +kernel) (by decide +kernel)
set_option maxRecDepth 20000 in
theorem gX4_cuts_X4_put : GoodIn wsX4_cuts (wsV RX4 77 RX4 yX4_put wsX4_put) := goodIn_app (goodIn_of _ (by decide +kernel)) ggX4_cuts_X4_put
set_option maxRecDepth 20000 in
theorem ggX4_cuts_X4_told : GoodIn wsX4_cuts wsX4_told := goodIn_r _ [14, 1, 19, 20, 21, 22, 23, 24, 25, 26, 27, 28, 29] (by decide +kernel) (by decide +kernel)
set_option maxRecDepth 20000 in
theorem gX4_cuts_X4_told : GoodIn wsX4_cuts (wsV RX4 43 RX4 yX4_told wsX4_told) := goodIn_app (goodIn_of _ (by decide +kernel)) ggX4_cuts_X4_told
set_option maxRecDepth 20000 in
theorem ggX4_cuts_X4_tell : GoodIn wsX4_cuts wsX4_tell := goodIn_r _ [18, 1, 19, 20, 21, 22, 23, 24, 25, 26, 27, 28, 29] (by decide +kernel) (by decide +kernel)
set_option maxRecDepth 20000 in
theorem gX4_cuts_X4_tell : GoodIn wsX4_cuts (wsV RX4 54 RX4 yX4_tell wsX4_tell) := goodIn_app (goodIn_of _ (by decide +kernel)) ggX4_cuts_X4_tell
theorem dX4_cuts_0 : decode cX4_cuts 0 = .ok (.iconst 0, 1) := by decide +kernel
theorem dX4_cuts_1 : decode cX4_cuts 1 = .ok (.istore_n 1, 1) := by decide +kernel
theorem dX4_cuts_2 : decode cX4_cuts 2 = .ok (.iconst 0, 1) := by decide +kernel
theorem dX4_cuts_3 : decode cX4_cuts 3 = .ok (.istore_n 2, 1) := by decide +kernel
theorem dX4_cuts_4 : decode cX4_cuts 4 = .ok (.iload_n 2, 1) := by decide +kernel
theorem dX4_cuts_5 : decode cX4_cuts 5 = .ok (.bipush 96, 2) := by decide +kernel
theorem dX4_cuts_7 : decode cX4_cuts 7 = .ok (.if_icmp .ge 76, 3) := by decide +kernel
theorem dX4_cuts_10 : decode cX4_cuts 10 = .ok (.iload_n 2, 1) := by decide +kernel
theorem dX4_cuts_11 : decode cX4_cuts 11 = .ok (.bipush 48, 2) := by decide +kernel
theorem dX4_cuts_13 : decode cX4_cuts 13 = .ok (.idiv, 1) := by decide +kernel
theorem dX4_cuts_14 : decode cX4_cuts 14 = .ok (.istore_n 3, 1) := by decide +kernel
theorem dX4_cuts_15 : decode cX4_cuts 15 = .ok (.iload_n 2, 1) := by decide +kernel
theorem dX4_cuts_16 : decode cX4_cuts 16 = .ok (.bipush 48, 2) := by decide +kernel
theorem dX4_cuts_18 : decode cX4_cuts 18 = .ok (.irem, 1) := by decide +kernel
theorem dX4_cuts_19 : decode cX4_cuts 19 = .ok (.istore 4, 2) := by decide +kernel
theorem dX4_cuts_21 : decode cX4_cuts 21 = .ok (.aload_n 0, 1) := by decide +kernel
theorem dX4_cuts_22 : decode cX4_cuts 22 = .ok (.iload_n 3, 1) := by decide +kernel
theorem dX4_cuts_23 : decode cX4_cuts 23 = .ok (.iload 4, 2) := by decide +kernel
theorem dX4_cuts_25 : decode cX4_cuts 25 = .ok (.iconst 4, 1) := by decide +kernel
theorem dX4_cuts_26 : decode cX4_cuts 26 = .ok (.invokevirtual 66, 3) := by decide +kernel
theorem dX4_cuts_29 : decode cX4_cuts 29 = .ok (.aload_n 0, 1) := by decide +kernel
theorem dX4_cuts_30 : decode cX4_cuts 30 = .ok (.getfield 7, 3) := by decide +kernel
theorem dX4_cuts_33 : decode cX4_cuts 33 = .ok (.iconst 0, 1) := by decide +kernel
theorem dX4_cuts_34 : decode cX4_cuts 34 = .ok (.iaload, 1) := by decide +kernel
theorem dX4_cuts_35 : decode cX4_cuts 35 = .ok (.iconst 1, 1) := by decide +kernel
theorem dX4_cuts_36 : decode cX4_cuts 36 = .ok (.isub, 1) := by decide +kernel
theorem dX4_cuts_37 : decode cX4_cuts 37 = .ok (.if_icmp .ne 31, 3) := by decide +kernel
theorem dX4_cuts_40 : decode cX4_cuts 40 = .ok (.iload_n 1, 1) := by decide +kernel
theorem dX4_cuts_41 : decode cX4_cuts 41 = .ok (.aload_n 0, 1) := by decide +kernel
theorem dX4_cuts_42 : decode cX4_cuts 42 = .ok (.iload_n 3, 1) := by decide +kernel
