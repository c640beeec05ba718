theorem dX4_cuts_43 : decode cX4_cuts 43 = .ok (.iload 4, 2) := by decide +kernel
theorem dX4_cuts_45 : decode cX4_cuts 45 = .ok (.iconst 2, 1) := by decide +kernel
theorem dX4_cuts_46 : decode cX4_cuts 46 = .ok (.invokevirtual 66, 3) := by decide +kernel
theorem dX4_cuts_49 : decode cX4_cuts 49 = .ok (.ifCond .ne 7, 3) := by decide +kernel
theorem dX4_cuts_52 : decode cX4_cuts 52 = .ok (.iconst 1, 1) := by decide +kernel
theorem dX4_cuts_53 : decode cX4_cuts 53 = .ok (.goto 4, 3) := by decide +kernel
theorem dX4_cuts_56 : decode cX4_cuts 56 = .ok (.iconst 0, 1) := by decide +kernel
theorem dX4_cuts_57 : decode cX4_cuts 57 = .ok (.iadd, 1) := by decide +kernel
theorem dX4_cuts_58 : decode cX4_cuts 58 = .ok (.istore_n 1, 1) := by decide +kernel
theorem dX4_cuts_59 : decode cX4_cuts 59 = .ok (.aload_n 0, 1) := by decide +kernel
theorem dX4_cuts_60 : decode cX4_cuts 60 = .ok (.iload_n 3, 1) := by decide +kernel
theorem dX4_cuts_61 : decode cX4_cuts 61 = .ok (.iload 4, 2) := by decide +kernel
theorem dX4_cuts_63 : decode cX4_cuts 63 = .ok (.iconst 2, 1) := by decide +kernel
theorem dX4_cuts_64 : decode cX4_cuts 64 = .ok (.iconst 1, 1) := by decide +kernel
theorem dX4_cuts_65 : decode cX4_cuts 65 = .ok (.invokevirtual 77, 3) := by decide +kernel
theorem dX4_cuts_68 : decode cX4_cuts 68 = .ok (.aload_n 0, 1) := by decide +kernel
theorem dX4_cuts_69 : decode cX4_cuts 69 = .ok (.iload_n 3, 1) := by decide +kernel
theorem dX4_cuts_70 : decode cX4_cuts 70 = .ok (.iload 4, 2) := by decide +kernel
theorem dX4_cuts_72 : decode cX4_cuts 72 = .ok (.iconst 3, 1) := by decide +kernel
theorem dX4_cuts_73 : decode cX4_cuts 73 = .ok (.iconst 0, 1) := by decide +kernel
theorem dX4_cuts_74 : decode cX4_cuts 74 = .ok (.invokevirtual 77, 3) := by decide +kernel
theorem dX4_cuts_77 : decode cX4_cuts 77 = .ok (.iinc 2 1, 3) := by decide +kernel
theorem dX4_cuts_80 : decode cX4_cuts 80 = .ok (.goto (-76), 3) := by decide +kernel
theorem dX4_cuts_83 : decode cX4_cuts 83 = .ok (.iconst 0, 1) := by decide +kernel
theorem dX4_cuts_84 : decode cX4_cuts 84 = .ok (.istore_n 2, 1) := by decide +kernel
theorem dX4_cuts_85 : decode cX4_cuts 85 = .ok (.iload_n 2, 1) := by decide +kernel
theorem dX4_cuts_86 : decode cX4_cuts 86 = .ok (.aload_n 0, 1) := by decide +kernel
theorem dX4_cuts_87 : decode cX4_cuts 87 = .ok (.getfield 7, 3) := by decide +kernel
theorem dX4_cuts_90 : decode cX4_cuts 90 = .ok (.iconst 2, 1) := by decide +kernel
theorem dX4_cuts_91 : decode cX4_cuts 91 = .ok (.iaload, 1) := by decide +kernel
theorem dX4_cuts_92 : decode cX4_cuts 92 = .ok (.if_icmp .ge 25, 3) := by decide +kernel
theorem dX4_cuts_95 : decode cX4_cuts 95 = .ok (.aload_n 0, 1) := by decide +kernel
theorem dX4_cuts_96 : decode cX4_cuts 96 = .ok (.iload_n 2, 1) := by decide +kernel
theorem dX4_cuts_97 : decode cX4_cuts 97 = .ok (.iconst 3, 1) := by decide +kernel
theorem dX4_cuts_98 : decode cX4_cuts 98 = .ok (.invokevirtual 43, 3) := by decide +kernel
theorem dX4_cuts_101 : decode cX4_cuts 101 = .ok (.ifCond .ne 10, 3) := by decide +kernel
theorem dX4_cuts_104 : decode cX4_cuts 104 = .ok (.aload_n 0, 1) := by decide +kernel
theorem dX4_cuts_105 : decode cX4_cuts 105 = .ok (.iload_n 2, 1) := by decide +kernel
theorem dX4_cuts_106 : decode cX4_cuts 106 = .ok (.iconst 3, 1) := by decide +kernel
theorem dX4_cuts_107 : decode cX4_cuts 107 = .ok (.iconst 2, 1) := by decide +kernel
theorem dX4_cuts_108 : decode cX4_cuts 108 = .ok (.invokevirtual 54, 3) := by decide +kernel
theorem dX4_cuts_111 : decode cX4_cuts 111 = .ok (.iinc 2 1, 3) := by decide +kernel
theorem dX4_cuts_114 : decode cX4_cuts 114 = .ok (.goto (-29), 3) := by decide +kernel
theorem dX4_cuts_117 : decode cX4_cuts 117 = .ok (.iload_n 1, 1) := by decide +kernel
theorem dX4_cuts_118 : decode cX4_cuts 118 = .ok (.ireturn, 1) := by decide +kernel
set_option maxRecDepth 20000 in
theorem ggX4_cut_X4_saves : GoodIn wsX4_cut wsX4_saves := goodIn_r _ [5, 6, 7, 8, 9, 30, 31, 32, 33, 34, 35, 36, 37, 38, 39, 40] (by decide +kernel) (by decide +kernel)
set_option maxRecDepth 20000 in
theorem gX4_cut_X4_saves : GoodIn wsX4_cut (wsV RX4 51 RX4 yX4_saves wsX4_saves) := goodIn_app (goodIn_of _ (by decide +kernel)) ggX4_cut_X4_saves
set_option maxRecDepth 20000 in
theorem ggX4_cut_X4_cuts : GoodIn wsX4_cut wsX4_cuts := goodIn_r _ [13, 9, 14, 15, 16, 4, 17, 18, 19, 20, 21, 22, 23, 24, 25, 26, 27, 28, 29, 30, 31, 32, 33, 34, 35, 36, 37, 38, 39, 40] (by decide +kernel) (by decide +kernel)
set_option maxRecDepth 20000 in
theorem gX4_cut_X4_cuts : GoodIn wsX4_cut (wsV RX4 108 RX4 yX4_cuts wsX4_cuts) := goodIn_app (goodIn_of _ (by decide +kernel)) ggX4_cut_X4_cuts
theorem dX4_cut_0 : decode cX4_cut 0 = .ok (.aload_n 0, 1) := by decide +kernel
theorem dX4_cut_1 : decode cX4_cut 1 = .ok (.invokevirtual 51, 3) := by decide +kernel
theorem dX4_cut_4 : decode cX4_cut 4 = .ok (.aload_n 0, 1) := by decide +kernel
theorem dX4_cut_5 : decode cX4_cut 5 = .ok (.invokevirtual 108, 3) := by decide +kernel
theorem dX4_cut_8 : decode cX4_cut 8 = .ok (.ireturn, 1) := by decide +kernel
set_option maxRecDepth 20000 in
theorem ggX4_copiesThat_X4_of : GoodIn wsX4_copiesThat wsX4_of := goodIn_r _ [5, 6, 7, 8, 9, 10, 11, 12, 13, 14, 15, 16, 17] (by decide +kernel) (by decide +kernel)
set_option maxRecDepth 20000 in
theorem gX4_copiesThat_X4_of : GoodIn wsX4_copiesThat (wsV RX4 66 RX4 yX4_of wsX4_of) := goodIn_app (goodIn_of _ (by decide +kernel)) ggX4_copiesThat_X4_of
theorem dX4_copiesThat_0 : decode cX4_copiesThat 0 = .ok (.iconst 0, 1) := by decide +kernel
theorem dX4_copiesThat_1 : decode cX4_copiesThat 1 = .ok (.istore_n 2, 1) := by decide +kernel
theorem dX4_copiesThat_2 : decode cX4_copiesThat 2 = .ok (.iconst 0, 1) := by decide +kernel
theorem dX4_copiesThat_3 : decode cX4_copiesThat 3 = .ok (.istore_n 3, 1) := by decide +kernel
theorem dX4_copiesThat_4 : decode cX4_copiesThat 4 = .ok (.iload_n 3, 1) := by decide +kernel
theorem dX4_copiesThat_5 : decode cX4_copiesThat 5 = .ok (.bipush 96, 2) := by decide +kernel
theorem dX4_copiesThat_7 : decode cX4_copiesThat 7 = .ok (.if_icmp .ge 25, 3) := by decide +kernel
theorem dX4_copiesThat_10 : decode cX4_copiesThat 10 = .ok (.iload_n 2, 1) := by decide +kernel
theorem dX4_copiesThat_11 : decode cX4_copiesThat 11 = .ok (.aload_n 0, 1) := by decide +kernel
theorem dX4_copiesThat_12 : decode cX4_copiesThat 12 = .ok (.iload_n 3, 1) := by decide +kernel
theorem dX4_copiesThat_13 : decode cX4_copiesThat 13 = .ok (.bipush 48, 2) := by decide +kernel
theorem dX4_copiesThat_15 : decode cX4_copiesThat 15 = .ok (.idiv, 1) := by decide +kernel
theorem dX4_copiesThat_16 : decode cX4_copiesThat 16 = .ok (.iload_n 3, 1) := by decide +kernel
theorem dX4_copiesThat_17 : decode cX4_copiesThat 17 = .ok (.bipush 48, 2) := by decide +kernel
theorem dX4_copiesThat_19 : decode cX4_copiesThat 19 = .ok (.irem, 1) := by decide +kernel
theorem dX4_copiesThat_20 : decode cX4_copiesThat 20 = .ok (.iload_n 1, 1) := by decide +kernel
theorem dX4_copiesThat_21 : decode cX4_copiesThat 21 = .ok (.invokevirtual 66, 3) := by decide +kernel
theorem dX4_copiesThat_24 : decode cX4_copiesThat 24 = .ok (.iadd, 1) := by decide +kernel
theorem dX4_copiesThat_25 : decode cX4_copiesThat 25 = .ok (.istore_n 2, 1) := by decide +kernel
theorem dX4_copiesThat_26 : decode cX4_copiesThat 26 = .ok (.iinc 3 1, 3) := by decide +kernel
theorem dX4_copiesThat_29 : decode cX4_copiesThat 29 = .ok (.goto (-25), 3) := by decide +kernel
theorem dX4_copiesThat_32 : decode cX4_copiesThat 32 = .ok (.iload_n 2, 1) := by decide +kernel
theorem dX4_copiesThat_33 : decode cX4_copiesThat 33 = .ok (.ireturn, 1) := by decide +kernel
set_option maxRecDepth 20000 in
theorem ggX4_torn_X4_of : GoodIn wsX4_torn wsX4_of := goodIn_r _ [5, 6, 7, 8, 9, 10, 11, 12, 13, 14, 15, 16, 17] (by decide +kernel) (by decide +kernel)
set_option maxRecDepth 20000 in
theorem gX4_torn_X4_of : GoodIn wsX4_torn (wsV RX4 66 RX4 yX4_of wsX4_of) := goodIn_app (goodIn_of _ (by decide +kernel)) ggX4_torn_X4_of
theorem dX4_torn_0 : decode cX4_torn 0 = .ok (.aload_n 0, 1) := by decide +kernel
theorem dX4_torn_1 : decode cX4_torn 1 = .ok (.iconst 0, 1) := by decide +kernel
theorem dX4_torn_2 : decode cX4_torn 2 = .ok (.iload_n 1, 1) := by decide +kernel
theorem dX4_torn_3 : decode cX4_torn 3 = .ok (.iconst 2, 1) := by decide +kernel
theorem dX4_torn_4 : decode cX4_torn 4 = .ok (.invokevirtual 66, 3) := by decide +kernel
theorem dX4_torn_7 : decode cX4_torn 7 = .ok (.aload_n 0, 1) := by decide +kernel
theorem dX4_torn_8 : decode cX4_torn 8 = .ok (.iconst 1, 1) := by decide +kernel
theorem dX4_torn_9 : decode cX4_torn 9 = .ok (.iload_n 1, 1) := by decide +kernel
theorem dX4_torn_10 : decode cX4_torn 10 = .ok (.iconst 2, 1) := by decide +kernel
theorem dX4_torn_11 : decode cX4_torn 11 = .ok (.invokevirtual 66, 3) := by decide +kernel
theorem dX4_torn_14 : decode cX4_torn 14 = .ok (.iadd, 1) := by decide +kernel
theorem dX4_torn_15 : decode cX4_torn 15 = .ok (.ireturn, 1) := by decide +kernel
set_option maxRecDepth 20000 in
theorem ggX4_behind_X4_torn : GoodIn wsX4_behind wsX4_torn := goodIn_r _ [5, 6, 7, 8, 4, 9, 10, 11, 12, 13, 14, 15, 16, 17, 18, 19, 20, 21] (by decide +kernel) (by decide +kernel)
set_option maxRecDepth 20000 in
theorem gX4_behind_X4_torn : GoodIn wsX4_behind (wsV RX4 111 RX4 yX4_torn wsX4_torn) := goodIn_app (goodIn_of _ (by decide +kernel)) ggX4_behind_X4_torn
set_option maxRecDepth 20000 in
theorem ggX4_behind_X4_of : GoodIn wsX4_behind wsX4_of := goodIn_r _ [9, 10, 11, 12, 13, 14, 15, 16, 17, 18, 19, 20, 21] (by decide +kernel) (by decide +kernel)
set_option maxRecDepth 20000 in
theorem gX4_behind_X4_of : GoodIn wsX4_behind (wsV RX4 66 RX4 yX4_of wsX4_of) := goodIn_app (goodIn_of _ (by decide +kernel)) ggX4_behind_X4_of
theorem dX4_behind_0 : decode cX4_behind 0 = .ok (.aload_n 0, 1) := by decide +kernel
theorem dX4_behind_1 : decode cX4_behind 1 = .ok (.iload_n 1, 1) := by decide +kernel
theorem dX4_behind_2 : decode cX4_behind 2 = .ok (.invokevirtual 111, 3) := by decide +kernel
theorem dX4_behind_5 : decode cX4_behind 5 = .ok (.iconst 1, 1) := by decide +kernel
theorem dX4_behind_6 : decode cX4_behind 6 = .ok (.if_icmp .ne 20, 3) := by decide +kernel
theorem dX4_behind_9 : decode cX4_behind 9 = .ok (.aload_n 0, 1) := by decide +kernel
theorem dX4_behind_10 : decode cX4_behind 10 = .ok (.iconst 0, 1) := by decide +kernel
theorem dX4_behind_11 : decode cX4_behind 11 = .ok (.iload_n 1, 1) := by decide +kernel
theorem dX4_behind_12 : decode cX4_behind 12 = .ok (.iconst 2, 1) := by decide +kernel
theorem dX4_behind_13 : decode cX4_behind 13 = .ok (.invokevirtual 66, 3) := by decide +kernel
theorem dX4_behind_16 : decode cX4_behind 16 = .ok (.iconst 1, 1) := by decide +kernel
theorem dX4_behind_17 : decode cX4_behind 17 = .ok (.if_icmp .ne 7, 3) := by decide +kernel
theorem dX4_behind_20 : decode cX4_behind 20 = .ok (.iconst 0, 1) := by decide +kernel
theorem dX4_behind_21 : decode cX4_behind 21 = .ok (.goto 4, 3) := by decide +kernel
theorem dX4_behind_24 : decode cX4_behind 24 = .ok (.iconst 1, 1) := by decide +kernel
theorem dX4_behind_25 : decode cX4_behind 25 = .ok (.ireturn, 1) := by decide +kernel
theorem dX4_behind_26 : decode cX4_behind 26 = .ok (.aload_n 0, 1) := by decide +kernel
theorem dX4_behind_27 : decode cX4_behind 27 = .ok (.iconst 0, 1) := by decide +kernel
theorem dX4_behind_28 : decode cX4_behind 28 = .ok (.iload_n 1, 1) := by decide +kernel
theorem dX4_behind_29 : decode cX4_behind 29 = .ok (.iconst 1, 1) := by decide +kernel
theorem dX4_behind_30 : decode cX4_behind 30 = .ok (.invokevirtual 66, 3) := by decide +kernel
theorem dX4_behind_33 : decode cX4_behind 33 = .ok (.aload_n 0, 1) := by decide +kernel
theorem dX4_behind_34 : decode cX4_behind 34 = .ok (.iconst 1, 1) := by decide +kernel
theorem dX4_behind_35 : decode cX4_behind 35 = .ok (.iload_n 1, 1) := by decide +kernel
theorem dX4_behind_36 : decode cX4_behind 36 = .ok (.iconst 1, 1) := by decide +kernel
theorem dX4_behind_37 : decode cX4_behind 37 = .ok (.invokevirtual 66, 3) := by decide +kernel
theorem dX4_behind_40 : decode cX4_behind 40 = .ok (.isub, 1) := by decide +kernel
theorem dX4_behind_41 : decode cX4_behind 41 = .ok (.istore_n 2, 1) := by decide +kernel
theorem dX4_behind_42 : decode cX4_behind 42 = .ok (.iload_n 2, 1) := by decide +kernel
theorem dX4_behind_43 : decode cX4_behind 43 = .ok (.ifCond .ne 8, 3) := by decide +kernel
theorem dX4_behind_46 : decode cX4_behind 46 = .ok (.bipush (-9), 2) := by decide +kernel
theorem dX4_behind_48 : decode cX4_behind 48 = .ok (.goto 12, 3) := by decide +kernel
theorem dX4_behind_51 : decode cX4_behind 51 = .ok (.iload_n 2, 1) := by decide +kernel
theorem dX4_behind_52 : decode cX4_behind 52 = .ok (.ifCond .le 7, 3) := by decide +kernel
theorem dX4_behind_55 : decode cX4_behind 55 = .ok (.iconst 1, 1) := by decide +kernel
theorem dX4_behind_56 : decode cX4_behind 56 = .ok (.goto 4, 3) := by decide +kernel
theorem dX4_behind_59 : decode cX4_behind 59 = .ok (.iconst 0, 1) := by decide +kernel
theorem dX4_behind_60 : decode cX4_behind 60 = .ok (.ireturn, 1) := by decide +kernel
set_option maxRecDepth 20000 in
theorem ggX4_sweeps_X4_torn : GoodIn wsX4_sweeps wsX4_torn := goodIn_r _ [6, 7, 8, 9, 5, 10, 1, 19, 20, 21, 22, 23, 24, 25, 26, 27, 28, 29] (by decide +kernel) (by decide +kernel)
set_option maxRecDepth 20000 in
theorem gX4_sweeps_X4_torn : GoodIn wsX4_sweeps (wsV RX4 111 RX4 yX4_torn wsX4_torn) := goodIn_app (goodIn_of _ (by decide +kernel)) ggX4_sweeps_X4_torn
set_option maxRecDepth 20000 in
theorem ggX4_sweeps_X4_behind : GoodIn wsX4_sweeps wsX4_behind := goodIn_r _ [14, 2, 3, 4, 5, 6, 7, 8, 9, 10, 1, 19, 20, 21, 22, 23, 24, 25, 26, 27, 28, 29] (by decide +kernel) (by decide +kernel)
set_option maxRecDepth 20000 in
theorem gX4_sweeps_X4_behind : GoodIn wsX4_sweeps (wsV RX4 114 RX4 yX4_behind wsX4_behind) := goodIn_app (goodIn_of _ (by decide +kernel)) ggX4_sweeps_X4_behind
set_option maxRecDepth 20000 in
theorem ggX4_sweeps_X4_put : GoodIn wsX4_sweeps wsX4_put := goodIn_r _ [18, 1, 19, 20, 21, 22, 23, 24, 25, 26, 27, 28, 29] (by decide +kernel) (by decide +kernel)
set_option maxRecDepth 20000 in
theorem gX4_sweeps_X4_put : GoodIn wsX4_sweeps (wsV RX4 77 RX4 yX4_put wsX4_put) := goodIn_app (goodIn_of _ (by decide +kernel)) ggX4_sweeps_X4_put
set_option maxRecDepth 20000 in
theorem ggX4_sweeps_X4_of : GoodIn wsX4_sweeps wsX4_of := goodIn_r _ [10, 1, 19, 20, 21, 22, 23, 24, 25, 26, 27, 28, 29] (by decide +kernel) (by decide +kernel)
set_option maxRecDepth 20000 in
theorem gX4_sweeps_X4_of : GoodIn wsX4_sweeps (wsV RX4 66 RX4 yX4_of wsX4_of) := goodIn_app (goodIn_of _ (by decide +kernel)) ggX4_sweeps_X4_of
theorem dX4_sweeps_0 : decode cX4_sweeps 0 = .ok (.iconst 0, 1) := by decide +kernel
theorem dX4_sweeps_1 : decode cX4_sweeps 1 = .ok (.istore_n 1, 1) := by decide +kernel
theorem dX4_sweeps_2 : decode cX4_sweeps 2 = .ok (.iconst 0, 1) := by decide +kernel
theorem dX4_sweeps_3 : decode cX4_sweeps 3 = .ok (.istore_n 2, 1) := by decide +kernel
theorem dX4_sweeps_4 : decode cX4_sweeps 4 = .ok (.iload_n 2, 1) := by decide +kernel
theorem dX4_sweeps_5 : decode cX4_sweeps 5 = .ok (.bipush 48, 2) := by decide +kernel
theorem dX4_sweeps_7 : decode cX4_sweeps 7 = .ok (.if_icmp .ge 159, 3) := by decide +kernel
theorem dX4_sweeps_10 : decode cX4_sweeps 10 = .ok (.aload_n 0, 1) := by decide +kernel
theorem dX4_sweeps_11 : decode cX4_sweeps 11 = .ok (.iload_n 2, 1) := by decide +kernel
theorem dX4_sweeps_12 : decode cX4_sweeps 12 = .ok (.invokevirtual 111, 3) := by decide +kernel
theorem dX4_sweeps_15 : decode cX4_sweeps 15 = .ok (.iconst 2, 1) := by decide +kernel
theorem dX4_sweeps_16 : decode cX4_sweeps 16 = .ok (.if_icmp .ne 7, 3) := by decide +kernel
theorem dX4_sweeps_19 : decode cX4_sweeps 19 = .ok (.iconst 1, 1) := by decide +kernel
theorem dX4_sweeps_20 : decode cX4_sweeps 20 = .ok (.goto 4, 3) := by decide +kernel
theorem dX4_sweeps_23 : decode cX4_sweeps 23 = .ok (.iconst 0, 1) := by decide +kernel
theorem dX4_sweeps_24 : decode cX4_sweeps 24 = .ok (.istore_n 3, 1) := by decide +kernel
theorem dX4_sweeps_25 : decode cX4_sweeps 25 = .ok (.iload_n 3, 1) := by decide +kernel
theorem dX4_sweeps_26 : decode cX4_sweeps 26 = .ok (.ifCond .eq 8, 3) := by decide +kernel
theorem dX4_sweeps_29 : decode cX4_sweeps 29 = .ok (.bipush (-9), 2) := by decide +kernel
theorem dX4_sweeps_31 : decode cX4_sweeps 31 = .ok (.goto 8, 3) := by decide +kernel
theorem dX4_sweeps_34 : decode cX4_sweeps 34 = .ok (.aload_n 0, 1) := by decide +kernel
theorem dX4_sweeps_35 : decode cX4_sweeps 35 = .ok (.iload_n 2, 1) := by decide +kernel
theorem dX4_sweeps_36 : decode cX4_sweeps 36 = .ok (.invokevirtual 114, 3) := by decide +kernel
theorem dX4_sweeps_39 : decode cX4_sweeps 39 = .ok (.istore 4, 2) := by decide +kernel
theorem dX4_sweeps_41 : decode cX4_sweeps 41 = .ok (.iconst 0, 1) := by decide +kernel
theorem dX4_sweeps_42 : decode cX4_sweeps 42 = .ok (.istore 5, 2) := by decide +kernel
theorem dX4_sweeps_44 : decode cX4_sweeps 44 = .ok (.iload 5, 2) := by decide +kernel
theorem dX4_sweeps_46 : decode cX4_sweeps 46 = .ok (.iconst 2, 1) := by decide +kernel
theorem dX4_sweeps_47 : decode cX4_sweeps 47 = .ok (.if_icmp .ge 40, 3) := by decide +kernel
theorem dX4_sweeps_50 : decode cX4_sweeps 50 = .ok (.iload_n 3, 1) := by decide +kernel
theorem dX4_sweeps_51 : decode cX4_sweeps 51 = .ok (.ifCond .eq 36, 3) := by decide +kernel
theorem dX4_sweeps_54 : decode cX4_sweeps 54 = .ok (.aload_n 0, 1) := by decide +kernel
theorem dX4_sweeps_55 : decode cX4_sweeps 55 = .ok (.iload 5, 2) := by decide +kernel
theorem dX4_sweeps_57 : decode cX4_sweeps 57 = .ok (.iload_n 2, 1) := by decide +kernel
theorem dX4_sweeps_58 : decode cX4_sweeps 58 = .ok (.iconst 0, 1) := by decide +kernel
theorem dX4_sweeps_59 : decode cX4_sweeps 59 = .ok (.iconst 0, 1) := by decide +kernel
theorem dX4_sweeps_60 : decode cX4_sweeps 60 = .ok (.invokevirtual 77, 3) := by decide +kernel
theorem dX4_sweeps_63 : decode cX4_sweeps 63 = .ok (.aload_n 0, 1) := by decide +kernel
theorem dX4_sweeps_64 : decode cX4_sweeps 64 = .ok (.iload 5, 2) := by decide +kernel
theorem dX4_sweeps_66 : decode cX4_sweeps 66 = .ok (.iload_n 2, 1) := by decide +kernel
theorem dX4_sweeps_67 : decode cX4_sweeps 67 = .ok (.iconst 1, 1) := by decide +kernel
theorem dX4_sweeps_68 : decode cX4_sweeps 68 = .ok (.iconst 0, 1) := by decide +kernel
theorem dX4_sweeps_69 : decode cX4_sweeps 69 = .ok (.invokevirtual 77, 3) := by decide +kernel
theorem dX4_sweeps_72 : decode cX4_sweeps 72 = .ok (.aload_n 0, 1) := by decide +kernel
theorem dX4_sweeps_73 : decode cX4_sweeps 73 = .ok (.iload 5, 2) := by decide +kernel
theorem dX4_sweeps_75 : decode cX4_sweeps 75 = .ok (.iload_n 2, 1) := by decide +kernel
theorem dX4_sweeps_76 : decode cX4_sweeps 76 = .ok (.iconst 2, 1) := by decide +kernel
theorem dX4_sweeps_77 : decode cX4_sweeps 77 = .ok (.iconst 0, 1) := by decide +kernel
theorem dX4_sweeps_78 : decode cX4_sweeps 78 = .ok (.invokevirtual 77, 3) := by decide +kernel
theorem dX4_sweeps_81 : decode cX4_sweeps 81 = .ok (.iinc 5 1, 3) := by decide +kernel
theorem dX4_sweeps_84 : decode cX4_sweeps 84 = .ok (.goto (-40), 3) := by decide +kernel
theorem dX4_sweeps_87 : decode cX4_sweeps 87 = .ok (.aload_n 0, 1) := by decide +kernel
theorem dX4_sweeps_88 : decode cX4_sweeps 88 = .ok (.getfield 7, 3) := by decide +kernel
theorem dX4_sweeps_91 : decode cX4_sweeps 91 = .ok (.iconst 3, 1) := by decide +kernel
theorem dX4_sweeps_92 : decode cX4_sweeps 92 = .ok (.dup2, 1) := by decide +kernel
theorem dX4_sweeps_93 : decode cX4_sweeps 93 = .ok (.iaload, 1) := by decide +kernel
theorem dX4_sweeps_94 : decode cX4_sweeps 94 = .ok (.iload_n 3, 1) := by decide +kernel
theorem dX4_sweeps_95 : decode cX4_sweeps 95 = .ok (.ifCond .eq 7, 3) := by decide +kernel
theorem dX4_sweeps_98 : decode cX4_sweeps 98 = .ok (.iconst 1, 1) := by decide +kernel
theorem dX4_sweeps_99 : decode cX4_sweeps 99 = .ok (.goto 4, 3) := by decide +kernel
theorem dX4_sweeps_102 : decode cX4_sweeps 102 = .ok (.iconst 0, 1) := by decide +kernel
theorem dX4_sweeps_103 : decode cX4_sweeps 103 = .ok (.iadd, 1) := by decide +kernel
theorem dX4_sweeps_104 : decode cX4_sweeps 104 = .ok (.iastore, 1) := by decide +kernel
theorem dX4_sweeps_105 : decode cX4_sweeps 105 = .ok (.iload 4, 2) := by decide +kernel
theorem dX4_sweeps_107 : decode cX4_sweeps 107 = .ok (.bipush (-9), 2) := by decide +kernel
theorem dX4_sweeps_109 : decode cX4_sweeps 109 = .ok (.if_icmp .eq 51, 3) := by decide +kernel
theorem dX4_sweeps_112 : decode cX4_sweeps 112 = .ok (.aload_n 0, 1) := by decide +kernel
theorem dX4_sweeps_113 : decode cX4_sweeps 113 = .ok (.iload 4, 2) := by decide +kernel
theorem dX4_sweeps_115 : decode cX4_sweeps 115 = .ok (.iload_n 2, 1) := by decide +kernel
theorem dX4_sweeps_116 : decode cX4_sweeps 116 = .ok (.iconst 0, 1) := by decide +kernel
theorem dX4_sweeps_117 : decode cX4_sweeps 117 = .ok (.aload_n 0, 1) := by decide +kernel
theorem dX4_sweeps_118 : decode cX4_sweeps 118 = .ok (.iconst 1, 1) := by decide +kernel
theorem dX4_sweeps_119 : decode cX4_sweeps 119 = .ok (.iload 4, 2) := by decide +kernel
theorem dX4_sweeps_121 : decode cX4_sweeps 121 = .ok (.isub, 1) := by decide +kernel
theorem dX4_sweeps_122 : decode cX4_sweeps 122 = .ok (.iload_n 2, 1) := by decide +kernel
theorem dX4_sweeps_123 : decode cX4_sweeps 123 = .ok (.iconst 0, 1) := by decide +kernel
theorem dX4_sweeps_124 : decode cX4_sweeps 124 = .ok (.invokevirtual 66, 3) := by decide +kernel
theorem dX4_sweeps_127 : decode cX4_sweeps 127 = .ok (.invokevirtual 77, 3) := by decide +kernel
theorem dX4_sweeps_130 : decode cX4_sweeps 130 = .ok (.aload_n 0, 1) := by decide +kernel
theorem dX4_sweeps_131 : decode cX4_sweeps 131 = .ok (.iload 4, 2) := by decide +kernel
theorem dX4_sweeps_133 : decode cX4_sweeps 133 = .ok (.iload_n 2, 1) := by decide +kernel
theorem dX4_sweeps_134 : decode cX4_sweeps 134 = .ok (.iconst 1, 1) := by decide +kernel
theorem dX4_sweeps_135 : decode cX4_sweeps 135 = .ok (.aload_n 0, 1) := by decide +kernel
theorem dX4_sweeps_136 : decode cX4_sweeps 136 = .ok (.iconst 1, 1) := by decide +kernel
theorem dX4_sweeps_137 : decode cX4_sweeps 137 = .ok (.iload 4, 2) := by decide +kernel
theorem dX4_sweeps_139 : decode cX4_sweeps 139 = .ok (.isub, 1) := by decide +kernel
theorem dX4_sweeps_140 : decode cX4_sweeps 140 = .ok (.iload_n 2, 1) := by decide +kernel
theorem dX4_sweeps_141 : decode cX4_sweeps 141 = .ok (.iconst 1, 1) := by decide +kernel
theorem dX4_sweeps_142 : decode cX4_sweeps 142 = .ok (.invokevirtual 66, 3) := by decide +kernel
theorem dX4_sweeps_145 : decode cX4_sweeps 145 = .ok (.invokevirtual 77, 3) := by decide +kernel
theorem dX4_sweeps_148 : decode cX4_sweeps 148 = .ok (.aload_n 0, 1) := by decide +kernel
theorem dX4_sweeps_149 : decode cX4_sweeps 149 = .ok (.iload 4, 2) := by decide +kernel
theorem dX4_sweeps_151 : decode cX4_sweeps 151 = .ok (.iload_n 2, 1) := by decide +kernel
theorem dX4_sweeps_152 : decode cX4_sweeps 152 = .ok (.iconst 2, 1) := by decide +kernel
theorem dX4_sweeps_153 : decode cX4_sweeps 153 = .ok (.iconst 0, 1) := by decide +kernel
theorem dX4_sweeps_154 : decode cX4_sweeps 154 = .ok (.invokevirtual 77, 3) := by decide +kernel
theorem dX4_sweeps_157 : decode cX4_sweeps 157 = .ok (.iinc 1 1, 3) := by decide +kernel
theorem dX4_sweeps_160 : decode cX4_sweeps 160 = .ok (.iinc 2 1, 3) := by decide +kernel
theorem dX4_sweeps_163 : decode cX4_sweeps 163 = .ok (.goto (-159), 3) := by decide +kernel
theorem dX4_sweeps_166 : decode cX4_sweeps 166 = .ok (.aload_n 0, 1) := by decide +kernel
theorem dX4_sweeps_167 : decode cX4_sweeps 167 = .ok (.getfield 7, 3) := by decide +kernel
theorem dX4_sweeps_170 : decode cX4_sweeps 170 = .ok (.iconst 0, 1) := by decide +kernel
theorem dX4_sweeps_171 : decode cX4_sweeps 171 = .ok (.dup2, 1) := by decide +kernel
theorem dX4_sweeps_172 : decode cX4_sweeps 172 = .ok (.iaload, 1) := by decide +kernel
theorem dX4_sweeps_173 : decode cX4_sweeps 173 = .ok (.bipush 48, 2) := by decide +kernel
theorem dX4_sweeps_175 : decode cX4_sweeps 175 = .ok (.iadd, 1) := by decide +kernel
theorem dX4_sweeps_176 : decode cX4_sweeps 176 = .ok (.iastore, 1) := by decide +kernel
theorem dX4_sweeps_177 : decode cX4_sweeps 177 = .ok (.aload_n 0, 1) := by decide +kernel
theorem dX4_sweeps_178 : decode cX4_sweeps 178 = .ok (.getfield 7, 3) := by decide +kernel
theorem dX4_sweeps_181 : decode cX4_sweeps 181 = .ok (.iconst 1, 1) := by decide +kernel
theorem dX4_sweeps_182 : decode cX4_sweeps 182 = .ok (.iconst 3, 1) := by decide +kernel
theorem dX4_sweeps_183 : decode cX4_sweeps 183 = .ok (.iastore, 1) := by decide +kernel
theorem dX4_sweeps_184 : decode cX4_sweeps 184 = .ok (.iload_n 1, 1) := by decide +kernel
theorem dX4_sweeps_185 : decode cX4_sweeps 185 = .ok (.ireturn, 1) := by decide +kernel
set_option maxRecDepth 20000 in
theorem ggX4_sweep_X4_inState : GoodIn wsX4_sweep wsX4_inState := goodIn_r _ [6, 1, 7, 8, 9, 5, 10, 42, 43, 44, 45, 46, 47, 48, 49, 50, 51, 52] (by decide +kernel) (by decide +kernel)
set_option maxRecDepth 20000 in
theorem gX4_sweep_X4_inState : GoodIn wsX4_sweep (wsV RX4 47 RX4 yX4_inState wsX4_inState) := goodIn_app (goodIn_of _ (by decide +kernel)) ggX4_sweep_X4_inState
set_option maxRecDepth 20000 in
theorem ggX4_sweep_X4_copiesThat : GoodIn wsX4_sweep wsX4_copiesThat := goodIn_r _ [14, 15, 16, 17, 5, 18, 1, 42, 43, 44, 45, 46, 47, 48, 49, 50, 51, 52] (by decide +kernel) (by decide +kernel)
set_option maxRecDepth 20000 in
theorem gX4_sweep_X4_copiesThat : GoodIn wsX4_sweep (wsV RX4 117 RX4 yX4_copiesThat wsX4_copiesThat) := goodIn_app (goodIn_of _ (by decide +kernel)) ggX4_sweep_X4_copiesThat
set_option maxRecDepth 20000 in
theorem ggX4_sweep_X4_saves : GoodIn wsX4_sweep wsX4_saves := goodIn_r _ [22, 23, 24, 25, 1, 42, 43, 44, 45, 46, 47, 48, 49, 50, 51, 52] (by decide +kernel) (by decide +kernel)
set_option maxRecDepth 20000 in
theorem gX4_sweep_X4_saves : GoodIn wsX4_sweep (wsV RX4 51 RX4 yX4_saves wsX4_saves) := goodIn_app (goodIn_of _ (by decide +kernel)) ggX4_sweep_X4_saves
set_option maxRecDepth 20000 in
theorem ggX4_sweep_X4_sweeps : GoodIn wsX4_sweep wsX4_sweeps := goodIn_r _ [29, 1, 30, 31, 32, 5, 33, 15, 16, 17, 18, 34, 35, 36, 37, 38, 39, 40, 41, 42, 43, 44, 45, 46, 47, 48, 49, 50, 51, 52] (by decide +kernel) (by decide +kernel)
set_option maxRecDepth 20000 in
theorem gX4_sweep_X4_sweeps : GoodIn wsX4_sweep (wsV RX4 120 RX4 yX4_sweeps wsX4_sweeps) := goodIn_app (goodIn_of _ (by decide +kernel)) ggX4_sweep_X4_sweeps
theorem dX4_sweep_0 : decode cX4_sweep 0 = .ok (.aload_n 0, 1) := by decide +kernel
theorem dX4_sweep_1 : decode cX4_sweep 1 = .ok (.iconst 0, 1) := by decide +kernel
theorem dX4_sweep_2 : decode cX4_sweep 2 = .ok (.invokevirtual 47, 3) := by decide +kernel
theorem dX4_sweep_5 : decode cX4_sweep 5 = .ok (.ifCond .gt 26, 3) := by decide +kernel
theorem dX4_sweep_8 : decode cX4_sweep 8 = .ok (.aload_n 0, 1) := by decide +kernel
theorem dX4_sweep_9 : decode cX4_sweep 9 = .ok (.iconst 3, 1) := by decide +kernel
theorem dX4_sweep_10 : decode cX4_sweep 10 = .ok (.invokevirtual 117, 3) := by decide +kernel
theorem dX4_sweep_13 : decode cX4_sweep 13 = .ok (.ifCond .gt 18, 3) := by decide +kernel
theorem dX4_sweep_16 : decode cX4_sweep 16 = .ok (.aload_n 0, 1) := by decide +kernel
theorem dX4_sweep_17 : decode cX4_sweep 17 = .ok (.getfield 7, 3) := by decide +kernel
theorem dX4_sweep_20 : decode cX4_sweep 20 = .ok (.iconst 0, 1) := by decide +kernel
theorem dX4_sweep_21 : decode cX4_sweep 21 = .ok (.iaload, 1) := by decide +kernel
theorem dX4_sweep_22 : decode cX4_sweep 22 = .ok (.bipush 48, 2) := by decide +kernel
theorem dX4_sweep_24 : decode cX4_sweep 24 = .ok (.iadd, 1) := by decide +kernel
theorem dX4_sweep_25 : decode cX4_sweep 25 = .ok (.sipush 20000, 3) := by decide +kernel
theorem dX4_sweep_28 : decode cX4_sweep 28 = .ok (.if_icmp .le 6, 3) := by decide +kernel
theorem dX4_sweep_31 : decode cX4_sweep 31 = .ok (.bipush (-2), 2) := by decide +kernel
theorem dX4_sweep_33 : decode cX4_sweep 33 = .ok (.ireturn, 1) := by decide +kernel
theorem dX4_sweep_34 : decode cX4_sweep 34 = .ok (.aload_n 0, 1) := by decide +kernel
theorem dX4_sweep_35 : decode cX4_sweep 35 = .ok (.invokevirtual 51, 3) := by decide +kernel
theorem dX4_sweep_38 : decode cX4_sweep 38 = .ok (.aload_n 0, 1) := by decide +kernel
theorem dX4_sweep_39 : decode cX4_sweep 39 = .ok (.invokevirtual 120, 3) := by decide +kernel
theorem dX4_sweep_42 : decode cX4_sweep 42 = .ok (.ireturn, 1) := by decide +kernel
set_option maxRecDepth 20000 in
theorem ggX4_append_X4_within : GoodIn wsX4_append wsX4_within := goodIn_r _ [6] (by decide +kernel) (by decide +kernel)
set_option maxRecDepth 20000 in
theorem gX4_append_X4_within : GoodIn wsX4_append (va_wsS RX4 39 yX4_within wsX4_within) := goodIn_app (goodIn_of _ (by decide +kernel)) ggX4_append_X4_within
theorem dX4_append_0 : decode cX4_append 0 = .ok (.iload_n 1, 1) := by decide +kernel
theorem dX4_append_1 : decode cX4_append 1 = .ok (.iconst 1, 1) := by decide +kernel
theorem dX4_append_2 : decode cX4_append 2 = .ok (.sipush 255, 3) := by decide +kernel
theorem dX4_append_5 : decode cX4_append 5 = .ok (.invokestatic 39, 3) := by decide +kernel
theorem dX4_append_8 : decode cX4_append 8 = .ok (.ifCond .ne 5, 3) := by decide +kernel
theorem dX4_append_11 : decode cX4_append 11 = .ok (.iconst (-1), 1) := by decide +kernel
theorem dX4_append_12 : decode cX4_append 12 = .ok (.ireturn, 1) := by decide +kernel
theorem dX4_append_13 : decode cX4_append 13 = .ok (.aload_n 0, 1) := by decide +kernel
theorem dX4_append_14 : decode cX4_append 14 = .ok (.getfield 123, 3) := by decide +kernel
theorem dX4_append_17 : decode cX4_append 17 = .ok (.bipush 80, 2) := by decide +kernel
theorem dX4_append_19 : decode cX4_append 19 = .ok (.if_icmp .ne 6, 3) := by decide +kernel
theorem dX4_append_22 : decode cX4_append 22 = .ok (.bipush (-3), 2) := by decide +kernel
theorem dX4_append_24 : decode cX4_append 24 = .ok (.ireturn, 1) := by decide +kernel
theorem dX4_append_25 : decode cX4_append 25 = .ok (.aload_n 0, 1) := by decide +kernel
theorem dX4_append_26 : decode cX4_append 26 = .ok (.getfield 19, 3) := by decide +kernel
theorem dX4_append_29 : decode cX4_append 29 = .ok (.aload_n 0, 1) := by decide +kernel
theorem dX4_append_30 : decode cX4_append 30 = .ok (.getfield 123, 3) := by decide +kernel
theorem dX4_append_33 : decode cX4_append 33 = .ok (.iload_n 1, 1) := by decide +kernel
theorem dX4_append_34 : decode cX4_append 34 = .ok (.iastore, 1) := by decide +kernel
theorem dX4_append_35 : decode cX4_append 35 = .ok (.aload_n 0, 1) := by decide +kernel
theorem dX4_append_36 : decode cX4_append 36 = .ok (.dup, 1) := by decide +kernel
theorem dX4_append_37 : decode cX4_append 37 = .ok (.getfield 123, 3) := by decide +kernel
theorem dX4_append_40 : decode cX4_append 40 = .ok (.iconst 1, 1) := by decide +kernel
theorem dX4_append_41 : decode cX4_append 41 = .ok (.iadd, 1) := by decide +kernel
theorem dX4_append_42 : decode cX4_append 42 = .ok (.putfield 123, 3) := by decide +kernel
theorem dX4_append_45 : decode cX4_append 45 = .ok (.aload_n 0, 1) := by decide +kernel
theorem dX4_append_46 : decode cX4_append 46 = .ok (.getfield 123, 3) := by decide +kernel
theorem dX4_append_49 : decode cX4_append 49 = .ok (.ireturn, 1) := by decide +kernel
theorem dX4_clearText_0 : decode cX4_clearText 0 = .ok (.aload_n 0, 1) := by decide +kernel
theorem dX4_clearText_1 : decode cX4_clearText 1 = .ok (.getfield 123, 3) := by decide +kernel
theorem dX4_clearText_4 : decode cX4_clearText 4 = .ok (.istore_n 1, 1) := by decide +kernel
theorem dX4_clearText_5 : decode cX4_clearText 5 = .ok (.aload_n 0, 1) := by decide +kernel
theorem dX4_clearText_6 : decode cX4_clearText 6 = .ok (.iconst 0, 1) := by decide +kernel
theorem dX4_clearText_7 : decode cX4_clearText 7 = .ok (.putfield 123, 3) := by decide +kernel
theorem dX4_clearText_10 : decode cX4_clearText 10 = .ok (.iload_n 1, 1) := by decide +kernel
theorem dX4_clearText_11 : decode cX4_clearText 11 = .ok (.ireturn, 1) := by decide +kernel
theorem dX4_here_0 : decode cX4_here 0 = .ok (.aload_n 0, 1) := by decide +kernel
theorem dX4_here_1 : decode cX4_here 1 = .ok (.getfield 126, 3) := by decide +kernel
theorem dX4_here_4 : decode cX4_here 4 = .ok (.aload_n 0, 1) := by decide +kernel
theorem dX4_here_5 : decode cX4_here 5 = .ok (.getfield 123, 3) := by decide +kernel
theorem dX4_here_8 : decode cX4_here 8 = .ok (.if_icmp .ge 15, 3) := by decide +kernel
theorem dX4_here_11 : decode cX4_here 11 = .ok (.aload_n 0, 1) := by decide +kernel
theorem dX4_here_12 : decode cX4_here 12 = .ok (.getfield 19, 3) := by decide +kernel
theorem dX4_here_15 : decode cX4_here 15 = .ok (.aload_n 0, 1) := by decide +kernel
theorem dX4_here_16 : decode cX4_here 16 = .ok (.getfield 126, 3) := by decide +kernel
theorem dX4_here_19 : decode cX4_here 19 = .ok (.iaload, 1) := by decide +kernel
theorem dX4_here_20 : decode cX4_here 20 = .ok (.goto 4, 3) := by decide +kernel
theorem dX4_here_23 : decode cX4_here 23 = .ok (.iconst 0, 1) := by decide +kernel
theorem dX4_here_24 : decode cX4_here 24 = .ok (.ireturn, 1) := by decide +kernel
set_option maxRecDepth 20000 in
theorem ggX4_number_X4_here : GoodIn wsX4_number wsX4_here := goodIn_r _ [7, 1, 8, 9, 13, 14, 15, 16, 17, 18, 19, 20, 21, 22, 23] (by decide +kernel) (by decide +kernel)
set_option maxRecDepth 20000 in
theorem gX4_number_X4_here : GoodIn wsX4_number (wsV RX4 129 RX4 yX4_here wsX4_here) := goodIn_app (goodIn_of _ (by decide +kernel)) ggX4_number_X4_here
set_option maxRecDepth 20000 in
theorem ggX4_number_X4_within : GoodIn wsX4_number wsX4_within := goodIn_r _ [12] (by decide +kernel) (by decide +kernel)
set_option maxRecDepth 20000 in
theorem gX4_number_X4_within : GoodIn wsX4_number (va_wsS RX4 39 yX4_within wsX4_within) := goodIn_app (goodIn_of _ (by decide +kernel)) ggX4_number_X4_within
theorem dX4_number_0 : decode cX4_number 0 = .ok (.aload_n 0, 1) := by decide +kernel
theorem dX4_number_1 : decode cX4_number 1 = .ok (.invokevirtual 129, 3) := by decide +kernel
theorem dX4_number_4 : decode cX4_number 4 = .ok (.bipush 48, 2) := by decide +kernel
theorem dX4_number_6 : decode cX4_number 6 = .ok (.bipush 57, 2) := by decide +kernel
theorem dX4_number_8 : decode cX4_number 8 = .ok (.invokestatic 39, 3) := by decide +kernel
theorem dX4_number_11 : decode cX4_number 11 = .ok (.ifCond .ne 5, 3) := by decide +kernel
theorem dX4_number_14 : decode cX4_number 14 = .ok (.iconst 0, 1) := by decide +kernel
theorem dX4_number_15 : decode cX4_number 15 = .ok (.ireturn, 1) := by decide +kernel
theorem dX4_number_16 : decode cX4_number 16 = .ok (.aload_n 0, 1) := by decide +kernel
theorem dX4_number_17 : decode cX4_number 17 = .ok (.invokevirtual 129, 3) := by decide +kernel
theorem dX4_number_20 : decode cX4_number 20 = .ok (.bipush 48, 2) := by decide +kernel
theorem dX4_number_22 : decode cX4_number 22 = .ok (.if_icmp .ne 7, 3) := by decide +kernel
theorem dX4_number_25 : decode cX4_number 25 = .ok (.iconst 1, 1) := by decide +kernel
theorem dX4_number_26 : decode cX4_number 26 = .ok (.goto 4, 3) := by decide +kernel
theorem dX4_number_29 : decode cX4_number 29 = .ok (.iconst 3, 1) := by decide +kernel
theorem dX4_number_30 : decode cX4_number 30 = .ok (.istore_n 2, 1) := by decide +kernel
theorem dX4_number_31 : decode cX4_number 31 = .ok (.aload_n 0, 1) := by decide +kernel
theorem dX4_number_32 : decode cX4_number 32 = .ok (.getfield 126, 3) := by decide +kernel
theorem dX4_number_35 : decode cX4_number 35 = .ok (.istore_n 3, 1) := by decide +kernel
theorem dX4_number_36 : decode cX4_number 36 = .ok (.aload_n 0, 1) := by decide +kernel
theorem dX4_number_37 : decode cX4_number 37 = .ok (.getfield 28, 3) := by decide +kernel
theorem dX4_number_40 : decode cX4_number 40 = .ok (.iload_n 1, 1) := by decide +kernel
theorem dX4_number_41 : decode cX4_number 41 = .ok (.iconst 0, 1) := by decide +kernel
theorem dX4_number_42 : decode cX4_number 42 = .ok (.iastore, 1) := by decide +kernel
theorem dX4_number_43 : decode cX4_number 43 = .ok (.aload_n 0, 1) := by decide +kernel
theorem dX4_number_44 : decode cX4_number 44 = .ok (.getfield 126, 3) := by decide +kernel
theorem dX4_number_47 : decode cX4_number 47 = .ok (.iload_n 3, 1) := by decide +kernel
theorem dX4_number_48 : decode cX4_number 48 = .ok (.isub, 1) := by decide +kernel
theorem dX4_number_49 : decode cX4_number 49 = .ok (.iload_n 2, 1) := by decide +kernel
theorem dX4_number_50 : decode cX4_number 50 = .ok (.if_icmp .ge 53, 3) := by decide +kernel
theorem dX4_number_53 : decode cX4_number 53 = .ok (.aload_n 0, 1) := by decide +kernel
theorem dX4_number_54 : decode cX4_number 54 = .ok (.invokevirtual 129, 3) := by decide +kernel
theorem dX4_number_57 : decode cX4_number 57 = .ok (.bipush 48, 2) := by decide +kernel
theorem dX4_number_59 : decode cX4_number 59 = .ok (.bipush 57, 2) := by decide +kernel
theorem dX4_number_61 : decode cX4_number 61 = .ok (.invokestatic 39, 3) := by decide +kernel
theorem dX4_number_64 : decode cX4_number 64 = .ok (.ifCond .eq 39, 3) := by decide +kernel
theorem dX4_number_67 : decode cX4_number 67 = .ok (.aload_n 0, 1) := by decide +kernel
theorem dX4_number_68 : decode cX4_number 68 = .ok (.getfield 28, 3) := by decide +kernel
theorem dX4_number_71 : decode cX4_number 71 = .ok (.iload_n 1, 1) := by decide +kernel
theorem dX4_number_72 : decode cX4_number 72 = .ok (.bipush 10, 2) := by decide +kernel
theorem dX4_number_74 : decode cX4_number 74 = .ok (.aload_n 0, 1) := by decide +kernel
theorem dX4_number_75 : decode cX4_number 75 = .ok (.getfield 28, 3) := by decide +kernel
theorem dX4_number_78 : decode cX4_number 78 = .ok (.iload_n 1, 1) := by decide +kernel
theorem dX4_number_79 : decode cX4_number 79 = .ok (.iaload, 1) := by decide +kernel
theorem dX4_number_80 : decode cX4_number 80 = .ok (.imul, 1) := by decide +kernel
theorem dX4_number_81 : decode cX4_number 81 = .ok (.aload_n 0, 1) := by decide +kernel
theorem dX4_number_82 : decode cX4_number 82 = .ok (.invokevirtual 129, 3) := by decide +kernel
theorem dX4_number_85 : decode cX4_number 85 = .ok (.iadd, 1) := by decide +kernel
theorem dX4_number_86 : decode cX4_number 86 = .ok (.bipush 48, 2) := by decide +kernel
theorem dX4_number_88 : decode cX4_number 88 = .ok (.isub, 1) := by decide +kernel
theorem dX4_number_89 : decode cX4_number 89 = .ok (.iastore, 1) := by decide +kernel
theorem dX4_number_90 : decode cX4_number 90 = .ok (.aload_n 0, 1) := by decide +kernel
theorem dX4_number_91 : decode cX4_number 91 = .ok (.dup, 1) := by decide +kernel
theorem dX4_number_92 : decode cX4_number 92 = .ok (.getfield 126, 3) := by decide +kernel
theorem dX4_number_95 : decode cX4_number 95 = .ok (.iconst 1, 1) := by decide +kernel
theorem dX4_number_96 : decode cX4_number 96 = .ok (.iadd, 1) := by decide +kernel
theorem dX4_number_97 : decode cX4_number 97 = .ok (.putfield 126, 3) := by decide +kernel
theorem dX4_number_100 : decode cX4_number 100 = .ok (.goto (-57), 3) := by decide +kernel
theorem dX4_number_103 : decode cX4_number 103 = .ok (.iconst 1, 1) := by decide +kernel
theorem dX4_number_104 : decode cX4_number 104 = .ok (.ireturn, 1) := by decide +kernel
set_option maxRecDepth 20000 in
theorem ggX4_passesSign_X4_here : GoodIn wsX4_passesSign wsX4_here := goodIn_r _ [6, 1, 7, 8, 9, 10, 11, 12, 13, 14, 15, 16, 17, 18, 19] (by decide +kernel) (by decide +kernel)
set_option maxRecDepth 20000 in
theorem gX4_passesSign_X4_here : GoodIn wsX4_passesSign (wsV RX4 129 RX4 yX4_here wsX4_here) := goodIn_app (goodIn_of _ (by decide +kernel)) ggX4_passesSign_X4_here
theorem dX4_passesSign_0 : decode cX4_passesSign 0 = .ok (.aload_n 0, 1) := by decide +kernel
theorem dX4_passesSign_1 : decode cX4_passesSign 1 = .ok (.invokevirtual 129, 3) := by decide +kernel
theorem dX4_passesSign_4 : decode cX4_passesSign 4 = .ok (.iload_n 1, 1) := by decide +kernel
theorem dX4_passesSign_5 : decode cX4_passesSign 5 = .ok (.if_icmp .ne 7, 3) := by decide +kernel
theorem dX4_passesSign_8 : decode cX4_passesSign 8 = .ok (.iconst 1, 1) := by decide +kernel
theorem dX4_passesSign_9 : decode cX4_passesSign 9 = .ok (.goto 4, 3) := by decide +kernel
theorem dX4_passesSign_12 : decode cX4_passesSign 12 = .ok (.iconst 0, 1) := by decide +kernel
theorem dX4_passesSign_13 : decode cX4_passesSign 13 = .ok (.istore_n 2, 1) := by decide +kernel
theorem dX4_passesSign_14 : decode cX4_passesSign 14 = .ok (.aload_n 0, 1) := by decide +kernel
theorem dX4_passesSign_15 : decode cX4_passesSign 15 = .ok (.dup, 1) := by decide +kernel
theorem dX4_passesSign_16 : decode cX4_passesSign 16 = .ok (.getfield 126, 3) := by decide +kernel
theorem dX4_passesSign_19 : decode cX4_passesSign 19 = .ok (.iload_n 2, 1) := by decide +kernel
theorem dX4_passesSign_20 : decode cX4_passesSign 20 = .ok (.ifCond .eq 7, 3) := by decide +kernel
theorem dX4_passesSign_23 : decode cX4_passesSign 23 = .ok (.iconst 1, 1) := by decide +kernel
theorem dX4_passesSign_24 : decode cX4_passesSign 24 = .ok (.goto 4, 3) := by decide +kernel
theorem dX4_passesSign_27 : decode cX4_passesSign 27 = .ok (.iconst 0, 1) := by decide +kernel
theorem dX4_passesSign_28 : decode cX4_passesSign 28 = .ok (.iadd, 1) := by decide +kernel
theorem dX4_passesSign_29 : decode cX4_passesSign 29 = .ok (.putfield 126, 3) := by decide +kernel
theorem dX4_passesSign_32 : decode cX4_passesSign 32 = .ok (.iload_n 2, 1) := by decide +kernel
theorem dX4_passesSign_33 : decode cX4_passesSign 33 = .ok (.ireturn, 1) := by decide +kernel
set_option maxRecDepth 20000 in
theorem ggX4_readsAct_X4_passesSign : GoodIn wsX4_readsAct wsX4_passesSign := goodIn_r _ [5, 6, 7, 8, 9, 4, 10, 11, 12, 21, 22, 23, 24, 25, 26, 27, 28, 29, 30, 31] (by decide +kernel) (by decide +kernel)
set_option maxRecDepth 20000 in
theorem gX4_readsAct_X4_passesSign : GoodIn wsX4_readsAct (wsV RX4 132 RX4 yX4_passesSign wsX4_passesSign) := goodIn_app (goodIn_of _ (by decide +kernel)) ggX4_readsAct_X4_passesSign
set_option maxRecDepth 20000 in
theorem ggX4_readsAct_X4_number : GoodIn wsX4_readsAct wsX4_number := goodIn_r _ [16, 6, 17, 7, 8, 9, 4, 10, 11, 12, 18, 19, 20, 21, 22, 23, 24, 25, 26, 27, 28, 29, 30, 31] (by decide +kernel) (by decide +kernel)
set_option maxRecDepth 20000 in
theorem gX4_readsAct_X4_number : GoodIn wsX4_readsAct (wsV RX4 135 RX4 yX4_number wsX4_number) := goodIn_app (goodIn_of _ (by decide +kernel)) ggX4_readsAct_X4_number
theorem dX4_readsAct_0 : decode cX4_readsAct 0 = .ok (.iload_n 1, 1) := by decide +kernel
theorem dX4_readsAct_1 : decode cX4_readsAct 1 = .ok (.bipush 120, 2) := by decide +kernel
theorem dX4_readsAct_3 : decode cX4_readsAct 3 = .ok (.if_icmp .ne 10, 3) := by decide +kernel
theorem dX4_readsAct_6 : decode cX4_readsAct 6 = .ok (.aload_n 0, 1) := by decide +kernel
theorem dX4_readsAct_7 : decode cX4_readsAct 7 = .ok (.bipush 59, 2) := by decide +kernel
theorem dX4_readsAct_9 : decode cX4_readsAct 9 = .ok (.invokevirtual 132, 3) := by decide +kernel
theorem dX4_readsAct_12 : decode cX4_readsAct 12 = .ok (.ireturn, 1) := by decide +kernel
theorem dX4_readsAct_13 : decode cX4_readsAct 13 = .ok (.aload_n 0, 1) := by decide +kernel
theorem dX4_readsAct_14 : decode cX4_readsAct 14 = .ok (.iconst 0, 1) := by decide +kernel
theorem dX4_readsAct_15 : decode cX4_readsAct 15 = .ok (.invokevirtual 135, 3) := by decide +kernel
theorem dX4_readsAct_18 : decode cX4_readsAct 18 = .ok (.ifCond .ne 5, 3) := by decide +kernel
theorem dX4_readsAct_21 : decode cX4_readsAct 21 = .ok (.iconst 0, 1) := by decide +kernel
theorem dX4_readsAct_22 : decode cX4_readsAct 22 = .ok (.ireturn, 1) := by decide +kernel
theorem dX4_readsAct_23 : decode cX4_readsAct 23 = .ok (.iload_n 1, 1) := by decide +kernel
theorem dX4_readsAct_24 : decode cX4_readsAct 24 = .ok (.bipush 116, 2) := by decide +kernel
theorem dX4_readsAct_26 : decode cX4_readsAct 26 = .ok (.if_icmp .ne 10, 3) := by decide +kernel
theorem dX4_readsAct_29 : decode cX4_readsAct 29 = .ok (.aload_n 0, 1) := by decide +kernel
theorem dX4_readsAct_30 : decode cX4_readsAct 30 = .ok (.bipush 59, 2) := by decide +kernel
theorem dX4_readsAct_32 : decode cX4_readsAct 32 = .ok (.invokevirtual 132, 3) := by decide +kernel
theorem dX4_readsAct_35 : decode cX4_readsAct 35 = .ok (.ireturn, 1) := by decide +kernel
theorem dX4_readsAct_36 : decode cX4_readsAct 36 = .ok (.aload_n 0, 1) := by decide +kernel
theorem dX4_readsAct_37 : decode cX4_readsAct 37 = .ok (.bipush 44, 2) := by decide +kernel
theorem dX4_readsAct_39 : decode cX4_readsAct 39 = .ok (.invokevirtual 132, 3) := by decide +kernel
theorem dX4_readsAct_42 : decode cX4_readsAct 42 = .ok (.ifCond .eq 11, 3) := by decide +kernel
theorem dX4_readsAct_45 : decode cX4_readsAct 45 = .ok (.aload_n 0, 1) := by decide +kernel
theorem dX4_readsAct_46 : decode cX4_readsAct 46 = .ok (.iconst 1, 1) := by decide +kernel
theorem dX4_readsAct_47 : decode cX4_readsAct 47 = .ok (.invokevirtual 135, 3) := by decide +kernel
theorem dX4_readsAct_50 : decode cX4_readsAct 50 = .ok (.ifCond .ne 5, 3) := by decide +kernel
theorem dX4_readsAct_53 : decode cX4_readsAct 53 = .ok (.iconst 0, 1) := by decide +kernel
theorem dX4_readsAct_54 : decode cX4_readsAct 54 = .ok (.ireturn, 1) := by decide +kernel
theorem dX4_readsAct_55 : decode cX4_readsAct 55 = .ok (.iload_n 1, 1) := by decide +kernel
theorem dX4_readsAct_56 : decode cX4_readsAct 56 = .ok (.bipush 114, 2) := by decide +kernel
theorem dX4_readsAct_58 : decode cX4_readsAct 58 = .ok (.if_icmp .ne 12, 3) := by decide +kernel
theorem dX4_readsAct_61 : decode cX4_readsAct 61 = .ok (.aload_n 0, 1) := by decide +kernel
theorem dX4_readsAct_62 : decode cX4_readsAct 62 = .ok (.bipush 59, 2) := by decide +kernel
theorem dX4_readsAct_64 : decode cX4_readsAct 64 = .ok (.invokevirtual 132, 3) := by decide +kernel
theorem dX4_readsAct_67 : decode cX4_readsAct 67 = .ok (.goto 34, 3) := by decide +kernel
theorem dX4_readsAct_70 : decode cX4_readsAct 70 = .ok (.aload_n 0, 1) := by decide +kernel
theorem dX4_readsAct_71 : decode cX4_readsAct 71 = .ok (.bipush 61, 2) := by decide +kernel
theorem dX4_readsAct_73 : decode cX4_readsAct 73 = .ok (.invokevirtual 132, 3) := by decide +kernel
theorem dX4_readsAct_76 : decode cX4_readsAct 76 = .ok (.ifCond .eq 24, 3) := by decide +kernel
theorem dX4_readsAct_79 : decode cX4_readsAct 79 = .ok (.aload_n 0, 1) := by decide +kernel
theorem dX4_readsAct_80 : decode cX4_readsAct 80 = .ok (.iconst 2, 1) := by decide +kernel
theorem dX4_readsAct_81 : decode cX4_readsAct 81 = .ok (.invokevirtual 135, 3) := by decide +kernel
theorem dX4_readsAct_84 : decode cX4_readsAct 84 = .ok (.ifCond .eq 16, 3) := by decide +kernel
theorem dX4_readsAct_87 : decode cX4_readsAct 87 = .ok (.aload_n 0, 1) := by decide +kernel
theorem dX4_readsAct_88 : decode cX4_readsAct 88 = .ok (.bipush 59, 2) := by decide +kernel
theorem dX4_readsAct_90 : decode cX4_readsAct 90 = .ok (.invokevirtual 132, 3) := by decide +kernel
theorem dX4_readsAct_93 : decode cX4_readsAct 93 = .ok (.ifCond .eq 7, 3) := by decide +kernel
theorem dX4_readsAct_96 : decode cX4_readsAct 96 = .ok (.iconst 1, 1) := by decide +kernel
theorem dX4_readsAct_97 : decode cX4_readsAct 97 = .ok (.goto 4, 3) := by decide +kernel
theorem dX4_readsAct_100 : decode cX4_readsAct 100 = .ok (.iconst 0, 1) := by decide +kernel
theorem dX4_readsAct_101 : decode cX4_readsAct 101 = .ok (.ireturn, 1) := by decide +kernel
theorem dX4_isLetter_0 : decode cX4_isLetter 0 = .ok (.iload_n 0, 1) := by decide +kernel
theorem dX4_isLetter_1 : decode cX4_isLetter 1 = .ok (.bipush 114, 2) := by decide +kernel
theorem dX4_isLetter_3 : decode cX4_isLetter 3 = .ok (.if_icmp .eq 21, 3) := by decide +kernel
theorem dX4_isLetter_6 : decode cX4_isLetter 6 = .ok (.iload_n 0, 1) := by decide +kernel
theorem dX4_isLetter_7 : decode cX4_isLetter 7 = .ok (.bipush 119, 2) := by decide +kernel
theorem dX4_isLetter_9 : decode cX4_isLetter 9 = .ok (.if_icmp .eq 15, 3) := by decide +kernel
theorem dX4_isLetter_12 : decode cX4_isLetter 12 = .ok (.iload_n 0, 1) := by decide +kernel
theorem dX4_isLetter_13 : decode cX4_isLetter 13 = .ok (.bipush 116, 2) := by decide +kernel
theorem dX4_isLetter_15 : decode cX4_isLetter 15 = .ok (.if_icmp .eq 9, 3) := by decide +kernel
theorem dX4_isLetter_18 : decode cX4_isLetter 18 = .ok (.iload_n 0, 1) := by decide +kernel
theorem dX4_isLetter_19 : decode cX4_isLetter 19 = .ok (.bipush 120, 2) := by decide +kernel
theorem dX4_isLetter_21 : decode cX4_isLetter 21 = .ok (.if_icmp .ne 7, 3) := by decide +kernel
theorem dX4_isLetter_24 : decode cX4_isLetter 24 = .ok (.iconst 1, 1) := by decide +kernel
theorem dX4_isLetter_25 : decode cX4_isLetter 25 = .ok (.goto 4, 3) := by decide +kernel
theorem dX4_isLetter_28 : decode cX4_isLetter 28 = .ok (.iconst 0, 1) := by decide +kernel
theorem dX4_isLetter_29 : decode cX4_isLetter 29 = .ok (.ireturn, 1) := by decide +kernel
set_option maxRecDepth 20000 in
theorem ggX4_readsAll_X4_here : GoodIn wsX4_readsAll wsX4_here := goodIn_r _ [7, 1, 2, 8, 28, 29, 30, 31, 32, 33, 34, 35, 36, 37, 38] (by decide +kernel) (by decide +kernel)
set_option maxRecDepth 20000 in
theorem gX4_readsAll_X4_here : GoodIn wsX4_readsAll (wsV RX4 129 RX4 yX4_here wsX4_here) := goodIn_app (goodIn_of _ (by decide +kernel)) ggX4_readsAll_X4_here
set_option maxRecDepth 20000 in
theorem ggX4_readsAll_X4_isLetter : GoodIn wsX4_readsAll wsX4_isLetter := goodIn_r _ [11] (by decide +kernel) (by decide +kernel)
set_option maxRecDepth 20000 in
theorem gX4_readsAll_X4_isLetter : GoodIn wsX4_readsAll (va_wsS RX4 138 yX4_isLetter wsX4_isLetter) := goodIn_app (goodIn_of _ (by decide +kernel)) ggX4_readsAll_X4_isLetter
set_option maxRecDepth 20000 in
theorem ggX4_readsAll_X4_readsAct : GoodIn wsX4_readsAll wsX4_readsAct := goodIn_r _ [15, 16, 17, 18, 6, 19, 1, 3, 4, 5, 7, 2, 8, 20, 21, 22, 23, 24, 25, 26, 27, 28, 29, 30, 31, 32, 33, 34, 35, 36, 37, 38] (by decide +kernel) (by decide +kernel)
set_option maxRecDepth 20000 in
theorem gX4_readsAll_X4_readsAct : GoodIn wsX4_readsAll (wsV RX4 141 RX4 yX4_readsAct wsX4_readsAct) := goodIn_app (goodIn_of _ (by decide +kernel)) ggX4_readsAll_X4_readsAct
set_option maxRecDepth 20000 in
theorem ggX4_readsAll_X4_within : GoodIn wsX4_readsAll wsX4_within := goodIn_r _ [27] (by decide +kernel) (by decide +kernel)
set_option maxRecDepth 20000 in
theorem gX4_readsAll_X4_within : GoodIn wsX4_readsAll (va_wsS RX4 39 yX4_within wsX4_within) := goodIn_app (goodIn_of _ (by decide +kernel)) ggX4_readsAll_X4_within
theorem dX4_readsAll_0 : decode cX4_readsAll 0 = .ok (.iconst 0, 1) := by decide +kernel
theorem dX4_readsAll_1 : decode cX4_readsAll 1 = .ok (.istore_n 1, 1) := by decide +kernel
theorem dX4_readsAll_2 : decode cX4_readsAll 2 = .ok (.aload_n 0, 1) := by decide +kernel
theorem dX4_readsAll_3 : decode cX4_readsAll 3 = .ok (.iconst 0, 1) := by decide +kernel
theorem dX4_readsAll_4 : decode cX4_readsAll 4 = .ok (.putfield 126, 3) := by decide +kernel
theorem dX4_readsAll_7 : decode cX4_readsAll 7 = .ok (.aload_n 0, 1) := by decide +kernel
theorem dX4_readsAll_8 : decode cX4_readsAll 8 = .ok (.getfield 126, 3) := by decide +kernel
theorem dX4_readsAll_11 : decode cX4_readsAll 11 = .ok (.aload_n 0, 1) := by decide +kernel
theorem dX4_readsAll_12 : decode cX4_readsAll 12 = .ok (.getfield 123, 3) := by decide +kernel
theorem dX4_readsAll_15 : decode cX4_readsAll 15 = .ok (.if_icmp .ge 118, 3) := by decide +kernel
theorem dX4_readsAll_18 : decode cX4_readsAll 18 = .ok (.aload_n 0, 1) := by decide +kernel
theorem dX4_readsAll_19 : decode cX4_readsAll 19 = .ok (.invokevirtual 129, 3) := by decide +kernel
theorem dX4_readsAll_22 : decode cX4_readsAll 22 = .ok (.istore_n 2, 1) := by decide +kernel
theorem dX4_readsAll_23 : decode cX4_readsAll 23 = .ok (.iload_n 2, 1) := by decide +kernel
theorem dX4_readsAll_24 : decode cX4_readsAll 24 = .ok (.invokestatic 138, 3) := by decide +kernel
theorem dX4_readsAll_27 : decode cX4_readsAll 27 = .ok (.ifCond .eq 23, 3) := by decide +kernel
theorem dX4_readsAll_30 : decode cX4_readsAll 30 = .ok (.aload_n 0, 1) := by decide +kernel
theorem dX4_readsAll_31 : decode cX4_readsAll 31 = .ok (.dup, 1) := by decide +kernel
theorem dX4_readsAll_32 : decode cX4_readsAll 32 = .ok (.getfield 126, 3) := by decide +kernel
theorem dX4_readsAll_35 : decode cX4_readsAll 35 = .ok (.iconst 1, 1) := by decide +kernel
theorem dX4_readsAll_36 : decode cX4_readsAll 36 = .ok (.iadd, 1) := by decide +kernel
theorem dX4_readsAll_37 : decode cX4_readsAll 37 = .ok (.putfield 126, 3) := by decide +kernel
theorem dX4_readsAll_40 : decode cX4_readsAll 40 = .ok (.aload_n 0, 1) := by decide +kernel
theorem dX4_readsAll_41 : decode cX4_readsAll 41 = .ok (.iload_n 2, 1) := by decide +kernel
theorem dX4_readsAll_42 : decode cX4_readsAll 42 = .ok (.invokevirtual 141, 3) := by decide +kernel
theorem dX4_readsAll_45 : decode cX4_readsAll 45 = .ok (.ifCond .ne 85, 3) := by decide +kernel
theorem dX4_readsAll_48 : decode cX4_readsAll 48 = .ok (.iconst 0, 1) := by decide +kernel
theorem dX4_readsAll_49 : decode cX4_readsAll 49 = .ok (.ireturn, 1) := by decide +kernel
theorem dX4_readsAll_50 : decode cX4_readsAll 50 = .ok (.iload_n 2, 1) := by decide +kernel
theorem dX4_readsAll_51 : decode cX4_readsAll 51 = .ok (.bipush 41, 2) := by decide +kernel
theorem dX4_readsAll_53 : decode cX4_readsAll 53 = .ok (.if_icmp .ne 23, 3) := by decide +kernel
theorem dX4_readsAll_56 : decode cX4_readsAll 56 = .ok (.iload_n 1, 1) := by decide +kernel
theorem dX4_readsAll_57 : decode cX4_readsAll 57 = .ok (.ifCond .le 19, 3) := by decide +kernel
theorem dX4_readsAll_60 : decode cX4_readsAll 60 = .ok (.iinc 1 (-1), 3) := by decide +kernel
theorem dX4_readsAll_63 : decode cX4_readsAll 63 = .ok (.aload_n 0, 1) := by decide +kernel
theorem dX4_readsAll_64 : decode cX4_readsAll 64 = .ok (.dup, 1) := by decide +kernel
theorem dX4_readsAll_65 : decode cX4_readsAll 65 = .ok (.getfield 126, 3) := by decide +kernel
theorem dX4_readsAll_68 : decode cX4_readsAll 68 = .ok (.iconst 1, 1) := by decide +kernel
theorem dX4_readsAll_69 : decode cX4_readsAll 69 = .ok (.iadd, 1) := by decide +kernel
theorem dX4_readsAll_70 : decode cX4_readsAll 70 = .ok (.putfield 126, 3) := by decide +kernel
theorem dX4_readsAll_73 : decode cX4_readsAll 73 = .ok (.goto 57, 3) := by decide +kernel
theorem dX4_readsAll_76 : decode cX4_readsAll 76 = .ok (.aload_n 0, 1) := by decide +kernel
theorem dX4_readsAll_77 : decode cX4_readsAll 77 = .ok (.dup, 1) := by decide +kernel
theorem dX4_readsAll_78 : decode cX4_readsAll 78 = .ok (.getfield 126, 3) := by decide +kernel
theorem dX4_readsAll_81 : decode cX4_readsAll 81 = .ok (.iload_n 2, 1) := by decide +kernel
theorem dX4_readsAll_82 : decode cX4_readsAll 82 = .ok (.bipush 50, 2) := by decide +kernel
theorem dX4_readsAll_84 : decode cX4_readsAll 84 = .ok (.bipush 57, 2) := by decide +kernel
theorem dX4_readsAll_86 : decode cX4_readsAll 86 = .ok (.invokestatic 39, 3) := by decide +kernel
theorem dX4_readsAll_89 : decode cX4_readsAll 89 = .ok (.ifCond .eq 7, 3) := by decide +kernel
theorem dX4_readsAll_92 : decode cX4_readsAll 92 = .ok (.iconst 1, 1) := by decide +kernel
theorem dX4_readsAll_93 : decode cX4_readsAll 93 = .ok (.goto 4, 3) := by decide +kernel
theorem dX4_readsAll_96 : decode cX4_readsAll 96 = .ok (.iconst 0, 1) := by decide +kernel
theorem dX4_readsAll_97 : decode cX4_readsAll 97 = .ok (.iadd, 1) := by decide +kernel
theorem dX4_readsAll_98 : decode cX4_readsAll 98 = .ok (.putfield 126, 3) := by decide +kernel
theorem dX4_readsAll_101 : decode cX4_readsAll 101 = .ok (.aload_n 0, 1) := by decide +kernel
theorem dX4_readsAll_102 : decode cX4_readsAll 102 = .ok (.invokevirtual 129, 3) := by decide +kernel
theorem dX4_readsAll_105 : decode cX4_readsAll 105 = .ok (.bipush 40, 2) := by decide +kernel
theorem dX4_readsAll_107 : decode cX4_readsAll 107 = .ok (.if_icmp .ne 8, 3) := by decide +kernel
theorem dX4_readsAll_110 : decode cX4_readsAll 110 = .ok (.iload_n 1, 1) := by decide +kernel
theorem dX4_readsAll_111 : decode cX4_readsAll 111 = .ok (.iconst 3, 1) := by decide +kernel
theorem dX4_readsAll_112 : decode cX4_readsAll 112 = .ok (.if_icmp .ne 5, 3) := by decide +kernel
theorem dX4_readsAll_115 : decode cX4_readsAll 115 = .ok (.iconst 0, 1) := by decide +kernel
theorem dX4_readsAll_116 : decode cX4_readsAll 116 = .ok (.ireturn, 1) := by decide +kernel
theorem dX4_readsAll_117 : decode cX4_readsAll 117 = .ok (.iinc 1 1, 3) := by decide +kernel
theorem dX4_readsAll_120 : decode cX4_readsAll 120 = .ok (.aload_n 0, 1) := by decide +kernel
theorem dX4_readsAll_121 : decode cX4_readsAll 121 = .ok (.dup, 1) := by decide +kernel
theorem dX4_readsAll_122 : decode cX4_readsAll 122 = .ok (.getfield 126, 3) := by decide +kernel
theorem dX4_readsAll_125 : decode cX4_readsAll 125 = .ok (.iconst 1, 1) := by decide +kernel
theorem dX4_readsAll_126 : decode cX4_readsAll 126 = .ok (.iadd, 1) := by decide +kernel
theorem dX4_readsAll_127 : decode cX4_readsAll 127 = .ok (.putfield 126, 3) := by decide +kernel
theorem dX4_readsAll_130 : decode cX4_readsAll 130 = .ok (.goto (-123), 3) := by decide +kernel
theorem dX4_readsAll_133 : decode cX4_readsAll 133 = .ok (.iload_n 1, 1) := by decide +kernel
theorem dX4_readsAll_134 : decode cX4_readsAll 134 = .ok (.ifCond .ne 7, 3) := by decide +kernel
theorem dX4_readsAll_137 : decode cX4_readsAll 137 = .ok (.iconst 1, 1) := by decide +kernel
theorem dX4_readsAll_138 : decode cX4_readsAll 138 = .ok (.goto 4, 3) := by decide +kernel
theorem dX4_readsAll_141 : decode cX4_readsAll 141 = .ok (.iconst 0, 1) := by decide +kernel
theorem dX4_readsAll_142 : decode cX4_readsAll 142 = .ok (.ireturn, 1) := by decide +kernel
set_option maxRecDepth 20000 in
theorem ggX4_does_X4_read : GoodIn wsX4_does wsX4_read := goodIn_r _ [6, 7, 8, 5, 9, 10, 11, 12, 13, 14, 15, 16, 17, 18, 19, 20, 21, 22, 23, 24, 25, 26, 27, 28, 29, 30, 31, 32, 33, 34, 35, 36, 99, 100, 101, 102, 103, 104, 105, 106, 107, 108, 109] (by decide +kernel) (by decide +kernel)
set_option maxRecDepth 20000 in
theorem gX4_does_X4_read : GoodIn wsX4_does (wsV RX4 144 RX4 yX4_read wsX4_read) := goodIn_app (goodIn_of _ (by decide +kernel)) ggX4_does_X4_read
set_option maxRecDepth 20000 in
theorem ggX4_does_X4_write : GoodIn wsX4_does wsX4_write := goodIn_r _ [40, 7, 8, 5, 9, 10, 11, 12, 13, 14, 15, 16, 17, 18, 19, 20, 21, 22, 23, 24, 25, 26, 27, 28, 29, 30, 31, 32, 33, 34, 35, 36, 99, 100, 101, 102, 103, 104, 105, 106, 107, 108, 109] (by decide +kernel) (by decide +kernel)
set_option maxRecDepth 20000 in
theorem gX4_does_X4_write : GoodIn wsX4_does (wsV RX4 147 RX4 yX4_write wsX4_write) := goodIn_app (goodIn_of _ (by decide +kernel)) ggX4_does_X4_write
set_option maxRecDepth 20000 in
theorem ggX4_does_X4_pass : GoodIn wsX4_does wsX4_pass := goodIn_r _ [44, 17, 10, 11, 5, 12, 26, 27, 28, 29, 30, 31, 32, 18, 19, 20, 21, 22, 23, 24, 25, 45, 46, 47, 48, 49, 50, 51, 52, 53, 54, 55, 56, 57, 58, 59, 60, 61, 62, 63, 64, 65, 66, 67, 68, 69, 70, 71, 72, 73, 74, 75, 76, 77, 78, 79, 80, 81, 82, 83, 33, 34, 35, 36, 84, 85, 86, 87, 88, 89, 90, 99, 100, 101, 102, 103, 104, 105, 106, 107, 108, 109] (by decide +kernel) (by decide +kernel)
