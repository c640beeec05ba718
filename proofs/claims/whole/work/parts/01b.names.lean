set_option maxRecDepth 20000 in
theorem ggX0_init_X1_init : GoodIn wsX0_init wsX1_init := goodIn_r _ [10, 11, 2, 3, 12, 13, 14, 15, 16, 17, 18, 19, 20, 7, 21, 25, 26, 27, 28, 29, 30, 31, 32, 33, 34, 35] (by decide +kernel) (by decide +kernel)
set_option maxRecDepth 20000 in
theorem gX0_init_X1_init : GoodIn wsX0_init (wsX1_init) := ggX0_init_X1_init
theorem dX0_init_0 : decode cX0_init 0 = .ok (.aload_n 0, 1) := by decide +kernel
theorem dX0_init_1 : decode cX0_init 1 = .ok (.invokespecial 3, 3) := by decide +kernel
theorem dX0_init_4 : decode cX0_init 4 = .ok (.aload_n 0, 1) := by decide +kernel
theorem dX0_init_5 : decode cX0_init 5 = .ok (.bipush 6, 2) := by decide +kernel
theorem dX0_init_7 : decode cX0_init 7 = .ok (.anewarray 9, 3) := by decide +kernel
theorem dX0_init_10 : decode cX0_init 10 = .ok (.putfield 11, 3) := by decide +kernel
theorem dX0_init_13 : decode cX0_init 13 = .ok (.iconst 0, 1) := by decide +kernel
theorem dX0_init_14 : decode cX0_init 14 = .ok (.istore_n 1, 1) := by decide +kernel
theorem dX0_init_15 : decode cX0_init 15 = .ok (.iload_n 1, 1) := by decide +kernel
theorem dX0_init_16 : decode cX0_init 16 = .ok (.bipush 6, 2) := by decide +kernel
theorem dX0_init_18 : decode cX0_init 18 = .ok (.if_icmp .ge 22, 3) := by decide +kernel
theorem dX0_init_21 : decode cX0_init 21 = .ok (.aload_n 0, 1) := by decide +kernel
theorem dX0_init_22 : decode cX0_init 22 = .ok (.getfield 11, 3) := by decide +kernel
theorem dX0_init_25 : decode cX0_init 25 = .ok (.iload_n 1, 1) := by decide +kernel
theorem dX0_init_26 : decode cX0_init 26 = .ok (.new 9, 3) := by decide +kernel
theorem dX0_init_29 : decode cX0_init 29 = .ok (.dup, 1) := by decide +kernel
theorem dX0_init_30 : decode cX0_init 30 = .ok (.invokespecial 15, 3) := by decide +kernel
theorem dX0_init_33 : decode cX0_init 33 = .ok (.aastore, 1) := by decide +kernel
theorem dX0_init_34 : decode cX0_init 34 = .ok (.iinc 1 1, 3) := by decide +kernel
theorem dX0_init_37 : decode cX0_init 37 = .ok (.goto (-22), 3) := by decide +kernel
theorem dX0_init_40 : decode cX0_init 40 = .ok (.return_, 1) := by decide +kernel
theorem dX0_size_0 : decode cX0_size 0 = .ok (.aload_n 0, 1) := by decide +kernel
theorem dX0_size_1 : decode cX0_size 1 = .ok (.getfield 16, 3) := by decide +kernel
theorem dX0_size_4 : decode cX0_size 4 = .ok (.ireturn, 1) := by decide +kernel
set_option maxRecDepth 20000 in
theorem ggX0_note_X0_noted : GoodIn wsX0_note wsX0_noted := goodIn_r _ [5, 6, 7, 8, 9, 10, 11, 12, 33, 34, 35] (by decide +kernel) (by decide +kernel)
set_option maxRecDepth 20000 in
theorem gX0_note_X0_noted : GoodIn wsX0_note (wsV RX0 20 RX0 yX0_noted wsX0_noted) := goodIn_app (goodIn_of _ (by decide +kernel)) ggX0_note_X0_noted
set_option maxRecDepth 20000 in
theorem ggX0_note_X1_become : GoodIn wsX0_note wsX1_become := goodIn_r _ [17, 18, 19, 20, 21, 22, 23, 24, 25, 26, 27, 28, 29, 30, 31, 32, 36, 37, 38, 39, 40, 41, 42, 43, 44, 45, 46] (by decide +kernel) (by decide +kernel)
set_option maxRecDepth 20000 in
theorem gX0_note_X1_become : GoodIn wsX0_note (wsV RX0 24 RX1 yX1_become wsX1_become) := goodIn_app (goodIn_of _ (by decide +kernel)) ggX0_note_X1_become
theorem dX0_note_0 : decode cX0_note 0 = .ok (.aload_n 0, 1) := by decide +kernel
theorem dX0_note_1 : decode cX0_note 1 = .ok (.invokevirtual 20, 3) := by decide +kernel
theorem dX0_note_4 : decode cX0_note 4 = .ok (.aload_n 1, 1) := by decide +kernel
theorem dX0_note_5 : decode cX0_note 5 = .ok (.invokevirtual 24, 3) := by decide +kernel
theorem dX0_note_8 : decode cX0_note 8 = .ok (.return_, 1) := by decide +kernel
set_option maxRecDepth 20000 in
theorem ggX0_keepNoted_J9_floorMod_7cf53 : GoodIn wsX0_keepNoted wsJ9_floorMod_7cf53 := goodIn_r _ [6] (by decide +kernel) (by decide +kernel)
set_option maxRecDepth 20000 in
theorem gX0_keepNoted_J9_floorMod_7cf53 : GoodIn wsX0_keepNoted (va_wsS RX0 31 yJ9_floorMod_7cf53 wsJ9_floorMod_7cf53) := goodIn_app (goodIn_of _ (by decide +kernel)) ggX0_keepNoted_J9_floorMod_7cf53
theorem dX0_keepNoted_0 : decode cX0_keepNoted 0 = .ok (.aload_n 0, 1) := by decide +kernel
theorem dX0_keepNoted_1 : decode cX0_keepNoted 1 = .ok (.getfield 16, 3) := by decide +kernel
theorem dX0_keepNoted_4 : decode cX0_keepNoted 4 = .ok (.iconst 5, 1) := by decide +kernel
theorem dX0_keepNoted_5 : decode cX0_keepNoted 5 = .ok (.if_icmp .ge 16, 3) := by decide +kernel
theorem dX0_keepNoted_8 : decode cX0_keepNoted 8 = .ok (.aload_n 0, 1) := by decide +kernel
theorem dX0_keepNoted_9 : decode cX0_keepNoted 9 = .ok (.dup, 1) := by decide +kernel
theorem dX0_keepNoted_10 : decode cX0_keepNoted 10 = .ok (.getfield 16, 3) := by decide +kernel
theorem dX0_keepNoted_13 : decode cX0_keepNoted 13 = .ok (.iconst 1, 1) := by decide +kernel
theorem dX0_keepNoted_14 : decode cX0_keepNoted 14 = .ok (.iadd, 1) := by decide +kernel
theorem dX0_keepNoted_15 : decode cX0_keepNoted 15 = .ok (.putfield 16, 3) := by decide +kernel
theorem dX0_keepNoted_18 : decode cX0_keepNoted 18 = .ok (.goto 18, 3) := by decide +kernel
theorem dX0_keepNoted_21 : decode cX0_keepNoted 21 = .ok (.aload_n 0, 1) := by decide +kernel
theorem dX0_keepNoted_22 : decode cX0_keepNoted 22 = .ok (.aload_n 0, 1) := by decide +kernel
theorem dX0_keepNoted_23 : decode cX0_keepNoted 23 = .ok (.getfield 28, 3) := by decide +kernel
theorem dX0_keepNoted_26 : decode cX0_keepNoted 26 = .ok (.iconst 1, 1) := by decide +kernel
theorem dX0_keepNoted_27 : decode cX0_keepNoted 27 = .ok (.iadd, 1) := by decide +kernel
theorem dX0_keepNoted_28 : decode cX0_keepNoted 28 = .ok (.bipush 6, 2) := by decide +kernel
theorem dX0_keepNoted_30 : decode cX0_keepNoted 30 = .ok (.invokestatic 31, 3) := by decide +kernel
theorem dX0_keepNoted_33 : decode cX0_keepNoted 33 = .ok (.putfield 28, 3) := by decide +kernel
theorem dX0_keepNoted_36 : decode cX0_keepNoted 36 = .ok (.return_, 1) := by decide +kernel
set_option maxRecDepth 20000 in
theorem ggX0_restoreNoted_X0_noted : GoodIn wsX0_restoreNoted wsX0_noted := goodIn_r _ [5, 6, 7, 8, 9, 10, 11, 12, 33, 34, 35] (by decide +kernel) (by decide +kernel)
set_option maxRecDepth 20000 in
theorem gX0_restoreNoted_X0_noted : GoodIn wsX0_restoreNoted (wsV RX0 20 RX0 yX0_noted wsX0_noted) := goodIn_app (goodIn_of _ (by decide +kernel)) ggX0_restoreNoted_X0_noted
set_option maxRecDepth 20000 in
theorem ggX0_restoreNoted_X1_become : GoodIn wsX0_restoreNoted wsX1_become := goodIn_r _ [17, 18, 19, 20, 21, 22, 23, 24, 25, 26, 27, 28, 29, 30, 31, 32, 36, 37, 38, 39, 40, 41, 42, 43, 44, 45, 46] (by decide +kernel) (by decide +kernel)
set_option maxRecDepth 20000 in
theorem gX0_restoreNoted_X1_become : GoodIn wsX0_restoreNoted (wsV RX0 24 RX1 yX1_become wsX1_become) := goodIn_app (goodIn_of _ (by decide +kernel)) ggX0_restoreNoted_X1_become
theorem dX0_restoreNoted_0 : decode cX0_restoreNoted 0 = .ok (.aload_n 1, 1) := by decide +kernel
theorem dX0_restoreNoted_1 : decode cX0_restoreNoted 1 = .ok (.aload_n 0, 1) := by decide +kernel
theorem dX0_restoreNoted_2 : decode cX0_restoreNoted 2 = .ok (.invokevirtual 20, 3) := by decide +kernel
theorem dX0_restoreNoted_5 : decode cX0_restoreNoted 5 = .ok (.invokevirtual 24, 3) := by decide +kernel
theorem dX0_restoreNoted_8 : decode cX0_restoreNoted 8 = .ok (.return_, 1) := by decide +kernel
theorem dX0_dropLatest_0 : decode cX0_dropLatest 0 = .ok (.aload_n 0, 1) := by decide +kernel
theorem dX0_dropLatest_1 : decode cX0_dropLatest 1 = .ok (.getfield 16, 3) := by decide +kernel
theorem dX0_dropLatest_4 : decode cX0_dropLatest 4 = .ok (.ifCond .le 13, 3) := by decide +kernel
theorem dX0_dropLatest_7 : decode cX0_dropLatest 7 = .ok (.aload_n 0, 1) := by decide +kernel
theorem dX0_dropLatest_8 : decode cX0_dropLatest 8 = .ok (.dup, 1) := by decide +kernel
theorem dX0_dropLatest_9 : decode cX0_dropLatest 9 = .ok (.getfield 16, 3) := by decide +kernel
theorem dX0_dropLatest_12 : decode cX0_dropLatest 12 = .ok (.iconst 1, 1) := by decide +kernel
theorem dX0_dropLatest_13 : decode cX0_dropLatest 13 = .ok (.isub, 1) := by decide +kernel
theorem dX0_dropLatest_14 : decode cX0_dropLatest 14 = .ok (.putfield 16, 3) := by decide +kernel
theorem dX0_dropLatest_17 : decode cX0_dropLatest 17 = .ok (.return_, 1) := by decide +kernel
set_option maxRecDepth 20000 in
theorem ggX0_noted_J9_floorMod_7cf53 : GoodIn wsX0_noted wsJ9_floorMod_7cf53 := goodIn_r _ [7] (by decide +kernel) (by decide +kernel)
set_option maxRecDepth 20000 in
theorem gX0_noted_J9_floorMod_7cf53 : GoodIn wsX0_noted (va_wsS RX0 31 yJ9_floorMod_7cf53 wsJ9_floorMod_7cf53) := goodIn_app (goodIn_of _ (by decide +kernel)) ggX0_noted_J9_floorMod_7cf53
theorem dX0_noted_0 : decode cX0_noted 0 = .ok (.aload_n 0, 1) := by decide +kernel
theorem dX0_noted_1 : decode cX0_noted 1 = .ok (.getfield 11, 3) := by decide +kernel
theorem dX0_noted_4 : decode cX0_noted 4 = .ok (.aload_n 0, 1) := by decide +kernel
theorem dX0_noted_5 : decode cX0_noted 5 = .ok (.getfield 28, 3) := by decide +kernel
theorem dX0_noted_8 : decode cX0_noted 8 = .ok (.aload_n 0, 1) := by decide +kernel
theorem dX0_noted_9 : decode cX0_noted 9 = .ok (.getfield 16, 3) := by decide +kernel
theorem dX0_noted_12 : decode cX0_noted 12 = .ok (.iadd, 1) := by decide +kernel
theorem dX0_noted_13 : decode cX0_noted 13 = .ok (.bipush 6, 2) := by decide +kernel
theorem dX0_noted_15 : decode cX0_noted 15 = .ok (.invokestatic 31, 3) := by decide +kernel
theorem dX0_noted_18 : decode cX0_noted 18 = .ok (.aaload, 1) := by decide +kernel
theorem dX0_noted_19 : decode cX0_noted 19 = .ok (.areturn, 1) := by decide +kernel
set_option maxRecDepth 20000 in
theorem ggX1_init_X1_forgetWritten : GoodIn wsX1_init wsX1_forgetWritten := goodIn_r _ [14, 7, 15, 16, 17, 18, 19, 20, 21, 22, 23, 24, 25] (by decide +kernel) (by decide +kernel)
set_option maxRecDepth 20000 in
theorem gX1_init_X1_forgetWritten : GoodIn wsX1_init (wsV RX1 27 RX1 yX1_forgetWritten wsX1_forgetWritten) := goodIn_app (goodIn_of _ (by decide +kernel)) ggX1_init_X1_forgetWritten
theorem dX1_init_0 : decode cX1_init 0 = .ok (.aload_n 0, 1) := by decide +kernel
theorem dX1_init_1 : decode cX1_init 1 = .ok (.invokespecial 5, 3) := by decide +kernel
theorem dX1_init_4 : decode cX1_init 4 = .ok (.aload_n 0, 1) := by decide +kernel
theorem dX1_init_5 : decode cX1_init 5 = .ok (.sipush 384, 3) := by decide +kernel
theorem dX1_init_8 : decode cX1_init 8 = .ok (.newarray .int, 2) := by decide +kernel
theorem dX1_init_10 : decode cX1_init 10 = .ok (.putfield 11, 3) := by decide +kernel
theorem dX1_init_13 : decode cX1_init 13 = .ok (.aload_n 0, 1) := by decide +kernel
theorem dX1_init_14 : decode cX1_init 14 = .ok (.sipush 480, 3) := by decide +kernel
theorem dX1_init_17 : decode cX1_init 17 = .ok (.newarray .int, 2) := by decide +kernel
theorem dX1_init_19 : decode cX1_init 19 = .ok (.putfield 15, 3) := by decide +kernel
theorem dX1_init_22 : decode cX1_init 22 = .ok (.aload_n 0, 1) := by decide +kernel
theorem dX1_init_23 : decode cX1_init 23 = .ok (.iconst 2, 1) := by decide +kernel
theorem dX1_init_24 : decode cX1_init 24 = .ok (.newarray .int, 2) := by decide +kernel
theorem dX1_init_26 : decode cX1_init 26 = .ok (.putfield 18, 3) := by decide +kernel
theorem dX1_init_29 : decode cX1_init 29 = .ok (.aload_n 0, 1) := by decide +kernel
theorem dX1_init_30 : decode cX1_init 30 = .ok (.bipush 48, 2) := by decide +kernel
theorem dX1_init_32 : decode cX1_init 32 = .ok (.newarray .int, 2) := by decide +kernel
theorem dX1_init_34 : decode cX1_init 34 = .ok (.putfield 21, 3) := by decide +kernel
theorem dX1_init_37 : decode cX1_init 37 = .ok (.aload_n 0, 1) := by decide +kernel
theorem dX1_init_38 : decode cX1_init 38 = .ok (.iconst 4, 1) := by decide +kernel
theorem dX1_init_39 : decode cX1_init 39 = .ok (.newarray .int, 2) := by decide +kernel
theorem dX1_init_41 : decode cX1_init 41 = .ok (.putfield 24, 3) := by decide +kernel
theorem dX1_init_44 : decode cX1_init 44 = .ok (.aload_n 0, 1) := by decide +kernel
theorem dX1_init_45 : decode cX1_init 45 = .ok (.invokevirtual 27, 3) := by decide +kernel
theorem dX1_init_48 : decode cX1_init 48 = .ok (.return_, 1) := by decide +kernel
theorem dX1_become_0 : decode cX1_become 0 = .ok (.aload_n 1, 1) := by decide +kernel
theorem dX1_become_1 : decode cX1_become 1 = .ok (.getfield 11, 3) := by decide +kernel
theorem dX1_become_4 : decode cX1_become 4 = .ok (.iconst 0, 1) := by decide +kernel
theorem dX1_become_5 : decode cX1_become 5 = .ok (.aload_n 0, 1) := by decide +kernel
theorem dX1_become_6 : decode cX1_become 6 = .ok (.getfield 11, 3) := by decide +kernel
theorem dX1_become_9 : decode cX1_become 9 = .ok (.iconst 0, 1) := by decide +kernel
theorem dX1_become_10 : decode cX1_become 10 = .ok (.aload_n 0, 1) := by decide +kernel
theorem dX1_become_11 : decode cX1_become 11 = .ok (.getfield 11, 3) := by decide +kernel
theorem dX1_become_14 : decode cX1_become 14 = .ok (.arraylength, 1) := by decide +kernel
theorem dX1_become_15 : decode cX1_become 15 = .ok (.invokestatic 30, 3) := by decide +kernel
theorem dX1_become_18 : decode cX1_become 18 = .ok (.aload_n 1, 1) := by decide +kernel
theorem dX1_become_19 : decode cX1_become 19 = .ok (.getfield 15, 3) := by decide +kernel
theorem dX1_become_22 : decode cX1_become 22 = .ok (.iconst 0, 1) := by decide +kernel
theorem dX1_become_23 : decode cX1_become 23 = .ok (.aload_n 0, 1) := by decide +kernel
theorem dX1_become_24 : decode cX1_become 24 = .ok (.getfield 15, 3) := by decide +kernel
theorem dX1_become_27 : decode cX1_become 27 = .ok (.iconst 0, 1) := by decide +kernel
theorem dX1_become_28 : decode cX1_become 28 = .ok (.aload_n 0, 1) := by decide +kernel
theorem dX1_become_29 : decode cX1_become 29 = .ok (.getfield 15, 3) := by decide +kernel
theorem dX1_become_32 : decode cX1_become 32 = .ok (.arraylength, 1) := by decide +kernel
theorem dX1_become_33 : decode cX1_become 33 = .ok (.invokestatic 30, 3) := by decide +kernel
theorem dX1_become_36 : decode cX1_become 36 = .ok (.aload_n 1, 1) := by decide +kernel
theorem dX1_become_37 : decode cX1_become 37 = .ok (.getfield 18, 3) := by decide +kernel
theorem dX1_become_40 : decode cX1_become 40 = .ok (.iconst 0, 1) := by decide +kernel
theorem dX1_become_41 : decode cX1_become 41 = .ok (.aload_n 0, 1) := by decide +kernel
theorem dX1_become_42 : decode cX1_become 42 = .ok (.getfield 18, 3) := by decide +kernel
theorem dX1_become_45 : decode cX1_become 45 = .ok (.iconst 0, 1) := by decide +kernel
theorem dX1_become_46 : decode cX1_become 46 = .ok (.aload_n 0, 1) := by decide +kernel
theorem dX1_become_47 : decode cX1_become 47 = .ok (.getfield 18, 3) := by decide +kernel
theorem dX1_become_50 : decode cX1_become 50 = .ok (.arraylength, 1) := by decide +kernel
theorem dX1_become_51 : decode cX1_become 51 = .ok (.invokestatic 30, 3) := by decide +kernel
theorem dX1_become_54 : decode cX1_become 54 = .ok (.aload_n 1, 1) := by decide +kernel
theorem dX1_become_55 : decode cX1_become 55 = .ok (.getfield 21, 3) := by decide +kernel
theorem dX1_become_58 : decode cX1_become 58 = .ok (.iconst 0, 1) := by decide +kernel
theorem dX1_become_59 : decode cX1_become 59 = .ok (.aload_n 0, 1) := by decide +kernel
theorem dX1_become_60 : decode cX1_become 60 = .ok (.getfield 21, 3) := by decide +kernel
theorem dX1_become_63 : decode cX1_become 63 = .ok (.iconst 0, 1) := by decide +kernel
theorem dX1_become_64 : decode cX1_become 64 = .ok (.aload_n 0, 1) := by decide +kernel
theorem dX1_become_65 : decode cX1_become 65 = .ok (.getfield 21, 3) := by decide +kernel
theorem dX1_become_68 : decode cX1_become 68 = .ok (.arraylength, 1) := by decide +kernel
theorem dX1_become_69 : decode cX1_become 69 = .ok (.invokestatic 30, 3) := by decide +kernel
theorem dX1_become_72 : decode cX1_become 72 = .ok (.aload_n 1, 1) := by decide +kernel
theorem dX1_become_73 : decode cX1_become 73 = .ok (.getfield 24, 3) := by decide +kernel
theorem dX1_become_76 : decode cX1_become 76 = .ok (.iconst 0, 1) := by decide +kernel
theorem dX1_become_77 : decode cX1_become 77 = .ok (.aload_n 0, 1) := by decide +kernel
theorem dX1_become_78 : decode cX1_become 78 = .ok (.getfield 24, 3) := by decide +kernel
theorem dX1_become_81 : decode cX1_become 81 = .ok (.iconst 0, 1) := by decide +kernel
theorem dX1_become_82 : decode cX1_become 82 = .ok (.aload_n 0, 1) := by decide +kernel
theorem dX1_become_83 : decode cX1_become 83 = .ok (.getfield 24, 3) := by decide +kernel
theorem dX1_become_86 : decode cX1_become 86 = .ok (.arraylength, 1) := by decide +kernel
theorem dX1_become_87 : decode cX1_become 87 = .ok (.invokestatic 30, 3) := by decide +kernel
theorem dX1_become_90 : decode cX1_become 90 = .ok (.aload_n 0, 1) := by decide +kernel
theorem dX1_become_91 : decode cX1_become 91 = .ok (.aload_n 1, 1) := by decide +kernel
theorem dX1_become_92 : decode cX1_become 92 = .ok (.getfield 36, 3) := by decide +kernel
theorem dX1_become_95 : decode cX1_become 95 = .ok (.putfield 36, 3) := by decide +kernel
theorem dX1_become_98 : decode cX1_become 98 = .ok (.aload_n 0, 1) := by decide +kernel
theorem dX1_become_99 : decode cX1_become 99 = .ok (.aload_n 1, 1) := by decide +kernel
theorem dX1_become_100 : decode cX1_become 100 = .ok (.getfield 40, 3) := by decide +kernel
theorem dX1_become_103 : decode cX1_become 103 = .ok (.putfield 40, 3) := by decide +kernel
theorem dX1_become_106 : decode cX1_become 106 = .ok (.aload_n 0, 1) := by decide +kernel
theorem dX1_become_107 : decode cX1_become 107 = .ok (.aload_n 1, 1) := by decide +kernel
theorem dX1_become_108 : decode cX1_become 108 = .ok (.getfield 43, 3) := by decide +kernel
theorem dX1_become_111 : decode cX1_become 111 = .ok (.putfield 43, 3) := by decide +kernel
theorem dX1_become_114 : decode cX1_become 114 = .ok (.aload_n 0, 1) := by decide +kernel
theorem dX1_become_115 : decode cX1_become 115 = .ok (.aload_n 1, 1) := by decide +kernel
theorem dX1_become_116 : decode cX1_become 116 = .ok (.getfield 46, 3) := by decide +kernel
theorem dX1_become_119 : decode cX1_become 119 = .ok (.putfield 46, 3) := by decide +kernel
theorem dX1_become_122 : decode cX1_become 122 = .ok (.aload_n 0, 1) := by decide +kernel
theorem dX1_become_123 : decode cX1_become 123 = .ok (.aload_n 1, 1) := by decide +kernel
theorem dX1_become_124 : decode cX1_become 124 = .ok (.getfield 49, 3) := by decide +kernel
theorem dX1_become_127 : decode cX1_become 127 = .ok (.putfield 49, 3) := by decide +kernel
theorem dX1_become_130 : decode cX1_become 130 = .ok (.aload_n 0, 1) := by decide +kernel
theorem dX1_become_131 : decode cX1_become 131 = .ok (.aload_n 1, 1) := by decide +kernel
theorem dX1_become_132 : decode cX1_become 132 = .ok (.getfield 52, 3) := by decide +kernel
theorem dX1_become_135 : decode cX1_become 135 = .ok (.putfield 52, 3) := by decide +kernel
theorem dX1_become_138 : decode cX1_become 138 = .ok (.return_, 1) := by decide +kernel
theorem dX1_isBlock_0 : decode cX1_isBlock 0 = .ok (.iload_n 0, 1) := by decide +kernel
theorem dX1_isBlock_1 : decode cX1_isBlock 1 = .ok (.ifCond .lt 22, 3) := by decide +kernel
theorem dX1_isBlock_4 : decode cX1_isBlock 4 = .ok (.iload_n 0, 1) := by decide +kernel
theorem dX1_isBlock_5 : decode cX1_isBlock 5 = .ok (.iconst 4, 1) := by decide +kernel
theorem dX1_isBlock_6 : decode cX1_isBlock 6 = .ok (.if_icmp .ge 17, 3) := by decide +kernel
theorem dX1_isBlock_9 : decode cX1_isBlock 9 = .ok (.iload_n 1, 1) := by decide +kernel
theorem dX1_isBlock_10 : decode cX1_isBlock 10 = .ok (.ifCond .lt 13, 3) := by decide +kernel
theorem dX1_isBlock_13 : decode cX1_isBlock 13 = .ok (.iload_n 1, 1) := by decide +kernel
theorem dX1_isBlock_14 : decode cX1_isBlock 14 = .ok (.bipush 12, 2) := by decide +kernel
theorem dX1_isBlock_16 : decode cX1_isBlock 16 = .ok (.if_icmp .ge 7, 3) := by decide +kernel
theorem dX1_isBlock_19 : decode cX1_isBlock 19 = .ok (.iconst 1, 1) := by decide +kernel
theorem dX1_isBlock_20 : decode cX1_isBlock 20 = .ok (.goto 4, 3) := by decide +kernel
theorem dX1_isBlock_23 : decode cX1_isBlock 23 = .ok (.iconst 0, 1) := by decide +kernel
theorem dX1_isBlock_24 : decode cX1_isBlock 24 = .ok (.ireturn, 1) := by decide +kernel
theorem dX1_blockAt_0 : decode cX1_blockAt 0 = .ok (.iload_n 0, 1) := by decide +kernel
theorem dX1_blockAt_1 : decode cX1_blockAt 1 = .ok (.bipush 12, 2) := by decide +kernel
theorem dX1_blockAt_3 : decode cX1_blockAt 3 = .ok (.imul, 1) := by decide +kernel
theorem dX1_blockAt_4 : decode cX1_blockAt 4 = .ok (.iload_n 1, 1) := by decide +kernel
theorem dX1_blockAt_5 : decode cX1_blockAt 5 = .ok (.iadd, 1) := by decide +kernel
theorem dX1_blockAt_6 : decode cX1_blockAt 6 = .ok (.ireturn, 1) := by decide +kernel
theorem dX1_tick_0 : decode cX1_tick 0 = .ok (.aload_n 0, 1) := by decide +kernel
theorem dX1_tick_1 : decode cX1_tick 1 = .ok (.getfield 36, 3) := by decide +kernel
theorem dX1_tick_4 : decode cX1_tick 4 = .ok (.ireturn, 1) := by decide +kernel
theorem dX1_arm_0 : decode cX1_arm 0 = .ok (.aload_n 0, 1) := by decide +kernel
theorem dX1_arm_1 : decode cX1_arm 1 = .ok (.getfield 40, 3) := by decide +kernel
theorem dX1_arm_4 : decode cX1_arm 4 = .ok (.ireturn, 1) := by decide +kernel
theorem dX1_taken_0 : decode cX1_taken 0 = .ok (.aload_n 0, 1) := by decide +kernel
theorem dX1_taken_1 : decode cX1_taken 1 = .ok (.getfield 43, 3) := by decide +kernel
theorem dX1_taken_4 : decode cX1_taken 4 = .ok (.ireturn, 1) := by decide +kernel
theorem dX1_wiped_0 : decode cX1_wiped 0 = .ok (.aload_n 0, 1) := by decide +kernel
theorem dX1_wiped_1 : decode cX1_wiped 1 = .ok (.getfield 49, 3) := by decide +kernel
theorem dX1_wiped_4 : decode cX1_wiped 4 = .ok (.ireturn, 1) := by decide +kernel
theorem dX1_moves_0 : decode cX1_moves 0 = .ok (.aload_n 0, 1) := by decide +kernel
theorem dX1_moves_1 : decode cX1_moves 1 = .ok (.getfield 52, 3) := by decide +kernel
theorem dX1_moves_4 : decode cX1_moves 4 = .ok (.ireturn, 1) := by decide +kernel
set_option maxRecDepth 20000 in
theorem ggX1_sectorUnder_J9_floorMod_7cf53 : GoodIn wsX1_sectorUnder wsJ9_floorMod_7cf53 := goodIn_r _ [5] (by decide +kernel) (by decide +kernel)
set_option maxRecDepth 20000 in
theorem gX1_sectorUnder_J9_floorMod_7cf53 : GoodIn wsX1_sectorUnder (va_wsS RX1 55 yJ9_floorMod_7cf53 wsJ9_floorMod_7cf53) := goodIn_app (goodIn_of _ (by decide +kernel)) ggX1_sectorUnder_J9_floorMod_7cf53
theorem dX1_sectorUnder_0 : decode cX1_sectorUnder 0 = .ok (.aload_n 0, 1) := by decide +kernel
theorem dX1_sectorUnder_1 : decode cX1_sectorUnder 1 = .ok (.getfield 36, 3) := by decide +kernel
theorem dX1_sectorUnder_4 : decode cX1_sectorUnder 4 = .ok (.iload_n 1, 1) := by decide +kernel
theorem dX1_sectorUnder_5 : decode cX1_sectorUnder 5 = .ok (.bipush 6, 2) := by decide +kernel
theorem dX1_sectorUnder_7 : decode cX1_sectorUnder 7 = .ok (.imul, 1) := by decide +kernel
theorem dX1_sectorUnder_8 : decode cX1_sectorUnder 8 = .ok (.iadd, 1) := by decide +kernel
theorem dX1_sectorUnder_9 : decode cX1_sectorUnder 9 = .ok (.bipush 12, 2) := by decide +kernel
theorem dX1_sectorUnder_11 : decode cX1_sectorUnder 11 = .ok (.invokestatic 55, 3) := by decide +kernel
theorem dX1_sectorUnder_14 : decode cX1_sectorUnder 14 = .ok (.ireturn, 1) := by decide +kernel
set_option maxRecDepth 20000 in
theorem ggX1_ticksUntilOver_X1_sectorUnder : GoodIn wsX1_ticksUntilOver wsX1_sectorUnder := goodIn_r _ [5, 6, 7, 8, 9, 10, 11, 12, 13, 14, 15, 16, 17, 18, 19, 20, 21] (by decide +kernel) (by decide +kernel)
set_option maxRecDepth 20000 in
theorem gX1_ticksUntilOver_X1_sectorUnder : GoodIn wsX1_ticksUntilOver (wsV RX1 61 RX1 yX1_sectorUnder wsX1_sectorUnder) := goodIn_app (goodIn_of _ (by decide +kernel)) ggX1_ticksUntilOver_X1_sectorUnder
set_option maxRecDepth 20000 in
theorem ggX1_ticksUntilOver_J9_floorMod_7cf53 : GoodIn wsX1_ticksUntilOver wsJ9_floorMod_7cf53 := goodIn_r _ [10] (by decide +kernel) (by decide +kernel)
set_option maxRecDepth 20000 in
theorem gX1_ticksUntilOver_J9_floorMod_7cf53 : GoodIn wsX1_ticksUntilOver (va_wsS RX1 55 yJ9_floorMod_7cf53 wsJ9_floorMod_7cf53) := goodIn_app (goodIn_of _ (by decide +kernel)) ggX1_ticksUntilOver_J9_floorMod_7cf53
theorem dX1_ticksUntilOver_0 : decode cX1_ticksUntilOver 0 = .ok (.iload_n 2, 1) := by decide +kernel
theorem dX1_ticksUntilOver_1 : decode cX1_ticksUntilOver 1 = .ok (.aload_n 0, 1) := by decide +kernel
theorem dX1_ticksUntilOver_2 : decode cX1_ticksUntilOver 2 = .ok (.iload_n 1, 1) := by decide +kernel
theorem dX1_ticksUntilOver_3 : decode cX1_ticksUntilOver 3 = .ok (.invokevirtual 61, 3) := by decide +kernel
theorem dX1_ticksUntilOver_6 : decode cX1_ticksUntilOver 6 = .ok (.isub, 1) := by decide +kernel
theorem dX1_ticksUntilOver_7 : decode cX1_ticksUntilOver 7 = .ok (.bipush 12, 2) := by decide +kernel
theorem dX1_ticksUntilOver_9 : decode cX1_ticksUntilOver 9 = .ok (.invokestatic 55, 3) := by decide +kernel
theorem dX1_ticksUntilOver_12 : decode cX1_ticksUntilOver 12 = .ok (.ireturn, 1) := by decide +kernel
theorem dX1_hasOrder_0 : decode cX1_hasOrder 0 = .ok (.iload_n 1, 1) := by decide +kernel
theorem dX1_hasOrder_1 : decode cX1_hasOrder 1 = .ok (.ifCond .lt 15, 3) := by decide +kernel
theorem dX1_hasOrder_4 : decode cX1_hasOrder 4 = .ok (.iload_n 1, 1) := by decide +kernel
theorem dX1_hasOrder_5 : decode cX1_hasOrder 5 = .ok (.aload_n 0, 1) := by decide +kernel
theorem dX1_hasOrder_6 : decode cX1_hasOrder 6 = .ok (.getfield 43, 3) := by decide +kernel
theorem dX1_hasOrder_9 : decode cX1_hasOrder 9 = .ok (.if_icmp .ge 7, 3) := by decide +kernel
theorem dX1_hasOrder_12 : decode cX1_hasOrder 12 = .ok (.iconst 1, 1) := by decide +kernel
theorem dX1_hasOrder_13 : decode cX1_hasOrder 13 = .ok (.goto 4, 3) := by decide +kernel
theorem dX1_hasOrder_16 : decode cX1_hasOrder 16 = .ok (.iconst 0, 1) := by decide +kernel
theorem dX1_hasOrder_17 : decode cX1_hasOrder 17 = .ok (.ireturn, 1) := by decide +kernel
theorem dX1_ofOrder_0 : decode cX1_ofOrder 0 = .ok (.aload_n 0, 1) := by decide +kernel
theorem dX1_ofOrder_1 : decode cX1_ofOrder 1 = .ok (.getfield 15, 3) := by decide +kernel
theorem dX1_ofOrder_4 : decode cX1_ofOrder 4 = .ok (.iload_n 1, 1) := by decide +kernel
theorem dX1_ofOrder_5 : decode cX1_ofOrder 5 = .ok (.bipush 8, 2) := by decide +kernel
theorem dX1_ofOrder_7 : decode cX1_ofOrder 7 = .ok (.imul, 1) := by decide +kernel
theorem dX1_ofOrder_8 : decode cX1_ofOrder 8 = .ok (.iload_n 2, 1) := by decide +kernel
theorem dX1_ofOrder_9 : decode cX1_ofOrder 9 = .ok (.iadd, 1) := by decide +kernel
theorem dX1_ofOrder_10 : decode cX1_ofOrder 10 = .ok (.iaload, 1) := by decide +kernel
theorem dX1_ofOrder_11 : decode cX1_ofOrder 11 = .ok (.ireturn, 1) := by decide +kernel
set_option maxRecDepth 20000 in
theorem ggX1_statusOf_X1_ofOrder : GoodIn wsX1_statusOf wsX1_ofOrder := goodIn_r _ [5, 6, 7, 8, 9, 10, 11, 12, 13, 14, 15, 16, 17] (by decide +kernel) (by decide +kernel)
set_option maxRecDepth 20000 in
theorem gX1_statusOf_X1_ofOrder : GoodIn wsX1_statusOf (wsV RX1 65 RX1 yX1_ofOrder wsX1_ofOrder) := goodIn_app (goodIn_of _ (by decide +kernel)) ggX1_statusOf_X1_ofOrder
theorem dX1_statusOf_0 : decode cX1_statusOf 0 = .ok (.aload_n 0, 1) := by decide +kernel
theorem dX1_statusOf_1 : decode cX1_statusOf 1 = .ok (.iload_n 1, 1) := by decide +kernel
theorem dX1_statusOf_2 : decode cX1_statusOf 2 = .ok (.iconst 3, 1) := by decide +kernel
theorem dX1_statusOf_3 : decode cX1_statusOf 3 = .ok (.invokevirtual 65, 3) := by decide +kernel
theorem dX1_statusOf_6 : decode cX1_statusOf 6 = .ok (.ireturn, 1) := by decide +kernel
set_option maxRecDepth 20000 in
theorem ggX1_ofCopy_X1_blockAt : GoodIn wsX1_ofCopy wsX1_blockAt := goodIn_r _ [5] (by decide +kernel) (by decide +kernel)
set_option maxRecDepth 20000 in
theorem gX1_ofCopy_X1_blockAt : GoodIn wsX1_ofCopy (va_wsS RX1 68 yX1_blockAt wsX1_blockAt) := goodIn_app (goodIn_of _ (by decide +kernel)) ggX1_ofCopy_X1_blockAt
set_option maxRecDepth 20000 in
theorem ggX1_ofCopy_X1_cellOf : GoodIn wsX1_ofCopy wsX1_cellOf := goodIn_r _ [8] (by decide +kernel) (by decide +kernel)
set_option maxRecDepth 20000 in
theorem gX1_ofCopy_X1_cellOf : GoodIn wsX1_ofCopy (va_wsS RX1 71 yX1_cellOf wsX1_cellOf) := goodIn_app (goodIn_of _ (by decide +kernel)) ggX1_ofCopy_X1_cellOf
theorem dX1_ofCopy_0 : decode cX1_ofCopy 0 = .ok (.aload_n 0, 1) := by decide +kernel
theorem dX1_ofCopy_1 : decode cX1_ofCopy 1 = .ok (.getfield 11, 3) := by decide +kernel
theorem dX1_ofCopy_4 : decode cX1_ofCopy 4 = .ok (.iload_n 1, 1) := by decide +kernel
theorem dX1_ofCopy_5 : decode cX1_ofCopy 5 = .ok (.iload_n 2, 1) := by decide +kernel
theorem dX1_ofCopy_6 : decode cX1_ofCopy 6 = .ok (.iload_n 3, 1) := by decide +kernel
theorem dX1_ofCopy_7 : decode cX1_ofCopy 7 = .ok (.invokestatic 68, 3) := by decide +kernel
theorem dX1_ofCopy_10 : decode cX1_ofCopy 10 = .ok (.invokestatic 71, 3) := by decide +kernel
theorem dX1_ofCopy_13 : decode cX1_ofCopy 13 = .ok (.iload 4, 2) := by decide +kernel
theorem dX1_ofCopy_15 : decode cX1_ofCopy 15 = .ok (.iadd, 1) := by decide +kernel
theorem dX1_ofCopy_16 : decode cX1_ofCopy 16 = .ok (.iaload, 1) := by decide +kernel
theorem dX1_ofCopy_17 : decode cX1_ofCopy 17 = .ok (.ireturn, 1) := by decide +kernel
set_option maxRecDepth 20000 in
theorem ggX1_countOrders_X1_statusOf : GoodIn wsX1_countOrders wsX1_statusOf := goodIn_r _ [6, 7, 8, 9, 5, 10, 11, 12, 13, 14, 15, 16, 17, 18, 19, 20, 21, 22] (by decide +kernel) (by decide +kernel)
set_option maxRecDepth 20000 in
theorem gX1_countOrders_X1_statusOf : GoodIn wsX1_countOrders (wsV RX1 74 RX1 yX1_statusOf wsX1_statusOf) := goodIn_app (goodIn_of _ (by decide +kernel)) ggX1_countOrders_X1_statusOf
theorem dX1_countOrders_0 : decode cX1_countOrders 0 = .ok (.iconst 0, 1) := by decide +kernel
theorem dX1_countOrders_1 : decode cX1_countOrders 1 = .ok (.istore_n 2, 1) := by decide +kernel
theorem dX1_countOrders_2 : decode cX1_countOrders 2 = .ok (.iconst 0, 1) := by decide +kernel
theorem dX1_countOrders_3 : decode cX1_countOrders 3 = .ok (.istore_n 3, 1) := by decide +kernel
theorem dX1_countOrders_4 : decode cX1_countOrders 4 = .ok (.iload_n 3, 1) := by decide +kernel
theorem dX1_countOrders_5 : decode cX1_countOrders 5 = .ok (.aload_n 0, 1) := by decide +kernel
theorem dX1_countOrders_6 : decode cX1_countOrders 6 = .ok (.getfield 43, 3) := by decide +kernel
theorem dX1_countOrders_9 : decode cX1_countOrders 9 = .ok (.if_icmp .ge 21, 3) := by decide +kernel
theorem dX1_countOrders_12 : decode cX1_countOrders 12 = .ok (.aload_n 0, 1) := by decide +kernel
theorem dX1_countOrders_13 : decode cX1_countOrders 13 = .ok (.iload_n 3, 1) := by decide +kernel
theorem dX1_countOrders_14 : decode cX1_countOrders 14 = .ok (.invokevirtual 74, 3) := by decide +kernel
theorem dX1_countOrders_17 : decode cX1_countOrders 17 = .ok (.iload_n 1, 1) := by decide +kernel
theorem dX1_countOrders_18 : decode cX1_countOrders 18 = .ok (.if_icmp .ne 6, 3) := by decide +kernel
theorem dX1_countOrders_21 : decode cX1_countOrders 21 = .ok (.iinc 2 1, 3) := by decide +kernel
theorem dX1_countOrders_24 : decode cX1_countOrders 24 = .ok (.iinc 3 1, 3) := by decide +kernel
theorem dX1_countOrders_27 : decode cX1_countOrders 27 = .ok (.goto (-23), 3) := by decide +kernel
theorem dX1_countOrders_30 : decode cX1_countOrders 30 = .ok (.iload_n 2, 1) := by decide +kernel
theorem dX1_countOrders_31 : decode cX1_countOrders 31 = .ok (.ireturn, 1) := by decide +kernel
set_option maxRecDepth 20000 in
theorem ggX1_countCopies_X1_cellOf : GoodIn wsX1_countCopies wsX1_cellOf := goodIn_r _ [5] (by decide +kernel) (by decide +kernel)
set_option maxRecDepth 20000 in
theorem gX1_countCopies_X1_cellOf : GoodIn wsX1_countCopies (va_wsS RX1 71 yX1_cellOf wsX1_cellOf) := goodIn_app (goodIn_of _ (by decide +kernel)) ggX1_countCopies_X1_cellOf
theorem dX1_countCopies_0 : decode cX1_countCopies 0 = .ok (.iconst 0, 1) := by decide +kernel
theorem dX1_countCopies_1 : decode cX1_countCopies 1 = .ok (.istore_n 2, 1) := by decide +kernel
theorem dX1_countCopies_2 : decode cX1_countCopies 2 = .ok (.iconst 0, 1) := by decide +kernel
theorem dX1_countCopies_3 : decode cX1_countCopies 3 = .ok (.istore_n 3, 1) := by decide +kernel
theorem dX1_countCopies_4 : decode cX1_countCopies 4 = .ok (.iload_n 3, 1) := by decide +kernel
theorem dX1_countCopies_5 : decode cX1_countCopies 5 = .ok (.bipush 48, 2) := by decide +kernel
theorem dX1_countCopies_7 : decode cX1_countCopies 7 = .ok (.if_icmp .ge 37, 3) := by decide +kernel
theorem dX1_countCopies_10 : decode cX1_countCopies 10 = .ok (.iload_n 2, 1) := by decide +kernel
theorem dX1_countCopies_11 : decode cX1_countCopies 11 = .ok (.aload_n 0, 1) := by decide +kernel
theorem dX1_countCopies_12 : decode cX1_countCopies 12 = .ok (.getfield 11, 3) := by decide +kernel
theorem dX1_countCopies_15 : decode cX1_countCopies 15 = .ok (.iconst 0, 1) := by decide +kernel
theorem dX1_countCopies_16 : decode cX1_countCopies 16 = .ok (.iload_n 3, 1) := by decide +kernel
theorem dX1_countCopies_17 : decode cX1_countCopies 17 = .ok (.invokestatic 71, 3) := by decide +kernel
theorem dX1_countCopies_20 : decode cX1_countCopies 20 = .ok (.iload_n 1, 1) := by decide +kernel
theorem dX1_countCopies_21 : decode cX1_countCopies 21 = .ok (.iadd, 1) := by decide +kernel
theorem dX1_countCopies_22 : decode cX1_countCopies 22 = .ok (.iaload, 1) := by decide +kernel
theorem dX1_countCopies_23 : decode cX1_countCopies 23 = .ok (.aload_n 0, 1) := by decide +kernel
theorem dX1_countCopies_24 : decode cX1_countCopies 24 = .ok (.getfield 11, 3) := by decide +kernel
theorem dX1_countCopies_27 : decode cX1_countCopies 27 = .ok (.iconst 1, 1) := by decide +kernel
theorem dX1_countCopies_28 : decode cX1_countCopies 28 = .ok (.iload_n 3, 1) := by decide +kernel
theorem dX1_countCopies_29 : decode cX1_countCopies 29 = .ok (.invokestatic 71, 3) := by decide +kernel
theorem dX1_countCopies_32 : decode cX1_countCopies 32 = .ok (.iload_n 1, 1) := by decide +kernel
theorem dX1_countCopies_33 : decode cX1_countCopies 33 = .ok (.iadd, 1) := by decide +kernel
theorem dX1_countCopies_34 : decode cX1_countCopies 34 = .ok (.iaload, 1) := by decide +kernel
theorem dX1_countCopies_35 : decode cX1_countCopies 35 = .ok (.iadd, 1) := by decide +kernel
theorem dX1_countCopies_36 : decode cX1_countCopies 36 = .ok (.iadd, 1) := by decide +kernel
theorem dX1_countCopies_37 : decode cX1_countCopies 37 = .ok (.istore_n 2, 1) := by decide +kernel
theorem dX1_countCopies_38 : decode cX1_countCopies 38 = .ok (.iinc 3 1, 3) := by decide +kernel
theorem dX1_countCopies_41 : decode cX1_countCopies 41 = .ok (.goto (-37), 3) := by decide +kernel
theorem dX1_countCopies_44 : decode cX1_countCopies 44 = .ok (.iload_n 2, 1) := by decide +kernel
theorem dX1_countCopies_45 : decode cX1_countCopies 45 = .ok (.ireturn, 1) := by decide +kernel
set_option maxRecDepth 20000 in
theorem ggX1_countUnlikeBlocks_X1_cellOf : GoodIn wsX1_countUnlikeBlocks wsX1_cellOf := goodIn_r _ [5] (by decide +kernel) (by decide +kernel)
set_option maxRecDepth 20000 in
theorem gX1_countUnlikeBlocks_X1_cellOf : GoodIn wsX1_countUnlikeBlocks (va_wsS RX1 71 yX1_cellOf wsX1_cellOf) := goodIn_app (goodIn_of _ (by decide +kernel)) ggX1_countUnlikeBlocks_X1_cellOf
theorem dX1_countUnlikeBlocks_0 : decode cX1_countUnlikeBlocks 0 = .ok (.iconst 0, 1) := by decide +kernel
theorem dX1_countUnlikeBlocks_1 : decode cX1_countUnlikeBlocks 1 = .ok (.istore_n 1, 1) := by decide +kernel
theorem dX1_countUnlikeBlocks_2 : decode cX1_countUnlikeBlocks 2 = .ok (.iconst 0, 1) := by decide +kernel
theorem dX1_countUnlikeBlocks_3 : decode cX1_countUnlikeBlocks 3 = .ok (.istore_n 2, 1) := by decide +kernel
theorem dX1_countUnlikeBlocks_4 : decode cX1_countUnlikeBlocks 4 = .ok (.iload_n 2, 1) := by decide +kernel
theorem dX1_countUnlikeBlocks_5 : decode cX1_countUnlikeBlocks 5 = .ok (.bipush 48, 2) := by decide +kernel
theorem dX1_countUnlikeBlocks_7 : decode cX1_countUnlikeBlocks 7 = .ok (.if_icmp .ge 65, 3) := by decide +kernel
theorem dX1_countUnlikeBlocks_10 : decode cX1_countUnlikeBlocks 10 = .ok (.iconst 0, 1) := by decide +kernel
theorem dX1_countUnlikeBlocks_11 : decode cX1_countUnlikeBlocks 11 = .ok (.iload_n 2, 1) := by decide +kernel
theorem dX1_countUnlikeBlocks_12 : decode cX1_countUnlikeBlocks 12 = .ok (.invokestatic 71, 3) := by decide +kernel
theorem dX1_countUnlikeBlocks_15 : decode cX1_countUnlikeBlocks 15 = .ok (.istore_n 3, 1) := by decide +kernel
theorem dX1_countUnlikeBlocks_16 : decode cX1_countUnlikeBlocks 16 = .ok (.iconst 1, 1) := by decide +kernel
theorem dX1_countUnlikeBlocks_17 : decode cX1_countUnlikeBlocks 17 = .ok (.iload_n 2, 1) := by decide +kernel
theorem dX1_countUnlikeBlocks_18 : decode cX1_countUnlikeBlocks 18 = .ok (.invokestatic 71, 3) := by decide +kernel
theorem dX1_countUnlikeBlocks_21 : decode cX1_countUnlikeBlocks 21 = .ok (.istore 4, 2) := by decide +kernel
theorem dX1_countUnlikeBlocks_23 : decode cX1_countUnlikeBlocks 23 = .ok (.aload_n 0, 1) := by decide +kernel
theorem dX1_countUnlikeBlocks_24 : decode cX1_countUnlikeBlocks 24 = .ok (.getfield 11, 3) := by decide +kernel
theorem dX1_countUnlikeBlocks_27 : decode cX1_countUnlikeBlocks 27 = .ok (.iload_n 3, 1) := by decide +kernel
theorem dX1_countUnlikeBlocks_28 : decode cX1_countUnlikeBlocks 28 = .ok (.iconst 0, 1) := by decide +kernel
theorem dX1_countUnlikeBlocks_29 : decode cX1_countUnlikeBlocks 29 = .ok (.iadd, 1) := by decide +kernel
theorem dX1_countUnlikeBlocks_30 : decode cX1_countUnlikeBlocks 30 = .ok (.iaload, 1) := by decide +kernel
theorem dX1_countUnlikeBlocks_31 : decode cX1_countUnlikeBlocks 31 = .ok (.aload_n 0, 1) := by decide +kernel
theorem dX1_countUnlikeBlocks_32 : decode cX1_countUnlikeBlocks 32 = .ok (.getfield 11, 3) := by decide +kernel
theorem dX1_countUnlikeBlocks_35 : decode cX1_countUnlikeBlocks 35 = .ok (.iload 4, 2) := by decide +kernel
theorem dX1_countUnlikeBlocks_37 : decode cX1_countUnlikeBlocks 37 = .ok (.iconst 0, 1) := by decide +kernel
theorem dX1_countUnlikeBlocks_38 : decode cX1_countUnlikeBlocks 38 = .ok (.iadd, 1) := by decide +kernel
theorem dX1_countUnlikeBlocks_39 : decode cX1_countUnlikeBlocks 39 = .ok (.iaload, 1) := by decide +kernel
theorem dX1_countUnlikeBlocks_40 : decode cX1_countUnlikeBlocks 40 = .ok (.if_icmp .ne 23, 3) := by decide +kernel
theorem dX1_countUnlikeBlocks_43 : decode cX1_countUnlikeBlocks 43 = .ok (.aload_n 0, 1) := by decide +kernel
theorem dX1_countUnlikeBlocks_44 : decode cX1_countUnlikeBlocks 44 = .ok (.getfield 11, 3) := by decide +kernel
theorem dX1_countUnlikeBlocks_47 : decode cX1_countUnlikeBlocks 47 = .ok (.iload_n 3, 1) := by decide +kernel
theorem dX1_countUnlikeBlocks_48 : decode cX1_countUnlikeBlocks 48 = .ok (.iconst 1, 1) := by decide +kernel
theorem dX1_countUnlikeBlocks_49 : decode cX1_countUnlikeBlocks 49 = .ok (.iadd, 1) := by decide +kernel
theorem dX1_countUnlikeBlocks_50 : decode cX1_countUnlikeBlocks 50 = .ok (.iaload, 1) := by decide +kernel
theorem dX1_countUnlikeBlocks_51 : decode cX1_countUnlikeBlocks 51 = .ok (.aload_n 0, 1) := by decide +kernel
theorem dX1_countUnlikeBlocks_52 : decode cX1_countUnlikeBlocks 52 = .ok (.getfield 11, 3) := by decide +kernel
theorem dX1_countUnlikeBlocks_55 : decode cX1_countUnlikeBlocks 55 = .ok (.iload 4, 2) := by decide +kernel
theorem dX1_countUnlikeBlocks_57 : decode cX1_countUnlikeBlocks 57 = .ok (.iconst 1, 1) := by decide +kernel
theorem dX1_countUnlikeBlocks_58 : decode cX1_countUnlikeBlocks 58 = .ok (.iadd, 1) := by decide +kernel
theorem dX1_countUnlikeBlocks_59 : decode cX1_countUnlikeBlocks 59 = .ok (.iaload, 1) := by decide +kernel
theorem dX1_countUnlikeBlocks_60 : decode cX1_countUnlikeBlocks 60 = .ok (.if_icmp .eq 6, 3) := by decide +kernel
theorem dX1_countUnlikeBlocks_63 : decode cX1_countUnlikeBlocks 63 = .ok (.iinc 1 1, 3) := by decide +kernel
theorem dX1_countUnlikeBlocks_66 : decode cX1_countUnlikeBlocks 66 = .ok (.iinc 2 1, 3) := by decide +kernel
theorem dX1_countUnlikeBlocks_69 : decode cX1_countUnlikeBlocks 69 = .ok (.goto (-65), 3) := by decide +kernel
theorem dX1_countUnlikeBlocks_72 : decode cX1_countUnlikeBlocks 72 = .ok (.iload_n 1, 1) := by decide +kernel
theorem dX1_countUnlikeBlocks_73 : decode cX1_countUnlikeBlocks 73 = .ok (.ireturn, 1) := by decide +kernel
set_option maxRecDepth 20000 in
theorem ggX1_waitOf_X1_ofOrder : GoodIn wsX1_waitOf wsX1_ofOrder := goodIn_r _ [5, 6, 7, 8, 9, 10, 11, 12, 13, 14, 15, 16, 17] (by decide +kernel) (by decide +kernel)
set_option maxRecDepth 20000 in
theorem gX1_waitOf_X1_ofOrder : GoodIn wsX1_waitOf (wsV RX1 65 RX1 yX1_ofOrder wsX1_ofOrder) := goodIn_app (goodIn_of _ (by decide +kernel)) ggX1_waitOf_X1_ofOrder
theorem dX1_waitOf_0 : decode cX1_waitOf 0 = .ok (.aload_n 0, 1) := by decide +kernel
theorem dX1_waitOf_1 : decode cX1_waitOf 1 = .ok (.iload_n 1, 1) := by decide +kernel
theorem dX1_waitOf_2 : decode cX1_waitOf 2 = .ok (.iconst 5, 1) := by decide +kernel
theorem dX1_waitOf_3 : decode cX1_waitOf 3 = .ok (.invokevirtual 65, 3) := by decide +kernel
theorem dX1_waitOf_6 : decode cX1_waitOf 6 = .ok (.aload_n 0, 1) := by decide +kernel
theorem dX1_waitOf_7 : decode cX1_waitOf 7 = .ok (.iload_n 1, 1) := by decide +kernel
theorem dX1_waitOf_8 : decode cX1_waitOf 8 = .ok (.iconst 4, 1) := by decide +kernel
theorem dX1_waitOf_9 : decode cX1_waitOf 9 = .ok (.invokevirtual 65, 3) := by decide +kernel
theorem dX1_waitOf_12 : decode cX1_waitOf 12 = .ok (.isub, 1) := by decide +kernel
theorem dX1_waitOf_13 : decode cX1_waitOf 13 = .ok (.ireturn, 1) := by decide +kernel
set_option maxRecDepth 20000 in
theorem ggX1_sumOfWaits_X1_statusOf : GoodIn wsX1_sumOfWaits wsX1_statusOf := goodIn_r _ [6, 7, 8, 9, 5, 10, 11, 16, 17, 18, 19, 20, 21, 22, 23, 24, 25, 26] (by decide +kernel) (by decide +kernel)
set_option maxRecDepth 20000 in
theorem gX1_sumOfWaits_X1_statusOf : GoodIn wsX1_sumOfWaits (wsV RX1 74 RX1 yX1_statusOf wsX1_statusOf) := goodIn_app (goodIn_of _ (by decide +kernel)) ggX1_sumOfWaits_X1_statusOf
set_option maxRecDepth 20000 in
theorem ggX1_sumOfWaits_X1_waitOf : GoodIn wsX1_sumOfWaits wsX1_waitOf := goodIn_r _ [15, 7, 8, 9, 5, 10, 11, 16, 17, 18, 19, 20, 21, 22, 23, 24, 25, 26] (by decide +kernel) (by decide +kernel)
set_option maxRecDepth 20000 in
theorem gX1_sumOfWaits_X1_waitOf : GoodIn wsX1_sumOfWaits (wsV RX1 77 RX1 yX1_waitOf wsX1_waitOf) := goodIn_app (goodIn_of _ (by decide +kernel)) ggX1_sumOfWaits_X1_waitOf
theorem dX1_sumOfWaits_0 : decode cX1_sumOfWaits 0 = .ok (.iconst 0, 1) := by decide +kernel
theorem dX1_sumOfWaits_1 : decode cX1_sumOfWaits 1 = .ok (.istore_n 1, 1) := by decide +kernel
theorem dX1_sumOfWaits_2 : decode cX1_sumOfWaits 2 = .ok (.iconst 0, 1) := by decide +kernel
theorem dX1_sumOfWaits_3 : decode cX1_sumOfWaits 3 = .ok (.istore_n 2, 1) := by decide +kernel
theorem dX1_sumOfWaits_4 : decode cX1_sumOfWaits 4 = .ok (.iload_n 2, 1) := by decide +kernel
theorem dX1_sumOfWaits_5 : decode cX1_sumOfWaits 5 = .ok (.aload_n 0, 1) := by decide +kernel
theorem dX1_sumOfWaits_6 : decode cX1_sumOfWaits 6 = .ok (.getfield 43, 3) := by decide +kernel
theorem dX1_sumOfWaits_9 : decode cX1_sumOfWaits 9 = .ok (.if_icmp .ge 26, 3) := by decide +kernel
theorem dX1_sumOfWaits_12 : decode cX1_sumOfWaits 12 = .ok (.aload_n 0, 1) := by decide +kernel
theorem dX1_sumOfWaits_13 : decode cX1_sumOfWaits 13 = .ok (.iload_n 2, 1) := by decide +kernel
theorem dX1_sumOfWaits_14 : decode cX1_sumOfWaits 14 = .ok (.invokevirtual 74, 3) := by decide +kernel
theorem dX1_sumOfWaits_17 : decode cX1_sumOfWaits 17 = .ok (.iconst 1, 1) := by decide +kernel
theorem dX1_sumOfWaits_18 : decode cX1_sumOfWaits 18 = .ok (.if_icmp .ne 11, 3) := by decide +kernel
theorem dX1_sumOfWaits_21 : decode cX1_sumOfWaits 21 = .ok (.iload_n 1, 1) := by decide +kernel
theorem dX1_sumOfWaits_22 : decode cX1_sumOfWaits 22 = .ok (.aload_n 0, 1) := by decide +kernel
theorem dX1_sumOfWaits_23 : decode cX1_sumOfWaits 23 = .ok (.iload_n 2, 1) := by decide +kernel
theorem dX1_sumOfWaits_24 : decode cX1_sumOfWaits 24 = .ok (.invokevirtual 77, 3) := by decide +kernel
theorem dX1_sumOfWaits_27 : decode cX1_sumOfWaits 27 = .ok (.iadd, 1) := by decide +kernel
theorem dX1_sumOfWaits_28 : decode cX1_sumOfWaits 28 = .ok (.istore_n 1, 1) := by decide +kernel
theorem dX1_sumOfWaits_29 : decode cX1_sumOfWaits 29 = .ok (.iinc 2 1, 3) := by decide +kernel
theorem dX1_sumOfWaits_32 : decode cX1_sumOfWaits 32 = .ok (.goto (-28), 3) := by decide +kernel
theorem dX1_sumOfWaits_35 : decode cX1_sumOfWaits 35 = .ok (.iload_n 1, 1) := by decide +kernel
theorem dX1_sumOfWaits_36 : decode cX1_sumOfWaits 36 = .ok (.ireturn, 1) := by decide +kernel
set_option maxRecDepth 20000 in
theorem ggX1_longestWaiter_X1_statusOf : GoodIn wsX1_longestWaiter wsX1_statusOf := goodIn_r _ [6, 7, 8, 9, 5, 10, 11, 16, 17, 18, 19, 20, 21, 22, 23, 24, 25, 26] (by decide +kernel) (by decide +kernel)
set_option maxRecDepth 20000 in
theorem gX1_longestWaiter_X1_statusOf : GoodIn wsX1_longestWaiter (wsV RX1 74 RX1 yX1_statusOf wsX1_statusOf) := goodIn_app (goodIn_of _ (by decide +kernel)) ggX1_longestWaiter_X1_statusOf
set_option maxRecDepth 20000 in
theorem ggX1_longestWaiter_X1_waitOf : GoodIn wsX1_longestWaiter wsX1_waitOf := goodIn_r _ [15, 7, 8, 9, 5, 10, 11, 16, 17, 18, 19, 20, 21, 22, 23, 24, 25, 26] (by decide +kernel) (by decide +kernel)
set_option maxRecDepth 20000 in
theorem gX1_longestWaiter_X1_waitOf : GoodIn wsX1_longestWaiter (wsV RX1 77 RX1 yX1_waitOf wsX1_waitOf) := goodIn_app (goodIn_of _ (by decide +kernel)) ggX1_longestWaiter_X1_waitOf
theorem dX1_longestWaiter_0 : decode cX1_longestWaiter 0 = .ok (.bipush (-9), 2) := by decide +kernel
theorem dX1_longestWaiter_2 : decode cX1_longestWaiter 2 = .ok (.istore_n 1, 1) := by decide +kernel
theorem dX1_longestWaiter_3 : decode cX1_longestWaiter 3 = .ok (.iconst 0, 1) := by decide +kernel
theorem dX1_longestWaiter_4 : decode cX1_longestWaiter 4 = .ok (.istore_n 2, 1) := by decide +kernel
theorem dX1_longestWaiter_5 : decode cX1_longestWaiter 5 = .ok (.iload_n 2, 1) := by decide +kernel
theorem dX1_longestWaiter_6 : decode cX1_longestWaiter 6 = .ok (.aload_n 0, 1) := by decide +kernel
theorem dX1_longestWaiter_7 : decode cX1_longestWaiter 7 = .ok (.getfield 43, 3) := by decide +kernel
theorem dX1_longestWaiter_10 : decode cX1_longestWaiter 10 = .ok (.if_icmp .ge 39, 3) := by decide +kernel
theorem dX1_longestWaiter_13 : decode cX1_longestWaiter 13 = .ok (.aload_n 0, 1) := by decide +kernel
theorem dX1_longestWaiter_14 : decode cX1_longestWaiter 14 = .ok (.iload_n 2, 1) := by decide +kernel
theorem dX1_longestWaiter_15 : decode cX1_longestWaiter 15 = .ok (.invokevirtual 74, 3) := by decide +kernel
theorem dX1_longestWaiter_18 : decode cX1_longestWaiter 18 = .ok (.iconst 1, 1) := by decide +kernel
theorem dX1_longestWaiter_19 : decode cX1_longestWaiter 19 = .ok (.if_icmp .ne 24, 3) := by decide +kernel
theorem dX1_longestWaiter_22 : decode cX1_longestWaiter 22 = .ok (.iload_n 1, 1) := by decide +kernel
theorem dX1_longestWaiter_23 : decode cX1_longestWaiter 23 = .ok (.bipush (-9), 2) := by decide +kernel
theorem dX1_longestWaiter_25 : decode cX1_longestWaiter 25 = .ok (.if_icmp .eq 16, 3) := by decide +kernel
theorem dX1_longestWaiter_28 : decode cX1_longestWaiter 28 = .ok (.aload_n 0, 1) := by decide +kernel
theorem dX1_longestWaiter_29 : decode cX1_longestWaiter 29 = .ok (.iload_n 2, 1) := by decide +kernel
theorem dX1_longestWaiter_30 : decode cX1_longestWaiter 30 = .ok (.invokevirtual 77, 3) := by decide +kernel
theorem dX1_longestWaiter_33 : decode cX1_longestWaiter 33 = .ok (.aload_n 0, 1) := by decide +kernel
theorem dX1_longestWaiter_34 : decode cX1_longestWaiter 34 = .ok (.iload_n 1, 1) := by decide +kernel
theorem dX1_longestWaiter_35 : decode cX1_longestWaiter 35 = .ok (.invokevirtual 77, 3) := by decide +kernel
theorem dX1_longestWaiter_38 : decode cX1_longestWaiter 38 = .ok (.if_icmp .le 5, 3) := by decide +kernel
theorem dX1_longestWaiter_41 : decode cX1_longestWaiter 41 = .ok (.iload_n 2, 1) := by decide +kernel
theorem dX1_longestWaiter_42 : decode cX1_longestWaiter 42 = .ok (.istore_n 1, 1) := by decide +kernel
theorem dX1_longestWaiter_43 : decode cX1_longestWaiter 43 = .ok (.iinc 2 1, 3) := by decide +kernel
theorem dX1_longestWaiter_46 : decode cX1_longestWaiter 46 = .ok (.goto (-41), 3) := by decide +kernel
theorem dX1_longestWaiter_49 : decode cX1_longestWaiter 49 = .ok (.iload_n 1, 1) := by decide +kernel
theorem dX1_longestWaiter_50 : decode cX1_longestWaiter 50 = .ok (.ireturn, 1) := by decide +kernel
theorem dX1_hasWork_0 : decode cX1_hasWork 0 = .ok (.iconst 0, 1) := by decide +kernel
theorem dX1_hasWork_1 : decode cX1_hasWork 1 = .ok (.istore_n 1, 1) := by decide +kernel
theorem dX1_hasWork_2 : decode cX1_hasWork 2 = .ok (.iload_n 1, 1) := by decide +kernel
theorem dX1_hasWork_3 : decode cX1_hasWork 3 = .ok (.iconst 4, 1) := by decide +kernel
theorem dX1_hasWork_4 : decode cX1_hasWork 4 = .ok (.if_icmp .ge 20, 3) := by decide +kernel
theorem dX1_hasWork_7 : decode cX1_hasWork 7 = .ok (.aload_n 0, 1) := by decide +kernel
theorem dX1_hasWork_8 : decode cX1_hasWork 8 = .ok (.getfield 24, 3) := by decide +kernel
theorem dX1_hasWork_11 : decode cX1_hasWork 11 = .ok (.iload_n 1, 1) := by decide +kernel
theorem dX1_hasWork_12 : decode cX1_hasWork 12 = .ok (.iaload, 1) := by decide +kernel
theorem dX1_hasWork_13 : decode cX1_hasWork 13 = .ok (.ifCond .le 5, 3) := by decide +kernel
theorem dX1_hasWork_16 : decode cX1_hasWork 16 = .ok (.iconst 1, 1) := by decide +kernel
theorem dX1_hasWork_17 : decode cX1_hasWork 17 = .ok (.ireturn, 1) := by decide +kernel
theorem dX1_hasWork_18 : decode cX1_hasWork 18 = .ok (.iinc 1 1, 3) := by decide +kernel
theorem dX1_hasWork_21 : decode cX1_hasWork 21 = .ok (.goto (-19), 3) := by decide +kernel
theorem dX1_hasWork_24 : decode cX1_hasWork 24 = .ok (.iconst 0, 1) := by decide +kernel
theorem dX1_hasWork_25 : decode cX1_hasWork 25 = .ok (.ireturn, 1) := by decide +kernel
set_option maxRecDepth 20000 in
theorem ggX1_takeRead_X1_isBlock : GoodIn wsX1_takeRead wsX1_isBlock := goodIn_r _ [4] (by decide +kernel) (by decide +kernel)
set_option maxRecDepth 20000 in
theorem gX1_takeRead_X1_isBlock : GoodIn wsX1_takeRead (va_wsS RX1 80 yX1_isBlock wsX1_isBlock) := goodIn_app (goodIn_of _ (by decide +kernel)) ggX1_takeRead_X1_isBlock
set_option maxRecDepth 20000 in
theorem ggX1_takeRead_X1_takeOrder : GoodIn wsX1_takeRead wsX1_takeOrder := goodIn_r _ [8, 9, 10, 11, 12, 13, 14, 15, 16, 3, 17, 18, 19, 20, 21, 22, 23, 24, 25, 26, 27, 28] (by decide +kernel) (by decide +kernel)
set_option maxRecDepth 20000 in
theorem gX1_takeRead_X1_takeOrder : GoodIn wsX1_takeRead (wsV RX1 84 RX1 yX1_takeOrder wsX1_takeOrder) := goodIn_app (goodIn_of _ (by decide +kernel)) ggX1_takeRead_X1_takeOrder
theorem dX1_takeRead_0 : decode cX1_takeRead 0 = .ok (.iload_n 1, 1) := by decide +kernel
theorem dX1_takeRead_1 : decode cX1_takeRead 1 = .ok (.iload_n 2, 1) := by decide +kernel
theorem dX1_takeRead_2 : decode cX1_takeRead 2 = .ok (.invokestatic 80, 3) := by decide +kernel
theorem dX1_takeRead_5 : decode cX1_takeRead 5 = .ok (.ifCond .ne 5, 3) := by decide +kernel
theorem dX1_takeRead_8 : decode cX1_takeRead 8 = .ok (.iconst (-1), 1) := by decide +kernel
theorem dX1_takeRead_9 : decode cX1_takeRead 9 = .ok (.ireturn, 1) := by decide +kernel
theorem dX1_takeRead_10 : decode cX1_takeRead 10 = .ok (.aload_n 0, 1) := by decide +kernel
theorem dX1_takeRead_11 : decode cX1_takeRead 11 = .ok (.iconst 0, 1) := by decide +kernel
theorem dX1_takeRead_12 : decode cX1_takeRead 12 = .ok (.iload_n 1, 1) := by decide +kernel
theorem dX1_takeRead_13 : decode cX1_takeRead 13 = .ok (.iload_n 2, 1) := by decide +kernel
theorem dX1_takeRead_14 : decode cX1_takeRead 14 = .ok (.bipush (-9), 2) := by decide +kernel
theorem dX1_takeRead_16 : decode cX1_takeRead 16 = .ok (.invokevirtual 84, 3) := by decide +kernel
theorem dX1_takeRead_19 : decode cX1_takeRead 19 = .ok (.ireturn, 1) := by decide +kernel
set_option maxRecDepth 20000 in
theorem ggX1_takeWrite_X1_isBlock : GoodIn wsX1_takeWrite wsX1_isBlock := goodIn_r _ [4] (by decide +kernel) (by decide +kernel)
set_option maxRecDepth 20000 in
theorem gX1_takeWrite_X1_isBlock : GoodIn wsX1_takeWrite (va_wsS RX1 80 yX1_isBlock wsX1_isBlock) := goodIn_app (goodIn_of _ (by decide +kernel)) ggX1_takeWrite_X1_isBlock
set_option maxRecDepth 20000 in
theorem ggX1_takeWrite_X1_takeOrder : GoodIn wsX1_takeWrite wsX1_takeOrder := goodIn_r _ [8, 9, 10, 11, 12, 13, 14, 15, 16, 3, 17, 18, 19, 20, 21, 22, 23, 24, 25, 26, 27, 28] (by decide +kernel) (by decide +kernel)
set_option maxRecDepth 20000 in
theorem gX1_takeWrite_X1_takeOrder : GoodIn wsX1_takeWrite (wsV RX1 84 RX1 yX1_takeOrder wsX1_takeOrder) := goodIn_app (goodIn_of _ (by decide +kernel)) ggX1_takeWrite_X1_takeOrder
theorem dX1_takeWrite_0 : decode cX1_takeWrite 0 = .ok (.iload_n 1, 1) := by decide +kernel
theorem dX1_takeWrite_1 : decode cX1_takeWrite 1 = .ok (.iload_n 2, 1) := by decide +kernel
theorem dX1_takeWrite_2 : decode cX1_takeWrite 2 = .ok (.invokestatic 80, 3) := by decide +kernel
theorem dX1_takeWrite_5 : decode cX1_takeWrite 5 = .ok (.ifCond .eq 14, 3) := by decide +kernel
theorem dX1_takeWrite_8 : decode cX1_takeWrite 8 = .ok (.iload_n 3, 1) := by decide +kernel
theorem dX1_takeWrite_9 : decode cX1_takeWrite 9 = .ok (.ifCond .lt 10, 3) := by decide +kernel
theorem dX1_takeWrite_12 : decode cX1_takeWrite 12 = .ok (.iload_n 3, 1) := by decide +kernel
theorem dX1_takeWrite_13 : decode cX1_takeWrite 13 = .ok (.sipush 999, 3) := by decide +kernel
theorem dX1_takeWrite_16 : decode cX1_takeWrite 16 = .ok (.if_icmp .le 5, 3) := by decide +kernel
theorem dX1_takeWrite_19 : decode cX1_takeWrite 19 = .ok (.iconst (-1), 1) := by decide +kernel
theorem dX1_takeWrite_20 : decode cX1_takeWrite 20 = .ok (.ireturn, 1) := by decide +kernel
theorem dX1_takeWrite_21 : decode cX1_takeWrite 21 = .ok (.aload_n 0, 1) := by decide +kernel
theorem dX1_takeWrite_22 : decode cX1_takeWrite 22 = .ok (.iconst 1, 1) := by decide +kernel
theorem dX1_takeWrite_23 : decode cX1_takeWrite 23 = .ok (.iload_n 1, 1) := by decide +kernel
theorem dX1_takeWrite_24 : decode cX1_takeWrite 24 = .ok (.iload_n 2, 1) := by decide +kernel
theorem dX1_takeWrite_25 : decode cX1_takeWrite 25 = .ok (.iload_n 3, 1) := by decide +kernel
theorem dX1_takeWrite_26 : decode cX1_takeWrite 26 = .ok (.invokevirtual 84, 3) := by decide +kernel
theorem dX1_takeWrite_29 : decode cX1_takeWrite 29 = .ok (.ireturn, 1) := by decide +kernel
set_option maxRecDepth 20000 in
theorem ggX1_takeOrder_X1_blockAt : GoodIn wsX1_takeOrder wsX1_blockAt := goodIn_r _ [10] (by decide +kernel) (by decide +kernel)
set_option maxRecDepth 20000 in
theorem gX1_takeOrder_X1_blockAt : GoodIn wsX1_takeOrder (va_wsS RX1 68 yX1_blockAt wsX1_blockAt) := goodIn_app (goodIn_of _ (by decide +kernel)) ggX1_takeOrder_X1_blockAt
theorem dX1_takeOrder_0 : decode cX1_takeOrder 0 = .ok (.aload_n 0, 1) := by decide +kernel
theorem dX1_takeOrder_1 : decode cX1_takeOrder 1 = .ok (.getfield 43, 3) := by decide +kernel
theorem dX1_takeOrder_4 : decode cX1_takeOrder 4 = .ok (.bipush 60, 2) := by decide +kernel
theorem dX1_takeOrder_6 : decode cX1_takeOrder 6 = .ok (.if_icmp .ge 12, 3) := by decide +kernel
theorem dX1_takeOrder_9 : decode cX1_takeOrder 9 = .ok (.aload_n 0, 1) := by decide +kernel
theorem dX1_takeOrder_10 : decode cX1_takeOrder 10 = .ok (.getfield 46, 3) := by decide +kernel
theorem dX1_takeOrder_13 : decode cX1_takeOrder 13 = .ok (.bipush 20, 2) := by decide +kernel
theorem dX1_takeOrder_15 : decode cX1_takeOrder 15 = .ok (.if_icmp .lt 6, 3) := by decide +kernel
theorem dX1_takeOrder_18 : decode cX1_takeOrder 18 = .ok (.bipush (-3), 2) := by decide +kernel
theorem dX1_takeOrder_20 : decode cX1_takeOrder 20 = .ok (.ireturn, 1) := by decide +kernel
theorem dX1_takeOrder_21 : decode cX1_takeOrder 21 = .ok (.aload_n 0, 1) := by decide +kernel
theorem dX1_takeOrder_22 : decode cX1_takeOrder 22 = .ok (.getfield 43, 3) := by decide +kernel
theorem dX1_takeOrder_25 : decode cX1_takeOrder 25 = .ok (.bipush 8, 2) := by decide +kernel
theorem dX1_takeOrder_27 : decode cX1_takeOrder 27 = .ok (.imul, 1) := by decide +kernel
theorem dX1_takeOrder_28 : decode cX1_takeOrder 28 = .ok (.istore 5, 2) := by decide +kernel
theorem dX1_takeOrder_30 : decode cX1_takeOrder 30 = .ok (.aload_n 0, 1) := by decide +kernel
theorem dX1_takeOrder_31 : decode cX1_takeOrder 31 = .ok (.getfield 15, 3) := by decide +kernel
theorem dX1_takeOrder_34 : decode cX1_takeOrder 34 = .ok (.iload 5, 2) := by decide +kernel
theorem dX1_takeOrder_36 : decode cX1_takeOrder 36 = .ok (.iconst 0, 1) := by decide +kernel
theorem dX1_takeOrder_37 : decode cX1_takeOrder 37 = .ok (.iadd, 1) := by decide +kernel
theorem dX1_takeOrder_38 : decode cX1_takeOrder 38 = .ok (.iload_n 1, 1) := by decide +kernel
theorem dX1_takeOrder_39 : decode cX1_takeOrder 39 = .ok (.iastore, 1) := by decide +kernel
theorem dX1_takeOrder_40 : decode cX1_takeOrder 40 = .ok (.aload_n 0, 1) := by decide +kernel
theorem dX1_takeOrder_41 : decode cX1_takeOrder 41 = .ok (.getfield 15, 3) := by decide +kernel
theorem dX1_takeOrder_44 : decode cX1_takeOrder 44 = .ok (.iload 5, 2) := by decide +kernel
theorem dX1_takeOrder_46 : decode cX1_takeOrder 46 = .ok (.iconst 1, 1) := by decide +kernel
theorem dX1_takeOrder_47 : decode cX1_takeOrder 47 = .ok (.iadd, 1) := by decide +kernel
theorem dX1_takeOrder_48 : decode cX1_takeOrder 48 = .ok (.iload_n 2, 1) := by decide +kernel
theorem dX1_takeOrder_49 : decode cX1_takeOrder 49 = .ok (.iastore, 1) := by decide +kernel
theorem dX1_takeOrder_50 : decode cX1_takeOrder 50 = .ok (.aload_n 0, 1) := by decide +kernel
theorem dX1_takeOrder_51 : decode cX1_takeOrder 51 = .ok (.getfield 15, 3) := by decide +kernel
theorem dX1_takeOrder_54 : decode cX1_takeOrder 54 = .ok (.iload 5, 2) := by decide +kernel
theorem dX1_takeOrder_56 : decode cX1_takeOrder 56 = .ok (.iconst 2, 1) := by decide +kernel
theorem dX1_takeOrder_57 : decode cX1_takeOrder 57 = .ok (.iadd, 1) := by decide +kernel
theorem dX1_takeOrder_58 : decode cX1_takeOrder 58 = .ok (.iload_n 3, 1) := by decide +kernel
theorem dX1_takeOrder_59 : decode cX1_takeOrder 59 = .ok (.iastore, 1) := by decide +kernel
theorem dX1_takeOrder_60 : decode cX1_takeOrder 60 = .ok (.aload_n 0, 1) := by decide +kernel
theorem dX1_takeOrder_61 : decode cX1_takeOrder 61 = .ok (.getfield 15, 3) := by decide +kernel
theorem dX1_takeOrder_64 : decode cX1_takeOrder 64 = .ok (.iload 5, 2) := by decide +kernel
theorem dX1_takeOrder_66 : decode cX1_takeOrder 66 = .ok (.iconst 3, 1) := by decide +kernel
theorem dX1_takeOrder_67 : decode cX1_takeOrder 67 = .ok (.iadd, 1) := by decide +kernel
theorem dX1_takeOrder_68 : decode cX1_takeOrder 68 = .ok (.iconst 0, 1) := by decide +kernel
theorem dX1_takeOrder_69 : decode cX1_takeOrder 69 = .ok (.iastore, 1) := by decide +kernel
theorem dX1_takeOrder_70 : decode cX1_takeOrder 70 = .ok (.aload_n 0, 1) := by decide +kernel
theorem dX1_takeOrder_71 : decode cX1_takeOrder 71 = .ok (.getfield 15, 3) := by decide +kernel
theorem dX1_takeOrder_74 : decode cX1_takeOrder 74 = .ok (.iload 5, 2) := by decide +kernel
theorem dX1_takeOrder_76 : decode cX1_takeOrder 76 = .ok (.iconst 4, 1) := by decide +kernel
theorem dX1_takeOrder_77 : decode cX1_takeOrder 77 = .ok (.iadd, 1) := by decide +kernel
theorem dX1_takeOrder_78 : decode cX1_takeOrder 78 = .ok (.aload_n 0, 1) := by decide +kernel
theorem dX1_takeOrder_79 : decode cX1_takeOrder 79 = .ok (.getfield 36, 3) := by decide +kernel
theorem dX1_takeOrder_82 : decode cX1_takeOrder 82 = .ok (.iastore, 1) := by decide +kernel
theorem dX1_takeOrder_83 : decode cX1_takeOrder 83 = .ok (.aload_n 0, 1) := by decide +kernel
theorem dX1_takeOrder_84 : decode cX1_takeOrder 84 = .ok (.getfield 15, 3) := by decide +kernel
theorem dX1_takeOrder_87 : decode cX1_takeOrder 87 = .ok (.iload 5, 2) := by decide +kernel
theorem dX1_takeOrder_89 : decode cX1_takeOrder 89 = .ok (.iconst 5, 1) := by decide +kernel
theorem dX1_takeOrder_90 : decode cX1_takeOrder 90 = .ok (.iadd, 1) := by decide +kernel
theorem dX1_takeOrder_91 : decode cX1_takeOrder 91 = .ok (.bipush (-9), 2) := by decide +kernel
theorem dX1_takeOrder_93 : decode cX1_takeOrder 93 = .ok (.iastore, 1) := by decide +kernel
theorem dX1_takeOrder_94 : decode cX1_takeOrder 94 = .ok (.aload_n 0, 1) := by decide +kernel
theorem dX1_takeOrder_95 : decode cX1_takeOrder 95 = .ok (.getfield 15, 3) := by decide +kernel
theorem dX1_takeOrder_98 : decode cX1_takeOrder 98 = .ok (.iload 5, 2) := by decide +kernel
theorem dX1_takeOrder_100 : decode cX1_takeOrder 100 = .ok (.bipush 6, 2) := by decide +kernel
theorem dX1_takeOrder_102 : decode cX1_takeOrder 102 = .ok (.iadd, 1) := by decide +kernel
theorem dX1_takeOrder_103 : decode cX1_takeOrder 103 = .ok (.bipush (-9), 2) := by decide +kernel
theorem dX1_takeOrder_105 : decode cX1_takeOrder 105 = .ok (.iastore, 1) := by decide +kernel
theorem dX1_takeOrder_106 : decode cX1_takeOrder 106 = .ok (.aload_n 0, 1) := by decide +kernel
