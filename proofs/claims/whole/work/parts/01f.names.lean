theorem dX8_moveToMost_19 : decode cX8_moveToMost 19 = .ok (.iconst 1, 1) := by decide +kernel
theorem dX8_moveToMost_20 : decode cX8_moveToMost 20 = .ok (.if_icmp .gt 40, 3) := by decide +kernel
theorem dX8_moveToMost_23 : decode cX8_moveToMost 23 = .ok (.iload_n 1, 1) := by decide +kernel
theorem dX8_moveToMost_24 : decode cX8_moveToMost 24 = .ok (.iload_n 3, 1) := by decide +kernel
theorem dX8_moveToMost_25 : decode cX8_moveToMost 25 = .ok (.iadd, 1) := by decide +kernel
theorem dX8_moveToMost_26 : decode cX8_moveToMost 26 = .ok (.aload_n 0, 1) := by decide +kernel
theorem dX8_moveToMost_27 : decode cX8_moveToMost 27 = .ok (.getfield 77, 3) := by decide +kernel
theorem dX8_moveToMost_30 : decode cX8_moveToMost 30 = .ok (.if_icmp .gt 24, 3) := by decide +kernel
theorem dX8_moveToMost_33 : decode cX8_moveToMost 33 = .ok (.aload_n 0, 1) := by decide +kernel
theorem dX8_moveToMost_34 : decode cX8_moveToMost 34 = .ok (.getfield 25, 3) := by decide +kernel
theorem dX8_moveToMost_37 : decode cX8_moveToMost 37 = .ok (.iload_n 1, 1) := by decide +kernel
theorem dX8_moveToMost_38 : decode cX8_moveToMost 38 = .ok (.iload_n 3, 1) := by decide +kernel
theorem dX8_moveToMost_39 : decode cX8_moveToMost 39 = .ok (.iadd, 1) := by decide +kernel
theorem dX8_moveToMost_40 : decode cX8_moveToMost 40 = .ok (.iaload, 1) := by decide +kernel
theorem dX8_moveToMost_41 : decode cX8_moveToMost 41 = .ok (.aload_n 0, 1) := by decide +kernel
theorem dX8_moveToMost_42 : decode cX8_moveToMost 42 = .ok (.getfield 25, 3) := by decide +kernel
theorem dX8_moveToMost_45 : decode cX8_moveToMost 45 = .ok (.iload_n 1, 1) := by decide +kernel
theorem dX8_moveToMost_46 : decode cX8_moveToMost 46 = .ok (.iload_n 2, 1) := by decide +kernel
theorem dX8_moveToMost_47 : decode cX8_moveToMost 47 = .ok (.iadd, 1) := by decide +kernel
theorem dX8_moveToMost_48 : decode cX8_moveToMost 48 = .ok (.iaload, 1) := by decide +kernel
theorem dX8_moveToMost_49 : decode cX8_moveToMost 49 = .ok (.if_icmp .le 5, 3) := by decide +kernel
theorem dX8_moveToMost_52 : decode cX8_moveToMost 52 = .ok (.iload_n 3, 1) := by decide +kernel
theorem dX8_moveToMost_53 : decode cX8_moveToMost 53 = .ok (.istore_n 2, 1) := by decide +kernel
theorem dX8_moveToMost_54 : decode cX8_moveToMost 54 = .ok (.iinc 3 1, 3) := by decide +kernel
theorem dX8_moveToMost_57 : decode cX8_moveToMost 57 = .ok (.goto (-39), 3) := by decide +kernel
theorem dX8_moveToMost_60 : decode cX8_moveToMost 60 = .ok (.iload_n 2, 1) := by decide +kernel
theorem dX8_moveToMost_61 : decode cX8_moveToMost 61 = .ok (.ireturn, 1) := by decide +kernel
set_option maxRecDepth 20000 in
theorem ggX8_followChoices_X4_endOn : GoodIn wsX8_followChoices wsX4_endOn := goodIn_r _ [6, 7, 8, 9, 26, 27, 28, 29, 30, 31, 32, 33, 34, 35, 36] (by decide +kernel) (by decide +kernel)
set_option maxRecDepth 20000 in
theorem gX8_followChoices_X4_endOn_n114 : GoodIn wsX8_followChoices (wsX4_endOn) := ggX8_followChoices_X4_endOn
theorem dX8_followChoices_0 : decode cX8_followChoices 0 = .ok (.aload_n 1, 1) := by decide +kernel
theorem dX8_followChoices_1 : decode cX8_followChoices 1 = .ok (.iconst 0, 1) := by decide +kernel
theorem dX8_followChoices_2 : decode cX8_followChoices 2 = .ok (.invokevirtual 114, 3) := by decide +kernel
theorem dX8_followChoices_5 : decode cX8_followChoices 5 = .ok (.istore_n 3, 1) := by decide +kernel
theorem dX8_followChoices_6 : decode cX8_followChoices 6 = .ok (.iconst 0, 1) := by decide +kernel
theorem dX8_followChoices_7 : decode cX8_followChoices 7 = .ok (.istore 4, 2) := by decide +kernel
theorem dX8_followChoices_9 : decode cX8_followChoices 9 = .ok (.iload 4, 2) := by decide +kernel
theorem dX8_followChoices_11 : decode cX8_followChoices 11 = .ok (.iload_n 2, 1) := by decide +kernel
theorem dX8_followChoices_12 : decode cX8_followChoices 12 = .ok (.if_icmp .ge 38, 3) := by decide +kernel
theorem dX8_followChoices_15 : decode cX8_followChoices 15 = .ok (.aload_n 0, 1) := by decide +kernel
theorem dX8_followChoices_16 : decode cX8_followChoices 16 = .ok (.getfield 37, 3) := by decide +kernel
theorem dX8_followChoices_19 : decode cX8_followChoices 19 = .ok (.iload 4, 2) := by decide +kernel
theorem dX8_followChoices_21 : decode cX8_followChoices 21 = .ok (.aload_n 0, 1) := by decide +kernel
theorem dX8_followChoices_22 : decode cX8_followChoices 22 = .ok (.getfield 34, 3) := by decide +kernel
theorem dX8_followChoices_25 : decode cX8_followChoices 25 = .ok (.bipush 13, 2) := by decide +kernel
theorem dX8_followChoices_27 : decode cX8_followChoices 27 = .ok (.iload 4, 2) := by decide +kernel
theorem dX8_followChoices_29 : decode cX8_followChoices 29 = .ok (.imul, 1) := by decide +kernel
theorem dX8_followChoices_30 : decode cX8_followChoices 30 = .ok (.iload_n 3, 1) := by decide +kernel
theorem dX8_followChoices_31 : decode cX8_followChoices 31 = .ok (.iadd, 1) := by decide +kernel
theorem dX8_followChoices_32 : decode cX8_followChoices 32 = .ok (.iaload, 1) := by decide +kernel
theorem dX8_followChoices_33 : decode cX8_followChoices 33 = .ok (.iastore, 1) := by decide +kernel
theorem dX8_followChoices_34 : decode cX8_followChoices 34 = .ok (.iload_n 3, 1) := by decide +kernel
theorem dX8_followChoices_35 : decode cX8_followChoices 35 = .ok (.aload_n 0, 1) := by decide +kernel
theorem dX8_followChoices_36 : decode cX8_followChoices 36 = .ok (.getfield 37, 3) := by decide +kernel
theorem dX8_followChoices_39 : decode cX8_followChoices 39 = .ok (.iload 4, 2) := by decide +kernel
theorem dX8_followChoices_41 : decode cX8_followChoices 41 = .ok (.iaload, 1) := by decide +kernel
theorem dX8_followChoices_42 : decode cX8_followChoices 42 = .ok (.iadd, 1) := by decide +kernel
theorem dX8_followChoices_43 : decode cX8_followChoices 43 = .ok (.istore_n 3, 1) := by decide +kernel
theorem dX8_followChoices_44 : decode cX8_followChoices 44 = .ok (.iinc 4 1, 3) := by decide +kernel
theorem dX8_followChoices_47 : decode cX8_followChoices 47 = .ok (.goto (-38), 3) := by decide +kernel
theorem dX8_followChoices_50 : decode cX8_followChoices 50 = .ok (.return_, 1) := by decide +kernel
theorem dX8_bestMove_0 : decode cX8_bestMove 0 = .ok (.iload_n 1, 1) := by decide +kernel
theorem dX8_bestMove_1 : decode cX8_bestMove 1 = .ok (.ifCond .lt 18, 3) := by decide +kernel
theorem dX8_bestMove_4 : decode cX8_bestMove 4 = .ok (.iload_n 1, 1) := by decide +kernel
theorem dX8_bestMove_5 : decode cX8_bestMove 5 = .ok (.bipush 12, 2) := by decide +kernel
theorem dX8_bestMove_7 : decode cX8_bestMove 7 = .ok (.if_icmp .ge 12, 3) := by decide +kernel
theorem dX8_bestMove_10 : decode cX8_bestMove 10 = .ok (.aload_n 0, 1) := by decide +kernel
theorem dX8_bestMove_11 : decode cX8_bestMove 11 = .ok (.getfield 37, 3) := by decide +kernel
theorem dX8_bestMove_14 : decode cX8_bestMove 14 = .ok (.iload_n 1, 1) := by decide +kernel
theorem dX8_bestMove_15 : decode cX8_bestMove 15 = .ok (.iaload, 1) := by decide +kernel
theorem dX8_bestMove_16 : decode cX8_bestMove 16 = .ok (.goto 5, 3) := by decide +kernel
theorem dX8_bestMove_19 : decode cX8_bestMove 19 = .ok (.ldc 128, 2) := by decide +kernel
theorem dX8_bestMove_21 : decode cX8_bestMove 21 = .ok (.ireturn, 1) := by decide +kernel
set_option maxRecDepth 20000 in
theorem ggX8_guessMoves_X8_gather : GoodIn wsX8_guessMoves wsX8_gather := goodIn_r _ [13, 14, 15, 16, 17, 18, 19, 20, 21, 22, 23, 24, 25, 26, 27, 28, 29, 30, 31, 32, 33, 34, 35, 36, 37, 38, 39, 40, 41, 42, 43, 44, 45, 46, 47, 48, 49, 50, 51, 52, 53, 54, 55, 56, 57, 58, 59, 60, 61, 62, 63, 64, 65, 66, 67, 68, 69, 70, 71, 72, 73, 74, 75, 76, 118, 119, 120, 121, 122, 123, 124, 125, 126, 127, 128, 129, 130, 131, 132, 133, 134, 135, 136, 137, 138, 139, 140, 141, 142, 143, 144, 145, 146, 147, 148, 149, 150, 151, 152, 153, 154, 155, 156, 157, 158, 159] (by decide +kernel) (by decide +kernel)
set_option maxRecDepth 20000 in
theorem gX8_guessMoves_X8_gather : GoodIn wsX8_guessMoves (wsV RX8 102 RX8 yX8_gather wsX8_gather) := goodIn_app (goodIn_of _ (by decide +kernel)) ggX8_guessMoves_X8_gather
set_option maxRecDepth 20000 in
theorem ggX8_guessMoves_X8_findReach : GoodIn wsX8_guessMoves wsX8_findReach := goodIn_r _ [80, 4, 5, 6, 7, 81, 19, 82, 83, 84, 85, 86, 87, 88, 89, 90, 91, 92, 93, 94, 95, 96, 97, 98, 99, 118, 119, 120, 121, 122, 123, 124, 125, 126, 127, 128, 129, 130, 131, 132, 133, 134, 135, 136, 137, 138, 139, 140, 141, 142, 143, 144] (by decide +kernel) (by decide +kernel)
set_option maxRecDepth 20000 in
theorem gX8_guessMoves_X8_findReach : GoodIn wsX8_guessMoves (wsV RX8 89 RX8 yX8_findReach wsX8_findReach) := goodIn_app (goodIn_of _ (by decide +kernel)) ggX8_guessMoves_X8_findReach
set_option maxRecDepth 20000 in
theorem ggX8_guessMoves_X8_leftReaps : GoodIn wsX8_guessMoves wsX8_leftReaps := goodIn_r _ [103, 14, 15, 17, 104, 16, 105, 106, 107, 108, 109, 61, 110, 111, 60, 62, 112, 113, 118, 119, 120, 121, 122, 123, 124, 125, 126, 127, 128, 129, 130, 131, 132, 133] (by decide +kernel) (by decide +kernel)
set_option maxRecDepth 20000 in
theorem gX8_guessMoves_X8_leftReaps : GoodIn wsX8_guessMoves (wsV RX8 117 RX8 yX8_leftReaps wsX8_leftReaps) := goodIn_app (goodIn_of _ (by decide +kernel)) ggX8_guessMoves_X8_leftReaps
set_option maxRecDepth 20000 in
theorem ggX8_guessMoves_X4_endOn : GoodIn wsX8_guessMoves wsX4_endOn := goodIn_r _ [87, 88, 89, 90, 134, 135, 136, 137, 138, 139, 140, 141, 142, 143, 144] (by decide +kernel) (by decide +kernel)
set_option maxRecDepth 20000 in
theorem gX8_guessMoves_X4_endOn_n114 : GoodIn wsX8_guessMoves (wsX4_endOn) := ggX8_guessMoves_X4_endOn
set_option maxRecDepth 20000 in
theorem ggX8_guessMoves_X8_addGuess : GoodIn wsX8_guessMoves wsX8_addGuess := goodIn_r _ [117, 1, 3, 118, 119, 120, 121, 122, 123, 124, 125, 126, 127, 128, 129, 130, 131, 132, 133] (by decide +kernel) (by decide +kernel)
set_option maxRecDepth 20000 in
theorem gX8_guessMoves_X8_addGuess : GoodIn wsX8_guessMoves (wsV RX8 151 RX8 yX8_addGuess wsX8_addGuess) := goodIn_app (goodIn_of _ (by decide +kernel)) ggX8_guessMoves_X8_addGuess
theorem dX8_guessMoves_0 : decode cX8_guessMoves 0 = .ok (.aload_n 0, 1) := by decide +kernel
theorem dX8_guessMoves_1 : decode cX8_guessMoves 1 = .ok (.iconst 0, 1) := by decide +kernel
theorem dX8_guessMoves_2 : decode cX8_guessMoves 2 = .ok (.putfield 143, 3) := by decide +kernel
theorem dX8_guessMoves_5 : decode cX8_guessMoves 5 = .ok (.aload_n 0, 1) := by decide +kernel
theorem dX8_guessMoves_6 : decode cX8_guessMoves 6 = .ok (.ldc 128, 2) := by decide +kernel
theorem dX8_guessMoves_8 : decode cX8_guessMoves 8 = .ok (.putfield 146, 3) := by decide +kernel
theorem dX8_guessMoves_11 : decode cX8_guessMoves 11 = .ok (.aload_n 1, 1) := by decide +kernel
theorem dX8_guessMoves_12 : decode cX8_guessMoves 12 = .ok (.getfield 99, 3) := by decide +kernel
theorem dX8_guessMoves_15 : decode cX8_guessMoves 15 = .ok (.bipush 12, 2) := by decide +kernel
theorem dX8_guessMoves_17 : decode cX8_guessMoves 17 = .ok (.if_icmp .lt 4, 3) := by decide +kernel
theorem dX8_guessMoves_20 : decode cX8_guessMoves 20 = .ok (.return_, 1) := by decide +kernel
theorem dX8_guessMoves_21 : decode cX8_guessMoves 21 = .ok (.aload_n 0, 1) := by decide +kernel
theorem dX8_guessMoves_22 : decode cX8_guessMoves 22 = .ok (.aload_n 1, 1) := by decide +kernel
theorem dX8_guessMoves_23 : decode cX8_guessMoves 23 = .ok (.aload_n 1, 1) := by decide +kernel
theorem dX8_guessMoves_24 : decode cX8_guessMoves 24 = .ok (.getfield 99, 3) := by decide +kernel
theorem dX8_guessMoves_27 : decode cX8_guessMoves 27 = .ok (.invokevirtual 102, 3) := by decide +kernel
theorem dX8_guessMoves_30 : decode cX8_guessMoves 30 = .ok (.aload_n 0, 1) := by decide +kernel
theorem dX8_guessMoves_31 : decode cX8_guessMoves 31 = .ok (.aload_n 1, 1) := by decide +kernel
theorem dX8_guessMoves_32 : decode cX8_guessMoves 32 = .ok (.iconst 1, 1) := by decide +kernel
theorem dX8_guessMoves_33 : decode cX8_guessMoves 33 = .ok (.invokevirtual 89, 3) := by decide +kernel
theorem dX8_guessMoves_36 : decode cX8_guessMoves 36 = .ok (.aload_n 0, 1) := by decide +kernel
theorem dX8_guessMoves_37 : decode cX8_guessMoves 37 = .ok (.getfield 71, 3) := by decide +kernel
theorem dX8_guessMoves_40 : decode cX8_guessMoves 40 = .ok (.istore 4, 2) := by decide +kernel
theorem dX8_guessMoves_42 : decode cX8_guessMoves 42 = .ok (.iload 4, 2) := by decide +kernel
theorem dX8_guessMoves_44 : decode cX8_guessMoves 44 = .ok (.aload_n 0, 1) := by decide +kernel
theorem dX8_guessMoves_45 : decode cX8_guessMoves 45 = .ok (.getfield 77, 3) := by decide +kernel
theorem dX8_guessMoves_48 : decode cX8_guessMoves 48 = .ok (.if_icmp .gt 72, 3) := by decide +kernel
theorem dX8_guessMoves_51 : decode cX8_guessMoves 51 = .ok (.aload_n 0, 1) := by decide +kernel
theorem dX8_guessMoves_52 : decode cX8_guessMoves 52 = .ok (.getfield 80, 3) := by decide +kernel
theorem dX8_guessMoves_55 : decode cX8_guessMoves 55 = .ok (.istore 5, 2) := by decide +kernel
theorem dX8_guessMoves_57 : decode cX8_guessMoves 57 = .ok (.iload 5, 2) := by decide +kernel
theorem dX8_guessMoves_59 : decode cX8_guessMoves 59 = .ok (.aload_n 0, 1) := by decide +kernel
theorem dX8_guessMoves_60 : decode cX8_guessMoves 60 = .ok (.getfield 83, 3) := by decide +kernel
theorem dX8_guessMoves_63 : decode cX8_guessMoves 63 = .ok (.if_icmp .gt 51, 3) := by decide +kernel
theorem dX8_guessMoves_66 : decode cX8_guessMoves 66 = .ok (.aload_n 0, 1) := by decide +kernel
theorem dX8_guessMoves_67 : decode cX8_guessMoves 67 = .ok (.iload 4, 2) := by decide +kernel
theorem dX8_guessMoves_69 : decode cX8_guessMoves 69 = .ok (.iload 5, 2) := by decide +kernel
theorem dX8_guessMoves_71 : decode cX8_guessMoves 71 = .ok (.invokevirtual 117, 3) := by decide +kernel
theorem dX8_guessMoves_74 : decode cX8_guessMoves 74 = .ok (.i2l, 1) := by decide +kernel
theorem dX8_guessMoves_75 : decode cX8_guessMoves 75 = .ok (.iload_n 3, 1) := by decide +kernel
theorem dX8_guessMoves_76 : decode cX8_guessMoves 76 = .ok (.i2l, 1) := by decide +kernel
theorem dX8_guessMoves_77 : decode cX8_guessMoves 77 = .ok (.lmul, 1) := by decide +kernel
theorem dX8_guessMoves_78 : decode cX8_guessMoves 78 = .ok (.iload_n 2, 1) := by decide +kernel
theorem dX8_guessMoves_79 : decode cX8_guessMoves 79 = .ok (.i2l, 1) := by decide +kernel
theorem dX8_guessMoves_80 : decode cX8_guessMoves 80 = .ok (.ldc2_w 149, 3) := by decide +kernel
theorem dX8_guessMoves_83 : decode cX8_guessMoves 83 = .ok (.lmul, 1) := by decide +kernel
theorem dX8_guessMoves_84 : decode cX8_guessMoves 84 = .ok (.lcmp, 1) := by decide +kernel
theorem dX8_guessMoves_85 : decode cX8_guessMoves 85 = .ok (.ifCond .ne 23, 3) := by decide +kernel
theorem dX8_guessMoves_88 : decode cX8_guessMoves 88 = .ok (.aload_n 0, 1) := by decide +kernel
theorem dX8_guessMoves_89 : decode cX8_guessMoves 89 = .ok (.iload 4, 2) := by decide +kernel
theorem dX8_guessMoves_91 : decode cX8_guessMoves 91 = .ok (.aload_n 1, 1) := by decide +kernel
theorem dX8_guessMoves_92 : decode cX8_guessMoves 92 = .ok (.iconst 0, 1) := by decide +kernel
theorem dX8_guessMoves_93 : decode cX8_guessMoves 93 = .ok (.invokevirtual 114, 3) := by decide +kernel
theorem dX8_guessMoves_96 : decode cX8_guessMoves 96 = .ok (.isub, 1) := by decide +kernel
theorem dX8_guessMoves_97 : decode cX8_guessMoves 97 = .ok (.iload 5, 2) := by decide +kernel
theorem dX8_guessMoves_99 : decode cX8_guessMoves 99 = .ok (.aload_n 1, 1) := by decide +kernel
theorem dX8_guessMoves_100 : decode cX8_guessMoves 100 = .ok (.iconst 1, 1) := by decide +kernel
theorem dX8_guessMoves_101 : decode cX8_guessMoves 101 = .ok (.invokevirtual 114, 3) := by decide +kernel
theorem dX8_guessMoves_104 : decode cX8_guessMoves 104 = .ok (.isub, 1) := by decide +kernel
theorem dX8_guessMoves_105 : decode cX8_guessMoves 105 = .ok (.invokevirtual 151, 3) := by decide +kernel
theorem dX8_guessMoves_108 : decode cX8_guessMoves 108 = .ok (.iinc 5 1, 3) := by decide +kernel
theorem dX8_guessMoves_111 : decode cX8_guessMoves 111 = .ok (.goto (-54), 3) := by decide +kernel
theorem dX8_guessMoves_114 : decode cX8_guessMoves 114 = .ok (.iinc 4 1, 3) := by decide +kernel
theorem dX8_guessMoves_117 : decode cX8_guessMoves 117 = .ok (.goto (-75), 3) := by decide +kernel
theorem dX8_guessMoves_120 : decode cX8_guessMoves 120 = .ok (.return_, 1) := by decide +kernel
theorem dX8_addGuess_0 : decode cX8_addGuess 0 = .ok (.aload_n 0, 1) := by decide +kernel
theorem dX8_addGuess_1 : decode cX8_addGuess 1 = .ok (.getfield 143, 3) := by decide +kernel
theorem dX8_addGuess_4 : decode cX8_addGuess 4 = .ok (.ifCond .ne 14, 3) := by decide +kernel
theorem dX8_addGuess_7 : decode cX8_addGuess 7 = .ok (.aload_n 0, 1) := by decide +kernel
theorem dX8_addGuess_8 : decode cX8_addGuess 8 = .ok (.iconst 3, 1) := by decide +kernel
theorem dX8_addGuess_9 : decode cX8_addGuess 9 = .ok (.iload_n 1, 1) := by decide +kernel
theorem dX8_addGuess_10 : decode cX8_addGuess 10 = .ok (.imul, 1) := by decide +kernel
theorem dX8_addGuess_11 : decode cX8_addGuess 11 = .ok (.iload_n 2, 1) := by decide +kernel
theorem dX8_addGuess_12 : decode cX8_addGuess 12 = .ok (.iadd, 1) := by decide +kernel
theorem dX8_addGuess_13 : decode cX8_addGuess 13 = .ok (.iconst 4, 1) := by decide +kernel
theorem dX8_addGuess_14 : decode cX8_addGuess 14 = .ok (.iadd, 1) := by decide +kernel
theorem dX8_addGuess_15 : decode cX8_addGuess 15 = .ok (.putfield 146, 3) := by decide +kernel
theorem dX8_addGuess_18 : decode cX8_addGuess 18 = .ok (.aload_n 0, 1) := by decide +kernel
theorem dX8_addGuess_19 : decode cX8_addGuess 19 = .ok (.dup, 1) := by decide +kernel
theorem dX8_addGuess_20 : decode cX8_addGuess 20 = .ok (.getfield 143, 3) := by decide +kernel
theorem dX8_addGuess_23 : decode cX8_addGuess 23 = .ok (.iconst 1, 1) := by decide +kernel
theorem dX8_addGuess_24 : decode cX8_addGuess 24 = .ok (.iadd, 1) := by decide +kernel
theorem dX8_addGuess_25 : decode cX8_addGuess 25 = .ok (.putfield 143, 3) := by decide +kernel
theorem dX8_addGuess_28 : decode cX8_addGuess 28 = .ok (.return_, 1) := by decide +kernel
theorem dX9_init_0 : decode cX9_init 0 = .ok (.aload_n 0, 1) := by decide +kernel
theorem dX9_init_1 : decode cX9_init 1 = .ok (.invokespecial 1, 3) := by decide +kernel
theorem dX9_init_4 : decode cX9_init 4 = .ok (.aload_n 0, 1) := by decide +kernel
theorem dX9_init_5 : decode cX9_init 5 = .ok (.iload_n 1, 1) := by decide +kernel
theorem dX9_init_6 : decode cX9_init 6 = .ok (.putfield 7, 3) := by decide +kernel
theorem dX9_init_9 : decode cX9_init 9 = .ok (.aload_n 0, 1) := by decide +kernel
theorem dX9_init_10 : decode cX9_init 10 = .ok (.iload_n 2, 1) := by decide +kernel
theorem dX9_init_11 : decode cX9_init 11 = .ok (.putfield 13, 3) := by decide +kernel
theorem dX9_init_14 : decode cX9_init 14 = .ok (.aload_n 0, 1) := by decide +kernel
theorem dX9_init_15 : decode cX9_init 15 = .ok (.iload_n 3, 1) := by decide +kernel
theorem dX9_init_16 : decode cX9_init 16 = .ok (.putfield 16, 3) := by decide +kernel
theorem dX9_init_19 : decode cX9_init 19 = .ok (.return_, 1) := by decide +kernel
theorem dX9_fallsWhole_0 : decode cX9_fallsWhole 0 = .ok (.iconst 0, 1) := by decide +kernel
theorem dX9_fallsWhole_1 : decode cX9_fallsWhole 1 = .ok (.ireturn, 1) := by decide +kernel
set_option maxRecDepth 20000 in
theorem ggX9_askSize_X10_leave : GoodIn wsX9_askSize wsX10_leave := goodIn_r _ [5, 6, 7, 23, 24] (by decide +kernel) (by decide +kernel)
set_option maxRecDepth 20000 in
theorem gX9_askSize_X10_leave_n19 : GoodIn wsX9_askSize (wsX10_leave) := ggX9_askSize_X10_leave
theorem dX9_askSize_0 : decode cX9_askSize 0 = .ok (.aload_n 1, 1) := by decide +kernel
theorem dX9_askSize_1 : decode cX9_askSize 1 = .ok (.bipush 10, 2) := by decide +kernel
theorem dX9_askSize_3 : decode cX9_askSize 3 = .ok (.invokevirtual 19, 3) := by decide +kernel
theorem dX9_askSize_6 : decode cX9_askSize 6 = .ok (.aload_n 0, 1) := by decide +kernel
theorem dX9_askSize_7 : decode cX9_askSize 7 = .ok (.getfield 13, 3) := by decide +kernel
theorem dX9_askSize_10 : decode cX9_askSize 10 = .ok (.ireturn, 1) := by decide +kernel
set_option maxRecDepth 20000 in
theorem ggX9_askMark_X10_leave : GoodIn wsX9_askMark wsX10_leave := goodIn_r _ [5, 6, 7, 23, 24] (by decide +kernel) (by decide +kernel)
set_option maxRecDepth 20000 in
theorem gX9_askMark_X10_leave_n19 : GoodIn wsX9_askMark (wsX10_leave) := ggX9_askMark_X10_leave
theorem dX9_askMark_0 : decode cX9_askMark 0 = .ok (.aload_n 1, 1) := by decide +kernel
theorem dX9_askMark_1 : decode cX9_askMark 1 = .ok (.bipush 20, 2) := by decide +kernel
theorem dX9_askMark_3 : decode cX9_askMark 3 = .ok (.invokevirtual 19, 3) := by decide +kernel
theorem dX9_askMark_6 : decode cX9_askMark 6 = .ok (.aload_n 0, 1) := by decide +kernel
theorem dX9_askMark_7 : decode cX9_askMark 7 = .ok (.getfield 7, 3) := by decide +kernel
theorem dX9_askMark_10 : decode cX9_askMark 10 = .ok (.ireturn, 1) := by decide +kernel
theorem dX10_init_0 : decode cX10_init 0 = .ok (.aload_n 0, 1) := by decide +kernel
theorem dX10_init_1 : decode cX10_init 1 = .ok (.invokespecial 3, 3) := by decide +kernel
theorem dX10_init_4 : decode cX10_init 4 = .ok (.aload_n 0, 1) := by decide +kernel
theorem dX10_init_5 : decode cX10_init 5 = .ok (.bipush 16, 2) := by decide +kernel
theorem dX10_init_7 : decode cX10_init 7 = .ok (.newarray .int, 2) := by decide +kernel
theorem dX10_init_9 : decode cX10_init 9 = .ok (.putfield 9, 3) := by decide +kernel
theorem dX10_init_12 : decode cX10_init 12 = .ok (.return_, 1) := by decide +kernel
theorem dX10_leave_0 : decode cX10_leave 0 = .ok (.aload_n 0, 1) := by decide +kernel
theorem dX10_leave_1 : decode cX10_leave 1 = .ok (.getfield 15, 3) := by decide +kernel
theorem dX10_leave_4 : decode cX10_leave 4 = .ok (.aload_n 0, 1) := by decide +kernel
theorem dX10_leave_5 : decode cX10_leave 5 = .ok (.getfield 9, 3) := by decide +kernel
theorem dX10_leave_8 : decode cX10_leave 8 = .ok (.arraylength, 1) := by decide +kernel
theorem dX10_leave_9 : decode cX10_leave 9 = .ok (.if_icmp .ge 23, 3) := by decide +kernel
theorem dX10_leave_12 : decode cX10_leave 12 = .ok (.aload_n 0, 1) := by decide +kernel
theorem dX10_leave_13 : decode cX10_leave 13 = .ok (.getfield 9, 3) := by decide +kernel
theorem dX10_leave_16 : decode cX10_leave 16 = .ok (.aload_n 0, 1) := by decide +kernel
theorem dX10_leave_17 : decode cX10_leave 17 = .ok (.getfield 15, 3) := by decide +kernel
theorem dX10_leave_20 : decode cX10_leave 20 = .ok (.iload_n 1, 1) := by decide +kernel
theorem dX10_leave_21 : decode cX10_leave 21 = .ok (.iastore, 1) := by decide +kernel
theorem dX10_leave_22 : decode cX10_leave 22 = .ok (.aload_n 0, 1) := by decide +kernel
theorem dX10_leave_23 : decode cX10_leave 23 = .ok (.dup, 1) := by decide +kernel
theorem dX10_leave_24 : decode cX10_leave 24 = .ok (.getfield 15, 3) := by decide +kernel
theorem dX10_leave_27 : decode cX10_leave 27 = .ok (.iconst 1, 1) := by decide +kernel
theorem dX10_leave_28 : decode cX10_leave 28 = .ok (.iadd, 1) := by decide +kernel
theorem dX10_leave_29 : decode cX10_leave 29 = .ok (.putfield 15, 3) := by decide +kernel
theorem dX10_leave_32 : decode cX10_leave 32 = .ok (.return_, 1) := by decide +kernel
theorem dX10_numberAt_0 : decode cX10_numberAt 0 = .ok (.iload_n 1, 1) := by decide +kernel
theorem dX10_numberAt_1 : decode cX10_numberAt 1 = .ok (.ifCond .lt 29, 3) := by decide +kernel
theorem dX10_numberAt_4 : decode cX10_numberAt 4 = .ok (.iload_n 1, 1) := by decide +kernel
theorem dX10_numberAt_5 : decode cX10_numberAt 5 = .ok (.aload_n 0, 1) := by decide +kernel
theorem dX10_numberAt_6 : decode cX10_numberAt 6 = .ok (.getfield 15, 3) := by decide +kernel
theorem dX10_numberAt_9 : decode cX10_numberAt 9 = .ok (.if_icmp .ge 21, 3) := by decide +kernel
theorem dX10_numberAt_12 : decode cX10_numberAt 12 = .ok (.iload_n 1, 1) := by decide +kernel
theorem dX10_numberAt_13 : decode cX10_numberAt 13 = .ok (.aload_n 0, 1) := by decide +kernel
theorem dX10_numberAt_14 : decode cX10_numberAt 14 = .ok (.getfield 9, 3) := by decide +kernel
theorem dX10_numberAt_17 : decode cX10_numberAt 17 = .ok (.arraylength, 1) := by decide +kernel
theorem dX10_numberAt_18 : decode cX10_numberAt 18 = .ok (.if_icmp .ge 12, 3) := by decide +kernel
theorem dX10_numberAt_21 : decode cX10_numberAt 21 = .ok (.aload_n 0, 1) := by decide +kernel
theorem dX10_numberAt_22 : decode cX10_numberAt 22 = .ok (.getfield 9, 3) := by decide +kernel
theorem dX10_numberAt_25 : decode cX10_numberAt 25 = .ok (.iload_n 1, 1) := by decide +kernel
theorem dX10_numberAt_26 : decode cX10_numberAt 26 = .ok (.iaload, 1) := by decide +kernel
theorem dX10_numberAt_27 : decode cX10_numberAt 27 = .ok (.goto 5, 3) := by decide +kernel
theorem dX10_numberAt_30 : decode cX10_numberAt 30 = .ok (.ldc 19, 2) := by decide +kernel
theorem dX10_numberAt_32 : decode cX10_numberAt 32 = .ok (.ireturn, 1) := by decide +kernel
set_option maxRecDepth 20000 in
theorem ggX11_init_X6_init : GoodIn wsX11_init wsX6_init := goodIn_r _ [28, 29, 2, 3, 30, 31, 32, 33, 34, 35, 36, 37, 38, 70, 71, 72] (by decide +kernel) (by decide +kernel)
set_option maxRecDepth 20000 in
theorem gX11_init_X6_init_n11 : GoodIn wsX11_init (wsX6_init) := ggX11_init_X6_init
set_option maxRecDepth 20000 in
theorem ggX11_init_X5_init : GoodIn wsX11_init wsX5_init := goodIn_r _ [40, 41, 2, 3, 42, 43, 82, 83, 84, 85, 86, 87, 88, 89] (by decide +kernel) (by decide +kernel)
set_option maxRecDepth 20000 in
theorem gX11_init_X5_init_n18 : GoodIn wsX11_init (wsX5_init) := ggX11_init_X5_init
set_option maxRecDepth 20000 in
theorem ggX11_init_X8_init : GoodIn wsX11_init wsX8_init := goodIn_r _ [45, 46, 2, 3, 31, 47, 48, 49, 50, 51, 52, 53, 54, 55, 56, 90, 91, 92, 93, 94, 95, 96, 97, 98, 99, 100, 101, 102, 103, 104, 105] (by decide +kernel) (by decide +kernel)
set_option maxRecDepth 20000 in
theorem gX11_init_X8_init_n25 : GoodIn wsX11_init (wsX8_init) := ggX11_init_X8_init
set_option maxRecDepth 20000 in
theorem ggX11_init_X10_init : GoodIn wsX11_init wsX10_init := goodIn_r _ [58, 59, 2, 3, 31, 60, 106, 107] (by decide +kernel) (by decide +kernel)
set_option maxRecDepth 20000 in
theorem gX11_init_X10_init_n32 : GoodIn wsX11_init (wsX10_init) := ggX11_init_X10_init
set_option maxRecDepth 20000 in
theorem ggX11_init_X4_init : GoodIn wsX11_init wsX4_init := goodIn_r _ [62, 63, 2, 3, 64, 65, 31, 66, 67, 68, 69, 108, 109, 110, 111, 112, 113, 114, 115, 116, 117, 118] (by decide +kernel) (by decide +kernel)
set_option maxRecDepth 20000 in
theorem gX11_init_X4_init_n39 : GoodIn wsX11_init (wsX4_init) := ggX11_init_X4_init
theorem dX11_init_0 : decode cX11_init 0 = .ok (.aload_n 0, 1) := by decide +kernel
theorem dX11_init_1 : decode cX11_init 1 = .ok (.invokespecial 3, 3) := by decide +kernel
theorem dX11_init_4 : decode cX11_init 4 = .ok (.aload_n 0, 1) := by decide +kernel
theorem dX11_init_5 : decode cX11_init 5 = .ok (.new 9, 3) := by decide +kernel
theorem dX11_init_8 : decode cX11_init 8 = .ok (.dup, 1) := by decide +kernel
theorem dX11_init_9 : decode cX11_init 9 = .ok (.invokespecial 11, 3) := by decide +kernel
theorem dX11_init_12 : decode cX11_init 12 = .ok (.putfield 12, 3) := by decide +kernel
theorem dX11_init_15 : decode cX11_init 15 = .ok (.aload_n 0, 1) := by decide +kernel
theorem dX11_init_16 : decode cX11_init 16 = .ok (.new 16, 3) := by decide +kernel
theorem dX11_init_19 : decode cX11_init 19 = .ok (.dup, 1) := by decide +kernel
theorem dX11_init_20 : decode cX11_init 20 = .ok (.invokespecial 18, 3) := by decide +kernel
theorem dX11_init_23 : decode cX11_init 23 = .ok (.putfield 19, 3) := by decide +kernel
theorem dX11_init_26 : decode cX11_init 26 = .ok (.aload_n 0, 1) := by decide +kernel
theorem dX11_init_27 : decode cX11_init 27 = .ok (.new 23, 3) := by decide +kernel
theorem dX11_init_30 : decode cX11_init 30 = .ok (.dup, 1) := by decide +kernel
theorem dX11_init_31 : decode cX11_init 31 = .ok (.invokespecial 25, 3) := by decide +kernel
theorem dX11_init_34 : decode cX11_init 34 = .ok (.putfield 26, 3) := by decide +kernel
theorem dX11_init_37 : decode cX11_init 37 = .ok (.aload_n 0, 1) := by decide +kernel
theorem dX11_init_38 : decode cX11_init 38 = .ok (.new 30, 3) := by decide +kernel
theorem dX11_init_41 : decode cX11_init 41 = .ok (.dup, 1) := by decide +kernel
theorem dX11_init_42 : decode cX11_init 42 = .ok (.invokespecial 32, 3) := by decide +kernel
theorem dX11_init_45 : decode cX11_init 45 = .ok (.putfield 33, 3) := by decide +kernel
theorem dX11_init_48 : decode cX11_init 48 = .ok (.aload_n 0, 1) := by decide +kernel
theorem dX11_init_49 : decode cX11_init 49 = .ok (.new 37, 3) := by decide +kernel
theorem dX11_init_52 : decode cX11_init 52 = .ok (.dup, 1) := by decide +kernel
theorem dX11_init_53 : decode cX11_init 53 = .ok (.invokespecial 39, 3) := by decide +kernel
theorem dX11_init_56 : decode cX11_init 56 = .ok (.putfield 40, 3) := by decide +kernel
theorem dX11_init_59 : decode cX11_init 59 = .ok (.aload_n 0, 1) := by decide +kernel
theorem dX11_init_60 : decode cX11_init 60 = .ok (.new 37, 3) := by decide +kernel
theorem dX11_init_63 : decode cX11_init 63 = .ok (.dup, 1) := by decide +kernel
theorem dX11_init_64 : decode cX11_init 64 = .ok (.invokespecial 39, 3) := by decide +kernel
theorem dX11_init_67 : decode cX11_init 67 = .ok (.putfield 44, 3) := by decide +kernel
theorem dX11_init_70 : decode cX11_init 70 = .ok (.aload_n 0, 1) := by decide +kernel
theorem dX11_init_71 : decode cX11_init 71 = .ok (.new 37, 3) := by decide +kernel
theorem dX11_init_74 : decode cX11_init 74 = .ok (.dup, 1) := by decide +kernel
theorem dX11_init_75 : decode cX11_init 75 = .ok (.invokespecial 39, 3) := by decide +kernel
theorem dX11_init_78 : decode cX11_init 78 = .ok (.putfield 47, 3) := by decide +kernel
theorem dX11_init_81 : decode cX11_init 81 = .ok (.aload_n 0, 1) := by decide +kernel
theorem dX11_init_82 : decode cX11_init 82 = .ok (.new 37, 3) := by decide +kernel
theorem dX11_init_85 : decode cX11_init 85 = .ok (.dup, 1) := by decide +kernel
theorem dX11_init_86 : decode cX11_init 86 = .ok (.invokespecial 39, 3) := by decide +kernel
theorem dX11_init_89 : decode cX11_init 89 = .ok (.putfield 50, 3) := by decide +kernel
theorem dX11_init_92 : decode cX11_init 92 = .ok (.return_, 1) := by decide +kernel
set_option maxRecDepth 20000 in
theorem ggX11_row_X11_isRow : GoodIn wsX11_row wsX11_isRow := goodIn_r _ [6] (by decide +kernel) (by decide +kernel)
set_option maxRecDepth 20000 in
theorem gX11_row_X11_isRow : GoodIn wsX11_row (va_wsS RX11 53 yX11_isRow wsX11_isRow) := goodIn_app (goodIn_of _ (by decide +kernel)) ggX11_row_X11_isRow
set_option maxRecDepth 20000 in
theorem ggX11_row_X11_found : GoodIn wsX11_row wsX11_found := goodIn_r _ [10, 11, 12, 28, 29, 30, 31, 32, 33, 34, 35, 36] (by decide +kernel) (by decide +kernel)
set_option maxRecDepth 20000 in
theorem gX11_row_X11_found : GoodIn wsX11_row (wsV RX11 58 RX11 yX11_found wsX11_found) := goodIn_app (goodIn_of _ (by decide +kernel)) ggX11_row_X11_found
set_option maxRecDepth 20000 in
theorem ggX11_row_X6_make : GoodIn wsX11_row wsX6_make := goodIn_r _ [16, 17, 18, 19, 20, 21, 22, 23, 37, 38, 39] (by decide +kernel) (by decide +kernel)
set_option maxRecDepth 20000 in
theorem gX11_row_X6_make_n62 : GoodIn wsX11_row (wsX6_make) := ggX11_row_X6_make
set_option maxRecDepth 20000 in
theorem ggX11_row_X11_fine : GoodIn wsX11_row wsX11_fine := goodIn_r _ [27, 11, 28, 29, 30, 31, 32, 33, 34, 35, 36] (by decide +kernel) (by decide +kernel)
set_option maxRecDepth 20000 in
theorem gX11_row_X11_fine : GoodIn wsX11_row (wsV RX11 66 RX11 yX11_fine wsX11_fine) := goodIn_app (goodIn_of _ (by decide +kernel)) ggX11_row_X11_fine
theorem dX11_row_0 : decode cX11_row 0 = .ok (.iload_n 1, 1) := by decide +kernel
theorem dX11_row_1 : decode cX11_row 1 = .ok (.invokestatic 53, 3) := by decide +kernel
theorem dX11_row_4 : decode cX11_row 4 = .ok (.ifCond .eq 18, 3) := by decide +kernel
theorem dX11_row_7 : decode cX11_row 7 = .ok (.iload_n 2, 1) := by decide +kernel
theorem dX11_row_8 : decode cX11_row 8 = .ok (.ifCond .lt 14, 3) := by decide +kernel
theorem dX11_row_11 : decode cX11_row 11 = .ok (.iload_n 2, 1) := by decide +kernel
theorem dX11_row_12 : decode cX11_row 12 = .ok (.iconst 2, 1) := by decide +kernel
theorem dX11_row_13 : decode cX11_row 13 = .ok (.if_icmp .gt 9, 3) := by decide +kernel
theorem dX11_row_16 : decode cX11_row 16 = .ok (.iload_n 3, 1) := by decide +kernel
theorem dX11_row_17 : decode cX11_row 17 = .ok (.bipush 40, 2) := by decide +kernel
theorem dX11_row_19 : decode cX11_row 19 = .ok (.if_icmp .le 6, 3) := by decide +kernel
theorem dX11_row_22 : decode cX11_row 22 = .ok (.ldc 57, 2) := by decide +kernel
theorem dX11_row_24 : decode cX11_row 24 = .ok (.ireturn, 1) := by decide +kernel
theorem dX11_row_25 : decode cX11_row 25 = .ok (.iload_n 3, 1) := by decide +kernel
theorem dX11_row_26 : decode cX11_row 26 = .ok (.ifCond .ge 9, 3) := by decide +kernel
theorem dX11_row_29 : decode cX11_row 29 = .ok (.aload_n 0, 1) := by decide +kernel
theorem dX11_row_30 : decode cX11_row 30 = .ok (.iconst 4, 1) := by decide +kernel
theorem dX11_row_31 : decode cX11_row 31 = .ok (.invokevirtual 58, 3) := by decide +kernel
theorem dX11_row_34 : decode cX11_row 34 = .ok (.ireturn, 1) := by decide +kernel
theorem dX11_row_35 : decode cX11_row 35 = .ok (.aload_n 0, 1) := by decide +kernel
theorem dX11_row_36 : decode cX11_row 36 = .ok (.getfield 12, 3) := by decide +kernel
theorem dX11_row_39 : decode cX11_row 39 = .ok (.iload_n 1, 1) := by decide +kernel
theorem dX11_row_40 : decode cX11_row 40 = .ok (.iload_n 2, 1) := by decide +kernel
theorem dX11_row_41 : decode cX11_row 41 = .ok (.iload_n 3, 1) := by decide +kernel
theorem dX11_row_42 : decode cX11_row 42 = .ok (.invokevirtual 62, 3) := by decide +kernel
theorem dX11_row_45 : decode cX11_row 45 = .ok (.aload_n 0, 1) := by decide +kernel
theorem dX11_row_46 : decode cX11_row 46 = .ok (.iload_n 3, 1) := by decide +kernel
theorem dX11_row_47 : decode cX11_row 47 = .ok (.invokevirtual 66, 3) := by decide +kernel
theorem dX11_row_50 : decode cX11_row 50 = .ok (.ireturn, 1) := by decide +kernel
set_option maxRecDepth 20000 in
theorem ggX11_set_X11_isRow : GoodIn wsX11_set wsX11_isRow := goodIn_r _ [6] (by decide +kernel) (by decide +kernel)
set_option maxRecDepth 20000 in
theorem gX11_set_X11_isRow : GoodIn wsX11_set (va_wsS RX11 53 yX11_isRow wsX11_isRow) := goodIn_app (goodIn_of _ (by decide +kernel)) ggX11_set_X11_isRow
set_option maxRecDepth 20000 in
theorem ggX11_set_X6_isMissing : GoodIn wsX11_set wsX6_isMissing := goodIn_r _ [10, 11, 39, 40, 41] (by decide +kernel) (by decide +kernel)
set_option maxRecDepth 20000 in
theorem gX11_set_X6_isMissing_n69 : GoodIn wsX11_set (wsX6_isMissing) := ggX11_set_X6_isMissing
set_option maxRecDepth 20000 in
theorem ggX11_set_X11_found : GoodIn wsX11_set wsX11_found := goodIn_r _ [15, 16, 17, 30, 31, 32, 33, 34, 35, 36, 37, 38] (by decide +kernel) (by decide +kernel)
set_option maxRecDepth 20000 in
theorem gX11_set_X11_found : GoodIn wsX11_set (wsV RX11 58 RX11 yX11_found wsX11_found) := goodIn_app (goodIn_of _ (by decide +kernel)) ggX11_set_X11_found
set_option maxRecDepth 20000 in
theorem ggX11_set_X6_sizeOf : GoodIn wsX11_set wsX6_sizeOf := goodIn_r _ [20, 11, 39, 40, 41] (by decide +kernel) (by decide +kernel)
set_option maxRecDepth 20000 in
theorem gX11_set_X6_sizeOf_n72 : GoodIn wsX11_set (wsX6_sizeOf) := ggX11_set_X6_sizeOf
set_option maxRecDepth 20000 in
theorem ggX11_set_X6_put : GoodIn wsX11_set wsX6_put := goodIn_r _ [23, 24, 25, 39, 40, 41] (by decide +kernel) (by decide +kernel)
set_option maxRecDepth 20000 in
theorem gX11_set_X6_put_n75 : GoodIn wsX11_set (wsX6_put) := ggX11_set_X6_put
set_option maxRecDepth 20000 in
theorem ggX11_set_X11_fine : GoodIn wsX11_set wsX11_fine := goodIn_r _ [29, 16, 30, 31, 32, 33, 34, 35, 36, 37, 38] (by decide +kernel) (by decide +kernel)
set_option maxRecDepth 20000 in
theorem gX11_set_X11_fine : GoodIn wsX11_set (wsV RX11 66 RX11 yX11_fine wsX11_fine) := goodIn_app (goodIn_of _ (by decide +kernel)) ggX11_set_X11_fine
theorem dX11_set_0 : decode cX11_set 0 = .ok (.iload_n 1, 1) := by decide +kernel
theorem dX11_set_1 : decode cX11_set 1 = .ok (.invokestatic 53, 3) := by decide +kernel
theorem dX11_set_4 : decode cX11_set 4 = .ok (.ifCond .ne 6, 3) := by decide +kernel
theorem dX11_set_7 : decode cX11_set 7 = .ok (.ldc 57, 2) := by decide +kernel
theorem dX11_set_9 : decode cX11_set 9 = .ok (.ireturn, 1) := by decide +kernel
theorem dX11_set_10 : decode cX11_set 10 = .ok (.aload_n 0, 1) := by decide +kernel
theorem dX11_set_11 : decode cX11_set 11 = .ok (.getfield 12, 3) := by decide +kernel
theorem dX11_set_14 : decode cX11_set 14 = .ok (.iload_n 1, 1) := by decide +kernel
theorem dX11_set_15 : decode cX11_set 15 = .ok (.invokevirtual 69, 3) := by decide +kernel
theorem dX11_set_18 : decode cX11_set 18 = .ok (.ifCond .eq 9, 3) := by decide +kernel
theorem dX11_set_21 : decode cX11_set 21 = .ok (.aload_n 0, 1) := by decide +kernel
theorem dX11_set_22 : decode cX11_set 22 = .ok (.iconst 1, 1) := by decide +kernel
theorem dX11_set_23 : decode cX11_set 23 = .ok (.invokevirtual 58, 3) := by decide +kernel
theorem dX11_set_26 : decode cX11_set 26 = .ok (.ireturn, 1) := by decide +kernel
theorem dX11_set_27 : decode cX11_set 27 = .ok (.iload_n 2, 1) := by decide +kernel
theorem dX11_set_28 : decode cX11_set 28 = .ok (.ifCond .lt 15, 3) := by decide +kernel
theorem dX11_set_31 : decode cX11_set 31 = .ok (.iload_n 2, 1) := by decide +kernel
theorem dX11_set_32 : decode cX11_set 32 = .ok (.aload_n 0, 1) := by decide +kernel
theorem dX11_set_33 : decode cX11_set 33 = .ok (.getfield 12, 3) := by decide +kernel
theorem dX11_set_36 : decode cX11_set 36 = .ok (.iload_n 1, 1) := by decide +kernel
theorem dX11_set_37 : decode cX11_set 37 = .ok (.invokevirtual 72, 3) := by decide +kernel
theorem dX11_set_40 : decode cX11_set 40 = .ok (.if_icmp .lt 9, 3) := by decide +kernel
theorem dX11_set_43 : decode cX11_set 43 = .ok (.aload_n 0, 1) := by decide +kernel
theorem dX11_set_44 : decode cX11_set 44 = .ok (.iconst 2, 1) := by decide +kernel
theorem dX11_set_45 : decode cX11_set 45 = .ok (.invokevirtual 58, 3) := by decide +kernel
theorem dX11_set_48 : decode cX11_set 48 = .ok (.ireturn, 1) := by decide +kernel
theorem dX11_set_49 : decode cX11_set 49 = .ok (.aload_n 0, 1) := by decide +kernel
theorem dX11_set_50 : decode cX11_set 50 = .ok (.aload_n 0, 1) := by decide +kernel
theorem dX11_set_51 : decode cX11_set 51 = .ok (.getfield 12, 3) := by decide +kernel
theorem dX11_set_54 : decode cX11_set 54 = .ok (.iload_n 1, 1) := by decide +kernel
theorem dX11_set_55 : decode cX11_set 55 = .ok (.iload_n 2, 1) := by decide +kernel
theorem dX11_set_56 : decode cX11_set 56 = .ok (.iload_n 3, 1) := by decide +kernel
theorem dX11_set_57 : decode cX11_set 57 = .ok (.invokevirtual 75, 3) := by decide +kernel
theorem dX11_set_60 : decode cX11_set 60 = .ok (.invokevirtual 66, 3) := by decide +kernel
theorem dX11_set_63 : decode cX11_set 63 = .ok (.ireturn, 1) := by decide +kernel
set_option maxRecDepth 20000 in
theorem ggX11_copy_X11_isRow : GoodIn wsX11_copy wsX11_isRow := goodIn_r _ [6] (by decide +kernel) (by decide +kernel)
set_option maxRecDepth 20000 in
theorem gX11_copy_X11_isRow : GoodIn wsX11_copy (va_wsS RX11 53 yX11_isRow wsX11_isRow) := goodIn_app (goodIn_of _ (by decide +kernel)) ggX11_copy_X11_isRow
set_option maxRecDepth 20000 in
theorem ggX11_copy_X6_isMissing : GoodIn wsX11_copy wsX6_isMissing := goodIn_r _ [10, 11, 46, 47, 48] (by decide +kernel) (by decide +kernel)
set_option maxRecDepth 20000 in
theorem gX11_copy_X6_isMissing_n69 : GoodIn wsX11_copy (wsX6_isMissing) := ggX11_copy_X6_isMissing
set_option maxRecDepth 20000 in
theorem ggX11_copy_X11_found : GoodIn wsX11_copy wsX11_found := goodIn_r _ [15, 16, 17, 37, 38, 39, 40, 41, 42, 43, 44, 45] (by decide +kernel) (by decide +kernel)
set_option maxRecDepth 20000 in
theorem gX11_copy_X11_found : GoodIn wsX11_copy (wsV RX11 58 RX11 yX11_found wsX11_found) := goodIn_app (goodIn_of _ (by decide +kernel)) ggX11_copy_X11_found
set_option maxRecDepth 20000 in
theorem ggX11_copy_X6_areOfOneLane : GoodIn wsX11_copy wsX6_areOfOneLane := goodIn_r _ [20, 21, 46, 47, 48] (by decide +kernel) (by decide +kernel)
set_option maxRecDepth 20000 in
theorem gX11_copy_X6_areOfOneLane_n79 : GoodIn wsX11_copy (wsX6_areOfOneLane) := ggX11_copy_X6_areOfOneLane
set_option maxRecDepth 20000 in
theorem ggX11_copy_X6_holds : GoodIn wsX11_copy wsX6_holds := goodIn_r _ [24, 11, 46, 47, 48] (by decide +kernel) (by decide +kernel)
set_option maxRecDepth 20000 in
theorem gX11_copy_X6_holds_n83 : GoodIn wsX11_copy (wsX6_holds) := ggX11_copy_X6_holds
set_option maxRecDepth 20000 in
theorem ggX11_copy_X6_move : GoodIn wsX11_copy wsX6_move := goodIn_r _ [27, 28, 29, 30, 31, 32, 46, 47, 48] (by decide +kernel) (by decide +kernel)
set_option maxRecDepth 20000 in
theorem gX11_copy_X6_move_n87 : GoodIn wsX11_copy (wsX6_move) := ggX11_copy_X6_move
set_option maxRecDepth 20000 in
theorem ggX11_copy_X11_fine : GoodIn wsX11_copy wsX11_fine := goodIn_r _ [36, 16, 37, 38, 39, 40, 41, 42, 43, 44, 45] (by decide +kernel) (by decide +kernel)
set_option maxRecDepth 20000 in
theorem gX11_copy_X11_fine : GoodIn wsX11_copy (wsV RX11 66 RX11 yX11_fine wsX11_fine) := goodIn_app (goodIn_of _ (by decide +kernel)) ggX11_copy_X11_fine
theorem dX11_copy_0 : decode cX11_copy 0 = .ok (.iload_n 1, 1) := by decide +kernel
theorem dX11_copy_1 : decode cX11_copy 1 = .ok (.invokestatic 53, 3) := by decide +kernel
theorem dX11_copy_4 : decode cX11_copy 4 = .ok (.ifCond .eq 10, 3) := by decide +kernel
theorem dX11_copy_7 : decode cX11_copy 7 = .ok (.iload_n 3, 1) := by decide +kernel
theorem dX11_copy_8 : decode cX11_copy 8 = .ok (.invokestatic 53, 3) := by decide +kernel
theorem dX11_copy_11 : decode cX11_copy 11 = .ok (.ifCond .ne 6, 3) := by decide +kernel
theorem dX11_copy_14 : decode cX11_copy 14 = .ok (.ldc 57, 2) := by decide +kernel
theorem dX11_copy_16 : decode cX11_copy 16 = .ok (.ireturn, 1) := by decide +kernel
theorem dX11_copy_17 : decode cX11_copy 17 = .ok (.aload_n 0, 1) := by decide +kernel
theorem dX11_copy_18 : decode cX11_copy 18 = .ok (.getfield 12, 3) := by decide +kernel
theorem dX11_copy_21 : decode cX11_copy 21 = .ok (.iload_n 1, 1) := by decide +kernel
theorem dX11_copy_22 : decode cX11_copy 22 = .ok (.invokevirtual 69, 3) := by decide +kernel
theorem dX11_copy_25 : decode cX11_copy 25 = .ok (.ifCond .ne 14, 3) := by decide +kernel
theorem dX11_copy_28 : decode cX11_copy 28 = .ok (.aload_n 0, 1) := by decide +kernel
theorem dX11_copy_29 : decode cX11_copy 29 = .ok (.getfield 12, 3) := by decide +kernel
theorem dX11_copy_32 : decode cX11_copy 32 = .ok (.iload_n 3, 1) := by decide +kernel
theorem dX11_copy_33 : decode cX11_copy 33 = .ok (.invokevirtual 69, 3) := by decide +kernel
theorem dX11_copy_36 : decode cX11_copy 36 = .ok (.ifCond .eq 9, 3) := by decide +kernel
theorem dX11_copy_39 : decode cX11_copy 39 = .ok (.aload_n 0, 1) := by decide +kernel
theorem dX11_copy_40 : decode cX11_copy 40 = .ok (.iconst 1, 1) := by decide +kernel
theorem dX11_copy_41 : decode cX11_copy 41 = .ok (.invokevirtual 58, 3) := by decide +kernel
theorem dX11_copy_44 : decode cX11_copy 44 = .ok (.ireturn, 1) := by decide +kernel
theorem dX11_copy_45 : decode cX11_copy 45 = .ok (.aload_n 0, 1) := by decide +kernel
theorem dX11_copy_46 : decode cX11_copy 46 = .ok (.getfield 12, 3) := by decide +kernel
theorem dX11_copy_49 : decode cX11_copy 49 = .ok (.iload_n 1, 1) := by decide +kernel
theorem dX11_copy_50 : decode cX11_copy 50 = .ok (.iload_n 3, 1) := by decide +kernel
theorem dX11_copy_51 : decode cX11_copy 51 = .ok (.invokevirtual 79, 3) := by decide +kernel
theorem dX11_copy_54 : decode cX11_copy 54 = .ok (.ifCond .ne 9, 3) := by decide +kernel
theorem dX11_copy_57 : decode cX11_copy 57 = .ok (.aload_n 0, 1) := by decide +kernel
theorem dX11_copy_58 : decode cX11_copy 58 = .ok (.iconst 5, 1) := by decide +kernel
theorem dX11_copy_59 : decode cX11_copy 59 = .ok (.invokevirtual 58, 3) := by decide +kernel
theorem dX11_copy_62 : decode cX11_copy 62 = .ok (.ireturn, 1) := by decide +kernel
theorem dX11_copy_63 : decode cX11_copy 63 = .ok (.aload_n 0, 1) := by decide +kernel
theorem dX11_copy_64 : decode cX11_copy 64 = .ok (.getfield 12, 3) := by decide +kernel
theorem dX11_copy_67 : decode cX11_copy 67 = .ok (.iload_n 1, 1) := by decide +kernel
theorem dX11_copy_68 : decode cX11_copy 68 = .ok (.iload_n 2, 1) := by decide +kernel
theorem dX11_copy_69 : decode cX11_copy 69 = .ok (.iload 5, 2) := by decide +kernel
theorem dX11_copy_71 : decode cX11_copy 71 = .ok (.invokevirtual 83, 3) := by decide +kernel
theorem dX11_copy_74 : decode cX11_copy 74 = .ok (.ifCond .eq 18, 3) := by decide +kernel
theorem dX11_copy_77 : decode cX11_copy 77 = .ok (.aload_n 0, 1) := by decide +kernel
theorem dX11_copy_78 : decode cX11_copy 78 = .ok (.getfield 12, 3) := by decide +kernel
theorem dX11_copy_81 : decode cX11_copy 81 = .ok (.iload_n 3, 1) := by decide +kernel
theorem dX11_copy_82 : decode cX11_copy 82 = .ok (.iload 4, 2) := by decide +kernel
theorem dX11_copy_84 : decode cX11_copy 84 = .ok (.iload 5, 2) := by decide +kernel
theorem dX11_copy_86 : decode cX11_copy 86 = .ok (.invokevirtual 83, 3) := by decide +kernel
theorem dX11_copy_89 : decode cX11_copy 89 = .ok (.ifCond .ne 9, 3) := by decide +kernel
theorem dX11_copy_92 : decode cX11_copy 92 = .ok (.aload_n 0, 1) := by decide +kernel
theorem dX11_copy_93 : decode cX11_copy 93 = .ok (.iconst 2, 1) := by decide +kernel
theorem dX11_copy_94 : decode cX11_copy 94 = .ok (.invokevirtual 58, 3) := by decide +kernel
theorem dX11_copy_97 : decode cX11_copy 97 = .ok (.ireturn, 1) := by decide +kernel
theorem dX11_copy_98 : decode cX11_copy 98 = .ok (.aload_n 0, 1) := by decide +kernel
theorem dX11_copy_99 : decode cX11_copy 99 = .ok (.getfield 12, 3) := by decide +kernel
theorem dX11_copy_102 : decode cX11_copy 102 = .ok (.iload_n 1, 1) := by decide +kernel
theorem dX11_copy_103 : decode cX11_copy 103 = .ok (.iload_n 2, 1) := by decide +kernel
theorem dX11_copy_104 : decode cX11_copy 104 = .ok (.iload_n 3, 1) := by decide +kernel
theorem dX11_copy_105 : decode cX11_copy 105 = .ok (.iload 4, 2) := by decide +kernel
theorem dX11_copy_107 : decode cX11_copy 107 = .ok (.iload 5, 2) := by decide +kernel
theorem dX11_copy_109 : decode cX11_copy 109 = .ok (.invokevirtual 87, 3) := by decide +kernel
theorem dX11_copy_112 : decode cX11_copy 112 = .ok (.aload_n 0, 1) := by decide +kernel
theorem dX11_copy_113 : decode cX11_copy 113 = .ok (.iload 5, 2) := by decide +kernel
theorem dX11_copy_115 : decode cX11_copy 115 = .ok (.invokevirtual 66, 3) := by decide +kernel
theorem dX11_copy_118 : decode cX11_copy 118 = .ok (.ireturn, 1) := by decide +kernel
set_option maxRecDepth 20000 in
theorem ggX11_drop_X11_isRow : GoodIn wsX11_drop wsX11_isRow := goodIn_r _ [6] (by decide +kernel) (by decide +kernel)
set_option maxRecDepth 20000 in
theorem gX11_drop_X11_isRow : GoodIn wsX11_drop (va_wsS RX11 53 yX11_isRow wsX11_isRow) := goodIn_app (goodIn_of _ (by decide +kernel)) ggX11_drop_X11_isRow
set_option maxRecDepth 20000 in
theorem ggX11_drop_X6_isMissing : GoodIn wsX11_drop wsX6_isMissing := goodIn_r _ [10, 11, 34, 35, 36] (by decide +kernel) (by decide +kernel)
set_option maxRecDepth 20000 in
theorem gX11_drop_X6_isMissing_n69 : GoodIn wsX11_drop (wsX6_isMissing) := ggX11_drop_X6_isMissing
set_option maxRecDepth 20000 in
theorem ggX11_drop_X11_found : GoodIn wsX11_drop wsX11_found := goodIn_r _ [15, 16, 17, 25, 26, 27, 28, 29, 30, 31, 32, 33] (by decide +kernel) (by decide +kernel)
set_option maxRecDepth 20000 in
theorem gX11_drop_X11_found : GoodIn wsX11_drop (wsV RX11 58 RX11 yX11_found wsX11_found) := goodIn_app (goodIn_of _ (by decide +kernel)) ggX11_drop_X11_found
set_option maxRecDepth 20000 in
theorem ggX11_drop_X6_remove : GoodIn wsX11_drop wsX6_remove := goodIn_r _ [20, 11, 34, 35, 36] (by decide +kernel) (by decide +kernel)
set_option maxRecDepth 20000 in
theorem gX11_drop_X6_remove_n91 : GoodIn wsX11_drop (wsX6_remove) := ggX11_drop_X6_remove
set_option maxRecDepth 20000 in
theorem ggX11_drop_X11_fine : GoodIn wsX11_drop wsX11_fine := goodIn_r _ [24, 16, 25, 26, 27, 28, 29, 30, 31, 32, 33] (by decide +kernel) (by decide +kernel)
set_option maxRecDepth 20000 in
theorem gX11_drop_X11_fine : GoodIn wsX11_drop (wsV RX11 66 RX11 yX11_fine wsX11_fine) := goodIn_app (goodIn_of _ (by decide +kernel)) ggX11_drop_X11_fine
theorem dX11_drop_0 : decode cX11_drop 0 = .ok (.iload_n 1, 1) := by decide +kernel
theorem dX11_drop_1 : decode cX11_drop 1 = .ok (.invokestatic 53, 3) := by decide +kernel
theorem dX11_drop_4 : decode cX11_drop 4 = .ok (.ifCond .ne 6, 3) := by decide +kernel
theorem dX11_drop_7 : decode cX11_drop 7 = .ok (.ldc 57, 2) := by decide +kernel
theorem dX11_drop_9 : decode cX11_drop 9 = .ok (.ireturn, 1) := by decide +kernel
theorem dX11_drop_10 : decode cX11_drop 10 = .ok (.aload_n 0, 1) := by decide +kernel
theorem dX11_drop_11 : decode cX11_drop 11 = .ok (.getfield 12, 3) := by decide +kernel
theorem dX11_drop_14 : decode cX11_drop 14 = .ok (.iload_n 1, 1) := by decide +kernel
theorem dX11_drop_15 : decode cX11_drop 15 = .ok (.invokevirtual 69, 3) := by decide +kernel
theorem dX11_drop_18 : decode cX11_drop 18 = .ok (.ifCond .eq 9, 3) := by decide +kernel
theorem dX11_drop_21 : decode cX11_drop 21 = .ok (.aload_n 0, 1) := by decide +kernel
theorem dX11_drop_22 : decode cX11_drop 22 = .ok (.iconst 1, 1) := by decide +kernel
theorem dX11_drop_23 : decode cX11_drop 23 = .ok (.invokevirtual 58, 3) := by decide +kernel
theorem dX11_drop_26 : decode cX11_drop 26 = .ok (.ireturn, 1) := by decide +kernel
theorem dX11_drop_27 : decode cX11_drop 27 = .ok (.aload_n 0, 1) := by decide +kernel
theorem dX11_drop_28 : decode cX11_drop 28 = .ok (.aload_n 0, 1) := by decide +kernel
theorem dX11_drop_29 : decode cX11_drop 29 = .ok (.getfield 12, 3) := by decide +kernel
theorem dX11_drop_32 : decode cX11_drop 32 = .ok (.iload_n 1, 1) := by decide +kernel
theorem dX11_drop_33 : decode cX11_drop 33 = .ok (.invokevirtual 91, 3) := by decide +kernel
theorem dX11_drop_36 : decode cX11_drop 36 = .ok (.invokevirtual 66, 3) := by decide +kernel
theorem dX11_drop_39 : decode cX11_drop 39 = .ok (.ireturn, 1) := by decide +kernel
set_option maxRecDepth 20000 in
theorem ggX11_feed_X5_append : GoodIn wsX11_feed wsX5_append := goodIn_r _ [7, 8, 9, 19, 20, 21, 22, 23, 24, 25, 26] (by decide +kernel) (by decide +kernel)
set_option maxRecDepth 20000 in
theorem gX11_feed_X5_append_n99 : GoodIn wsX11_feed (wsX5_append) := ggX11_feed_X5_append
theorem dX11_feed_0 : decode cX11_feed 0 = .ok (.iload_n 3, 1) := by decide +kernel
theorem dX11_feed_1 : decode cX11_feed 1 = .ok (.iconst 1, 1) := by decide +kernel
theorem dX11_feed_2 : decode cX11_feed 2 = .ok (.if_icmp .lt 9, 3) := by decide +kernel
theorem dX11_feed_5 : decode cX11_feed 5 = .ok (.iload_n 3, 1) := by decide +kernel
theorem dX11_feed_6 : decode cX11_feed 6 = .ok (.bipush 8, 2) := by decide +kernel
theorem dX11_feed_8 : decode cX11_feed 8 = .ok (.if_icmp .le 6, 3) := by decide +kernel
theorem dX11_feed_11 : decode cX11_feed 11 = .ok (.ldc 57, 2) := by decide +kernel
theorem dX11_feed_13 : decode cX11_feed 13 = .ok (.ireturn, 1) := by decide +kernel
theorem dX11_feed_14 : decode cX11_feed 14 = .ok (.aload_n 0, 1) := by decide +kernel
theorem dX11_feed_15 : decode cX11_feed 15 = .ok (.getfield 19, 3) := by decide +kernel
theorem dX11_feed_18 : decode cX11_feed 18 = .ok (.getfield 94, 3) := by decide +kernel
theorem dX11_feed_21 : decode cX11_feed 21 = .ok (.iload_n 3, 1) := by decide +kernel
theorem dX11_feed_22 : decode cX11_feed 22 = .ok (.iadd, 1) := by decide +kernel
theorem dX11_feed_23 : decode cX11_feed 23 = .ok (.sipush 400, 3) := by decide +kernel
theorem dX11_feed_26 : decode cX11_feed 26 = .ok (.if_icmp .le 6, 3) := by decide +kernel
theorem dX11_feed_29 : decode cX11_feed 29 = .ok (.ldc 98, 2) := by decide +kernel
theorem dX11_feed_31 : decode cX11_feed 31 = .ok (.ireturn, 1) := by decide +kernel
theorem dX11_feed_32 : decode cX11_feed 32 = .ok (.aload_n 0, 1) := by decide +kernel
theorem dX11_feed_33 : decode cX11_feed 33 = .ok (.getfield 19, 3) := by decide +kernel
theorem dX11_feed_36 : decode cX11_feed 36 = .ok (.lload_n 1, 1) := by decide +kernel
theorem dX11_feed_37 : decode cX11_feed 37 = .ok (.iload_n 3, 1) := by decide +kernel
theorem dX11_feed_38 : decode cX11_feed 38 = .ok (.invokevirtual 99, 3) := by decide +kernel
theorem dX11_feed_41 : decode cX11_feed 41 = .ok (.aload_n 0, 1) := by decide +kernel
theorem dX11_feed_42 : decode cX11_feed 42 = .ok (.getfield 19, 3) := by decide +kernel
theorem dX11_feed_45 : decode cX11_feed 45 = .ok (.getfield 94, 3) := by decide +kernel
theorem dX11_feed_48 : decode cX11_feed 48 = .ok (.ireturn, 1) := by decide +kernel
set_option maxRecDepth 20000 in
theorem ggX11_ground_X5_readsInto : GoodIn wsX11_ground wsX5_readsInto := goodIn_r _ [8, 9, 10, 11, 12, 13, 14, 15, 16, 17, 18, 19, 20, 21, 22, 23, 24, 25, 26, 27, 28, 6, 29, 30, 31, 32, 33, 34, 35, 36, 37, 38, 39, 40, 41, 42, 43, 44, 45, 46, 47, 48, 49, 50, 51, 52, 53, 54, 55, 56, 57, 58, 59, 60, 61, 62, 63, 64, 65, 66, 67, 68, 69, 70, 71, 72, 73, 74, 75, 76, 77, 78, 79, 80, 81, 82, 83, 84, 85, 86, 87, 88, 89, 90, 91, 92, 93, 94, 95, 96, 97, 98, 99, 100, 101, 102, 103, 104, 105, 106, 107, 108, 109, 110, 111, 112, 113, 114, 115, 116, 117, 118, 119, 120, 121, 122, 123, 124, 125, 126, 127, 128, 129, 130, 131, 132, 133, 134, 135, 136, 137, 138, 139, 140, 141, 142, 143, 144, 145, 146, 147, 148, 149, 150, 151, 152, 153, 154, 155, 156, 157, 158, 159, 160, 161, 162, 163, 164, 165, 166, 167, 168, 169, 170, 171, 172, 173, 174, 175, 176, 177, 178, 179, 180, 181, 182, 183, 184, 185, 186, 187, 188, 189, 190, 191, 192, 193, 203, 204, 205, 206, 207, 208, 209, 210, 211, 212, 213, 214, 215, 216, 217, 218, 219, 220, 221, 222, 223, 224, 225, 226, 227, 228, 229, 230, 231, 232, 233, 234, 235, 236] (by decide +kernel) (by decide +kernel)
set_option maxRecDepth 20000 in
theorem gX11_ground_X5_readsInto_n103 : GoodIn wsX11_ground (wsX5_readsInto) := ggX11_ground_X5_readsInto
theorem dX11_ground_0 : decode cX11_ground 0 = .ok (.aload_n 0, 1) := by decide +kernel
theorem dX11_ground_1 : decode cX11_ground 1 = .ok (.getfield 19, 3) := by decide +kernel
theorem dX11_ground_4 : decode cX11_ground 4 = .ok (.aload_n 0, 1) := by decide +kernel
theorem dX11_ground_5 : decode cX11_ground 5 = .ok (.getfield 50, 3) := by decide +kernel
theorem dX11_ground_8 : decode cX11_ground 8 = .ok (.invokevirtual 103, 3) := by decide +kernel
theorem dX11_ground_11 : decode cX11_ground 11 = .ok (.ifCond .ne 14, 3) := by decide +kernel
theorem dX11_ground_14 : decode cX11_ground 14 = .ok (.ldc 107, 2) := by decide +kernel
theorem dX11_ground_16 : decode cX11_ground 16 = .ok (.aload_n 0, 1) := by decide +kernel
theorem dX11_ground_17 : decode cX11_ground 17 = .ok (.getfield 19, 3) := by decide +kernel
theorem dX11_ground_20 : decode cX11_ground 20 = .ok (.getfield 108, 3) := by decide +kernel
theorem dX11_ground_23 : decode cX11_ground 23 = .ok (.isub, 1) := by decide +kernel
theorem dX11_ground_24 : decode cX11_ground 24 = .ok (.ireturn, 1) := by decide +kernel
theorem dX11_ground_25 : decode cX11_ground 25 = .ok (.aload_n 0, 1) := by decide +kernel
theorem dX11_ground_26 : decode cX11_ground 26 = .ok (.getfield 47, 3) := by decide +kernel
theorem dX11_ground_29 : decode cX11_ground 29 = .ok (.astore_n 1, 1) := by decide +kernel
theorem dX11_ground_30 : decode cX11_ground 30 = .ok (.aload_n 0, 1) := by decide +kernel
theorem dX11_ground_31 : decode cX11_ground 31 = .ok (.aload_n 0, 1) := by decide +kernel
theorem dX11_ground_32 : decode cX11_ground 32 = .ok (.getfield 50, 3) := by decide +kernel
theorem dX11_ground_35 : decode cX11_ground 35 = .ok (.putfield 47, 3) := by decide +kernel
theorem dX11_ground_38 : decode cX11_ground 38 = .ok (.aload_n 0, 1) := by decide +kernel
theorem dX11_ground_39 : decode cX11_ground 39 = .ok (.aload_n 1, 1) := by decide +kernel
theorem dX11_ground_40 : decode cX11_ground 40 = .ok (.putfield 50, 3) := by decide +kernel
theorem dX11_ground_43 : decode cX11_ground 43 = .ok (.aload_n 0, 1) := by decide +kernel
theorem dX11_ground_44 : decode cX11_ground 44 = .ok (.getfield 47, 3) := by decide +kernel
theorem dX11_ground_47 : decode cX11_ground 47 = .ok (.getfield 111, 3) := by decide +kernel
theorem dX11_ground_50 : decode cX11_ground 50 = .ok (.ireturn, 1) := by decide +kernel
theorem dX11_fault_0 : decode cX11_fault 0 = .ok (.aload_n 0, 1) := by decide +kernel
theorem dX11_fault_1 : decode cX11_fault 1 = .ok (.getfield 19, 3) := by decide +kernel
theorem dX11_fault_4 : decode cX11_fault 4 = .ok (.getfield 114, 3) := by decide +kernel
theorem dX11_fault_7 : decode cX11_fault 7 = .ok (.ireturn, 1) := by decide +kernel
set_option maxRecDepth 20000 in
theorem ggX11_day_X11_isMove : GoodIn wsX11_day wsX11_isMove := goodIn_r _ [8] (by decide +kernel) (by decide +kernel)
set_option maxRecDepth 20000 in
theorem gX11_day_X11_isMove : GoodIn wsX11_day (va_wsS RX11 122 yX11_isMove wsX11_isMove) := goodIn_app (goodIn_of _ (by decide +kernel)) ggX11_day_X11_isMove
set_option maxRecDepth 20000 in
theorem ggX11_day_X4_endOn : GoodIn wsX11_day wsX4_endOn := goodIn_r _ [12, 13, 14, 15, 116, 117, 118, 119, 120, 121, 122, 123, 124, 125, 126] (by decide +kernel) (by decide +kernel)
set_option maxRecDepth 20000 in
theorem gX11_day_X4_endOn_n125 : GoodIn wsX11_day (wsX4_endOn) := ggX11_day_X4_endOn
set_option maxRecDepth 20000 in
theorem ggX11_day_X4_isOpen : GoodIn wsX11_day wsX4_isOpen := goodIn_r _ [18, 19, 20, 116, 117, 118, 119, 120, 121, 122, 123, 124, 125, 126] (by decide +kernel) (by decide +kernel)
set_option maxRecDepth 20000 in
theorem gX11_day_X4_isOpen_n131 : GoodIn wsX11_day (wsX4_isOpen) := ggX11_day_X4_isOpen
set_option maxRecDepth 20000 in
theorem ggX11_day_X8_gather : GoodIn wsX11_day wsX8_gather := goodIn_r _ [24, 25, 26, 27, 28, 29, 10, 30, 31, 32, 33, 34, 35, 36, 37, 38, 39, 40, 41, 42, 43, 44, 45, 46, 47, 48, 49, 50, 51, 52, 53, 54, 55, 56, 57, 58, 59, 60, 61, 62, 63, 64, 65, 66, 67, 68, 69, 70, 71, 72, 73, 74, 75, 76, 77, 78, 79, 80, 81, 82, 83, 84, 85, 86, 127, 128, 129, 130, 131, 132, 133, 134, 135, 136, 137, 138, 139, 140, 141, 142, 116, 117, 118, 119, 120, 121, 122, 123, 124, 125, 126, 143, 144, 145, 146, 147, 148, 149, 150, 151, 152, 153, 154, 155, 156, 157] (by decide +kernel) (by decide +kernel)
set_option maxRecDepth 20000 in
theorem gX11_day_X8_gather_n134 : GoodIn wsX11_day (wsX8_gather) := ggX11_day_X8_gather
set_option maxRecDepth 20000 in
theorem ggX11_day_X8_leftReaps : GoodIn wsX11_day wsX8_leftReaps := goodIn_r _ [89, 25, 26, 28, 90, 27, 91, 7, 92, 93, 94, 71, 95, 96, 70, 72, 97, 98, 127, 128, 129, 130, 131, 132, 133, 134, 135, 136, 137, 138, 139, 140, 141, 142] (by decide +kernel) (by decide +kernel)
set_option maxRecDepth 20000 in
theorem gX11_day_X8_leftReaps_n138 : GoodIn wsX11_day (wsX8_leftReaps) := ggX11_day_X8_leftReaps
set_option maxRecDepth 20000 in
theorem ggX11_day_X8_allReaps : GoodIn wsX11_day wsX8_allReaps := goodIn_r _ [101, 25, 27, 90, 127, 128, 129, 130, 131, 132, 133, 134, 135, 136, 137, 138, 139, 140, 141, 142] (by decide +kernel) (by decide +kernel)
set_option maxRecDepth 20000 in
theorem gX11_day_X8_allReaps_n142 : GoodIn wsX11_day (wsX8_allReaps) := ggX11_day_X8_allReaps
set_option maxRecDepth 20000 in
theorem ggX11_day_X4_passDay : GoodIn wsX11_day wsX4_passDay := goodIn_r _ [104, 14, 13, 15, 105, 106, 116, 117, 118, 119, 120, 121, 122, 123, 124, 125, 126] (by decide +kernel) (by decide +kernel)
set_option maxRecDepth 20000 in
theorem gX11_day_X4_passDay_n146 : GoodIn wsX11_day (wsX4_passDay) := ggX11_day_X4_passDay
theorem dX11_day_0 : decode cX11_day 0 = .ok (.aload_n 0, 1) := by decide +kernel
theorem dX11_day_1 : decode cX11_day 1 = .ok (.getfield 47, 3) := by decide +kernel
theorem dX11_day_4 : decode cX11_day 4 = .ok (.getfield 117, 3) := by decide +kernel
theorem dX11_day_7 : decode cX11_day 7 = .ok (.ifCond .ne 6, 3) := by decide +kernel
theorem dX11_day_10 : decode cX11_day 10 = .ok (.ldc 121, 2) := by decide +kernel
theorem dX11_day_12 : decode cX11_day 12 = .ok (.ireturn, 1) := by decide +kernel
theorem dX11_day_13 : decode cX11_day 13 = .ok (.iload_n 1, 1) := by decide +kernel
theorem dX11_day_14 : decode cX11_day 14 = .ok (.invokestatic 122, 3) := by decide +kernel
theorem dX11_day_17 : decode cX11_day 17 = .ok (.ifCond .eq 10, 3) := by decide +kernel
theorem dX11_day_20 : decode cX11_day 20 = .ok (.iload_n 2, 1) := by decide +kernel
theorem dX11_day_21 : decode cX11_day 21 = .ok (.invokestatic 122, 3) := by decide +kernel
theorem dX11_day_24 : decode cX11_day 24 = .ok (.ifCond .ne 6, 3) := by decide +kernel
theorem dX11_day_27 : decode cX11_day 27 = .ok (.ldc 57, 2) := by decide +kernel
theorem dX11_day_29 : decode cX11_day 29 = .ok (.ireturn, 1) := by decide +kernel
theorem dX11_day_30 : decode cX11_day 30 = .ok (.aload_n 0, 1) := by decide +kernel
theorem dX11_day_31 : decode cX11_day 31 = .ok (.getfield 47, 3) := by decide +kernel
theorem dX11_day_34 : decode cX11_day 34 = .ok (.iconst 0, 1) := by decide +kernel
theorem dX11_day_35 : decode cX11_day 35 = .ok (.invokevirtual 125, 3) := by decide +kernel
theorem dX11_day_38 : decode cX11_day 38 = .ok (.iload_n 1, 1) := by decide +kernel
theorem dX11_day_39 : decode cX11_day 39 = .ok (.iadd, 1) := by decide +kernel
theorem dX11_day_40 : decode cX11_day 40 = .ok (.istore_n 3, 1) := by decide +kernel
theorem dX11_day_41 : decode cX11_day 41 = .ok (.aload_n 0, 1) := by decide +kernel
theorem dX11_day_42 : decode cX11_day 42 = .ok (.getfield 47, 3) := by decide +kernel
theorem dX11_day_45 : decode cX11_day 45 = .ok (.iconst 1, 1) := by decide +kernel
theorem dX11_day_46 : decode cX11_day 46 = .ok (.invokevirtual 125, 3) := by decide +kernel
theorem dX11_day_49 : decode cX11_day 49 = .ok (.iload_n 2, 1) := by decide +kernel
theorem dX11_day_50 : decode cX11_day 50 = .ok (.iadd, 1) := by decide +kernel
theorem dX11_day_51 : decode cX11_day 51 = .ok (.istore 4, 2) := by decide +kernel
theorem dX11_day_53 : decode cX11_day 53 = .ok (.aload_n 0, 1) := by decide +kernel
theorem dX11_day_54 : decode cX11_day 54 = .ok (.getfield 47, 3) := by decide +kernel
theorem dX11_day_57 : decode cX11_day 57 = .ok (.getfield 128, 3) := by decide +kernel
theorem dX11_day_60 : decode cX11_day 60 = .ok (.bipush 12, 2) := by decide +kernel
theorem dX11_day_62 : decode cX11_day 62 = .ok (.if_icmp .ge 28, 3) := by decide +kernel
theorem dX11_day_65 : decode cX11_day 65 = .ok (.aload_n 0, 1) := by decide +kernel
theorem dX11_day_66 : decode cX11_day 66 = .ok (.getfield 47, 3) := by decide +kernel
theorem dX11_day_69 : decode cX11_day 69 = .ok (.iconst 0, 1) := by decide +kernel
theorem dX11_day_70 : decode cX11_day 70 = .ok (.iload_n 3, 1) := by decide +kernel
theorem dX11_day_71 : decode cX11_day 71 = .ok (.invokevirtual 131, 3) := by decide +kernel
theorem dX11_day_74 : decode cX11_day 74 = .ok (.ifCond .eq 16, 3) := by decide +kernel
theorem dX11_day_77 : decode cX11_day 77 = .ok (.aload_n 0, 1) := by decide +kernel
theorem dX11_day_78 : decode cX11_day 78 = .ok (.getfield 47, 3) := by decide +kernel
theorem dX11_day_81 : decode cX11_day 81 = .ok (.iconst 1, 1) := by decide +kernel
theorem dX11_day_82 : decode cX11_day 82 = .ok (.iload 4, 2) := by decide +kernel
theorem dX11_day_84 : decode cX11_day 84 = .ok (.invokevirtual 131, 3) := by decide +kernel
theorem dX11_day_87 : decode cX11_day 87 = .ok (.ifCond .ne 6, 3) := by decide +kernel
theorem dX11_day_90 : decode cX11_day 90 = .ok (.ldc 121, 2) := by decide +kernel
theorem dX11_day_92 : decode cX11_day 92 = .ok (.ireturn, 1) := by decide +kernel
theorem dX11_day_93 : decode cX11_day 93 = .ok (.aload_n 0, 1) := by decide +kernel
theorem dX11_day_94 : decode cX11_day 94 = .ok (.getfield 26, 3) := by decide +kernel
theorem dX11_day_97 : decode cX11_day 97 = .ok (.aload_n 0, 1) := by decide +kernel
theorem dX11_day_98 : decode cX11_day 98 = .ok (.getfield 47, 3) := by decide +kernel
theorem dX11_day_101 : decode cX11_day 101 = .ok (.aload_n 0, 1) := by decide +kernel
theorem dX11_day_102 : decode cX11_day 102 = .ok (.getfield 47, 3) := by decide +kernel
theorem dX11_day_105 : decode cX11_day 105 = .ok (.getfield 128, 3) := by decide +kernel
theorem dX11_day_108 : decode cX11_day 108 = .ok (.invokevirtual 134, 3) := by decide +kernel
theorem dX11_day_111 : decode cX11_day 111 = .ok (.aload_n 0, 1) := by decide +kernel
theorem dX11_day_112 : decode cX11_day 112 = .ok (.getfield 26, 3) := by decide +kernel
theorem dX11_day_115 : decode cX11_day 115 = .ok (.iload_n 3, 1) := by decide +kernel
theorem dX11_day_116 : decode cX11_day 116 = .ok (.iload 4, 2) := by decide +kernel
theorem dX11_day_118 : decode cX11_day 118 = .ok (.invokevirtual 138, 3) := by decide +kernel
theorem dX11_day_121 : decode cX11_day 121 = .ok (.istore 5, 2) := by decide +kernel
theorem dX11_day_123 : decode cX11_day 123 = .ok (.aload_n 0, 1) := by decide +kernel
theorem dX11_day_124 : decode cX11_day 124 = .ok (.getfield 47, 3) := by decide +kernel
theorem dX11_day_127 : decode cX11_day 127 = .ok (.iload_n 3, 1) := by decide +kernel
theorem dX11_day_128 : decode cX11_day 128 = .ok (.iload 4, 2) := by decide +kernel
theorem dX11_day_130 : decode cX11_day 130 = .ok (.iload 5, 2) := by decide +kernel
theorem dX11_day_132 : decode cX11_day 132 = .ok (.aload_n 0, 1) := by decide +kernel
theorem dX11_day_133 : decode cX11_day 133 = .ok (.getfield 26, 3) := by decide +kernel
theorem dX11_day_136 : decode cX11_day 136 = .ok (.invokevirtual 142, 3) := by decide +kernel
theorem dX11_day_139 : decode cX11_day 139 = .ok (.iload 5, 2) := by decide +kernel
theorem dX11_day_141 : decode cX11_day 141 = .ok (.isub, 1) := by decide +kernel
theorem dX11_day_142 : decode cX11_day 142 = .ok (.invokevirtual 146, 3) := by decide +kernel
theorem dX11_day_145 : decode cX11_day 145 = .ok (.bipush 13, 2) := by decide +kernel
theorem dX11_day_147 : decode cX11_day 147 = .ok (.iload_n 3, 1) := by decide +kernel
theorem dX11_day_148 : decode cX11_day 148 = .ok (.imul, 1) := by decide +kernel
theorem dX11_day_149 : decode cX11_day 149 = .ok (.iload 4, 2) := by decide +kernel
theorem dX11_day_151 : decode cX11_day 151 = .ok (.iadd, 1) := by decide +kernel
theorem dX11_day_152 : decode cX11_day 152 = .ok (.ireturn, 1) := by decide +kernel
theorem dX11_undo_0 : decode cX11_undo 0 = .ok (.aload_n 0, 1) := by decide +kernel
theorem dX11_undo_1 : decode cX11_undo 1 = .ok (.getfield 47, 3) := by decide +kernel
theorem dX11_undo_4 : decode cX11_undo 4 = .ok (.getfield 128, 3) := by decide +kernel
theorem dX11_undo_7 : decode cX11_undo 7 = .ok (.iconst 1, 1) := by decide +kernel
theorem dX11_undo_8 : decode cX11_undo 8 = .ok (.if_icmp .ge 6, 3) := by decide +kernel
theorem dX11_undo_11 : decode cX11_undo 11 = .ok (.ldc 121, 2) := by decide +kernel
theorem dX11_undo_13 : decode cX11_undo 13 = .ok (.ireturn, 1) := by decide +kernel
theorem dX11_undo_14 : decode cX11_undo 14 = .ok (.aload_n 0, 1) := by decide +kernel
theorem dX11_undo_15 : decode cX11_undo 15 = .ok (.getfield 47, 3) := by decide +kernel
theorem dX11_undo_18 : decode cX11_undo 18 = .ok (.dup, 1) := by decide +kernel
theorem dX11_undo_19 : decode cX11_undo 19 = .ok (.getfield 128, 3) := by decide +kernel
theorem dX11_undo_22 : decode cX11_undo 22 = .ok (.iconst 1, 1) := by decide +kernel
theorem dX11_undo_23 : decode cX11_undo 23 = .ok (.isub, 1) := by decide +kernel
theorem dX11_undo_24 : decode cX11_undo 24 = .ok (.putfield 128, 3) := by decide +kernel
theorem dX11_undo_27 : decode cX11_undo 27 = .ok (.aload_n 0, 1) := by decide +kernel
theorem dX11_undo_28 : decode cX11_undo 28 = .ok (.getfield 47, 3) := by decide +kernel
theorem dX11_undo_31 : decode cX11_undo 31 = .ok (.getfield 128, 3) := by decide +kernel
theorem dX11_undo_34 : decode cX11_undo 34 = .ok (.ireturn, 1) := by decide +kernel
set_option maxRecDepth 20000 in
theorem ggX11_strip_X4_toldStrip : GoodIn wsX11_strip wsX4_toldStrip := goodIn_r _ [8, 9, 10, 67, 68, 69, 70, 71, 72, 73, 74, 75, 76, 77] (by decide +kernel) (by decide +kernel)
set_option maxRecDepth 20000 in
theorem gX11_strip_X4_toldStrip_n150 : GoodIn wsX11_strip (wsX4_toldStrip) := ggX11_strip_X4_toldStrip
set_option maxRecDepth 20000 in
theorem ggX11_strip_X11_shareNow : GoodIn wsX11_strip wsX11_shareNow := goodIn_r _ [15, 1, 16, 6, 17, 18, 19, 20, 21, 22, 23, 14, 24, 25, 26, 27, 28, 29, 30, 31, 32, 33, 43, 44, 45, 46, 47, 48, 49, 50, 51, 67, 68, 69, 70, 71, 72, 73, 74, 75, 76, 77] (by decide +kernel) (by decide +kernel)
set_option maxRecDepth 20000 in
theorem gX11_strip_X11_shareNow : GoodIn wsX11_strip (wsV RX11 162 RX11 yX11_shareNow wsX11_shareNow) := goodIn_app (goodIn_of _ (by decide +kernel)) ggX11_strip_X11_shareNow
set_option maxRecDepth 20000 in
theorem ggX11_strip_X11_fraction : GoodIn wsX11_strip wsX11_fraction := goodIn_r _ [36, 37, 38, 27, 39, 33, 40, 41, 14, 42, 29, 30, 31] (by decide +kernel) (by decide +kernel)
set_option maxRecDepth 20000 in
theorem gX11_strip_X11_fraction : GoodIn wsX11_strip (va_wsS RX11 165 yX11_fraction wsX11_fraction) := goodIn_app (goodIn_of _ (by decide +kernel)) ggX11_strip_X11_fraction
theorem dX11_strip_0 : decode cX11_strip 0 = .ok (.aload_n 0, 1) := by decide +kernel
theorem dX11_strip_1 : decode cX11_strip 1 = .ok (.getfield 47, 3) := by decide +kernel
theorem dX11_strip_4 : decode cX11_strip 4 = .ok (.iload_n 1, 1) := by decide +kernel
theorem dX11_strip_5 : decode cX11_strip 5 = .ok (.invokevirtual 150, 3) := by decide +kernel
theorem dX11_strip_8 : decode cX11_strip 8 = .ok (.astore_n 3, 1) := by decide +kernel
theorem dX11_strip_9 : decode cX11_strip 9 = .ok (.aload_n 3, 1) := by decide +kernel
theorem dX11_strip_10 : decode cX11_strip 10 = .ok (.ifnonnull 6, 3) := by decide +kernel
theorem dX11_strip_13 : decode cX11_strip 13 = .ok (.ldc 57, 2) := by decide +kernel
theorem dX11_strip_15 : decode cX11_strip 15 = .ok (.ireturn, 1) := by decide +kernel
theorem dX11_strip_16 : decode cX11_strip 16 = .ok (.iload_n 2, 1) := by decide +kernel
theorem dX11_strip_17 : decode cX11_strip 17 = .ok (.tableswitch 61 0 3 #[31, 36, 41, 51], 31) := by decide +kernel
theorem dX11_strip_48 : decode cX11_strip 48 = .ok (.aload_n 3, 1) := by decide +kernel
theorem dX11_strip_49 : decode cX11_strip 49 = .ok (.getfield 154, 3) := by decide +kernel
theorem dX11_strip_52 : decode cX11_strip 52 = .ok (.ireturn, 1) := by decide +kernel
theorem dX11_strip_53 : decode cX11_strip 53 = .ok (.aload_n 3, 1) := by decide +kernel
theorem dX11_strip_54 : decode cX11_strip 54 = .ok (.getfield 159, 3) := by decide +kernel
theorem dX11_strip_57 : decode cX11_strip 57 = .ok (.ireturn, 1) := by decide +kernel
theorem dX11_strip_58 : decode cX11_strip 58 = .ok (.aload_n 0, 1) := by decide +kernel
theorem dX11_strip_59 : decode cX11_strip 59 = .ok (.iload_n 1, 1) := by decide +kernel
theorem dX11_strip_60 : decode cX11_strip 60 = .ok (.invokevirtual 162, 3) := by decide +kernel
theorem dX11_strip_63 : decode cX11_strip 63 = .ok (.iconst 0, 1) := by decide +kernel
theorem dX11_strip_64 : decode cX11_strip 64 = .ok (.invokestatic 165, 3) := by decide +kernel
theorem dX11_strip_67 : decode cX11_strip 67 = .ok (.ireturn, 1) := by decide +kernel
theorem dX11_strip_68 : decode cX11_strip 68 = .ok (.aload_n 0, 1) := by decide +kernel
theorem dX11_strip_69 : decode cX11_strip 69 = .ok (.iload_n 1, 1) := by decide +kernel
theorem dX11_strip_70 : decode cX11_strip 70 = .ok (.invokevirtual 162, 3) := by decide +kernel
theorem dX11_strip_73 : decode cX11_strip 73 = .ok (.iconst 1, 1) := by decide +kernel
theorem dX11_strip_74 : decode cX11_strip 74 = .ok (.invokestatic 165, 3) := by decide +kernel
theorem dX11_strip_77 : decode cX11_strip 77 = .ok (.ireturn, 1) := by decide +kernel
theorem dX11_strip_78 : decode cX11_strip 78 = .ok (.ldc 57, 2) := by decide +kernel
theorem dX11_strip_80 : decode cX11_strip 80 = .ok (.ireturn, 1) := by decide +kernel
set_option maxRecDepth 20000 in
theorem ggX11_crop_X4_toldStrip : GoodIn wsX11_crop wsX4_toldStrip := goodIn_r _ [6, 7, 8, 57, 58, 59, 60, 61, 62, 63, 64, 65, 66, 67] (by decide +kernel) (by decide +kernel)
set_option maxRecDepth 20000 in
theorem gX11_crop_X4_toldStrip_n150 : GoodIn wsX11_crop (wsX4_toldStrip) := ggX11_crop_X4_toldStrip
set_option maxRecDepth 20000 in
theorem ggX11_crop_X1_cropOn : GoodIn wsX11_crop wsX1_cropOn := goodIn_r _ [14, 15, 16, 17, 18, 68, 69, 70, 71, 72, 73, 74, 75, 76, 77, 78, 79, 80, 81, 82] (by decide +kernel) (by decide +kernel)
set_option maxRecDepth 20000 in
theorem gX11_crop_X1_cropOn_u168X0 : GoodIn wsX11_crop (va_wsU RX11 168 RX0 "FenceYards$Strip" ⟨"FenceYards$Strip", "cropOn", "(I)I"⟩ yX1_cropOn wsX1_cropOn) := goodIn_app (goodIn_of _ (by decide +kernel)) ggX11_crop_X1_cropOn
set_option maxRecDepth 20000 in
theorem gX11_crop_X1_cropOn_u168X1 : GoodIn wsX11_crop (va_wsU RX11 168 RX1 "FenceYards$Strip" ⟨"FenceYards$Strip", "cropOn", "(I)I"⟩ yX1_cropOn wsX1_cropOn) := goodIn_app (goodIn_of _ (by decide +kernel)) ggX11_crop_X1_cropOn
set_option maxRecDepth 20000 in
theorem ggX11_crop_X2_cropOn : GoodIn wsX11_crop wsX2_cropOn := goodIn_r _ [23, 24, 25, 26, 27, 68, 69, 70, 71, 72, 73, 74, 75, 76, 77, 78, 79, 80, 81, 82] (by decide +kernel) (by decide +kernel)
set_option maxRecDepth 20000 in
theorem gX11_crop_X2_cropOn_u168X2 : GoodIn wsX11_crop (va_wsU RX11 168 RX2 "FenceYards$Strip" ⟨"FenceYards$Strip", "cropOn", "(I)I"⟩ yX2_cropOn wsX2_cropOn) := goodIn_app (goodIn_of _ (by decide +kernel)) ggX11_crop_X2_cropOn
set_option maxRecDepth 20000 in
theorem ggX11_crop_X3_cropOn : GoodIn wsX11_crop wsX3_cropOn := goodIn_r _ [31, 32, 33, 34, 35, 68, 69, 70, 71, 72, 73, 74, 75, 76, 77, 78, 79, 80, 81, 82] (by decide +kernel) (by decide +kernel)
