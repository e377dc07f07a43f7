set_option maxRecDepth 20000 in
theorem ggX5_readFence_X5_nextToken : GoodIn wsX5_readFence wsX5_nextToken := goodIn_r _ [6, 7, 8, 9, 10, 11, 12, 13, 14, 5, 15, 16, 17, 18, 19, 20, 21, 22, 23, 24, 25, 26, 27, 28, 29, 1, 103, 104, 105, 106, 107, 108, 109, 110] (by decide +kernel) (by decide +kernel)
set_option maxRecDepth 20000 in
theorem gX5_readFence_X5_nextToken : GoodIn wsX5_readFence (wsV RX5 35 RX5 yX5_nextToken wsX5_nextToken) := goodIn_app (goodIn_of _ (by decide +kernel)) ggX5_readFence_X5_nextToken
set_option maxRecDepth 20000 in
theorem ggX5_readFence_X5_isWord : GoodIn wsX5_readFence wsX5_isWord := goodIn_r _ [33, 10, 7, 8, 11, 34, 35, 36, 37, 38, 39, 40, 41, 42, 43, 44, 45, 46, 47, 48, 49, 50, 51, 52, 53, 54, 55, 56, 57, 58, 59, 60, 61, 62, 63, 64, 65, 66, 67, 68, 69, 70, 71, 72, 73, 74, 75, 76, 77, 78, 79, 80, 81, 82, 103, 104, 105, 106, 107, 108, 109, 110] (by decide +kernel) (by decide +kernel)
set_option maxRecDepth 20000 in
theorem gX5_readFence_X5_isWord : GoodIn wsX5_readFence (wsV RX5 43 RX5 yX5_isWord wsX5_isWord) := goodIn_app (goodIn_of _ (by decide +kernel)) ggX5_readFence_X5_isWord
set_option maxRecDepth 20000 in
theorem ggX5_readFence_X5_fail : GoodIn wsX5_readFence wsX5_fail := goodIn_r _ [86, 87, 8, 88, 103, 104, 105, 106, 107, 108, 109, 110] (by decide +kernel) (by decide +kernel)
set_option maxRecDepth 20000 in
theorem gX5_readFence_X5_fail : GoodIn wsX5_readFence (wsV RX5 58 RX5 yX5_fail wsX5_fail) := goodIn_app (goodIn_of _ (by decide +kernel)) ggX5_readFence_X5_fail
set_option maxRecDepth 20000 in
theorem ggX5_readFence_X5_readNumber : GoodIn wsX5_readFence wsX5_readNumber := goodIn_r _ [92, 10, 1, 2, 3, 4, 5, 6, 7, 8, 9, 11, 12, 13, 14, 15, 16, 17, 18, 19, 20, 21, 22, 23, 24, 25, 26, 27, 28, 29, 83, 84, 85, 86, 87, 88, 103, 104, 105, 106, 107, 108, 109, 110] (by decide +kernel) (by decide +kernel)
set_option maxRecDepth 20000 in
theorem gX5_readFence_X5_readNumber : GoodIn wsX5_readFence (wsV RX5 64 RX5 yX5_readNumber wsX5_readNumber) := goodIn_app (goodIn_of _ (by decide +kernel)) ggX5_readFence_X5_readNumber
set_option maxRecDepth 20000 in
theorem ggX5_readFence_X4_putFence : GoodIn wsX5_readFence wsX4_putFence := goodIn_r _ [96, 97, 98, 111, 112, 113, 114, 115, 116, 117, 118, 119, 120, 121] (by decide +kernel) (by decide +kernel)
set_option maxRecDepth 20000 in
theorem gX5_readFence_X4_putFence_n70 : GoodIn wsX5_readFence (wsX4_putFence) := ggX5_readFence_X4_putFence
set_option maxRecDepth 20000 in
theorem ggX5_readFence_X5_readSign : GoodIn wsX5_readFence wsX5_readSign := goodIn_r _ [102, 10, 2, 3, 4, 5, 6, 7, 8, 9, 11, 12, 13, 14, 15, 16, 17, 18, 19, 20, 21, 22, 23, 24, 25, 26, 27, 28, 29, 1, 83, 84, 85, 86, 87, 88, 103, 104, 105, 106, 107, 108, 109, 110] (by decide +kernel) (by decide +kernel)
set_option maxRecDepth 20000 in
theorem gX5_readFence_X5_readSign : GoodIn wsX5_readFence (wsV RX5 74 RX5 yX5_readSign wsX5_readSign) := goodIn_app (goodIn_of _ (by decide +kernel)) ggX5_readFence_X5_readSign
theorem dX5_readFence_0 : decode cX5_readFence 0 = .ok (.aload_n 0, 1) := by decide +kernel
theorem dX5_readFence_1 : decode cX5_readFence 1 = .ok (.invokevirtual 35, 3) := by decide +kernel
theorem dX5_readFence_4 : decode cX5_readFence 4 = .ok (.aload_n 0, 1) := by decide +kernel
theorem dX5_readFence_5 : decode cX5_readFence 5 = .ok (.ldc 62, 2) := by decide +kernel
theorem dX5_readFence_7 : decode cX5_readFence 7 = .ok (.invokevirtual 43, 3) := by decide +kernel
theorem dX5_readFence_10 : decode cX5_readFence 10 = .ok (.ifCond .ne 9, 3) := by decide +kernel
theorem dX5_readFence_13 : decode cX5_readFence 13 = .ok (.aload_n 0, 1) := by decide +kernel
theorem dX5_readFence_14 : decode cX5_readFence 14 = .ok (.iconst 1, 1) := by decide +kernel
theorem dX5_readFence_15 : decode cX5_readFence 15 = .ok (.invokevirtual 58, 3) := by decide +kernel
theorem dX5_readFence_18 : decode cX5_readFence 18 = .ok (.ireturn, 1) := by decide +kernel
theorem dX5_readFence_19 : decode cX5_readFence 19 = .ok (.aload_n 0, 1) := by decide +kernel
theorem dX5_readFence_20 : decode cX5_readFence 20 = .ok (.bipush 12, 2) := by decide +kernel
theorem dX5_readFence_22 : decode cX5_readFence 22 = .ok (.invokevirtual 64, 3) := by decide +kernel
theorem dX5_readFence_25 : decode cX5_readFence 25 = .ok (.ifCond .ne 5, 3) := by decide +kernel
theorem dX5_readFence_28 : decode cX5_readFence 28 = .ok (.iconst 0, 1) := by decide +kernel
theorem dX5_readFence_29 : decode cX5_readFence 29 = .ok (.ireturn, 1) := by decide +kernel
theorem dX5_readFence_30 : decode cX5_readFence 30 = .ok (.aload_n 0, 1) := by decide +kernel
theorem dX5_readFence_31 : decode cX5_readFence 31 = .ok (.getfield 67, 3) := by decide +kernel
theorem dX5_readFence_34 : decode cX5_readFence 34 = .ok (.istore_n 2, 1) := by decide +kernel
theorem dX5_readFence_35 : decode cX5_readFence 35 = .ok (.aload_n 0, 1) := by decide +kernel
theorem dX5_readFence_36 : decode cX5_readFence 36 = .ok (.bipush 12, 2) := by decide +kernel
theorem dX5_readFence_38 : decode cX5_readFence 38 = .ok (.invokevirtual 64, 3) := by decide +kernel
theorem dX5_readFence_41 : decode cX5_readFence 41 = .ok (.ifCond .ne 5, 3) := by decide +kernel
theorem dX5_readFence_44 : decode cX5_readFence 44 = .ok (.iconst 0, 1) := by decide +kernel
theorem dX5_readFence_45 : decode cX5_readFence 45 = .ok (.ireturn, 1) := by decide +kernel
theorem dX5_readFence_46 : decode cX5_readFence 46 = .ok (.aload_n 1, 1) := by decide +kernel
theorem dX5_readFence_47 : decode cX5_readFence 47 = .ok (.iload_n 2, 1) := by decide +kernel
theorem dX5_readFence_48 : decode cX5_readFence 48 = .ok (.aload_n 0, 1) := by decide +kernel
theorem dX5_readFence_49 : decode cX5_readFence 49 = .ok (.getfield 67, 3) := by decide +kernel
theorem dX5_readFence_52 : decode cX5_readFence 52 = .ok (.invokevirtual 70, 3) := by decide +kernel
theorem dX5_readFence_55 : decode cX5_readFence 55 = .ok (.aload_n 0, 1) := by decide +kernel
theorem dX5_readFence_56 : decode cX5_readFence 56 = .ok (.invokevirtual 74, 3) := by decide +kernel
theorem dX5_readFence_59 : decode cX5_readFence 59 = .ok (.ireturn, 1) := by decide +kernel
set_option maxRecDepth 20000 in
theorem ggX5_readPond_X5_fail : GoodIn wsX5_readPond wsX5_fail := goodIn_r _ [6, 7, 8, 9, 68, 69, 70, 71, 72, 73, 74, 75] (by decide +kernel) (by decide +kernel)
set_option maxRecDepth 20000 in
theorem gX5_readPond_X5_fail : GoodIn wsX5_readPond (wsV RX5 58 RX5 yX5_fail wsX5_fail) := goodIn_app (goodIn_of _ (by decide +kernel)) ggX5_readPond_X5_fail
set_option maxRecDepth 20000 in
theorem ggX5_readPond_X5_readNumber : GoodIn wsX5_readPond wsX5_readNumber := goodIn_r _ [13, 14, 1, 15, 16, 17, 5, 18, 19, 8, 20, 21, 22, 23, 24, 25, 26, 27, 28, 29, 30, 31, 32, 33, 34, 35, 36, 37, 38, 39, 2, 3, 4, 6, 7, 9, 68, 69, 70, 71, 72, 73, 74, 75] (by decide +kernel) (by decide +kernel)
set_option maxRecDepth 20000 in
theorem gX5_readPond_X5_readNumber : GoodIn wsX5_readPond (wsV RX5 64 RX5 yX5_readNumber wsX5_readNumber) := goodIn_app (goodIn_of _ (by decide +kernel)) ggX5_readPond_X5_readNumber
set_option maxRecDepth 20000 in
theorem ggX5_readPond_X4_endOn : GoodIn wsX5_readPond wsX4_endOn := goodIn_r _ [43, 44, 45, 46, 57, 58, 59, 60, 61, 62, 63, 64, 65, 66, 67] (by decide +kernel) (by decide +kernel)
set_option maxRecDepth 20000 in
theorem gX5_readPond_X4_endOn_n81 : GoodIn wsX5_readPond (wsX4_endOn) := ggX5_readPond_X4_endOn
set_option maxRecDepth 20000 in
theorem ggX5_readPond_X4_addPond : GoodIn wsX5_readPond wsX4_addPond := goodIn_r _ [49, 50, 51, 52, 57, 58, 59, 60, 61, 62, 63, 64, 65, 66, 67] (by decide +kernel) (by decide +kernel)
set_option maxRecDepth 20000 in
theorem gX5_readPond_X4_addPond_n85 : GoodIn wsX5_readPond (wsX4_addPond) := ggX5_readPond_X4_addPond
set_option maxRecDepth 20000 in
theorem ggX5_readPond_X5_readSign : GoodIn wsX5_readPond wsX5_readSign := goodIn_r _ [56, 14, 15, 16, 17, 5, 18, 19, 8, 20, 21, 22, 23, 24, 25, 26, 27, 28, 29, 30, 31, 32, 33, 34, 35, 36, 37, 38, 39, 1, 2, 3, 4, 6, 7, 9, 68, 69, 70, 71, 72, 73, 74, 75] (by decide +kernel) (by decide +kernel)
set_option maxRecDepth 20000 in
theorem gX5_readPond_X5_readSign : GoodIn wsX5_readPond (wsV RX5 74 RX5 yX5_readSign wsX5_readSign) := goodIn_app (goodIn_of _ (by decide +kernel)) ggX5_readPond_X5_readSign
theorem dX5_readPond_0 : decode cX5_readPond 0 = .ok (.aload_n 1, 1) := by decide +kernel
theorem dX5_readPond_1 : decode cX5_readPond 1 = .ok (.getfield 78, 3) := by decide +kernel
theorem dX5_readPond_4 : decode cX5_readPond 4 = .ok (.bipush 6, 2) := by decide +kernel
theorem dX5_readPond_6 : decode cX5_readPond 6 = .ok (.if_icmp .lt 9, 3) := by decide +kernel
theorem dX5_readPond_9 : decode cX5_readPond 9 = .ok (.aload_n 0, 1) := by decide +kernel
theorem dX5_readPond_10 : decode cX5_readPond 10 = .ok (.iconst 3, 1) := by decide +kernel
theorem dX5_readPond_11 : decode cX5_readPond 11 = .ok (.invokevirtual 58, 3) := by decide +kernel
theorem dX5_readPond_14 : decode cX5_readPond 14 = .ok (.ireturn, 1) := by decide +kernel
theorem dX5_readPond_15 : decode cX5_readPond 15 = .ok (.aload_n 0, 1) := by decide +kernel
theorem dX5_readPond_16 : decode cX5_readPond 16 = .ok (.iconst 1, 1) := by decide +kernel
theorem dX5_readPond_17 : decode cX5_readPond 17 = .ok (.invokevirtual 64, 3) := by decide +kernel
theorem dX5_readPond_20 : decode cX5_readPond 20 = .ok (.ifCond .ne 5, 3) := by decide +kernel
theorem dX5_readPond_23 : decode cX5_readPond 23 = .ok (.iconst 0, 1) := by decide +kernel
theorem dX5_readPond_24 : decode cX5_readPond 24 = .ok (.ireturn, 1) := by decide +kernel
theorem dX5_readPond_25 : decode cX5_readPond 25 = .ok (.aload_n 0, 1) := by decide +kernel
theorem dX5_readPond_26 : decode cX5_readPond 26 = .ok (.getfield 67, 3) := by decide +kernel
theorem dX5_readPond_29 : decode cX5_readPond 29 = .ok (.istore_n 2, 1) := by decide +kernel
theorem dX5_readPond_30 : decode cX5_readPond 30 = .ok (.aload_n 0, 1) := by decide +kernel
theorem dX5_readPond_31 : decode cX5_readPond 31 = .ok (.bipush 12, 2) := by decide +kernel
theorem dX5_readPond_33 : decode cX5_readPond 33 = .ok (.invokevirtual 64, 3) := by decide +kernel
theorem dX5_readPond_36 : decode cX5_readPond 36 = .ok (.ifCond .ne 5, 3) := by decide +kernel
theorem dX5_readPond_39 : decode cX5_readPond 39 = .ok (.iconst 0, 1) := by decide +kernel
theorem dX5_readPond_40 : decode cX5_readPond 40 = .ok (.ireturn, 1) := by decide +kernel
theorem dX5_readPond_41 : decode cX5_readPond 41 = .ok (.aload_n 0, 1) := by decide +kernel
theorem dX5_readPond_42 : decode cX5_readPond 42 = .ok (.getfield 67, 3) := by decide +kernel
theorem dX5_readPond_45 : decode cX5_readPond 45 = .ok (.aload_n 1, 1) := by decide +kernel
theorem dX5_readPond_46 : decode cX5_readPond 46 = .ok (.iload_n 2, 1) := by decide +kernel
theorem dX5_readPond_47 : decode cX5_readPond 47 = .ok (.invokevirtual 81, 3) := by decide +kernel
theorem dX5_readPond_50 : decode cX5_readPond 50 = .ok (.if_icmp .ne 9, 3) := by decide +kernel
theorem dX5_readPond_53 : decode cX5_readPond 53 = .ok (.aload_n 0, 1) := by decide +kernel
theorem dX5_readPond_54 : decode cX5_readPond 54 = .ok (.iconst 2, 1) := by decide +kernel
theorem dX5_readPond_55 : decode cX5_readPond 55 = .ok (.invokevirtual 58, 3) := by decide +kernel
theorem dX5_readPond_58 : decode cX5_readPond 58 = .ok (.ireturn, 1) := by decide +kernel
theorem dX5_readPond_59 : decode cX5_readPond 59 = .ok (.aload_n 1, 1) := by decide +kernel
theorem dX5_readPond_60 : decode cX5_readPond 60 = .ok (.iload_n 2, 1) := by decide +kernel
theorem dX5_readPond_61 : decode cX5_readPond 61 = .ok (.aload_n 0, 1) := by decide +kernel
theorem dX5_readPond_62 : decode cX5_readPond 62 = .ok (.getfield 67, 3) := by decide +kernel
theorem dX5_readPond_65 : decode cX5_readPond 65 = .ok (.invokevirtual 85, 3) := by decide +kernel
theorem dX5_readPond_68 : decode cX5_readPond 68 = .ok (.aload_n 0, 1) := by decide +kernel
theorem dX5_readPond_69 : decode cX5_readPond 69 = .ok (.invokevirtual 74, 3) := by decide +kernel
theorem dX5_readPond_72 : decode cX5_readPond 72 = .ok (.ireturn, 1) := by decide +kernel
set_option maxRecDepth 20000 in
theorem ggX5_readStrip_X5_fail : GoodIn wsX5_readStrip wsX5_fail := goodIn_r _ [6, 7, 8, 9, 165, 166, 167, 168, 169, 170, 171, 172] (by decide +kernel) (by decide +kernel)
set_option maxRecDepth 20000 in
theorem gX5_readStrip_X5_fail : GoodIn wsX5_readStrip (wsV RX5 58 RX5 yX5_fail wsX5_fail) := goodIn_app (goodIn_of _ (by decide +kernel)) ggX5_readStrip_X5_fail
set_option maxRecDepth 20000 in
theorem ggX5_readStrip_X5_nextToken : GoodIn wsX5_readStrip wsX5_nextToken := goodIn_r _ [13, 14, 8, 15, 16, 17, 18, 19, 20, 5, 21, 22, 23, 24, 25, 26, 27, 28, 29, 30, 31, 32, 33, 34, 35, 1, 165, 166, 167, 168, 169, 170, 171, 172] (by decide +kernel) (by decide +kernel)
set_option maxRecDepth 20000 in
theorem gX5_readStrip_X5_nextToken : GoodIn wsX5_readStrip (wsV RX5 35 RX5 yX5_nextToken wsX5_nextToken) := goodIn_app (goodIn_of _ (by decide +kernel)) ggX5_readStrip_X5_nextToken
set_option maxRecDepth 20000 in
theorem ggX5_readStrip_X5_sortTold : GoodIn wsX5_readStrip wsX5_sortTold := goodIn_r _ [39, 40, 41, 42, 5, 43, 16, 14, 8, 17, 44, 45, 46, 47, 48, 49, 50, 51, 52, 53, 54, 55, 56, 57, 58, 59, 60, 61, 62, 63, 64, 65, 66, 67, 68, 69, 70, 71, 72, 73, 74, 75, 76, 77, 78, 79, 80, 81, 82, 83, 84, 85, 86, 87, 88, 89, 90, 91, 92, 165, 166, 167, 168, 169, 170, 171, 172] (by decide +kernel) (by decide +kernel)
set_option maxRecDepth 20000 in
theorem gX5_readStrip_X5_sortTold : GoodIn wsX5_readStrip (wsV RX5 88 RX5 yX5_sortTold wsX5_sortTold) := goodIn_app (goodIn_of _ (by decide +kernel)) ggX5_readStrip_X5_sortTold
set_option maxRecDepth 20000 in
theorem ggX5_readStrip_X5_readNumber : GoodIn wsX5_readStrip wsX5_readNumber := goodIn_r _ [96, 16, 1, 10, 11, 12, 5, 13, 14, 8, 15, 17, 18, 19, 20, 21, 22, 23, 24, 25, 26, 27, 28, 29, 30, 31, 32, 33, 34, 35, 2, 3, 4, 6, 7, 9, 165, 166, 167, 168, 169, 170, 171, 172] (by decide +kernel) (by decide +kernel)
set_option maxRecDepth 20000 in
theorem gX5_readStrip_X5_readNumber : GoodIn wsX5_readStrip (wsV RX5 64 RX5 yX5_readNumber wsX5_readNumber) := goodIn_app (goodIn_of _ (by decide +kernel)) ggX5_readStrip_X5_readNumber
set_option maxRecDepth 20000 in
theorem ggX5_readStrip_X11_newStrip : GoodIn wsX5_readStrip wsX11_newStrip := goodIn_r _ [99, 100, 101, 102, 103, 104, 105, 106, 107, 108, 109, 110, 111, 112, 113, 114, 115, 116, 117, 118, 119, 120, 121, 122, 123, 124, 125, 126, 127, 128, 129, 130, 131, 132, 133, 134, 135, 136, 137, 138, 139, 140, 141, 142, 143, 173, 174, 175, 176, 177, 178, 179, 180, 181, 182, 183, 184, 185, 186, 187] (by decide +kernel) (by decide +kernel)
set_option maxRecDepth 20000 in
theorem gX5_readStrip_X11_newStrip_n92 : GoodIn wsX5_readStrip (wsX11_newStrip) := ggX5_readStrip_X11_newStrip
set_option maxRecDepth 20000 in
theorem ggX5_readStrip_X4_addStrip : GoodIn wsX5_readStrip wsX4_addStrip := goodIn_r _ [147, 148, 149, 154, 155, 156, 157, 158, 159, 160, 161, 162, 163, 164] (by decide +kernel) (by decide +kernel)
set_option maxRecDepth 20000 in
theorem gX5_readStrip_X4_addStrip_n96 : GoodIn wsX5_readStrip (wsX4_addStrip) := ggX5_readStrip_X4_addStrip
set_option maxRecDepth 20000 in
theorem ggX5_readStrip_X5_readSign : GoodIn wsX5_readStrip wsX5_readSign := goodIn_r _ [153, 16, 10, 11, 12, 5, 13, 14, 8, 15, 17, 18, 19, 20, 21, 22, 23, 24, 25, 26, 27, 28, 29, 30, 31, 32, 33, 34, 35, 1, 2, 3, 4, 6, 7, 9, 165, 166, 167, 168, 169, 170, 171, 172] (by decide +kernel) (by decide +kernel)
set_option maxRecDepth 20000 in
theorem gX5_readStrip_X5_readSign : GoodIn wsX5_readStrip (wsV RX5 74 RX5 yX5_readSign wsX5_readSign) := goodIn_app (goodIn_of _ (by decide +kernel)) ggX5_readStrip_X5_readSign
theorem dX5_readStrip_0 : decode cX5_readStrip 0 = .ok (.aload_n 1, 1) := by decide +kernel
theorem dX5_readStrip_1 : decode cX5_readStrip 1 = .ok (.getfield 47, 3) := by decide +kernel
theorem dX5_readStrip_4 : decode cX5_readStrip 4 = .ok (.bipush 12, 2) := by decide +kernel
theorem dX5_readStrip_6 : decode cX5_readStrip 6 = .ok (.if_icmp .lt 9, 3) := by decide +kernel
theorem dX5_readStrip_9 : decode cX5_readStrip 9 = .ok (.aload_n 0, 1) := by decide +kernel
theorem dX5_readStrip_10 : decode cX5_readStrip 10 = .ok (.iconst 3, 1) := by decide +kernel
theorem dX5_readStrip_11 : decode cX5_readStrip 11 = .ok (.invokevirtual 58, 3) := by decide +kernel
theorem dX5_readStrip_14 : decode cX5_readStrip 14 = .ok (.ireturn, 1) := by decide +kernel
theorem dX5_readStrip_15 : decode cX5_readStrip 15 = .ok (.aload_n 0, 1) := by decide +kernel
theorem dX5_readStrip_16 : decode cX5_readStrip 16 = .ok (.invokevirtual 35, 3) := by decide +kernel
theorem dX5_readStrip_19 : decode cX5_readStrip 19 = .ok (.aload_n 0, 1) := by decide +kernel
theorem dX5_readStrip_20 : decode cX5_readStrip 20 = .ok (.invokevirtual 88, 3) := by decide +kernel
theorem dX5_readStrip_23 : decode cX5_readStrip 23 = .ok (.istore_n 2, 1) := by decide +kernel
theorem dX5_readStrip_24 : decode cX5_readStrip 24 = .ok (.iload_n 2, 1) := by decide +kernel
theorem dX5_readStrip_25 : decode cX5_readStrip 25 = .ok (.ifCond .ge 9, 3) := by decide +kernel
theorem dX5_readStrip_28 : decode cX5_readStrip 28 = .ok (.aload_n 0, 1) := by decide +kernel
theorem dX5_readStrip_29 : decode cX5_readStrip 29 = .ok (.iconst 1, 1) := by decide +kernel
theorem dX5_readStrip_30 : decode cX5_readStrip 30 = .ok (.invokevirtual 58, 3) := by decide +kernel
theorem dX5_readStrip_33 : decode cX5_readStrip 33 = .ok (.ireturn, 1) := by decide +kernel
theorem dX5_readStrip_34 : decode cX5_readStrip 34 = .ok (.aload_n 0, 1) := by decide +kernel
theorem dX5_readStrip_35 : decode cX5_readStrip 35 = .ok (.bipush 99, 2) := by decide +kernel
theorem dX5_readStrip_37 : decode cX5_readStrip 37 = .ok (.invokevirtual 64, 3) := by decide +kernel
theorem dX5_readStrip_40 : decode cX5_readStrip 40 = .ok (.ifCond .ne 5, 3) := by decide +kernel
theorem dX5_readStrip_43 : decode cX5_readStrip 43 = .ok (.iconst 0, 1) := by decide +kernel
theorem dX5_readStrip_44 : decode cX5_readStrip 44 = .ok (.ireturn, 1) := by decide +kernel
theorem dX5_readStrip_45 : decode cX5_readStrip 45 = .ok (.aload_n 0, 1) := by decide +kernel
theorem dX5_readStrip_46 : decode cX5_readStrip 46 = .ok (.getfield 67, 3) := by decide +kernel
theorem dX5_readStrip_49 : decode cX5_readStrip 49 = .ok (.istore_n 3, 1) := by decide +kernel
theorem dX5_readStrip_50 : decode cX5_readStrip 50 = .ok (.aload_n 0, 1) := by decide +kernel
theorem dX5_readStrip_51 : decode cX5_readStrip 51 = .ok (.bipush 11, 2) := by decide +kernel
theorem dX5_readStrip_53 : decode cX5_readStrip 53 = .ok (.invokevirtual 64, 3) := by decide +kernel
theorem dX5_readStrip_56 : decode cX5_readStrip 56 = .ok (.ifCond .ne 5, 3) := by decide +kernel
theorem dX5_readStrip_59 : decode cX5_readStrip 59 = .ok (.iconst 0, 1) := by decide +kernel
theorem dX5_readStrip_60 : decode cX5_readStrip 60 = .ok (.ireturn, 1) := by decide +kernel
theorem dX5_readStrip_61 : decode cX5_readStrip 61 = .ok (.aload_n 1, 1) := by decide +kernel
theorem dX5_readStrip_62 : decode cX5_readStrip 62 = .ok (.iload_n 2, 1) := by decide +kernel
theorem dX5_readStrip_63 : decode cX5_readStrip 63 = .ok (.aload_n 1, 1) := by decide +kernel
theorem dX5_readStrip_64 : decode cX5_readStrip 64 = .ok (.getfield 47, 3) := by decide +kernel
theorem dX5_readStrip_67 : decode cX5_readStrip 67 = .ok (.iload_n 3, 1) := by decide +kernel
theorem dX5_readStrip_68 : decode cX5_readStrip 68 = .ok (.aload_n 0, 1) := by decide +kernel
theorem dX5_readStrip_69 : decode cX5_readStrip 69 = .ok (.getfield 67, 3) := by decide +kernel
theorem dX5_readStrip_72 : decode cX5_readStrip 72 = .ok (.invokestatic 92, 3) := by decide +kernel
theorem dX5_readStrip_75 : decode cX5_readStrip 75 = .ok (.invokevirtual 96, 3) := by decide +kernel
theorem dX5_readStrip_78 : decode cX5_readStrip 78 = .ok (.aload_n 0, 1) := by decide +kernel
theorem dX5_readStrip_79 : decode cX5_readStrip 79 = .ok (.invokevirtual 74, 3) := by decide +kernel
theorem dX5_readStrip_82 : decode cX5_readStrip 82 = .ok (.ireturn, 1) := by decide +kernel
set_option maxRecDepth 20000 in
theorem ggX5_sortTold_X5_isWord : GoodIn wsX5_sortTold wsX5_isWord := goodIn_r _ [5, 6, 7, 8, 9, 10, 11, 12, 13, 14, 15, 16, 17, 18, 19, 20, 21, 22, 23, 24, 25, 26, 27, 28, 29, 30, 31, 32, 33, 34, 35, 36, 37, 38, 39, 40, 41, 42, 43, 44, 45, 46, 47, 48, 49, 50, 51, 52, 53, 54, 55, 56, 57, 58, 59, 60, 61, 62, 63, 64, 65, 66] (by decide +kernel) (by decide +kernel)
set_option maxRecDepth 20000 in
theorem gX5_sortTold_X5_isWord : GoodIn wsX5_sortTold (wsV RX5 43 RX5 yX5_isWord wsX5_isWord) := goodIn_app (goodIn_of _ (by decide +kernel)) ggX5_sortTold_X5_isWord
theorem dX5_sortTold_0 : decode cX5_sortTold 0 = .ok (.aload_n 0, 1) := by decide +kernel
theorem dX5_sortTold_1 : decode cX5_sortTold 1 = .ok (.ldc 100, 2) := by decide +kernel
theorem dX5_sortTold_3 : decode cX5_sortTold 3 = .ok (.invokevirtual 43, 3) := by decide +kernel
theorem dX5_sortTold_6 : decode cX5_sortTold 6 = .ok (.ifCond .eq 5, 3) := by decide +kernel
theorem dX5_sortTold_9 : decode cX5_sortTold 9 = .ok (.iconst 0, 1) := by decide +kernel
theorem dX5_sortTold_10 : decode cX5_sortTold 10 = .ok (.ireturn, 1) := by decide +kernel
theorem dX5_sortTold_11 : decode cX5_sortTold 11 = .ok (.aload_n 0, 1) := by decide +kernel
theorem dX5_sortTold_12 : decode cX5_sortTold 12 = .ok (.ldc 102, 2) := by decide +kernel
theorem dX5_sortTold_14 : decode cX5_sortTold 14 = .ok (.invokevirtual 43, 3) := by decide +kernel
theorem dX5_sortTold_17 : decode cX5_sortTold 17 = .ok (.ifCond .eq 5, 3) := by decide +kernel
theorem dX5_sortTold_20 : decode cX5_sortTold 20 = .ok (.iconst 1, 1) := by decide +kernel
theorem dX5_sortTold_21 : decode cX5_sortTold 21 = .ok (.ireturn, 1) := by decide +kernel
theorem dX5_sortTold_22 : decode cX5_sortTold 22 = .ok (.aload_n 0, 1) := by decide +kernel
theorem dX5_sortTold_23 : decode cX5_sortTold 23 = .ok (.ldc 104, 2) := by decide +kernel
theorem dX5_sortTold_25 : decode cX5_sortTold 25 = .ok (.invokevirtual 43, 3) := by decide +kernel
theorem dX5_sortTold_28 : decode cX5_sortTold 28 = .ok (.ifCond .eq 5, 3) := by decide +kernel
theorem dX5_sortTold_31 : decode cX5_sortTold 31 = .ok (.iconst 2, 1) := by decide +kernel
theorem dX5_sortTold_32 : decode cX5_sortTold 32 = .ok (.ireturn, 1) := by decide +kernel
theorem dX5_sortTold_33 : decode cX5_sortTold 33 = .ok (.aload_n 0, 1) := by decide +kernel
theorem dX5_sortTold_34 : decode cX5_sortTold 34 = .ok (.ldc 106, 2) := by decide +kernel
theorem dX5_sortTold_36 : decode cX5_sortTold 36 = .ok (.invokevirtual 43, 3) := by decide +kernel
theorem dX5_sortTold_39 : decode cX5_sortTold 39 = .ok (.ifCond .eq 5, 3) := by decide +kernel
theorem dX5_sortTold_42 : decode cX5_sortTold 42 = .ok (.iconst 3, 1) := by decide +kernel
theorem dX5_sortTold_43 : decode cX5_sortTold 43 = .ok (.ireturn, 1) := by decide +kernel
theorem dX5_sortTold_44 : decode cX5_sortTold 44 = .ok (.aload_n 0, 1) := by decide +kernel
theorem dX5_sortTold_45 : decode cX5_sortTold 45 = .ok (.ldc 108, 2) := by decide +kernel
theorem dX5_sortTold_47 : decode cX5_sortTold 47 = .ok (.invokevirtual 43, 3) := by decide +kernel
theorem dX5_sortTold_50 : decode cX5_sortTold 50 = .ok (.ifCond .eq 7, 3) := by decide +kernel
theorem dX5_sortTold_53 : decode cX5_sortTold 53 = .ok (.iconst 4, 1) := by decide +kernel
theorem dX5_sortTold_54 : decode cX5_sortTold 54 = .ok (.goto 4, 3) := by decide +kernel
theorem dX5_sortTold_57 : decode cX5_sortTold 57 = .ok (.iconst (-1), 1) := by decide +kernel
theorem dX5_sortTold_58 : decode cX5_sortTold 58 = .ok (.ireturn, 1) := by decide +kernel
set_option maxRecDepth 20000 in
theorem ggX5_readNumber_X5_nextToken : GoodIn wsX5_readNumber wsX5_nextToken := goodIn_r _ [7, 8, 9, 10, 1, 11, 12, 13, 14, 6, 15, 16, 17, 18, 19, 20, 21, 22, 23, 24, 25, 26, 27, 28, 29, 2, 36, 37, 38, 39, 40, 41, 42, 43] (by decide +kernel) (by decide +kernel)
set_option maxRecDepth 20000 in
theorem gX5_readNumber_X5_nextToken : GoodIn wsX5_readNumber (wsV RX5 35 RX5 yX5_nextToken wsX5_nextToken) := goodIn_app (goodIn_of _ (by decide +kernel)) ggX5_readNumber_X5_nextToken
set_option maxRecDepth 20000 in
theorem ggX5_readNumber_X5_fail : GoodIn wsX5_readNumber wsX5_fail := goodIn_r _ [33, 34, 9, 35, 36, 37, 38, 39, 40, 41, 42, 43] (by decide +kernel) (by decide +kernel)
set_option maxRecDepth 20000 in
theorem gX5_readNumber_X5_fail : GoodIn wsX5_readNumber (wsV RX5 58 RX5 yX5_fail wsX5_fail) := goodIn_app (goodIn_of _ (by decide +kernel)) ggX5_readNumber_X5_fail
theorem dX5_readNumber_0 : decode cX5_readNumber 0 = .ok (.aload_n 0, 1) := by decide +kernel
theorem dX5_readNumber_1 : decode cX5_readNumber 1 = .ok (.invokevirtual 35, 3) := by decide +kernel
theorem dX5_readNumber_4 : decode cX5_readNumber 4 = .ok (.aload_n 0, 1) := by decide +kernel
theorem dX5_readNumber_5 : decode cX5_readNumber 5 = .ok (.getfield 38, 3) := by decide +kernel
theorem dX5_readNumber_8 : decode cX5_readNumber 8 = .ok (.iconst 2, 1) := by decide +kernel
theorem dX5_readNumber_9 : decode cX5_readNumber 9 = .ok (.if_icmp .eq 9, 3) := by decide +kernel
theorem dX5_readNumber_12 : decode cX5_readNumber 12 = .ok (.aload_n 0, 1) := by decide +kernel
theorem dX5_readNumber_13 : decode cX5_readNumber 13 = .ok (.iconst 1, 1) := by decide +kernel
theorem dX5_readNumber_14 : decode cX5_readNumber 14 = .ok (.invokevirtual 58, 3) := by decide +kernel
theorem dX5_readNumber_17 : decode cX5_readNumber 17 = .ok (.ireturn, 1) := by decide +kernel
theorem dX5_readNumber_18 : decode cX5_readNumber 18 = .ok (.aload_n 0, 1) := by decide +kernel
theorem dX5_readNumber_19 : decode cX5_readNumber 19 = .ok (.getfield 67, 3) := by decide +kernel
theorem dX5_readNumber_22 : decode cX5_readNumber 22 = .ok (.iload_n 1, 1) := by decide +kernel
theorem dX5_readNumber_23 : decode cX5_readNumber 23 = .ok (.if_icmp .le 11, 3) := by decide +kernel
theorem dX5_readNumber_26 : decode cX5_readNumber 26 = .ok (.aload_n 0, 1) := by decide +kernel
theorem dX5_readNumber_27 : decode cX5_readNumber 27 = .ok (.iconst 2, 1) := by decide +kernel
theorem dX5_readNumber_28 : decode cX5_readNumber 28 = .ok (.invokevirtual 58, 3) := by decide +kernel
theorem dX5_readNumber_31 : decode cX5_readNumber 31 = .ok (.ifCond .eq 7, 3) := by decide +kernel
theorem dX5_readNumber_34 : decode cX5_readNumber 34 = .ok (.iconst 1, 1) := by decide +kernel
theorem dX5_readNumber_35 : decode cX5_readNumber 35 = .ok (.goto 4, 3) := by decide +kernel
theorem dX5_readNumber_38 : decode cX5_readNumber 38 = .ok (.iconst 0, 1) := by decide +kernel
theorem dX5_readNumber_39 : decode cX5_readNumber 39 = .ok (.ireturn, 1) := by decide +kernel
set_option maxRecDepth 20000 in
theorem ggX5_readSign_X5_nextToken : GoodIn wsX5_readSign wsX5_nextToken := goodIn_r _ [6, 7, 8, 9, 1, 10, 11, 12, 13, 5, 14, 15, 16, 17, 18, 19, 20, 21, 22, 23, 24, 25, 26, 27, 28, 29, 36, 37, 38, 39, 40, 41, 42, 43] (by decide +kernel) (by decide +kernel)
set_option maxRecDepth 20000 in
theorem gX5_readSign_X5_nextToken : GoodIn wsX5_readSign (wsV RX5 35 RX5 yX5_nextToken wsX5_nextToken) := goodIn_app (goodIn_of _ (by decide +kernel)) ggX5_readSign_X5_nextToken
set_option maxRecDepth 20000 in
theorem ggX5_readSign_X5_fail : GoodIn wsX5_readSign wsX5_fail := goodIn_r _ [33, 34, 8, 35, 36, 37, 38, 39, 40, 41, 42, 43] (by decide +kernel) (by decide +kernel)
set_option maxRecDepth 20000 in
theorem gX5_readSign_X5_fail : GoodIn wsX5_readSign (wsV RX5 58 RX5 yX5_fail wsX5_fail) := goodIn_app (goodIn_of _ (by decide +kernel)) ggX5_readSign_X5_fail
theorem dX5_readSign_0 : decode cX5_readSign 0 = .ok (.aload_n 0, 1) := by decide +kernel
theorem dX5_readSign_1 : decode cX5_readSign 1 = .ok (.invokevirtual 35, 3) := by decide +kernel
theorem dX5_readSign_4 : decode cX5_readSign 4 = .ok (.aload_n 0, 1) := by decide +kernel
theorem dX5_readSign_5 : decode cX5_readSign 5 = .ok (.getfield 38, 3) := by decide +kernel
theorem dX5_readSign_8 : decode cX5_readSign 8 = .ok (.iconst 3, 1) := by decide +kernel
theorem dX5_readSign_9 : decode cX5_readSign 9 = .ok (.if_icmp .eq 11, 3) := by decide +kernel
theorem dX5_readSign_12 : decode cX5_readSign 12 = .ok (.aload_n 0, 1) := by decide +kernel
theorem dX5_readSign_13 : decode cX5_readSign 13 = .ok (.iconst 1, 1) := by decide +kernel
theorem dX5_readSign_14 : decode cX5_readSign 14 = .ok (.invokevirtual 58, 3) := by decide +kernel
theorem dX5_readSign_17 : decode cX5_readSign 17 = .ok (.ifCond .eq 7, 3) := by decide +kernel
theorem dX5_readSign_20 : decode cX5_readSign 20 = .ok (.iconst 1, 1) := by decide +kernel
theorem dX5_readSign_21 : decode cX5_readSign 21 = .ok (.goto 4, 3) := by decide +kernel
theorem dX5_readSign_24 : decode cX5_readSign 24 = .ok (.iconst 0, 1) := by decide +kernel
theorem dX5_readSign_25 : decode cX5_readSign 25 = .ok (.ireturn, 1) := by decide +kernel
theorem dX5_fail_0 : decode cX5_fail 0 = .ok (.aload_n 0, 1) := by decide +kernel
theorem dX5_fail_1 : decode cX5_fail 1 = .ok (.iload_n 1, 1) := by decide +kernel
theorem dX5_fail_2 : decode cX5_fail 2 = .ok (.putfield 110, 3) := by decide +kernel
theorem dX5_fail_5 : decode cX5_fail 5 = .ok (.aload_n 0, 1) := by decide +kernel
theorem dX5_fail_6 : decode cX5_fail 6 = .ok (.aload_n 0, 1) := by decide +kernel
theorem dX5_fail_7 : decode cX5_fail 7 = .ok (.getfield 113, 3) := by decide +kernel
theorem dX5_fail_10 : decode cX5_fail 10 = .ok (.putfield 116, 3) := by decide +kernel
theorem dX5_fail_13 : decode cX5_fail 13 = .ok (.iconst 0, 1) := by decide +kernel
theorem dX5_fail_14 : decode cX5_fail 14 = .ok (.ireturn, 1) := by decide +kernel
set_option maxRecDepth 20000 in
theorem ggX5_nextToken_X5_skipBlanks : GoodIn wsX5_nextToken wsX5_skipBlanks := goodIn_r _ [10, 1, 3, 5, 26, 27, 28, 29, 30, 31, 32, 33] (by decide +kernel) (by decide +kernel)
set_option maxRecDepth 20000 in
theorem gX5_nextToken_X5_skipBlanks : GoodIn wsX5_nextToken (wsV RX5 119 RX5 yX5_skipBlanks wsX5_skipBlanks) := goodIn_app (goodIn_of _ (by decide +kernel)) ggX5_nextToken_X5_skipBlanks
set_option maxRecDepth 20000 in
theorem ggX5_nextToken_X5_isLetter : GoodIn wsX5_nextToken wsX5_isLetter := goodIn_r _ [13] (by decide +kernel) (by decide +kernel)
set_option maxRecDepth 20000 in
theorem gX5_nextToken_X5_isLetter : GoodIn wsX5_nextToken (va_wsS RX5 122 yX5_isLetter wsX5_isLetter) := goodIn_app (goodIn_of _ (by decide +kernel)) ggX5_nextToken_X5_isLetter
set_option maxRecDepth 20000 in
theorem ggX5_nextToken_X5_takeName : GoodIn wsX5_nextToken wsX5_takeName := goodIn_r _ [17, 1, 3, 5, 4, 11, 12, 9, 13, 26, 27, 28, 29, 30, 31, 32, 33] (by decide +kernel) (by decide +kernel)
set_option maxRecDepth 20000 in
theorem gX5_nextToken_X5_takeName : GoodIn wsX5_nextToken (wsV RX5 125 RX5 yX5_takeName wsX5_takeName) := goodIn_app (goodIn_of _ (by decide +kernel)) ggX5_nextToken_X5_takeName
set_option maxRecDepth 20000 in
theorem ggX5_nextToken_X5_isFigure : GoodIn wsX5_nextToken wsX5_isFigure := goodIn_r _ [20] (by decide +kernel) (by decide +kernel)
set_option maxRecDepth 20000 in
theorem gX5_nextToken_X5_isFigure : GoodIn wsX5_nextToken (va_wsS RX5 128 yX5_isFigure wsX5_isFigure) := goodIn_app (goodIn_of _ (by decide +kernel)) ggX5_nextToken_X5_isFigure
set_option maxRecDepth 20000 in
theorem ggX5_nextToken_X5_takeNumber : GoodIn wsX5_nextToken wsX5_takeNumber := goodIn_r _ [24, 25, 1, 3, 5, 2, 4, 18, 19, 9, 20, 26, 27, 28, 29, 30, 31, 32, 33] (by decide +kernel) (by decide +kernel)
set_option maxRecDepth 20000 in
theorem gX5_nextToken_X5_takeNumber : GoodIn wsX5_nextToken (wsV RX5 131 RX5 yX5_takeNumber wsX5_takeNumber) := goodIn_app (goodIn_of _ (by decide +kernel)) ggX5_nextToken_X5_takeNumber
theorem dX5_nextToken_0 : decode cX5_nextToken 0 = .ok (.aload_n 0, 1) := by decide +kernel
theorem dX5_nextToken_1 : decode cX5_nextToken 1 = .ok (.invokevirtual 119, 3) := by decide +kernel
theorem dX5_nextToken_4 : decode cX5_nextToken 4 = .ok (.aload_n 0, 1) := by decide +kernel
theorem dX5_nextToken_5 : decode cX5_nextToken 5 = .ok (.aload_n 0, 1) := by decide +kernel
theorem dX5_nextToken_6 : decode cX5_nextToken 6 = .ok (.getfield 19, 3) := by decide +kernel
theorem dX5_nextToken_9 : decode cX5_nextToken 9 = .ok (.putfield 113, 3) := by decide +kernel
theorem dX5_nextToken_12 : decode cX5_nextToken 12 = .ok (.aload_n 0, 1) := by decide +kernel
theorem dX5_nextToken_13 : decode cX5_nextToken 13 = .ok (.getfield 19, 3) := by decide +kernel
theorem dX5_nextToken_16 : decode cX5_nextToken 16 = .ok (.aload_n 0, 1) := by decide +kernel
theorem dX5_nextToken_17 : decode cX5_nextToken 17 = .ok (.getfield 15, 3) := by decide +kernel
theorem dX5_nextToken_20 : decode cX5_nextToken 20 = .ok (.if_icmp .lt 11, 3) := by decide +kernel
theorem dX5_nextToken_23 : decode cX5_nextToken 23 = .ok (.aload_n 0, 1) := by decide +kernel
theorem dX5_nextToken_24 : decode cX5_nextToken 24 = .ok (.iconst 0, 1) := by decide +kernel
theorem dX5_nextToken_25 : decode cX5_nextToken 25 = .ok (.putfield 38, 3) := by decide +kernel
theorem dX5_nextToken_28 : decode cX5_nextToken 28 = .ok (.goto 80, 3) := by decide +kernel
theorem dX5_nextToken_31 : decode cX5_nextToken 31 = .ok (.aload_n 0, 1) := by decide +kernel
theorem dX5_nextToken_32 : decode cX5_nextToken 32 = .ok (.getfield 9, 3) := by decide +kernel
theorem dX5_nextToken_35 : decode cX5_nextToken 35 = .ok (.aload_n 0, 1) := by decide +kernel
theorem dX5_nextToken_36 : decode cX5_nextToken 36 = .ok (.getfield 19, 3) := by decide +kernel
theorem dX5_nextToken_39 : decode cX5_nextToken 39 = .ok (.baload, 1) := by decide +kernel
theorem dX5_nextToken_40 : decode cX5_nextToken 40 = .ok (.invokestatic 122, 3) := by decide +kernel
theorem dX5_nextToken_43 : decode cX5_nextToken 43 = .ok (.ifCond .eq 10, 3) := by decide +kernel
theorem dX5_nextToken_46 : decode cX5_nextToken 46 = .ok (.aload_n 0, 1) := by decide +kernel
theorem dX5_nextToken_47 : decode cX5_nextToken 47 = .ok (.invokevirtual 125, 3) := by decide +kernel
theorem dX5_nextToken_50 : decode cX5_nextToken 50 = .ok (.goto 58, 3) := by decide +kernel
theorem dX5_nextToken_53 : decode cX5_nextToken 53 = .ok (.aload_n 0, 1) := by decide +kernel
theorem dX5_nextToken_54 : decode cX5_nextToken 54 = .ok (.getfield 9, 3) := by decide +kernel
theorem dX5_nextToken_57 : decode cX5_nextToken 57 = .ok (.aload_n 0, 1) := by decide +kernel
theorem dX5_nextToken_58 : decode cX5_nextToken 58 = .ok (.getfield 19, 3) := by decide +kernel
theorem dX5_nextToken_61 : decode cX5_nextToken 61 = .ok (.baload, 1) := by decide +kernel
theorem dX5_nextToken_62 : decode cX5_nextToken 62 = .ok (.invokestatic 128, 3) := by decide +kernel
theorem dX5_nextToken_65 : decode cX5_nextToken 65 = .ok (.ifCond .eq 10, 3) := by decide +kernel
theorem dX5_nextToken_68 : decode cX5_nextToken 68 = .ok (.aload_n 0, 1) := by decide +kernel
theorem dX5_nextToken_69 : decode cX5_nextToken 69 = .ok (.invokevirtual 131, 3) := by decide +kernel
theorem dX5_nextToken_72 : decode cX5_nextToken 72 = .ok (.goto 36, 3) := by decide +kernel
theorem dX5_nextToken_75 : decode cX5_nextToken 75 = .ok (.aload_n 0, 1) := by decide +kernel
theorem dX5_nextToken_76 : decode cX5_nextToken 76 = .ok (.aload_n 0, 1) := by decide +kernel
theorem dX5_nextToken_77 : decode cX5_nextToken 77 = .ok (.getfield 9, 3) := by decide +kernel
theorem dX5_nextToken_80 : decode cX5_nextToken 80 = .ok (.aload_n 0, 1) := by decide +kernel
theorem dX5_nextToken_81 : decode cX5_nextToken 81 = .ok (.getfield 19, 3) := by decide +kernel
theorem dX5_nextToken_84 : decode cX5_nextToken 84 = .ok (.baload, 1) := by decide +kernel
theorem dX5_nextToken_85 : decode cX5_nextToken 85 = .ok (.bipush 59, 2) := by decide +kernel
theorem dX5_nextToken_87 : decode cX5_nextToken 87 = .ok (.if_icmp .ne 7, 3) := by decide +kernel
theorem dX5_nextToken_90 : decode cX5_nextToken 90 = .ok (.iconst 3, 1) := by decide +kernel
theorem dX5_nextToken_91 : decode cX5_nextToken 91 = .ok (.goto 4, 3) := by decide +kernel
theorem dX5_nextToken_94 : decode cX5_nextToken 94 = .ok (.iconst 4, 1) := by decide +kernel
theorem dX5_nextToken_95 : decode cX5_nextToken 95 = .ok (.putfield 38, 3) := by decide +kernel
theorem dX5_nextToken_98 : decode cX5_nextToken 98 = .ok (.aload_n 0, 1) := by decide +kernel
theorem dX5_nextToken_99 : decode cX5_nextToken 99 = .ok (.dup, 1) := by decide +kernel
theorem dX5_nextToken_100 : decode cX5_nextToken 100 = .ok (.getfield 19, 3) := by decide +kernel
theorem dX5_nextToken_103 : decode cX5_nextToken 103 = .ok (.iconst 1, 1) := by decide +kernel
theorem dX5_nextToken_104 : decode cX5_nextToken 104 = .ok (.iadd, 1) := by decide +kernel
theorem dX5_nextToken_105 : decode cX5_nextToken 105 = .ok (.putfield 19, 3) := by decide +kernel
theorem dX5_nextToken_108 : decode cX5_nextToken 108 = .ok (.return_, 1) := by decide +kernel
theorem dX5_skipBlanks_0 : decode cX5_skipBlanks 0 = .ok (.aload_n 0, 1) := by decide +kernel
theorem dX5_skipBlanks_1 : decode cX5_skipBlanks 1 = .ok (.getfield 19, 3) := by decide +kernel
theorem dX5_skipBlanks_4 : decode cX5_skipBlanks 4 = .ok (.aload_n 0, 1) := by decide +kernel
theorem dX5_skipBlanks_5 : decode cX5_skipBlanks 5 = .ok (.getfield 15, 3) := by decide +kernel
theorem dX5_skipBlanks_8 : decode cX5_skipBlanks 8 = .ok (.if_icmp .ge 44, 3) := by decide +kernel
theorem dX5_skipBlanks_11 : decode cX5_skipBlanks 11 = .ok (.aload_n 0, 1) := by decide +kernel
theorem dX5_skipBlanks_12 : decode cX5_skipBlanks 12 = .ok (.getfield 9, 3) := by decide +kernel
theorem dX5_skipBlanks_15 : decode cX5_skipBlanks 15 = .ok (.aload_n 0, 1) := by decide +kernel
theorem dX5_skipBlanks_16 : decode cX5_skipBlanks 16 = .ok (.getfield 19, 3) := by decide +kernel
theorem dX5_skipBlanks_19 : decode cX5_skipBlanks 19 = .ok (.baload, 1) := by decide +kernel
theorem dX5_skipBlanks_20 : decode cX5_skipBlanks 20 = .ok (.bipush 32, 2) := by decide +kernel
theorem dX5_skipBlanks_22 : decode cX5_skipBlanks 22 = .ok (.if_icmp .eq 17, 3) := by decide +kernel
theorem dX5_skipBlanks_25 : decode cX5_skipBlanks 25 = .ok (.aload_n 0, 1) := by decide +kernel
theorem dX5_skipBlanks_26 : decode cX5_skipBlanks 26 = .ok (.getfield 9, 3) := by decide +kernel
theorem dX5_skipBlanks_29 : decode cX5_skipBlanks 29 = .ok (.aload_n 0, 1) := by decide +kernel
theorem dX5_skipBlanks_30 : decode cX5_skipBlanks 30 = .ok (.getfield 19, 3) := by decide +kernel
theorem dX5_skipBlanks_33 : decode cX5_skipBlanks 33 = .ok (.baload, 1) := by decide +kernel
theorem dX5_skipBlanks_34 : decode cX5_skipBlanks 34 = .ok (.bipush 10, 2) := by decide +kernel
theorem dX5_skipBlanks_36 : decode cX5_skipBlanks 36 = .ok (.if_icmp .ne 16, 3) := by decide +kernel
theorem dX5_skipBlanks_39 : decode cX5_skipBlanks 39 = .ok (.aload_n 0, 1) := by decide +kernel
theorem dX5_skipBlanks_40 : decode cX5_skipBlanks 40 = .ok (.dup, 1) := by decide +kernel
theorem dX5_skipBlanks_41 : decode cX5_skipBlanks 41 = .ok (.getfield 19, 3) := by decide +kernel
theorem dX5_skipBlanks_44 : decode cX5_skipBlanks 44 = .ok (.iconst 1, 1) := by decide +kernel
theorem dX5_skipBlanks_45 : decode cX5_skipBlanks 45 = .ok (.iadd, 1) := by decide +kernel
theorem dX5_skipBlanks_46 : decode cX5_skipBlanks 46 = .ok (.putfield 19, 3) := by decide +kernel
theorem dX5_skipBlanks_49 : decode cX5_skipBlanks 49 = .ok (.goto (-49), 3) := by decide +kernel
theorem dX5_skipBlanks_52 : decode cX5_skipBlanks 52 = .ok (.return_, 1) := by decide +kernel
set_option maxRecDepth 20000 in
theorem ggX5_takeName_X5_isLetter : GoodIn wsX5_takeName wsX5_isLetter := goodIn_r _ [8] (by decide +kernel) (by decide +kernel)
set_option maxRecDepth 20000 in
theorem gX5_takeName_X5_isLetter : GoodIn wsX5_takeName (va_wsS RX5 122 yX5_isLetter wsX5_isLetter) := goodIn_app (goodIn_of _ (by decide +kernel)) ggX5_takeName_X5_isLetter
theorem dX5_takeName_0 : decode cX5_takeName 0 = .ok (.aload_n 0, 1) := by decide +kernel
theorem dX5_takeName_1 : decode cX5_takeName 1 = .ok (.getfield 19, 3) := by decide +kernel
theorem dX5_takeName_4 : decode cX5_takeName 4 = .ok (.aload_n 0, 1) := by decide +kernel
theorem dX5_takeName_5 : decode cX5_takeName 5 = .ok (.getfield 15, 3) := by decide +kernel
theorem dX5_takeName_8 : decode cX5_takeName 8 = .ok (.if_icmp .ge 31, 3) := by decide +kernel
theorem dX5_takeName_11 : decode cX5_takeName 11 = .ok (.aload_n 0, 1) := by decide +kernel
theorem dX5_takeName_12 : decode cX5_takeName 12 = .ok (.getfield 9, 3) := by decide +kernel
theorem dX5_takeName_15 : decode cX5_takeName 15 = .ok (.aload_n 0, 1) := by decide +kernel
theorem dX5_takeName_16 : decode cX5_takeName 16 = .ok (.getfield 19, 3) := by decide +kernel
theorem dX5_takeName_19 : decode cX5_takeName 19 = .ok (.baload, 1) := by decide +kernel
theorem dX5_takeName_20 : decode cX5_takeName 20 = .ok (.invokestatic 122, 3) := by decide +kernel
theorem dX5_takeName_23 : decode cX5_takeName 23 = .ok (.ifCond .eq 16, 3) := by decide +kernel
theorem dX5_takeName_26 : decode cX5_takeName 26 = .ok (.aload_n 0, 1) := by decide +kernel
theorem dX5_takeName_27 : decode cX5_takeName 27 = .ok (.dup, 1) := by decide +kernel
theorem dX5_takeName_28 : decode cX5_takeName 28 = .ok (.getfield 19, 3) := by decide +kernel
theorem dX5_takeName_31 : decode cX5_takeName 31 = .ok (.iconst 1, 1) := by decide +kernel
theorem dX5_takeName_32 : decode cX5_takeName 32 = .ok (.iadd, 1) := by decide +kernel
theorem dX5_takeName_33 : decode cX5_takeName 33 = .ok (.putfield 19, 3) := by decide +kernel
theorem dX5_takeName_36 : decode cX5_takeName 36 = .ok (.goto (-36), 3) := by decide +kernel
theorem dX5_takeName_39 : decode cX5_takeName 39 = .ok (.aload_n 0, 1) := by decide +kernel
theorem dX5_takeName_40 : decode cX5_takeName 40 = .ok (.iconst 1, 1) := by decide +kernel
theorem dX5_takeName_41 : decode cX5_takeName 41 = .ok (.putfield 38, 3) := by decide +kernel
theorem dX5_takeName_44 : decode cX5_takeName 44 = .ok (.return_, 1) := by decide +kernel
set_option maxRecDepth 20000 in
theorem ggX5_takeNumber_X5_isFigure : GoodIn wsX5_takeNumber wsX5_isFigure := goodIn_r _ [10] (by decide +kernel) (by decide +kernel)
set_option maxRecDepth 20000 in
theorem gX5_takeNumber_X5_isFigure : GoodIn wsX5_takeNumber (va_wsS RX5 128 yX5_isFigure wsX5_isFigure) := goodIn_app (goodIn_of _ (by decide +kernel)) ggX5_takeNumber_X5_isFigure
theorem dX5_takeNumber_0 : decode cX5_takeNumber 0 = .ok (.aload_n 0, 1) := by decide +kernel
theorem dX5_takeNumber_1 : decode cX5_takeNumber 1 = .ok (.iconst 0, 1) := by decide +kernel
theorem dX5_takeNumber_2 : decode cX5_takeNumber 2 = .ok (.putfield 67, 3) := by decide +kernel
theorem dX5_takeNumber_5 : decode cX5_takeNumber 5 = .ok (.aload_n 0, 1) := by decide +kernel
theorem dX5_takeNumber_6 : decode cX5_takeNumber 6 = .ok (.getfield 19, 3) := by decide +kernel
theorem dX5_takeNumber_9 : decode cX5_takeNumber 9 = .ok (.aload_n 0, 1) := by decide +kernel
theorem dX5_takeNumber_10 : decode cX5_takeNumber 10 = .ok (.getfield 15, 3) := by decide +kernel
theorem dX5_takeNumber_13 : decode cX5_takeNumber 13 = .ok (.if_icmp .ge 75, 3) := by decide +kernel
theorem dX5_takeNumber_16 : decode cX5_takeNumber 16 = .ok (.aload_n 0, 1) := by decide +kernel
theorem dX5_takeNumber_17 : decode cX5_takeNumber 17 = .ok (.getfield 9, 3) := by decide +kernel
theorem dX5_takeNumber_20 : decode cX5_takeNumber 20 = .ok (.aload_n 0, 1) := by decide +kernel
theorem dX5_takeNumber_21 : decode cX5_takeNumber 21 = .ok (.getfield 19, 3) := by decide +kernel
theorem dX5_takeNumber_24 : decode cX5_takeNumber 24 = .ok (.baload, 1) := by decide +kernel
theorem dX5_takeNumber_25 : decode cX5_takeNumber 25 = .ok (.invokestatic 128, 3) := by decide +kernel
theorem dX5_takeNumber_28 : decode cX5_takeNumber 28 = .ok (.ifCond .eq 60, 3) := by decide +kernel
theorem dX5_takeNumber_31 : decode cX5_takeNumber 31 = .ok (.aload_n 0, 1) := by decide +kernel
theorem dX5_takeNumber_32 : decode cX5_takeNumber 32 = .ok (.aload_n 0, 1) := by decide +kernel
theorem dX5_takeNumber_33 : decode cX5_takeNumber 33 = .ok (.getfield 19, 3) := by decide +kernel
theorem dX5_takeNumber_36 : decode cX5_takeNumber 36 = .ok (.aload_n 0, 1) := by decide +kernel
theorem dX5_takeNumber_37 : decode cX5_takeNumber 37 = .ok (.getfield 113, 3) := by decide +kernel
theorem dX5_takeNumber_40 : decode cX5_takeNumber 40 = .ok (.isub, 1) := by decide +kernel
theorem dX5_takeNumber_41 : decode cX5_takeNumber 41 = .ok (.iconst 3, 1) := by decide +kernel
theorem dX5_takeNumber_42 : decode cX5_takeNumber 42 = .ok (.if_icmp .ge 26, 3) := by decide +kernel
theorem dX5_takeNumber_45 : decode cX5_takeNumber 45 = .ok (.bipush 10, 2) := by decide +kernel
theorem dX5_takeNumber_47 : decode cX5_takeNumber 47 = .ok (.aload_n 0, 1) := by decide +kernel
theorem dX5_takeNumber_48 : decode cX5_takeNumber 48 = .ok (.getfield 67, 3) := by decide +kernel
theorem dX5_takeNumber_51 : decode cX5_takeNumber 51 = .ok (.imul, 1) := by decide +kernel
theorem dX5_takeNumber_52 : decode cX5_takeNumber 52 = .ok (.aload_n 0, 1) := by decide +kernel
theorem dX5_takeNumber_53 : decode cX5_takeNumber 53 = .ok (.getfield 9, 3) := by decide +kernel
theorem dX5_takeNumber_56 : decode cX5_takeNumber 56 = .ok (.aload_n 0, 1) := by decide +kernel
theorem dX5_takeNumber_57 : decode cX5_takeNumber 57 = .ok (.getfield 19, 3) := by decide +kernel
theorem dX5_takeNumber_60 : decode cX5_takeNumber 60 = .ok (.baload, 1) := by decide +kernel
theorem dX5_takeNumber_61 : decode cX5_takeNumber 61 = .ok (.iadd, 1) := by decide +kernel
theorem dX5_takeNumber_62 : decode cX5_takeNumber 62 = .ok (.bipush 48, 2) := by decide +kernel
theorem dX5_takeNumber_64 : decode cX5_takeNumber 64 = .ok (.isub, 1) := by decide +kernel
theorem dX5_takeNumber_65 : decode cX5_takeNumber 65 = .ok (.goto 7, 3) := by decide +kernel
theorem dX5_takeNumber_68 : decode cX5_takeNumber 68 = .ok (.aload_n 0, 1) := by decide +kernel
theorem dX5_takeNumber_69 : decode cX5_takeNumber 69 = .ok (.getfield 67, 3) := by decide +kernel
theorem dX5_takeNumber_72 : decode cX5_takeNumber 72 = .ok (.putfield 67, 3) := by decide +kernel
theorem dX5_takeNumber_75 : decode cX5_takeNumber 75 = .ok (.aload_n 0, 1) := by decide +kernel
theorem dX5_takeNumber_76 : decode cX5_takeNumber 76 = .ok (.dup, 1) := by decide +kernel
theorem dX5_takeNumber_77 : decode cX5_takeNumber 77 = .ok (.getfield 19, 3) := by decide +kernel
theorem dX5_takeNumber_80 : decode cX5_takeNumber 80 = .ok (.iconst 1, 1) := by decide +kernel
theorem dX5_takeNumber_81 : decode cX5_takeNumber 81 = .ok (.iadd, 1) := by decide +kernel
theorem dX5_takeNumber_82 : decode cX5_takeNumber 82 = .ok (.putfield 19, 3) := by decide +kernel
theorem dX5_takeNumber_85 : decode cX5_takeNumber 85 = .ok (.goto (-80), 3) := by decide +kernel
theorem dX5_takeNumber_88 : decode cX5_takeNumber 88 = .ok (.aload_n 0, 1) := by decide +kernel
theorem dX5_takeNumber_89 : decode cX5_takeNumber 89 = .ok (.aload_n 0, 1) := by decide +kernel
theorem dX5_takeNumber_90 : decode cX5_takeNumber 90 = .ok (.getfield 19, 3) := by decide +kernel
theorem dX5_takeNumber_93 : decode cX5_takeNumber 93 = .ok (.aload_n 0, 1) := by decide +kernel
theorem dX5_takeNumber_94 : decode cX5_takeNumber 94 = .ok (.getfield 113, 3) := by decide +kernel
theorem dX5_takeNumber_97 : decode cX5_takeNumber 97 = .ok (.isub, 1) := by decide +kernel
theorem dX5_takeNumber_98 : decode cX5_takeNumber 98 = .ok (.iconst 3, 1) := by decide +kernel
theorem dX5_takeNumber_99 : decode cX5_takeNumber 99 = .ok (.if_icmp .le 7, 3) := by decide +kernel
theorem dX5_takeNumber_102 : decode cX5_takeNumber 102 = .ok (.iconst 4, 1) := by decide +kernel
theorem dX5_takeNumber_103 : decode cX5_takeNumber 103 = .ok (.goto 4, 3) := by decide +kernel
theorem dX5_takeNumber_106 : decode cX5_takeNumber 106 = .ok (.iconst 2, 1) := by decide +kernel
theorem dX5_takeNumber_107 : decode cX5_takeNumber 107 = .ok (.putfield 38, 3) := by decide +kernel
theorem dX5_takeNumber_110 : decode cX5_takeNumber 110 = .ok (.return_, 1) := by decide +kernel
set_option maxRecDepth 20000 in
theorem ggX5_isWord_J0_length_8abf5 : GoodIn wsX5_isWord wsJ0_length_8abf5 := goodIn_r _ [9, 10, 11, 12, 13, 8, 14, 15, 16] (by decide +kernel) (by decide +kernel)
set_option maxRecDepth 20000 in
theorem gX5_isWord_J0_length_8abf5 : GoodIn wsX5_isWord (wsV RX5 134 RJ0 yJ0_length_8abf5 wsJ0_length_8abf5) := goodIn_app (goodIn_of _ (by decide +kernel)) ggX5_isWord_J0_length_8abf5
set_option maxRecDepth 20000 in
theorem ggX5_isWord_J0_charAt_5068e : GoodIn wsX5_isWord wsJ0_charAt_5068e := goodIn_r _ [20, 10, 21, 22, 23, 8, 24, 15, 16, 25, 26, 27, 28, 29, 30, 31, 32, 33, 34, 35, 36, 37, 38, 39, 40, 41, 42, 43, 44, 45, 46, 47, 48, 49, 50, 51, 52, 53] (by decide +kernel) (by decide +kernel)
set_option maxRecDepth 20000 in
theorem gX5_isWord_J0_charAt_5068e : GoodIn wsX5_isWord (wsV RX5 139 RJ0 yJ0_charAt_5068e wsJ0_charAt_5068e) := goodIn_app (goodIn_of _ (by decide +kernel)) ggX5_isWord_J0_charAt_5068e
theorem dX5_isWord_0 : decode cX5_isWord 0 = .ok (.aload_n 0, 1) := by decide +kernel
theorem dX5_isWord_1 : decode cX5_isWord 1 = .ok (.getfield 38, 3) := by decide +kernel
theorem dX5_isWord_4 : decode cX5_isWord 4 = .ok (.iconst 1, 1) := by decide +kernel
theorem dX5_isWord_5 : decode cX5_isWord 5 = .ok (.if_icmp .ne 19, 3) := by decide +kernel
theorem dX5_isWord_8 : decode cX5_isWord 8 = .ok (.aload_n 0, 1) := by decide +kernel
theorem dX5_isWord_9 : decode cX5_isWord 9 = .ok (.getfield 19, 3) := by decide +kernel
theorem dX5_isWord_12 : decode cX5_isWord 12 = .ok (.aload_n 0, 1) := by decide +kernel
theorem dX5_isWord_13 : decode cX5_isWord 13 = .ok (.getfield 113, 3) := by decide +kernel
theorem dX5_isWord_16 : decode cX5_isWord 16 = .ok (.isub, 1) := by decide +kernel
theorem dX5_isWord_17 : decode cX5_isWord 17 = .ok (.aload_n 1, 1) := by decide +kernel
theorem dX5_isWord_18 : decode cX5_isWord 18 = .ok (.invokevirtual 134, 3) := by decide +kernel
theorem dX5_isWord_21 : decode cX5_isWord 21 = .ok (.if_icmp .eq 5, 3) := by decide +kernel
theorem dX5_isWord_24 : decode cX5_isWord 24 = .ok (.iconst 0, 1) := by decide +kernel
theorem dX5_isWord_25 : decode cX5_isWord 25 = .ok (.ireturn, 1) := by decide +kernel
theorem dX5_isWord_26 : decode cX5_isWord 26 = .ok (.iconst 0, 1) := by decide +kernel
theorem dX5_isWord_27 : decode cX5_isWord 27 = .ok (.istore_n 2, 1) := by decide +kernel
theorem dX5_isWord_28 : decode cX5_isWord 28 = .ok (.iload_n 2, 1) := by decide +kernel
theorem dX5_isWord_29 : decode cX5_isWord 29 = .ok (.aload_n 1, 1) := by decide +kernel
theorem dX5_isWord_30 : decode cX5_isWord 30 = .ok (.invokevirtual 134, 3) := by decide +kernel
theorem dX5_isWord_33 : decode cX5_isWord 33 = .ok (.if_icmp .ge 30, 3) := by decide +kernel
theorem dX5_isWord_36 : decode cX5_isWord 36 = .ok (.aload_n 0, 1) := by decide +kernel
theorem dX5_isWord_37 : decode cX5_isWord 37 = .ok (.getfield 9, 3) := by decide +kernel
theorem dX5_isWord_40 : decode cX5_isWord 40 = .ok (.aload_n 0, 1) := by decide +kernel
theorem dX5_isWord_41 : decode cX5_isWord 41 = .ok (.getfield 113, 3) := by decide +kernel
theorem dX5_isWord_44 : decode cX5_isWord 44 = .ok (.iload_n 2, 1) := by decide +kernel
theorem dX5_isWord_45 : decode cX5_isWord 45 = .ok (.iadd, 1) := by decide +kernel
theorem dX5_isWord_46 : decode cX5_isWord 46 = .ok (.baload, 1) := by decide +kernel
theorem dX5_isWord_47 : decode cX5_isWord 47 = .ok (.aload_n 1, 1) := by decide +kernel
theorem dX5_isWord_48 : decode cX5_isWord 48 = .ok (.iload_n 2, 1) := by decide +kernel
theorem dX5_isWord_49 : decode cX5_isWord 49 = .ok (.invokevirtual 139, 3) := by decide +kernel
theorem dX5_isWord_52 : decode cX5_isWord 52 = .ok (.if_icmp .eq 5, 3) := by decide +kernel
theorem dX5_isWord_55 : decode cX5_isWord 55 = .ok (.iconst 0, 1) := by decide +kernel
theorem dX5_isWord_56 : decode cX5_isWord 56 = .ok (.ireturn, 1) := by decide +kernel
theorem dX5_isWord_57 : decode cX5_isWord 57 = .ok (.iinc 2 1, 3) := by decide +kernel
theorem dX5_isWord_60 : decode cX5_isWord 60 = .ok (.goto (-32), 3) := by decide +kernel
theorem dX5_isWord_63 : decode cX5_isWord 63 = .ok (.iconst 1, 1) := by decide +kernel
theorem dX5_isWord_64 : decode cX5_isWord 64 = .ok (.ireturn, 1) := by decide +kernel
theorem dX5_isLetter_0 : decode cX5_isLetter 0 = .ok (.iload_n 0, 1) := by decide +kernel
theorem dX5_isLetter_1 : decode cX5_isLetter 1 = .ok (.bipush 97, 2) := by decide +kernel
theorem dX5_isLetter_3 : decode cX5_isLetter 3 = .ok (.if_icmp .lt 13, 3) := by decide +kernel
theorem dX5_isLetter_6 : decode cX5_isLetter 6 = .ok (.iload_n 0, 1) := by decide +kernel
theorem dX5_isLetter_7 : decode cX5_isLetter 7 = .ok (.bipush 122, 2) := by decide +kernel
theorem dX5_isLetter_9 : decode cX5_isLetter 9 = .ok (.if_icmp .gt 7, 3) := by decide +kernel
theorem dX5_isLetter_12 : decode cX5_isLetter 12 = .ok (.iconst 1, 1) := by decide +kernel
theorem dX5_isLetter_13 : decode cX5_isLetter 13 = .ok (.goto 4, 3) := by decide +kernel
theorem dX5_isLetter_16 : decode cX5_isLetter 16 = .ok (.iconst 0, 1) := by decide +kernel
theorem dX5_isLetter_17 : decode cX5_isLetter 17 = .ok (.ireturn, 1) := by decide +kernel
theorem dX5_isFigure_0 : decode cX5_isFigure 0 = .ok (.iload_n 0, 1) := by decide +kernel
theorem dX5_isFigure_1 : decode cX5_isFigure 1 = .ok (.bipush 48, 2) := by decide +kernel
theorem dX5_isFigure_3 : decode cX5_isFigure 3 = .ok (.if_icmp .lt 13, 3) := by decide +kernel
theorem dX5_isFigure_6 : decode cX5_isFigure 6 = .ok (.iload_n 0, 1) := by decide +kernel
theorem dX5_isFigure_7 : decode cX5_isFigure 7 = .ok (.bipush 57, 2) := by decide +kernel
theorem dX5_isFigure_9 : decode cX5_isFigure 9 = .ok (.if_icmp .gt 7, 3) := by decide +kernel
theorem dX5_isFigure_12 : decode cX5_isFigure 12 = .ok (.iconst 1, 1) := by decide +kernel
theorem dX5_isFigure_13 : decode cX5_isFigure 13 = .ok (.goto 4, 3) := by decide +kernel
theorem dX5_isFigure_16 : decode cX5_isFigure 16 = .ok (.iconst 0, 1) := by decide +kernel
theorem dX5_isFigure_17 : decode cX5_isFigure 17 = .ok (.ireturn, 1) := by decide +kernel
set_option maxRecDepth 20000 in
theorem ggX6_init_J7_fill_53178 : GoodIn wsX6_init wsJ7_fill_53178 := goodIn_r _ [12] (by decide +kernel) (by decide +kernel)
set_option maxRecDepth 20000 in
theorem gX6_init_J7_fill_53178 : GoodIn wsX6_init (va_wsS RX6 23 yJ7_fill_53178 wsJ7_fill_53178) := goodIn_app (goodIn_of _ (by decide +kernel)) ggX6_init_J7_fill_53178
theorem dX6_init_0 : decode cX6_init 0 = .ok (.aload_n 0, 1) := by decide +kernel
theorem dX6_init_1 : decode cX6_init 1 = .ok (.invokespecial 3, 3) := by decide +kernel
theorem dX6_init_4 : decode cX6_init 4 = .ok (.aload_n 0, 1) := by decide +kernel
theorem dX6_init_5 : decode cX6_init 5 = .ok (.bipush 8, 2) := by decide +kernel
theorem dX6_init_7 : decode cX6_init 7 = .ok (.bipush 40, 2) := by decide +kernel
theorem dX6_init_9 : decode cX6_init 9 = .ok (.multianewarray 9 2, 4) := by decide +kernel
theorem dX6_init_13 : decode cX6_init 13 = .ok (.putfield 11, 3) := by decide +kernel
theorem dX6_init_16 : decode cX6_init 16 = .ok (.aload_n 0, 1) := by decide +kernel
theorem dX6_init_17 : decode cX6_init 17 = .ok (.bipush 8, 2) := by decide +kernel
theorem dX6_init_19 : decode cX6_init 19 = .ok (.newarray .int, 2) := by decide +kernel
theorem dX6_init_21 : decode cX6_init 21 = .ok (.putfield 16, 3) := by decide +kernel
theorem dX6_init_24 : decode cX6_init 24 = .ok (.aload_n 0, 1) := by decide +kernel
theorem dX6_init_25 : decode cX6_init 25 = .ok (.bipush 8, 2) := by decide +kernel
theorem dX6_init_27 : decode cX6_init 27 = .ok (.newarray .int, 2) := by decide +kernel
theorem dX6_init_29 : decode cX6_init 29 = .ok (.putfield 20, 3) := by decide +kernel
theorem dX6_init_32 : decode cX6_init 32 = .ok (.aload_n 0, 1) := by decide +kernel
theorem dX6_init_33 : decode cX6_init 33 = .ok (.getfield 20, 3) := by decide +kernel
theorem dX6_init_36 : decode cX6_init 36 = .ok (.iconst (-1), 1) := by decide +kernel
theorem dX6_init_37 : decode cX6_init 37 = .ok (.invokestatic 23, 3) := by decide +kernel
theorem dX6_init_40 : decode cX6_init 40 = .ok (.return_, 1) := by decide +kernel
theorem dX6_isMissing_0 : decode cX6_isMissing 0 = .ok (.aload_n 0, 1) := by decide +kernel
theorem dX6_isMissing_1 : decode cX6_isMissing 1 = .ok (.getfield 20, 3) := by decide +kernel
theorem dX6_isMissing_4 : decode cX6_isMissing 4 = .ok (.iload_n 1, 1) := by decide +kernel
theorem dX6_isMissing_5 : decode cX6_isMissing 5 = .ok (.iaload, 1) := by decide +kernel
theorem dX6_isMissing_6 : decode cX6_isMissing 6 = .ok (.ifCond .ge 7, 3) := by decide +kernel
theorem dX6_isMissing_9 : decode cX6_isMissing 9 = .ok (.iconst 1, 1) := by decide +kernel
theorem dX6_isMissing_10 : decode cX6_isMissing 10 = .ok (.goto 4, 3) := by decide +kernel
theorem dX6_isMissing_13 : decode cX6_isMissing 13 = .ok (.iconst 0, 1) := by decide +kernel
theorem dX6_isMissing_14 : decode cX6_isMissing 14 = .ok (.ireturn, 1) := by decide +kernel
theorem dX6_sizeOf_0 : decode cX6_sizeOf 0 = .ok (.aload_n 0, 1) := by decide +kernel
theorem dX6_sizeOf_1 : decode cX6_sizeOf 1 = .ok (.getfield 20, 3) := by decide +kernel
theorem dX6_sizeOf_4 : decode cX6_sizeOf 4 = .ok (.iload_n 1, 1) := by decide +kernel
theorem dX6_sizeOf_5 : decode cX6_sizeOf 5 = .ok (.iaload, 1) := by decide +kernel
theorem dX6_sizeOf_6 : decode cX6_sizeOf 6 = .ok (.ireturn, 1) := by decide +kernel
theorem dX6_areOfOneLane_0 : decode cX6_areOfOneLane 0 = .ok (.aload_n 0, 1) := by decide +kernel
theorem dX6_areOfOneLane_1 : decode cX6_areOfOneLane 1 = .ok (.getfield 16, 3) := by decide +kernel
theorem dX6_areOfOneLane_4 : decode cX6_areOfOneLane 4 = .ok (.iload_n 1, 1) := by decide +kernel
theorem dX6_areOfOneLane_5 : decode cX6_areOfOneLane 5 = .ok (.iaload, 1) := by decide +kernel
theorem dX6_areOfOneLane_6 : decode cX6_areOfOneLane 6 = .ok (.aload_n 0, 1) := by decide +kernel
theorem dX6_areOfOneLane_7 : decode cX6_areOfOneLane 7 = .ok (.getfield 16, 3) := by decide +kernel
theorem dX6_areOfOneLane_10 : decode cX6_areOfOneLane 10 = .ok (.iload_n 2, 1) := by decide +kernel
theorem dX6_areOfOneLane_11 : decode cX6_areOfOneLane 11 = .ok (.iaload, 1) := by decide +kernel
theorem dX6_areOfOneLane_12 : decode cX6_areOfOneLane 12 = .ok (.if_icmp .ne 7, 3) := by decide +kernel
theorem dX6_areOfOneLane_15 : decode cX6_areOfOneLane 15 = .ok (.iconst 1, 1) := by decide +kernel
theorem dX6_areOfOneLane_16 : decode cX6_areOfOneLane 16 = .ok (.goto 4, 3) := by decide +kernel
theorem dX6_areOfOneLane_19 : decode cX6_areOfOneLane 19 = .ok (.iconst 0, 1) := by decide +kernel
theorem dX6_areOfOneLane_20 : decode cX6_areOfOneLane 20 = .ok (.ireturn, 1) := by decide +kernel
set_option maxRecDepth 20000 in
theorem ggX6_present_X6_isMissing : GoodIn wsX6_present wsX6_isMissing := goodIn_r _ [5, 6, 7, 8, 9] (by decide +kernel) (by decide +kernel)
set_option maxRecDepth 20000 in
theorem gX6_present_X6_isMissing : GoodIn wsX6_present (wsV RX6 29 RX6 yX6_isMissing wsX6_isMissing) := goodIn_app (goodIn_of _ (by decide +kernel)) ggX6_present_X6_isMissing
theorem dX6_present_0 : decode cX6_present 0 = .ok (.iconst 0, 1) := by decide +kernel
theorem dX6_present_1 : decode cX6_present 1 = .ok (.istore_n 1, 1) := by decide +kernel
theorem dX6_present_2 : decode cX6_present 2 = .ok (.iconst 0, 1) := by decide +kernel
theorem dX6_present_3 : decode cX6_present 3 = .ok (.istore_n 2, 1) := by decide +kernel
theorem dX6_present_4 : decode cX6_present 4 = .ok (.iload_n 2, 1) := by decide +kernel
theorem dX6_present_5 : decode cX6_present 5 = .ok (.bipush 8, 2) := by decide +kernel
theorem dX6_present_7 : decode cX6_present 7 = .ok (.if_icmp .ge 25, 3) := by decide +kernel
theorem dX6_present_10 : decode cX6_present 10 = .ok (.iload_n 1, 1) := by decide +kernel
theorem dX6_present_11 : decode cX6_present 11 = .ok (.aload_n 0, 1) := by decide +kernel
theorem dX6_present_12 : decode cX6_present 12 = .ok (.iload_n 2, 1) := by decide +kernel
theorem dX6_present_13 : decode cX6_present 13 = .ok (.invokevirtual 29, 3) := by decide +kernel
theorem dX6_present_16 : decode cX6_present 16 = .ok (.ifCond .eq 7, 3) := by decide +kernel
theorem dX6_present_19 : decode cX6_present 19 = .ok (.iconst 0, 1) := by decide +kernel
theorem dX6_present_20 : decode cX6_present 20 = .ok (.goto 4, 3) := by decide +kernel
theorem dX6_present_23 : decode cX6_present 23 = .ok (.iconst 1, 1) := by decide +kernel
theorem dX6_present_24 : decode cX6_present 24 = .ok (.iadd, 1) := by decide +kernel
theorem dX6_present_25 : decode cX6_present 25 = .ok (.istore_n 1, 1) := by decide +kernel
theorem dX6_present_26 : decode cX6_present 26 = .ok (.iinc 2 1, 3) := by decide +kernel
theorem dX6_present_29 : decode cX6_present 29 = .ok (.goto (-25), 3) := by decide +kernel
theorem dX6_present_32 : decode cX6_present 32 = .ok (.iload_n 1, 1) := by decide +kernel
theorem dX6_present_33 : decode cX6_present 33 = .ok (.ireturn, 1) := by decide +kernel
set_option maxRecDepth 20000 in
theorem ggX6_make_J7_fill_53178 : GoodIn wsX6_make wsJ7_fill_53178 := goodIn_r _ [7] (by decide +kernel) (by decide +kernel)
set_option maxRecDepth 20000 in
theorem gX6_make_J7_fill_53178 : GoodIn wsX6_make (va_wsS RX6 23 yJ7_fill_53178 wsJ7_fill_53178) := goodIn_app (goodIn_of _ (by decide +kernel)) ggX6_make_J7_fill_53178
theorem dX6_make_0 : decode cX6_make 0 = .ok (.aload_n 0, 1) := by decide +kernel
theorem dX6_make_1 : decode cX6_make 1 = .ok (.getfield 16, 3) := by decide +kernel
theorem dX6_make_4 : decode cX6_make 4 = .ok (.iload_n 1, 1) := by decide +kernel
theorem dX6_make_5 : decode cX6_make 5 = .ok (.iload_n 2, 1) := by decide +kernel
theorem dX6_make_6 : decode cX6_make 6 = .ok (.iastore, 1) := by decide +kernel
theorem dX6_make_7 : decode cX6_make 7 = .ok (.aload_n 0, 1) := by decide +kernel
theorem dX6_make_8 : decode cX6_make 8 = .ok (.getfield 20, 3) := by decide +kernel
theorem dX6_make_11 : decode cX6_make 11 = .ok (.iload_n 1, 1) := by decide +kernel
theorem dX6_make_12 : decode cX6_make 12 = .ok (.iload_n 3, 1) := by decide +kernel
theorem dX6_make_13 : decode cX6_make 13 = .ok (.iastore, 1) := by decide +kernel
theorem dX6_make_14 : decode cX6_make 14 = .ok (.aload_n 0, 1) := by decide +kernel
theorem dX6_make_15 : decode cX6_make 15 = .ok (.getfield 11, 3) := by decide +kernel
theorem dX6_make_18 : decode cX6_make 18 = .ok (.iload_n 1, 1) := by decide +kernel
theorem dX6_make_19 : decode cX6_make 19 = .ok (.aaload, 1) := by decide +kernel
theorem dX6_make_20 : decode cX6_make 20 = .ok (.iconst 0, 1) := by decide +kernel
theorem dX6_make_21 : decode cX6_make 21 = .ok (.invokestatic 23, 3) := by decide +kernel
theorem dX6_make_24 : decode cX6_make 24 = .ok (.return_, 1) := by decide +kernel
theorem dX6_remove_0 : decode cX6_remove 0 = .ok (.aload_n 0, 1) := by decide +kernel
theorem dX6_remove_1 : decode cX6_remove 1 = .ok (.getfield 20, 3) := by decide +kernel
theorem dX6_remove_4 : decode cX6_remove 4 = .ok (.iload_n 1, 1) := by decide +kernel
theorem dX6_remove_5 : decode cX6_remove 5 = .ok (.iaload, 1) := by decide +kernel
theorem dX6_remove_6 : decode cX6_remove 6 = .ok (.istore_n 2, 1) := by decide +kernel
theorem dX6_remove_7 : decode cX6_remove 7 = .ok (.aload_n 0, 1) := by decide +kernel
theorem dX6_remove_8 : decode cX6_remove 8 = .ok (.getfield 20, 3) := by decide +kernel
theorem dX6_remove_11 : decode cX6_remove 11 = .ok (.iload_n 1, 1) := by decide +kernel
theorem dX6_remove_12 : decode cX6_remove 12 = .ok (.iconst (-1), 1) := by decide +kernel
theorem dX6_remove_13 : decode cX6_remove 13 = .ok (.iastore, 1) := by decide +kernel
theorem dX6_remove_14 : decode cX6_remove 14 = .ok (.iload_n 2, 1) := by decide +kernel
theorem dX6_remove_15 : decode cX6_remove 15 = .ok (.ireturn, 1) := by decide +kernel
theorem dX6_put_0 : decode cX6_put 0 = .ok (.aload_n 0, 1) := by decide +kernel
theorem dX6_put_1 : decode cX6_put 1 = .ok (.getfield 16, 3) := by decide +kernel
theorem dX6_put_4 : decode cX6_put 4 = .ok (.iload_n 1, 1) := by decide +kernel
theorem dX6_put_5 : decode cX6_put 5 = .ok (.iaload, 1) := by decide +kernel
theorem dX6_put_6 : decode cX6_put 6 = .ok (.ifCond .ne 8, 3) := by decide +kernel
theorem dX6_put_9 : decode cX6_put 9 = .ok (.iload_n 3, 1) := by decide +kernel
theorem dX6_put_10 : decode cX6_put 10 = .ok (.i2b, 1) := by decide +kernel
theorem dX6_put_11 : decode cX6_put 11 = .ok (.goto 19, 3) := by decide +kernel
theorem dX6_put_14 : decode cX6_put 14 = .ok (.aload_n 0, 1) := by decide +kernel
theorem dX6_put_15 : decode cX6_put 15 = .ok (.getfield 16, 3) := by decide +kernel
theorem dX6_put_18 : decode cX6_put 18 = .ok (.iload_n 1, 1) := by decide +kernel
theorem dX6_put_19 : decode cX6_put 19 = .ok (.iaload, 1) := by decide +kernel
theorem dX6_put_20 : decode cX6_put 20 = .ok (.iconst 1, 1) := by decide +kernel
theorem dX6_put_21 : decode cX6_put 21 = .ok (.if_icmp .ne 8, 3) := by decide +kernel
theorem dX6_put_24 : decode cX6_put 24 = .ok (.iload_n 3, 1) := by decide +kernel
theorem dX6_put_25 : decode cX6_put 25 = .ok (.i2s, 1) := by decide +kernel
theorem dX6_put_26 : decode cX6_put 26 = .ok (.goto 4, 3) := by decide +kernel
theorem dX6_put_29 : decode cX6_put 29 = .ok (.iload_n 3, 1) := by decide +kernel
theorem dX6_put_30 : decode cX6_put 30 = .ok (.istore 4, 2) := by decide +kernel
theorem dX6_put_32 : decode cX6_put 32 = .ok (.aload_n 0, 1) := by decide +kernel
theorem dX6_put_33 : decode cX6_put 33 = .ok (.getfield 11, 3) := by decide +kernel
theorem dX6_put_36 : decode cX6_put 36 = .ok (.iload_n 1, 1) := by decide +kernel
theorem dX6_put_37 : decode cX6_put 37 = .ok (.aaload, 1) := by decide +kernel
theorem dX6_put_38 : decode cX6_put 38 = .ok (.iload_n 2, 1) := by decide +kernel
theorem dX6_put_39 : decode cX6_put 39 = .ok (.iload 4, 2) := by decide +kernel
theorem dX6_put_41 : decode cX6_put 41 = .ok (.iastore, 1) := by decide +kernel
theorem dX6_put_42 : decode cX6_put 42 = .ok (.iload 4, 2) := by decide +kernel
theorem dX6_put_44 : decode cX6_put 44 = .ok (.ireturn, 1) := by decide +kernel
theorem dX6_holds_0 : decode cX6_holds 0 = .ok (.iload_n 2, 1) := by decide +kernel
theorem dX6_holds_1 : decode cX6_holds 1 = .ok (.ifCond .lt 33, 3) := by decide +kernel
theorem dX6_holds_4 : decode cX6_holds 4 = .ok (.iload_n 3, 1) := by decide +kernel
theorem dX6_holds_5 : decode cX6_holds 5 = .ok (.ifCond .lt 29, 3) := by decide +kernel
theorem dX6_holds_8 : decode cX6_holds 8 = .ok (.iload_n 2, 1) := by decide +kernel
theorem dX6_holds_9 : decode cX6_holds 9 = .ok (.aload_n 0, 1) := by decide +kernel
theorem dX6_holds_10 : decode cX6_holds 10 = .ok (.getfield 20, 3) := by decide +kernel
theorem dX6_holds_13 : decode cX6_holds 13 = .ok (.iload_n 1, 1) := by decide +kernel
theorem dX6_holds_14 : decode cX6_holds 14 = .ok (.iaload, 1) := by decide +kernel
theorem dX6_holds_15 : decode cX6_holds 15 = .ok (.if_icmp .gt 19, 3) := by decide +kernel
theorem dX6_holds_18 : decode cX6_holds 18 = .ok (.iload_n 3, 1) := by decide +kernel
theorem dX6_holds_19 : decode cX6_holds 19 = .ok (.aload_n 0, 1) := by decide +kernel
theorem dX6_holds_20 : decode cX6_holds 20 = .ok (.getfield 20, 3) := by decide +kernel
theorem dX6_holds_23 : decode cX6_holds 23 = .ok (.iload_n 1, 1) := by decide +kernel
theorem dX6_holds_24 : decode cX6_holds 24 = .ok (.iaload, 1) := by decide +kernel
theorem dX6_holds_25 : decode cX6_holds 25 = .ok (.iload_n 2, 1) := by decide +kernel
theorem dX6_holds_26 : decode cX6_holds 26 = .ok (.isub, 1) := by decide +kernel
theorem dX6_holds_27 : decode cX6_holds 27 = .ok (.if_icmp .gt 7, 3) := by decide +kernel
theorem dX6_holds_30 : decode cX6_holds 30 = .ok (.iconst 1, 1) := by decide +kernel
theorem dX6_holds_31 : decode cX6_holds 31 = .ok (.goto 4, 3) := by decide +kernel
theorem dX6_holds_34 : decode cX6_holds 34 = .ok (.iconst 0, 1) := by decide +kernel
theorem dX6_holds_35 : decode cX6_holds 35 = .ok (.ireturn, 1) := by decide +kernel
theorem dX6_move_0 : decode cX6_move 0 = .ok (.aload_n 0, 1) := by decide +kernel
theorem dX6_move_1 : decode cX6_move 1 = .ok (.getfield 11, 3) := by decide +kernel
theorem dX6_move_4 : decode cX6_move 4 = .ok (.iload_n 1, 1) := by decide +kernel
theorem dX6_move_5 : decode cX6_move 5 = .ok (.aaload, 1) := by decide +kernel
theorem dX6_move_6 : decode cX6_move 6 = .ok (.iload_n 2, 1) := by decide +kernel
theorem dX6_move_7 : decode cX6_move 7 = .ok (.aload_n 0, 1) := by decide +kernel
theorem dX6_move_8 : decode cX6_move 8 = .ok (.getfield 11, 3) := by decide +kernel
theorem dX6_move_11 : decode cX6_move 11 = .ok (.iload_n 3, 1) := by decide +kernel
theorem dX6_move_12 : decode cX6_move 12 = .ok (.aaload, 1) := by decide +kernel
theorem dX6_move_13 : decode cX6_move 13 = .ok (.iload 4, 2) := by decide +kernel
theorem dX6_move_15 : decode cX6_move 15 = .ok (.iload 5, 2) := by decide +kernel
theorem dX6_move_17 : decode cX6_move 17 = .ok (.invokestatic 33, 3) := by decide +kernel
theorem dX6_move_20 : decode cX6_move 20 = .ok (.return_, 1) := by decide +kernel
set_option maxRecDepth 20000 in
theorem ggX6_startsWithMoves_X11_isMove : GoodIn wsX6_startsWithMoves wsX11_isMove := goodIn_r _ [4] (by decide +kernel) (by decide +kernel)
set_option maxRecDepth 20000 in
theorem gX6_startsWithMoves_X11_isMove_n39 : GoodIn wsX6_startsWithMoves (wsX11_isMove) := ggX6_startsWithMoves_X11_isMove
theorem dX6_startsWithMoves_0 : decode cX6_startsWithMoves 0 = .ok (.iconst 0, 1) := by decide +kernel
theorem dX6_startsWithMoves_1 : decode cX6_startsWithMoves 1 = .ok (.istore_n 3, 1) := by decide +kernel
theorem dX6_startsWithMoves_2 : decode cX6_startsWithMoves 2 = .ok (.iload_n 3, 1) := by decide +kernel
theorem dX6_startsWithMoves_3 : decode cX6_startsWithMoves 3 = .ok (.iload_n 2, 1) := by decide +kernel
theorem dX6_startsWithMoves_4 : decode cX6_startsWithMoves 4 = .ok (.if_icmp .ge 25, 3) := by decide +kernel
theorem dX6_startsWithMoves_7 : decode cX6_startsWithMoves 7 = .ok (.aload_n 0, 1) := by decide +kernel
theorem dX6_startsWithMoves_8 : decode cX6_startsWithMoves 8 = .ok (.getfield 11, 3) := by decide +kernel
theorem dX6_startsWithMoves_11 : decode cX6_startsWithMoves 11 = .ok (.iload_n 1, 1) := by decide +kernel
theorem dX6_startsWithMoves_12 : decode cX6_startsWithMoves 12 = .ok (.aaload, 1) := by decide +kernel
theorem dX6_startsWithMoves_13 : decode cX6_startsWithMoves 13 = .ok (.iload_n 3, 1) := by decide +kernel
theorem dX6_startsWithMoves_14 : decode cX6_startsWithMoves 14 = .ok (.iaload, 1) := by decide +kernel
theorem dX6_startsWithMoves_15 : decode cX6_startsWithMoves 15 = .ok (.invokestatic 39, 3) := by decide +kernel
theorem dX6_startsWithMoves_18 : decode cX6_startsWithMoves 18 = .ok (.ifCond .ne 5, 3) := by decide +kernel
theorem dX6_startsWithMoves_21 : decode cX6_startsWithMoves 21 = .ok (.iconst 0, 1) := by decide +kernel
theorem dX6_startsWithMoves_22 : decode cX6_startsWithMoves 22 = .ok (.ireturn, 1) := by decide +kernel
theorem dX6_startsWithMoves_23 : decode cX6_startsWithMoves 23 = .ok (.iinc 3 1, 3) := by decide +kernel
theorem dX6_startsWithMoves_26 : decode cX6_startsWithMoves 26 = .ok (.goto (-24), 3) := by decide +kernel
theorem dX6_startsWithMoves_29 : decode cX6_startsWithMoves 29 = .ok (.iconst 1, 1) := by decide +kernel
theorem dX6_startsWithMoves_30 : decode cX6_startsWithMoves 30 = .ok (.ireturn, 1) := by decide +kernel
set_option maxRecDepth 20000 in
theorem ggX7_init_X1_init : GoodIn wsX7_init wsX1_init := goodIn_r _ [4, 5, 6, 7, 8, 9, 10, 11, 12, 13, 14, 15, 16, 17, 18, 19, 20, 21, 22, 23, 24, 25, 26, 27, 28, 29] (by decide +kernel) (by decide +kernel)
set_option maxRecDepth 20000 in
theorem gX7_init_X1_init : GoodIn wsX7_init (wsX1_init) := ggX7_init_X1_init
theorem dX7_init_0 : decode cX7_init 0 = .ok (.aload_n 0, 1) := by decide +kernel
theorem dX7_init_1 : decode cX7_init 1 = .ok (.iload_n 1, 1) := by decide +kernel
theorem dX7_init_2 : decode cX7_init 2 = .ok (.iload_n 2, 1) := by decide +kernel
theorem dX7_init_3 : decode cX7_init 3 = .ok (.iload_n 3, 1) := by decide +kernel
theorem dX7_init_4 : decode cX7_init 4 = .ok (.invokespecial 1, 3) := by decide +kernel
theorem dX7_init_7 : decode cX7_init 7 = .ok (.return_, 1) := by decide +kernel
theorem dX7_kindNumber_0 : decode cX7_kindNumber 0 = .ok (.iconst 3, 1) := by decide +kernel
theorem dX7_kindNumber_1 : decode cX7_kindNumber 1 = .ok (.ireturn, 1) := by decide +kernel
theorem dX7_cropOn_0 : decode cX7_cropOn 0 = .ok (.iload_n 1, 1) := by decide +kernel
theorem dX7_cropOn_1 : decode cX7_cropOn 1 = .ok (.aload_n 0, 1) := by decide +kernel
theorem dX7_cropOn_2 : decode cX7_cropOn 2 = .ok (.getfield 7, 3) := by decide +kernel
theorem dX7_cropOn_5 : decode cX7_cropOn 5 = .ok (.if_icmp .ge 7, 3) := by decide +kernel
theorem dX7_cropOn_8 : decode cX7_cropOn 8 = .ok (.iconst 0, 1) := by decide +kernel
theorem dX7_cropOn_9 : decode cX7_cropOn 9 = .ok (.goto 21, 3) := by decide +kernel
theorem dX7_cropOn_12 : decode cX7_cropOn 12 = .ok (.iconst 0, 1) := by decide +kernel
theorem dX7_cropOn_13 : decode cX7_cropOn 13 = .ok (.aload_n 0, 1) := by decide +kernel
theorem dX7_cropOn_14 : decode cX7_cropOn 14 = .ok (.getfield 13, 3) := by decide +kernel
theorem dX7_cropOn_17 : decode cX7_cropOn 17 = .ok (.bipush 10, 2) := by decide +kernel
theorem dX7_cropOn_19 : decode cX7_cropOn 19 = .ok (.iload_n 1, 1) := by decide +kernel
theorem dX7_cropOn_20 : decode cX7_cropOn 20 = .ok (.aload_n 0, 1) := by decide +kernel
theorem dX7_cropOn_21 : decode cX7_cropOn 21 = .ok (.getfield 7, 3) := by decide +kernel
theorem dX7_cropOn_24 : decode cX7_cropOn 24 = .ok (.isub, 1) := by decide +kernel
theorem dX7_cropOn_25 : decode cX7_cropOn 25 = .ok (.imul, 1) := by decide +kernel
theorem dX7_cropOn_26 : decode cX7_cropOn 26 = .ok (.isub, 1) := by decide +kernel
theorem dX7_cropOn_27 : decode cX7_cropOn 27 = .ok (.invokestatic 16, 3) := by decide +kernel
theorem dX7_cropOn_30 : decode cX7_cropOn 30 = .ok (.ireturn, 1) := by decide +kernel
set_option maxRecDepth 20000 in
theorem ggX7_askMark_X10_leave : GoodIn wsX7_askMark wsX10_leave := goodIn_r _ [4, 5, 6, 22, 23] (by decide +kernel) (by decide +kernel)
set_option maxRecDepth 20000 in
theorem gX7_askMark_X10_leave_n22 : GoodIn wsX7_askMark (wsX10_leave) := ggX7_askMark_X10_leave
set_option maxRecDepth 20000 in
theorem ggX7_askMark_X1_askMark : GoodIn wsX7_askMark wsX1_askMark := goodIn_r _ [12, 13, 14, 1, 2, 3, 4, 5, 6, 15, 16, 17, 18, 19, 20, 21, 24, 25, 26, 27, 28, 29, 30, 31, 32, 33, 34, 35, 36, 37, 38, 22, 23] (by decide +kernel) (by decide +kernel)
set_option maxRecDepth 20000 in
theorem gX7_askMark_X1_askMark_s28 : GoodIn wsX7_askMark (va_wsSU RX7 28 yX1_askMark wsX1_askMark) := goodIn_app (goodIn_of _ (by decide +kernel)) ggX7_askMark_X1_askMark
theorem dX7_askMark_0 : decode cX7_askMark 0 = .ok (.aload_n 1, 1) := by decide +kernel
theorem dX7_askMark_1 : decode cX7_askMark 1 = .ok (.bipush 22, 2) := by decide +kernel
theorem dX7_askMark_3 : decode cX7_askMark 3 = .ok (.invokevirtual 22, 3) := by decide +kernel
theorem dX7_askMark_6 : decode cX7_askMark 6 = .ok (.aload_n 0, 1) := by decide +kernel
theorem dX7_askMark_7 : decode cX7_askMark 7 = .ok (.aload_n 1, 1) := by decide +kernel
theorem dX7_askMark_8 : decode cX7_askMark 8 = .ok (.invokespecial 28, 3) := by decide +kernel
theorem dX7_askMark_11 : decode cX7_askMark 11 = .ok (.sipush 1000, 3) := by decide +kernel
theorem dX7_askMark_14 : decode cX7_askMark 14 = .ok (.isub, 1) := by decide +kernel
theorem dX7_askMark_15 : decode cX7_askMark 15 = .ok (.ireturn, 1) := by decide +kernel
theorem dX8_init_0 : decode cX8_init 0 = .ok (.aload_n 0, 1) := by decide +kernel
theorem dX8_init_1 : decode cX8_init 1 = .ok (.invokespecial 3, 3) := by decide +kernel
theorem dX8_init_4 : decode cX8_init 4 = .ok (.aload_n 0, 1) := by decide +kernel
theorem dX8_init_5 : decode cX8_init 5 = .ok (.bipush 12, 2) := by decide +kernel
theorem dX8_init_7 : decode cX8_init 7 = .ok (.newarray .int, 2) := by decide +kernel
theorem dX8_init_9 : decode cX8_init 9 = .ok (.putfield 9, 3) := by decide +kernel
theorem dX8_init_12 : decode cX8_init 12 = .ok (.aload_n 0, 1) := by decide +kernel
theorem dX8_init_13 : decode cX8_init 13 = .ok (.bipush 12, 2) := by decide +kernel
theorem dX8_init_15 : decode cX8_init 15 = .ok (.newarray .int, 2) := by decide +kernel
theorem dX8_init_17 : decode cX8_init 17 = .ok (.putfield 15, 3) := by decide +kernel
theorem dX8_init_20 : decode cX8_init 20 = .ok (.aload_n 0, 1) := by decide +kernel
theorem dX8_init_21 : decode cX8_init 21 = .ok (.bipush 12, 2) := by decide +kernel
theorem dX8_init_23 : decode cX8_init 23 = .ok (.newarray .boolean, 2) := by decide +kernel
