set_option maxRecDepth 20000 in
theorem gX11_crop_X3_cropOn_u168X3 : GoodIn wsX11_crop (va_wsU RX11 168 RX3 "FenceYards$Strip" ⟨"FenceYards$Strip", "cropOn", "(I)I"⟩ yX3_cropOn wsX3_cropOn) := goodIn_app (goodIn_of _ (by decide +kernel)) ggX11_crop_X3_cropOn
set_option maxRecDepth 20000 in
theorem ggX11_crop_X7_cropOn : GoodIn wsX11_crop wsX7_cropOn := goodIn_r _ [39, 40, 41, 42, 43, 44, 45, 46, 47, 68, 69, 70, 71, 72, 73, 74, 75, 76, 77, 78, 79, 80, 81, 82] (by decide +kernel) (by decide +kernel)
set_option maxRecDepth 20000 in
theorem gX11_crop_X7_cropOn_u168X7 : GoodIn wsX11_crop (va_wsU RX11 168 RX7 "FenceYards$Strip" ⟨"FenceYards$Strip", "cropOn", "(I)I"⟩ yX7_cropOn wsX7_cropOn) := goodIn_app (goodIn_of _ (by decide +kernel)) ggX11_crop_X7_cropOn
theorem dX11_crop_0 : decode cX11_crop 0 = .ok (.aload_n 0, 1) := by decide +kernel
theorem dX11_crop_1 : decode cX11_crop 1 = .ok (.getfield 47, 3) := by decide +kernel
theorem dX11_crop_4 : decode cX11_crop 4 = .ok (.iload_n 1, 1) := by decide +kernel
theorem dX11_crop_5 : decode cX11_crop 5 = .ok (.invokevirtual 150, 3) := by decide +kernel
theorem dX11_crop_8 : decode cX11_crop 8 = .ok (.astore_n 3, 1) := by decide +kernel
theorem dX11_crop_9 : decode cX11_crop 9 = .ok (.aload_n 3, 1) := by decide +kernel
theorem dX11_crop_10 : decode cX11_crop 10 = .ok (.ifnull 13, 3) := by decide +kernel
theorem dX11_crop_13 : decode cX11_crop 13 = .ok (.iload_n 2, 1) := by decide +kernel
theorem dX11_crop_14 : decode cX11_crop 14 = .ok (.ifCond .lt 9, 3) := by decide +kernel
theorem dX11_crop_17 : decode cX11_crop 17 = .ok (.iload_n 2, 1) := by decide +kernel
theorem dX11_crop_18 : decode cX11_crop 18 = .ok (.bipush 12, 2) := by decide +kernel
theorem dX11_crop_20 : decode cX11_crop 20 = .ok (.if_icmp .lt 6, 3) := by decide +kernel
theorem dX11_crop_23 : decode cX11_crop 23 = .ok (.ldc 57, 2) := by decide +kernel
theorem dX11_crop_25 : decode cX11_crop 25 = .ok (.ireturn, 1) := by decide +kernel
theorem dX11_crop_26 : decode cX11_crop 26 = .ok (.aload_n 3, 1) := by decide +kernel
theorem dX11_crop_27 : decode cX11_crop 27 = .ok (.iload_n 2, 1) := by decide +kernel
theorem dX11_crop_28 : decode cX11_crop 28 = .ok (.invokevirtual 168, 3) := by decide +kernel
theorem dX11_crop_31 : decode cX11_crop 31 = .ok (.ireturn, 1) := by decide +kernel
set_option maxRecDepth 20000 in
theorem ggX11_reaped_X11_isUpOrDown : GoodIn wsX11_reaped wsX11_isUpOrDown := goodIn_r _ [7] (by decide +kernel) (by decide +kernel)
set_option maxRecDepth 20000 in
theorem gX11_reaped_X11_isUpOrDown : GoodIn wsX11_reaped (va_wsS RX11 171 yX11_isUpOrDown wsX11_isUpOrDown) := goodIn_app (goodIn_of _ (by decide +kernel)) ggX11_reaped_X11_isUpOrDown
set_option maxRecDepth 20000 in
theorem ggX11_reaped_X4_leftSoFar : GoodIn wsX11_reaped wsX4_leftSoFar := goodIn_r _ [11, 12, 13, 41, 42, 43, 44, 45, 46, 47, 48, 49, 50, 51] (by decide +kernel) (by decide +kernel)
set_option maxRecDepth 20000 in
theorem gX11_reaped_X4_leftSoFar_n174 : GoodIn wsX11_reaped (wsX4_leftSoFar) := ggX11_reaped_X4_leftSoFar
set_option maxRecDepth 20000 in
theorem ggX11_reaped_X4_rightSoFar : GoodIn wsX11_reaped wsX4_rightSoFar := goodIn_r _ [16, 17, 13, 41, 42, 43, 44, 45, 46, 47, 48, 49, 50, 51] (by decide +kernel) (by decide +kernel)
set_option maxRecDepth 20000 in
theorem gX11_reaped_X4_rightSoFar_n177 : GoodIn wsX11_reaped (wsX4_rightSoFar) := ggX11_reaped_X4_rightSoFar
set_option maxRecDepth 20000 in
theorem ggX11_reaped_X11_fraction : GoodIn wsX11_reaped wsX11_fraction := goodIn_r _ [20, 21, 22, 23, 24, 25, 26, 27, 6, 28, 29, 30, 31] (by decide +kernel) (by decide +kernel)
set_option maxRecDepth 20000 in
theorem gX11_reaped_X11_fraction : GoodIn wsX11_reaped (va_wsS RX11 165 yX11_fraction wsX11_fraction) := goodIn_app (goodIn_of _ (by decide +kernel)) ggX11_reaped_X11_fraction
theorem dX11_reaped_0 : decode cX11_reaped 0 = .ok (.aload_n 0, 1) := by decide +kernel
theorem dX11_reaped_1 : decode cX11_reaped 1 = .ok (.getfield 47, 3) := by decide +kernel
theorem dX11_reaped_4 : decode cX11_reaped 4 = .ok (.getfield 117, 3) := by decide +kernel
theorem dX11_reaped_7 : decode cX11_reaped 7 = .ok (.ifCond .ne 6, 3) := by decide +kernel
theorem dX11_reaped_10 : decode cX11_reaped 10 = .ok (.ldc 121, 2) := by decide +kernel
theorem dX11_reaped_12 : decode cX11_reaped 12 = .ok (.ireturn, 1) := by decide +kernel
theorem dX11_reaped_13 : decode cX11_reaped 13 = .ok (.iload_n 1, 1) := by decide +kernel
theorem dX11_reaped_14 : decode cX11_reaped 14 = .ok (.invokestatic 171, 3) := by decide +kernel
theorem dX11_reaped_17 : decode cX11_reaped 17 = .ok (.ifCond .eq 10, 3) := by decide +kernel
theorem dX11_reaped_20 : decode cX11_reaped 20 = .ok (.iload_n 2, 1) := by decide +kernel
theorem dX11_reaped_21 : decode cX11_reaped 21 = .ok (.invokestatic 171, 3) := by decide +kernel
theorem dX11_reaped_24 : decode cX11_reaped 24 = .ok (.ifCond .ne 6, 3) := by decide +kernel
theorem dX11_reaped_27 : decode cX11_reaped 27 = .ok (.ldc 57, 2) := by decide +kernel
theorem dX11_reaped_29 : decode cX11_reaped 29 = .ok (.ireturn, 1) := by decide +kernel
theorem dX11_reaped_30 : decode cX11_reaped 30 = .ok (.iload_n 1, 1) := by decide +kernel
theorem dX11_reaped_31 : decode cX11_reaped 31 = .ok (.ifCond .ne 13, 3) := by decide +kernel
theorem dX11_reaped_34 : decode cX11_reaped 34 = .ok (.aload_n 0, 1) := by decide +kernel
theorem dX11_reaped_35 : decode cX11_reaped 35 = .ok (.getfield 47, 3) := by decide +kernel
theorem dX11_reaped_38 : decode cX11_reaped 38 = .ok (.invokevirtual 174, 3) := by decide +kernel
theorem dX11_reaped_41 : decode cX11_reaped 41 = .ok (.goto 10, 3) := by decide +kernel
theorem dX11_reaped_44 : decode cX11_reaped 44 = .ok (.aload_n 0, 1) := by decide +kernel
theorem dX11_reaped_45 : decode cX11_reaped 45 = .ok (.getfield 47, 3) := by decide +kernel
theorem dX11_reaped_48 : decode cX11_reaped 48 = .ok (.invokevirtual 177, 3) := by decide +kernel
theorem dX11_reaped_51 : decode cX11_reaped 51 = .ok (.iload_n 2, 1) := by decide +kernel
theorem dX11_reaped_52 : decode cX11_reaped 52 = .ok (.invokestatic 165, 3) := by decide +kernel
theorem dX11_reaped_55 : decode cX11_reaped 55 = .ok (.ireturn, 1) := by decide +kernel
set_option maxRecDepth 20000 in
theorem ggX11_best_X11_isRow : GoodIn wsX11_best wsX11_isRow := goodIn_r _ [10] (by decide +kernel) (by decide +kernel)
set_option maxRecDepth 20000 in
theorem gX11_best_X11_isRow : GoodIn wsX11_best (va_wsS RX11 53 yX11_isRow wsX11_isRow) := goodIn_app (goodIn_of _ (by decide +kernel)) ggX11_best_X11_isRow
set_option maxRecDepth 20000 in
theorem ggX11_best_X11_isSpan : GoodIn wsX11_best wsX11_isSpan := goodIn_r _ [13] (by decide +kernel) (by decide +kernel)
set_option maxRecDepth 20000 in
theorem gX11_best_X11_isSpan : GoodIn wsX11_best (va_wsS RX11 180 yX11_isSpan wsX11_isSpan) := goodIn_app (goodIn_of _ (by decide +kernel)) ggX11_best_X11_isSpan
set_option maxRecDepth 20000 in
theorem ggX11_best_X6_isMissing : GoodIn wsX11_best wsX6_isMissing := goodIn_r _ [17, 18, 207, 208, 209] (by decide +kernel) (by decide +kernel)
set_option maxRecDepth 20000 in
theorem gX11_best_X6_isMissing_n69 : GoodIn wsX11_best (wsX6_isMissing) := ggX11_best_X6_isMissing
set_option maxRecDepth 20000 in
theorem ggX11_best_X11_found : GoodIn wsX11_best wsX11_found := goodIn_r _ [22, 23, 24, 187, 188, 189, 190, 191, 192, 193, 194, 195] (by decide +kernel) (by decide +kernel)
set_option maxRecDepth 20000 in
theorem gX11_best_X11_found : GoodIn wsX11_best (wsV RX11 58 RX11 yX11_found wsX11_found) := goodIn_app (goodIn_of _ (by decide +kernel)) ggX11_best_X11_found
set_option maxRecDepth 20000 in
theorem ggX11_best_X6_holds : GoodIn wsX11_best wsX6_holds := goodIn_r _ [27, 18, 207, 208, 209] (by decide +kernel) (by decide +kernel)
set_option maxRecDepth 20000 in
theorem gX11_best_X6_holds_n83 : GoodIn wsX11_best (wsX6_holds) := ggX11_best_X6_holds
set_option maxRecDepth 20000 in
theorem ggX11_best_X6_startsWithMoves : GoodIn wsX11_best wsX6_startsWithMoves := goodIn_r _ [30, 31, 32, 9, 33, 207, 208, 209] (by decide +kernel) (by decide +kernel)
set_option maxRecDepth 20000 in
theorem gX11_best_X6_startsWithMoves_n183 : GoodIn wsX11_best (wsX6_startsWithMoves) := ggX11_best_X6_startsWithMoves
set_option maxRecDepth 20000 in
theorem ggX11_best_X8_bestOf : GoodIn wsX11_best wsX8_bestOf := goodIn_r _ [37, 38, 39, 40, 41, 42, 43, 44, 45, 46, 47, 48, 49, 50, 51, 52, 53, 54, 55, 35, 56, 57, 58, 59, 60, 61, 62, 63, 64, 65, 66, 67, 68, 69, 70, 71, 72, 73, 74, 75, 76, 77, 78, 79, 80, 81, 82, 83, 84, 85, 86, 87, 88, 89, 90, 91, 92, 93, 94, 95, 96, 97, 98, 99, 100, 101, 102, 103, 104, 105, 106, 107, 108, 109, 110, 111, 112, 113, 114, 115, 116, 117, 118, 119, 120, 121, 122, 123, 124, 125, 126, 127, 128, 129, 130, 131, 132, 133, 134, 135, 136, 137, 138, 139, 140, 141, 142, 143, 144, 145, 146, 147, 148, 149, 150, 151, 152, 153, 154, 155, 9, 156, 157, 158, 159, 160, 161, 162, 163, 164, 165, 166, 167, 168, 169, 210, 211, 212, 213, 214, 215, 216, 217, 218, 219, 220, 221, 222, 223, 224, 225, 196, 197, 198, 199, 200, 201, 202, 203, 204, 205, 206, 226, 227, 228, 229, 230, 231, 232, 233, 234, 235, 236, 237, 238, 239, 240] (by decide +kernel) (by decide +kernel)
set_option maxRecDepth 20000 in
theorem gX11_best_X8_bestOf_n190 : GoodIn wsX11_best (wsX8_bestOf) := ggX11_best_X8_bestOf
set_option maxRecDepth 20000 in
theorem ggX11_best_X11_fraction : GoodIn wsX11_best wsX11_fraction := goodIn_r _ [172, 173, 174, 51, 175, 160, 176, 177, 9, 178, 158, 134, 135] (by decide +kernel) (by decide +kernel)
set_option maxRecDepth 20000 in
theorem gX11_best_X11_fraction : GoodIn wsX11_best (va_wsS RX11 165 yX11_fraction wsX11_fraction) := goodIn_app (goodIn_of _ (by decide +kernel)) ggX11_best_X11_fraction
set_option maxRecDepth 20000 in
theorem ggX11_best_X11_fine : GoodIn wsX11_best wsX11_fine := goodIn_r _ [182, 23, 187, 188, 189, 190, 191, 192, 193, 194, 195] (by decide +kernel) (by decide +kernel)
set_option maxRecDepth 20000 in
theorem gX11_best_X11_fine : GoodIn wsX11_best (wsV RX11 66 RX11 yX11_fine wsX11_fine) := goodIn_app (goodIn_of _ (by decide +kernel)) ggX11_best_X11_fine
set_option maxRecDepth 20000 in
theorem ggX11_best_X4_daysOf : GoodIn wsX11_best wsX4_daysOf := goodIn_r _ [47, 48, 49, 50, 51, 52, 196, 197, 198, 199, 200, 201, 202, 203, 204, 205, 206] (by decide +kernel) (by decide +kernel)
set_option maxRecDepth 20000 in
theorem gX11_best_X4_daysOf_n194 : GoodIn wsX11_best (wsX4_daysOf) := ggX11_best_X4_daysOf
set_option maxRecDepth 20000 in
theorem ggX11_best_X8_bestMove : GoodIn wsX11_best wsX8_bestMove := goodIn_r _ [185, 169, 186, 210, 211, 212, 213, 214, 215, 216, 217, 218, 219, 220, 221, 222, 223, 224, 225] (by decide +kernel) (by decide +kernel)
set_option maxRecDepth 20000 in
theorem gX11_best_X8_bestMove_n197 : GoodIn wsX11_best (wsX8_bestMove) := ggX11_best_X8_bestMove
theorem dX11_best_0 : decode cX11_best 0 = .ok (.aload_n 0, 1) := by decide +kernel
theorem dX11_best_1 : decode cX11_best 1 = .ok (.getfield 47, 3) := by decide +kernel
theorem dX11_best_4 : decode cX11_best 4 = .ok (.getfield 117, 3) := by decide +kernel
theorem dX11_best_7 : decode cX11_best 7 = .ok (.ifCond .ne 6, 3) := by decide +kernel
theorem dX11_best_10 : decode cX11_best 10 = .ok (.ldc 121, 2) := by decide +kernel
theorem dX11_best_12 : decode cX11_best 12 = .ok (.ireturn, 1) := by decide +kernel
theorem dX11_best_13 : decode cX11_best 13 = .ok (.iload_n 1, 1) := by decide +kernel
theorem dX11_best_14 : decode cX11_best 14 = .ok (.invokestatic 53, 3) := by decide +kernel
theorem dX11_best_17 : decode cX11_best 17 = .ok (.ifCond .eq 16, 3) := by decide +kernel
theorem dX11_best_20 : decode cX11_best 20 = .ok (.iload_n 2, 1) := by decide +kernel
theorem dX11_best_21 : decode cX11_best 21 = .ok (.invokestatic 180, 3) := by decide +kernel
theorem dX11_best_24 : decode cX11_best 24 = .ok (.ifCond .eq 9, 3) := by decide +kernel
theorem dX11_best_27 : decode cX11_best 27 = .ok (.iload_n 3, 1) := by decide +kernel
theorem dX11_best_28 : decode cX11_best 28 = .ok (.bipush (-2), 2) := by decide +kernel
theorem dX11_best_30 : decode cX11_best 30 = .ok (.if_icmp .ge 6, 3) := by decide +kernel
theorem dX11_best_33 : decode cX11_best 33 = .ok (.ldc 57, 2) := by decide +kernel
theorem dX11_best_35 : decode cX11_best 35 = .ok (.ireturn, 1) := by decide +kernel
theorem dX11_best_36 : decode cX11_best 36 = .ok (.aload_n 0, 1) := by decide +kernel
theorem dX11_best_37 : decode cX11_best 37 = .ok (.getfield 12, 3) := by decide +kernel
theorem dX11_best_40 : decode cX11_best 40 = .ok (.iload_n 1, 1) := by decide +kernel
theorem dX11_best_41 : decode cX11_best 41 = .ok (.invokevirtual 69, 3) := by decide +kernel
theorem dX11_best_44 : decode cX11_best 44 = .ok (.ifCond .eq 9, 3) := by decide +kernel
theorem dX11_best_47 : decode cX11_best 47 = .ok (.aload_n 0, 1) := by decide +kernel
theorem dX11_best_48 : decode cX11_best 48 = .ok (.iconst 1, 1) := by decide +kernel
theorem dX11_best_49 : decode cX11_best 49 = .ok (.invokevirtual 58, 3) := by decide +kernel
theorem dX11_best_52 : decode cX11_best 52 = .ok (.ireturn, 1) := by decide +kernel
theorem dX11_best_53 : decode cX11_best 53 = .ok (.aload_n 0, 1) := by decide +kernel
theorem dX11_best_54 : decode cX11_best 54 = .ok (.getfield 12, 3) := by decide +kernel
theorem dX11_best_57 : decode cX11_best 57 = .ok (.iload_n 1, 1) := by decide +kernel
theorem dX11_best_58 : decode cX11_best 58 = .ok (.iconst 0, 1) := by decide +kernel
theorem dX11_best_59 : decode cX11_best 59 = .ok (.iload_n 2, 1) := by decide +kernel
theorem dX11_best_60 : decode cX11_best 60 = .ok (.invokevirtual 83, 3) := by decide +kernel
theorem dX11_best_63 : decode cX11_best 63 = .ok (.ifCond .ne 9, 3) := by decide +kernel
theorem dX11_best_66 : decode cX11_best 66 = .ok (.aload_n 0, 1) := by decide +kernel
theorem dX11_best_67 : decode cX11_best 67 = .ok (.iconst 2, 1) := by decide +kernel
theorem dX11_best_68 : decode cX11_best 68 = .ok (.invokevirtual 58, 3) := by decide +kernel
theorem dX11_best_71 : decode cX11_best 71 = .ok (.ireturn, 1) := by decide +kernel
theorem dX11_best_72 : decode cX11_best 72 = .ok (.aload_n 0, 1) := by decide +kernel
theorem dX11_best_73 : decode cX11_best 73 = .ok (.getfield 12, 3) := by decide +kernel
theorem dX11_best_76 : decode cX11_best 76 = .ok (.iload_n 1, 1) := by decide +kernel
theorem dX11_best_77 : decode cX11_best 77 = .ok (.iload_n 2, 1) := by decide +kernel
theorem dX11_best_78 : decode cX11_best 78 = .ok (.invokevirtual 183, 3) := by decide +kernel
theorem dX11_best_81 : decode cX11_best 81 = .ok (.ifCond .ne 6, 3) := by decide +kernel
theorem dX11_best_84 : decode cX11_best 84 = .ok (.ldc 57, 2) := by decide +kernel
theorem dX11_best_86 : decode cX11_best 86 = .ok (.ireturn, 1) := by decide +kernel
theorem dX11_best_87 : decode cX11_best 87 = .ok (.aload_n 0, 1) := by decide +kernel
theorem dX11_best_88 : decode cX11_best 88 = .ok (.getfield 26, 3) := by decide +kernel
theorem dX11_best_91 : decode cX11_best 91 = .ok (.aload_n 0, 1) := by decide +kernel
theorem dX11_best_92 : decode cX11_best 92 = .ok (.getfield 47, 3) := by decide +kernel
theorem dX11_best_95 : decode cX11_best 95 = .ok (.aload_n 0, 1) := by decide +kernel
theorem dX11_best_96 : decode cX11_best 96 = .ok (.getfield 12, 3) := by decide +kernel
theorem dX11_best_99 : decode cX11_best 99 = .ok (.getfield 186, 3) := by decide +kernel
theorem dX11_best_102 : decode cX11_best 102 = .ok (.iload_n 1, 1) := by decide +kernel
theorem dX11_best_103 : decode cX11_best 103 = .ok (.aaload, 1) := by decide +kernel
theorem dX11_best_104 : decode cX11_best 104 = .ok (.iload_n 2, 1) := by decide +kernel
theorem dX11_best_105 : decode cX11_best 105 = .ok (.invokevirtual 190, 3) := by decide +kernel
theorem dX11_best_108 : decode cX11_best 108 = .ok (.istore 4, 2) := by decide +kernel
theorem dX11_best_110 : decode cX11_best 110 = .ok (.iload_n 3, 1) := by decide +kernel
theorem dX11_best_111 : decode cX11_best 111 = .ok (.ifCond .ge 16, 3) := by decide +kernel
theorem dX11_best_114 : decode cX11_best 114 = .ok (.aload_n 0, 1) := by decide +kernel
theorem dX11_best_115 : decode cX11_best 115 = .ok (.iload 4, 2) := by decide +kernel
theorem dX11_best_117 : decode cX11_best 117 = .ok (.iload_n 3, 1) := by decide +kernel
theorem dX11_best_118 : decode cX11_best 118 = .ok (.iconst 2, 1) := by decide +kernel
theorem dX11_best_119 : decode cX11_best 119 = .ok (.iadd, 1) := by decide +kernel
theorem dX11_best_120 : decode cX11_best 120 = .ok (.invokestatic 165, 3) := by decide +kernel
theorem dX11_best_123 : decode cX11_best 123 = .ok (.invokevirtual 66, 3) := by decide +kernel
theorem dX11_best_126 : decode cX11_best 126 = .ok (.ireturn, 1) := by decide +kernel
theorem dX11_best_127 : decode cX11_best 127 = .ok (.aload_n 0, 1) := by decide +kernel
theorem dX11_best_128 : decode cX11_best 128 = .ok (.iload_n 3, 1) := by decide +kernel
theorem dX11_best_129 : decode cX11_best 129 = .ok (.aload_n 0, 1) := by decide +kernel
theorem dX11_best_130 : decode cX11_best 130 = .ok (.getfield 47, 3) := by decide +kernel
theorem dX11_best_133 : decode cX11_best 133 = .ok (.iload_n 2, 1) := by decide +kernel
theorem dX11_best_134 : decode cX11_best 134 = .ok (.invokevirtual 194, 3) := by decide +kernel
theorem dX11_best_137 : decode cX11_best 137 = .ok (.if_icmp .ge 14, 3) := by decide +kernel
theorem dX11_best_140 : decode cX11_best 140 = .ok (.aload_n 0, 1) := by decide +kernel
theorem dX11_best_141 : decode cX11_best 141 = .ok (.getfield 26, 3) := by decide +kernel
theorem dX11_best_144 : decode cX11_best 144 = .ok (.iload_n 3, 1) := by decide +kernel
theorem dX11_best_145 : decode cX11_best 145 = .ok (.invokevirtual 197, 3) := by decide +kernel
theorem dX11_best_148 : decode cX11_best 148 = .ok (.goto 5, 3) := by decide +kernel
theorem dX11_best_151 : decode cX11_best 151 = .ok (.ldc 200, 2) := by decide +kernel
theorem dX11_best_153 : decode cX11_best 153 = .ok (.invokevirtual 66, 3) := by decide +kernel
theorem dX11_best_156 : decode cX11_best 156 = .ok (.ireturn, 1) := by decide +kernel
set_option maxRecDepth 20000 in
theorem ggX11_game_X11_isSpan : GoodIn wsX11_game wsX11_isSpan := goodIn_r _ [8] (by decide +kernel) (by decide +kernel)
set_option maxRecDepth 20000 in
theorem gX11_game_X11_isSpan : GoodIn wsX11_game (va_wsS RX11 180 yX11_isSpan wsX11_isSpan) := goodIn_app (goodIn_of _ (by decide +kernel)) ggX11_game_X11_isSpan
set_option maxRecDepth 20000 in
theorem ggX11_game_X8_gameOf : GoodIn wsX11_game wsX8_gameOf := goodIn_r _ [12, 13, 14, 15, 16, 17, 18, 19, 20, 21, 22, 23, 24, 25, 10, 26, 27, 28, 29, 30, 31, 32, 33, 34, 35, 36, 37, 38, 39, 40, 41, 42, 43, 44, 45, 46, 47, 48, 49, 50, 51, 52, 53, 54, 55, 56, 57, 58, 59, 60, 61, 62, 63, 64, 65, 66, 67, 68, 69, 70, 71, 72, 73, 74, 75, 76, 77, 78, 79, 80, 81, 82, 83, 84, 85, 86, 87, 88, 89, 90, 91, 92, 93, 94, 95, 96, 97, 98, 99, 100, 101, 102, 103, 104, 105, 106, 107, 108, 109, 110, 111, 112, 113, 114, 115, 116, 117, 118, 119, 120, 121, 122, 123, 124, 125, 126, 127, 128, 7, 129, 130, 131, 132, 133, 134, 135, 136, 137, 138, 139, 140, 141, 142, 143, 144, 178, 179, 180, 181, 182, 183, 184, 185, 186, 187, 188, 189, 190, 191, 192, 193, 167, 168, 169, 170, 171, 172, 173, 174, 175, 176, 177, 194, 195, 196, 197, 198, 199, 200, 201, 202, 203, 204, 205, 206, 207, 208] (by decide +kernel) (by decide +kernel)
set_option maxRecDepth 20000 in
theorem gX11_game_X8_gameOf_n201 : GoodIn wsX11_game (wsX8_gameOf) := ggX11_game_X8_gameOf
set_option maxRecDepth 20000 in
theorem ggX11_game_X8_firstMove : GoodIn wsX11_game wsX8_firstMove := goodIn_r _ [147, 148, 27, 28, 139, 13, 35, 15, 36, 37, 38, 18, 39, 14, 16, 17, 19, 20, 21, 22, 178, 179, 180, 181, 182, 183, 184, 185, 186, 187, 188, 189, 190, 191, 192, 193, 167, 168, 169, 170, 171, 172, 173, 174, 175, 176, 177] (by decide +kernel) (by decide +kernel)
set_option maxRecDepth 20000 in
theorem gX11_game_X8_firstMove_n205 : GoodIn wsX11_game (wsX8_firstMove) := ggX11_game_X8_firstMove
set_option maxRecDepth 20000 in
theorem ggX11_game_X11_fraction : GoodIn wsX11_game wsX11_fraction := goodIn_r _ [151, 152, 153, 21, 154, 133, 155, 156, 7, 157, 131, 102, 103] (by decide +kernel) (by decide +kernel)
set_option maxRecDepth 20000 in
theorem gX11_game_X11_fraction : GoodIn wsX11_game (va_wsS RX11 165 yX11_fraction wsX11_fraction) := goodIn_app (goodIn_of _ (by decide +kernel)) ggX11_game_X11_fraction
theorem dX11_game_0 : decode cX11_game 0 = .ok (.aload_n 0, 1) := by decide +kernel
theorem dX11_game_1 : decode cX11_game 1 = .ok (.getfield 47, 3) := by decide +kernel
theorem dX11_game_4 : decode cX11_game 4 = .ok (.getfield 117, 3) := by decide +kernel
theorem dX11_game_7 : decode cX11_game 7 = .ok (.ifCond .ne 6, 3) := by decide +kernel
theorem dX11_game_10 : decode cX11_game 10 = .ok (.ldc 121, 2) := by decide +kernel
theorem dX11_game_12 : decode cX11_game 12 = .ok (.ireturn, 1) := by decide +kernel
theorem dX11_game_13 : decode cX11_game 13 = .ok (.iload_n 1, 1) := by decide +kernel
theorem dX11_game_14 : decode cX11_game 14 = .ok (.invokestatic 180, 3) := by decide +kernel
theorem dX11_game_17 : decode cX11_game 17 = .ok (.ifCond .eq 12, 3) := by decide +kernel
theorem dX11_game_20 : decode cX11_game 20 = .ok (.iload_n 2, 1) := by decide +kernel
theorem dX11_game_21 : decode cX11_game 21 = .ok (.ifCond .lt 8, 3) := by decide +kernel
theorem dX11_game_24 : decode cX11_game 24 = .ok (.iload_n 2, 1) := by decide +kernel
theorem dX11_game_25 : decode cX11_game 25 = .ok (.iconst 2, 1) := by decide +kernel
theorem dX11_game_26 : decode cX11_game 26 = .ok (.if_icmp .le 6, 3) := by decide +kernel
theorem dX11_game_29 : decode cX11_game 29 = .ok (.ldc 57, 2) := by decide +kernel
theorem dX11_game_31 : decode cX11_game 31 = .ok (.ireturn, 1) := by decide +kernel
theorem dX11_game_32 : decode cX11_game 32 = .ok (.aload_n 0, 1) := by decide +kernel
theorem dX11_game_33 : decode cX11_game 33 = .ok (.getfield 26, 3) := by decide +kernel
theorem dX11_game_36 : decode cX11_game 36 = .ok (.aload_n 0, 1) := by decide +kernel
theorem dX11_game_37 : decode cX11_game 37 = .ok (.getfield 47, 3) := by decide +kernel
theorem dX11_game_40 : decode cX11_game 40 = .ok (.iload_n 1, 1) := by decide +kernel
theorem dX11_game_41 : decode cX11_game 41 = .ok (.invokevirtual 201, 3) := by decide +kernel
theorem dX11_game_44 : decode cX11_game 44 = .ok (.istore_n 3, 1) := by decide +kernel
theorem dX11_game_45 : decode cX11_game 45 = .ok (.iload_n 2, 1) := by decide +kernel
theorem dX11_game_46 : decode cX11_game 46 = .ok (.iconst 2, 1) := by decide +kernel
theorem dX11_game_47 : decode cX11_game 47 = .ok (.if_icmp .ne 18, 3) := by decide +kernel
theorem dX11_game_50 : decode cX11_game 50 = .ok (.aload_n 0, 1) := by decide +kernel
theorem dX11_game_51 : decode cX11_game 51 = .ok (.getfield 26, 3) := by decide +kernel
theorem dX11_game_54 : decode cX11_game 54 = .ok (.aload_n 0, 1) := by decide +kernel
theorem dX11_game_55 : decode cX11_game 55 = .ok (.getfield 47, 3) := by decide +kernel
theorem dX11_game_58 : decode cX11_game 58 = .ok (.iload_n 1, 1) := by decide +kernel
theorem dX11_game_59 : decode cX11_game 59 = .ok (.invokevirtual 205, 3) := by decide +kernel
theorem dX11_game_62 : decode cX11_game 62 = .ok (.goto 8, 3) := by decide +kernel
theorem dX11_game_65 : decode cX11_game 65 = .ok (.iload_n 3, 1) := by decide +kernel
theorem dX11_game_66 : decode cX11_game 66 = .ok (.iload_n 2, 1) := by decide +kernel
theorem dX11_game_67 : decode cX11_game 67 = .ok (.invokestatic 165, 3) := by decide +kernel
theorem dX11_game_70 : decode cX11_game 70 = .ok (.ireturn, 1) := by decide +kernel
set_option maxRecDepth 20000 in
theorem ggX11_treaty_X11_isSpan : GoodIn wsX11_treaty wsX11_isSpan := goodIn_r _ [8] (by decide +kernel) (by decide +kernel)
set_option maxRecDepth 20000 in
theorem gX11_treaty_X11_isSpan : GoodIn wsX11_treaty (va_wsS RX11 180 yX11_isSpan wsX11_isSpan) := goodIn_app (goodIn_of _ (by decide +kernel)) ggX11_treaty_X11_isSpan
set_option maxRecDepth 20000 in
theorem ggX11_treaty_X11_isUpOrDown : GoodIn wsX11_treaty wsX11_isUpOrDown := goodIn_r _ [11] (by decide +kernel) (by decide +kernel)
set_option maxRecDepth 20000 in
theorem gX11_treaty_X11_isUpOrDown : GoodIn wsX11_treaty (va_wsS RX11 171 yX11_isUpOrDown wsX11_isUpOrDown) := goodIn_app (goodIn_of _ (by decide +kernel)) ggX11_treaty_X11_isUpOrDown
set_option maxRecDepth 20000 in
theorem ggX11_treaty_X8_restingOf : GoodIn wsX11_treaty wsX8_restingOf := goodIn_r _ [15, 16, 17, 18, 19, 20, 21, 22, 23, 24, 25, 26, 27, 13, 28, 29, 30, 31, 32, 33, 34, 35, 36, 37, 38, 39, 40, 41, 42, 43, 44, 45, 46, 47, 48, 49, 50, 51, 52, 53, 54, 55, 56, 57, 58, 59, 60, 61, 62, 63, 64, 65, 66, 67, 68, 69, 70, 71, 72, 73, 74, 75, 76, 77, 78, 79, 80, 81, 82, 83, 84, 85, 86, 87, 88, 89, 90, 91, 92, 93, 94, 95, 96, 97, 98, 99, 100, 7, 101, 102, 103, 104, 105, 169, 170, 171, 172, 173, 174, 175, 176, 177, 178, 179, 180, 181, 182, 183, 184, 185, 186, 187, 188, 189, 190, 191, 192, 193, 194, 195, 196, 197, 198, 199, 200, 201, 202, 203, 204, 205, 206, 207, 208, 209, 210] (by decide +kernel) (by decide +kernel)
set_option maxRecDepth 20000 in
theorem gX11_treaty_X8_restingOf_n208 : GoodIn wsX11_treaty (wsX8_restingOf) := ggX11_treaty_X8_restingOf
set_option maxRecDepth 20000 in
theorem ggX11_treaty_X8_gameOf : GoodIn wsX11_treaty wsX8_gameOf := goodIn_r _ [108, 109, 16, 17, 18, 19, 20, 21, 22, 23, 24, 110, 111, 112, 13, 113, 114, 115, 116, 117, 118, 119, 120, 121, 90, 91, 92, 93, 94, 122, 123, 124, 125, 126, 127, 128, 129, 130, 131, 132, 133, 134, 25, 26, 27, 28, 29, 30, 31, 32, 33, 34, 35, 36, 37, 38, 39, 40, 41, 42, 43, 44, 45, 46, 47, 48, 49, 50, 51, 52, 53, 54, 55, 56, 57, 58, 59, 60, 61, 62, 63, 64, 65, 66, 67, 68, 69, 70, 71, 72, 73, 74, 75, 76, 77, 78, 79, 80, 81, 82, 83, 84, 85, 86, 87, 88, 89, 135, 136, 137, 138, 139, 95, 96, 97, 98, 99, 100, 7, 101, 102, 103, 104, 105, 140, 141, 142, 143, 144, 145, 146, 147, 148, 149, 150, 180, 181, 182, 183, 184, 185, 186, 187, 188, 189, 190, 191, 192, 193, 194, 195, 169, 170, 171, 172, 173, 174, 175, 176, 177, 178, 179, 196, 197, 198, 199, 200, 201, 202, 203, 204, 205, 206, 207, 208, 209, 210] (by decide +kernel) (by decide +kernel)
set_option maxRecDepth 20000 in
theorem gX11_treaty_X8_gameOf_n201 : GoodIn wsX11_treaty (wsX8_gameOf) := ggX11_treaty_X8_gameOf
set_option maxRecDepth 20000 in
theorem ggX11_treaty_X11_fraction : GoodIn wsX11_treaty wsX11_fraction := goodIn_r _ [153, 154, 155, 23, 156, 105, 157, 158, 7, 159, 103, 74, 75] (by decide +kernel) (by decide +kernel)
set_option maxRecDepth 20000 in
theorem gX11_treaty_X11_fraction : GoodIn wsX11_treaty (va_wsS RX11 165 yX11_fraction wsX11_fraction) := goodIn_app (goodIn_of _ (by decide +kernel)) ggX11_treaty_X11_fraction
theorem dX11_treaty_0 : decode cX11_treaty 0 = .ok (.aload_n 0, 1) := by decide +kernel
theorem dX11_treaty_1 : decode cX11_treaty 1 = .ok (.getfield 47, 3) := by decide +kernel
theorem dX11_treaty_4 : decode cX11_treaty 4 = .ok (.getfield 117, 3) := by decide +kernel
theorem dX11_treaty_7 : decode cX11_treaty 7 = .ok (.ifCond .ne 6, 3) := by decide +kernel
theorem dX11_treaty_10 : decode cX11_treaty 10 = .ok (.ldc 121, 2) := by decide +kernel
theorem dX11_treaty_12 : decode cX11_treaty 12 = .ok (.ireturn, 1) := by decide +kernel
theorem dX11_treaty_13 : decode cX11_treaty 13 = .ok (.iload_n 1, 1) := by decide +kernel
theorem dX11_treaty_14 : decode cX11_treaty 14 = .ok (.invokestatic 180, 3) := by decide +kernel
theorem dX11_treaty_17 : decode cX11_treaty 17 = .ok (.ifCond .eq 10, 3) := by decide +kernel
theorem dX11_treaty_20 : decode cX11_treaty 20 = .ok (.iload_n 2, 1) := by decide +kernel
theorem dX11_treaty_21 : decode cX11_treaty 21 = .ok (.invokestatic 171, 3) := by decide +kernel
theorem dX11_treaty_24 : decode cX11_treaty 24 = .ok (.ifCond .ne 6, 3) := by decide +kernel
theorem dX11_treaty_27 : decode cX11_treaty 27 = .ok (.ldc 57, 2) := by decide +kernel
theorem dX11_treaty_29 : decode cX11_treaty 29 = .ok (.ireturn, 1) := by decide +kernel
theorem dX11_treaty_30 : decode cX11_treaty 30 = .ok (.aload_n 0, 1) := by decide +kernel
theorem dX11_treaty_31 : decode cX11_treaty 31 = .ok (.getfield 26, 3) := by decide +kernel
theorem dX11_treaty_34 : decode cX11_treaty 34 = .ok (.aload_n 0, 1) := by decide +kernel
theorem dX11_treaty_35 : decode cX11_treaty 35 = .ok (.getfield 47, 3) := by decide +kernel
theorem dX11_treaty_38 : decode cX11_treaty 38 = .ok (.iload_n 1, 1) := by decide +kernel
theorem dX11_treaty_39 : decode cX11_treaty 39 = .ok (.invokevirtual 208, 3) := by decide +kernel
theorem dX11_treaty_42 : decode cX11_treaty 42 = .ok (.aload_n 0, 1) := by decide +kernel
theorem dX11_treaty_43 : decode cX11_treaty 43 = .ok (.getfield 26, 3) := by decide +kernel
theorem dX11_treaty_46 : decode cX11_treaty 46 = .ok (.aload_n 0, 1) := by decide +kernel
theorem dX11_treaty_47 : decode cX11_treaty 47 = .ok (.getfield 47, 3) := by decide +kernel
theorem dX11_treaty_50 : decode cX11_treaty 50 = .ok (.iload_n 1, 1) := by decide +kernel
theorem dX11_treaty_51 : decode cX11_treaty 51 = .ok (.invokevirtual 201, 3) := by decide +kernel
theorem dX11_treaty_54 : decode cX11_treaty 54 = .ok (.isub, 1) := by decide +kernel
theorem dX11_treaty_55 : decode cX11_treaty 55 = .ok (.iload_n 2, 1) := by decide +kernel
theorem dX11_treaty_56 : decode cX11_treaty 56 = .ok (.invokestatic 165, 3) := by decide +kernel
theorem dX11_treaty_59 : decode cX11_treaty 59 = .ok (.ireturn, 1) := by decide +kernel
set_option maxRecDepth 20000 in
theorem ggX11_sow_X4_toldStrip : GoodIn wsX11_sow wsX4_toldStrip := goodIn_r _ [7, 8, 9, 209, 210, 211, 212, 213, 214, 215, 216, 217, 218, 219] (by decide +kernel) (by decide +kernel)
set_option maxRecDepth 20000 in
theorem gX11_sow_X4_toldStrip_n150 : GoodIn wsX11_sow (wsX4_toldStrip) := ggX11_sow_X4_toldStrip
set_option maxRecDepth 20000 in
theorem ggX11_sow_X11_newStrip : GoodIn wsX11_sow wsX11_newStrip := goodIn_r _ [13, 14, 15, 16, 17, 18, 19, 20, 21, 22, 23, 24, 25, 26, 27, 28, 29, 30, 31, 32, 33, 34, 35, 36, 37, 38, 39, 40, 41, 42, 43, 44, 45, 46, 47, 48, 49, 50, 51, 52, 53, 54, 55, 56, 57, 220, 221, 222, 223, 224, 225, 226, 227, 228, 229, 230, 231, 232, 233, 234] (by decide +kernel) (by decide +kernel)
set_option maxRecDepth 20000 in
theorem gX11_sow_X11_newStrip : GoodIn wsX11_sow (va_wsS RX11 211 yX11_newStrip wsX11_newStrip) := goodIn_app (goodIn_of _ (by decide +kernel)) ggX11_sow_X11_newStrip
set_option maxRecDepth 20000 in
theorem ggX11_sow_X11_isSpan : GoodIn wsX11_sow wsX11_isSpan := goodIn_r _ [60] (by decide +kernel) (by decide +kernel)
set_option maxRecDepth 20000 in
theorem gX11_sow_X11_isSpan : GoodIn wsX11_sow (va_wsS RX11 180 yX11_isSpan wsX11_isSpan) := goodIn_app (goodIn_of _ (by decide +kernel)) ggX11_sow_X11_isSpan
set_option maxRecDepth 20000 in
theorem ggX11_sow_X11_isUpOrDown : GoodIn wsX11_sow wsX11_isUpOrDown := goodIn_r _ [63] (by decide +kernel) (by decide +kernel)
set_option maxRecDepth 20000 in
theorem gX11_sow_X11_isUpOrDown : GoodIn wsX11_sow (va_wsS RX11 171 yX11_isUpOrDown wsX11_isUpOrDown) := goodIn_app (goodIn_of _ (by decide +kernel)) ggX11_sow_X11_isUpOrDown
set_option maxRecDepth 20000 in
theorem ggX11_sow_X8_gameOf : GoodIn wsX11_sow wsX8_gameOf := goodIn_r _ [67, 68, 69, 5, 70, 71, 72, 73, 74, 75, 76, 77, 78, 79, 65, 80, 81, 82, 83, 84, 85, 86, 87, 88, 89, 90, 91, 92, 93, 94, 95, 96, 97, 98, 99, 100, 101, 102, 103, 104, 105, 106, 107, 108, 109, 110, 111, 112, 113, 114, 4, 6, 7, 8, 9, 115, 116, 117, 118, 16, 119, 120, 121, 122, 123, 124, 125, 126, 28, 127, 128, 129, 130, 131, 132, 133, 25, 134, 135, 136, 137, 138, 139, 140, 22, 141, 142, 143, 144, 145, 146, 147, 148, 149, 150, 151, 152, 153, 19, 154, 155, 156, 157, 34, 158, 159, 160, 161, 162, 163, 164, 165, 166, 167, 168, 169, 170, 171, 12, 172, 173, 174, 175, 176, 177, 178, 179, 180, 181, 182, 183, 184, 185, 186, 187, 235, 236, 237, 238, 239, 240, 241, 242, 243, 244, 245, 246, 247, 248, 249, 250, 209, 210, 211, 212, 213, 214, 215, 216, 217, 218, 219, 223, 224, 225, 220, 221, 222, 232, 233, 234, 229, 230, 231, 226, 227, 228] (by decide +kernel) (by decide +kernel)
set_option maxRecDepth 20000 in
theorem gX11_sow_X8_gameOf_n201 : GoodIn wsX11_sow (wsX8_gameOf) := ggX11_sow_X8_gameOf
set_option maxRecDepth 20000 in
theorem ggX11_sow_X4_putStrip : GoodIn wsX11_sow wsX4_putStrip := goodIn_r _ [190, 8, 9, 209, 210, 211, 212, 213, 214, 215, 216, 217, 218, 219] (by decide +kernel) (by decide +kernel)
set_option maxRecDepth 20000 in
theorem gX11_sow_X4_putStrip_n215 : GoodIn wsX11_sow (wsX4_putStrip) := ggX11_sow_X4_putStrip
set_option maxRecDepth 20000 in
theorem ggX11_sow_X11_fraction : GoodIn wsX11_sow wsX11_fraction := goodIn_r _ [193, 194, 195, 75, 196, 176, 197, 198, 12, 199, 174, 147, 148] (by decide +kernel) (by decide +kernel)
set_option maxRecDepth 20000 in
theorem gX11_sow_X11_fraction : GoodIn wsX11_sow (va_wsS RX11 165 yX11_fraction wsX11_fraction) := goodIn_app (goodIn_of _ (by decide +kernel)) ggX11_sow_X11_fraction
theorem dX11_sow_0 : decode cX11_sow 0 = .ok (.aload_n 0, 1) := by decide +kernel
theorem dX11_sow_1 : decode cX11_sow 1 = .ok (.getfield 47, 3) := by decide +kernel
theorem dX11_sow_4 : decode cX11_sow 4 = .ok (.iload_n 1, 1) := by decide +kernel
theorem dX11_sow_5 : decode cX11_sow 5 = .ok (.invokevirtual 150, 3) := by decide +kernel
theorem dX11_sow_8 : decode cX11_sow 8 = .ok (.astore 7, 2) := by decide +kernel
theorem dX11_sow_10 : decode cX11_sow 10 = .ok (.aload 7, 2) := by decide +kernel
theorem dX11_sow_12 : decode cX11_sow 12 = .ok (.ifnull 25, 3) := by decide +kernel
theorem dX11_sow_15 : decode cX11_sow 15 = .ok (.iload_n 3, 1) := by decide +kernel
theorem dX11_sow_16 : decode cX11_sow 16 = .ok (.ifCond .lt 21, 3) := by decide +kernel
theorem dX11_sow_19 : decode cX11_sow 19 = .ok (.iload_n 3, 1) := by decide +kernel
theorem dX11_sow_20 : decode cX11_sow 20 = .ok (.bipush 99, 2) := by decide +kernel
theorem dX11_sow_22 : decode cX11_sow 22 = .ok (.if_icmp .gt 15, 3) := by decide +kernel
theorem dX11_sow_25 : decode cX11_sow 25 = .ok (.iload 4, 2) := by decide +kernel
theorem dX11_sow_27 : decode cX11_sow 27 = .ok (.ifCond .lt 10, 3) := by decide +kernel
theorem dX11_sow_30 : decode cX11_sow 30 = .ok (.iload 4, 2) := by decide +kernel
theorem dX11_sow_32 : decode cX11_sow 32 = .ok (.bipush 12, 2) := by decide +kernel
theorem dX11_sow_34 : decode cX11_sow 34 = .ok (.if_icmp .lt 6, 3) := by decide +kernel
theorem dX11_sow_37 : decode cX11_sow 37 = .ok (.ldc 57, 2) := by decide +kernel
theorem dX11_sow_39 : decode cX11_sow 39 = .ok (.ireturn, 1) := by decide +kernel
theorem dX11_sow_40 : decode cX11_sow 40 = .ok (.iload_n 2, 1) := by decide +kernel
theorem dX11_sow_41 : decode cX11_sow 41 = .ok (.iload_n 1, 1) := by decide +kernel
theorem dX11_sow_42 : decode cX11_sow 42 = .ok (.iload_n 3, 1) := by decide +kernel
theorem dX11_sow_43 : decode cX11_sow 43 = .ok (.iload 4, 2) := by decide +kernel
theorem dX11_sow_45 : decode cX11_sow 45 = .ok (.invokestatic 211, 3) := by decide +kernel
theorem dX11_sow_48 : decode cX11_sow 48 = .ok (.astore 8, 2) := by decide +kernel
theorem dX11_sow_50 : decode cX11_sow 50 = .ok (.aload 8, 2) := by decide +kernel
theorem dX11_sow_52 : decode cX11_sow 52 = .ok (.ifnull 19, 3) := by decide +kernel
theorem dX11_sow_55 : decode cX11_sow 55 = .ok (.iload 5, 2) := by decide +kernel
theorem dX11_sow_57 : decode cX11_sow 57 = .ok (.invokestatic 180, 3) := by decide +kernel
theorem dX11_sow_60 : decode cX11_sow 60 = .ok (.ifCond .eq 11, 3) := by decide +kernel
theorem dX11_sow_63 : decode cX11_sow 63 = .ok (.iload 6, 2) := by decide +kernel
theorem dX11_sow_65 : decode cX11_sow 65 = .ok (.invokestatic 171, 3) := by decide +kernel
theorem dX11_sow_68 : decode cX11_sow 68 = .ok (.ifCond .ne 6, 3) := by decide +kernel
theorem dX11_sow_71 : decode cX11_sow 71 = .ok (.ldc 57, 2) := by decide +kernel
theorem dX11_sow_73 : decode cX11_sow 73 = .ok (.ireturn, 1) := by decide +kernel
theorem dX11_sow_74 : decode cX11_sow 74 = .ok (.aload_n 0, 1) := by decide +kernel
theorem dX11_sow_75 : decode cX11_sow 75 = .ok (.getfield 26, 3) := by decide +kernel
theorem dX11_sow_78 : decode cX11_sow 78 = .ok (.aload_n 0, 1) := by decide +kernel
theorem dX11_sow_79 : decode cX11_sow 79 = .ok (.getfield 47, 3) := by decide +kernel
theorem dX11_sow_82 : decode cX11_sow 82 = .ok (.iload 5, 2) := by decide +kernel
theorem dX11_sow_84 : decode cX11_sow 84 = .ok (.invokevirtual 201, 3) := by decide +kernel
theorem dX11_sow_87 : decode cX11_sow 87 = .ok (.istore 9, 2) := by decide +kernel
theorem dX11_sow_89 : decode cX11_sow 89 = .ok (.aload_n 0, 1) := by decide +kernel
theorem dX11_sow_90 : decode cX11_sow 90 = .ok (.getfield 47, 3) := by decide +kernel
theorem dX11_sow_93 : decode cX11_sow 93 = .ok (.iload_n 1, 1) := by decide +kernel
theorem dX11_sow_94 : decode cX11_sow 94 = .ok (.aload 8, 2) := by decide +kernel
theorem dX11_sow_96 : decode cX11_sow 96 = .ok (.invokevirtual 215, 3) := by decide +kernel
theorem dX11_sow_99 : decode cX11_sow 99 = .ok (.aload_n 0, 1) := by decide +kernel
theorem dX11_sow_100 : decode cX11_sow 100 = .ok (.getfield 26, 3) := by decide +kernel
theorem dX11_sow_103 : decode cX11_sow 103 = .ok (.aload_n 0, 1) := by decide +kernel
theorem dX11_sow_104 : decode cX11_sow 104 = .ok (.getfield 47, 3) := by decide +kernel
theorem dX11_sow_107 : decode cX11_sow 107 = .ok (.iload 5, 2) := by decide +kernel
theorem dX11_sow_109 : decode cX11_sow 109 = .ok (.invokevirtual 201, 3) := by decide +kernel
theorem dX11_sow_112 : decode cX11_sow 112 = .ok (.istore 10, 2) := by decide +kernel
theorem dX11_sow_114 : decode cX11_sow 114 = .ok (.aload_n 0, 1) := by decide +kernel
theorem dX11_sow_115 : decode cX11_sow 115 = .ok (.getfield 47, 3) := by decide +kernel
theorem dX11_sow_118 : decode cX11_sow 118 = .ok (.iload_n 1, 1) := by decide +kernel
theorem dX11_sow_119 : decode cX11_sow 119 = .ok (.aload 7, 2) := by decide +kernel
theorem dX11_sow_121 : decode cX11_sow 121 = .ok (.invokevirtual 215, 3) := by decide +kernel
theorem dX11_sow_124 : decode cX11_sow 124 = .ok (.iload 10, 2) := by decide +kernel
theorem dX11_sow_126 : decode cX11_sow 126 = .ok (.iload 9, 2) := by decide +kernel
theorem dX11_sow_128 : decode cX11_sow 128 = .ok (.isub, 1) := by decide +kernel
theorem dX11_sow_129 : decode cX11_sow 129 = .ok (.iload 6, 2) := by decide +kernel
theorem dX11_sow_131 : decode cX11_sow 131 = .ok (.invokestatic 165, 3) := by decide +kernel
theorem dX11_sow_134 : decode cX11_sow 134 = .ok (.ireturn, 1) := by decide +kernel
set_option maxRecDepth 20000 in
theorem ggX11_unseen_X11_isUpOrDown : GoodIn wsX11_unseen wsX11_isUpOrDown := goodIn_r _ [8] (by decide +kernel) (by decide +kernel)
set_option maxRecDepth 20000 in
theorem gX11_unseen_X11_isUpOrDown : GoodIn wsX11_unseen (va_wsS RX11 171 yX11_isUpOrDown wsX11_isUpOrDown) := goodIn_app (goodIn_of _ (by decide +kernel)) ggX11_unseen_X11_isUpOrDown
set_option maxRecDepth 20000 in
theorem ggX11_unseen_X8_guessMoves : GoodIn wsX11_unseen wsX8_guessMoves := goodIn_r _ [12, 13, 14, 15, 16, 17, 18, 19, 20, 21, 22, 23, 10, 24, 25, 26, 27, 28, 29, 30, 31, 32, 33, 34, 35, 36, 37, 38, 39, 40, 41, 42, 43, 44, 45, 46, 47, 48, 49, 50, 51, 52, 53, 54, 55, 56, 57, 58, 59, 60, 61, 62, 63, 64, 65, 66, 67, 68, 69, 70, 71, 72, 73, 74, 75, 76, 77, 78, 79, 80, 81, 82, 83, 84, 85, 86, 87, 88, 89, 90, 91, 92, 93, 94, 95, 96, 97, 98, 99, 100, 101, 102, 103, 104, 105, 106, 107, 108, 109, 110, 111, 112, 113, 114, 115, 116, 7, 117, 118, 119, 120, 121, 122, 123, 124, 125, 126, 127, 148, 149, 150, 151, 152, 153, 154, 155, 156, 157, 158, 159, 160, 161, 162, 163, 137, 138, 139, 140, 141, 142, 143, 144, 145, 146, 147, 164, 165, 166, 167, 168, 169, 170, 171, 172, 173, 174, 175, 176, 177, 178] (by decide +kernel) (by decide +kernel)
set_option maxRecDepth 20000 in
theorem gX11_unseen_X8_guessMoves_n219 : GoodIn wsX11_unseen (wsX8_guessMoves) := ggX11_unseen_X8_guessMoves
theorem dX11_unseen_0 : decode cX11_unseen 0 = .ok (.aload_n 0, 1) := by decide +kernel
theorem dX11_unseen_1 : decode cX11_unseen 1 = .ok (.getfield 47, 3) := by decide +kernel
theorem dX11_unseen_4 : decode cX11_unseen 4 = .ok (.getfield 117, 3) := by decide +kernel
theorem dX11_unseen_7 : decode cX11_unseen 7 = .ok (.ifCond .ne 6, 3) := by decide +kernel
theorem dX11_unseen_10 : decode cX11_unseen 10 = .ok (.ldc 121, 2) := by decide +kernel
theorem dX11_unseen_12 : decode cX11_unseen 12 = .ok (.ireturn, 1) := by decide +kernel
theorem dX11_unseen_13 : decode cX11_unseen 13 = .ok (.iload_n 1, 1) := by decide +kernel
theorem dX11_unseen_14 : decode cX11_unseen 14 = .ok (.ifCond .lt 28, 3) := by decide +kernel
theorem dX11_unseen_17 : decode cX11_unseen 17 = .ok (.iload_n 1, 1) := by decide +kernel
theorem dX11_unseen_18 : decode cX11_unseen 18 = .ok (.sipush 9999, 3) := by decide +kernel
theorem dX11_unseen_21 : decode cX11_unseen 21 = .ok (.if_icmp .gt 21, 3) := by decide +kernel
theorem dX11_unseen_24 : decode cX11_unseen 24 = .ok (.iload_n 2, 1) := by decide +kernel
theorem dX11_unseen_25 : decode cX11_unseen 25 = .ok (.iconst 1, 1) := by decide +kernel
theorem dX11_unseen_26 : decode cX11_unseen 26 = .ok (.if_icmp .lt 16, 3) := by decide +kernel
theorem dX11_unseen_29 : decode cX11_unseen 29 = .ok (.iload_n 2, 1) := by decide +kernel
theorem dX11_unseen_30 : decode cX11_unseen 30 = .ok (.bipush 99, 2) := by decide +kernel
theorem dX11_unseen_32 : decode cX11_unseen 32 = .ok (.if_icmp .gt 10, 3) := by decide +kernel
theorem dX11_unseen_35 : decode cX11_unseen 35 = .ok (.iload_n 3, 1) := by decide +kernel
theorem dX11_unseen_36 : decode cX11_unseen 36 = .ok (.invokestatic 171, 3) := by decide +kernel
theorem dX11_unseen_39 : decode cX11_unseen 39 = .ok (.ifCond .ne 6, 3) := by decide +kernel
theorem dX11_unseen_42 : decode cX11_unseen 42 = .ok (.ldc 57, 2) := by decide +kernel
theorem dX11_unseen_44 : decode cX11_unseen 44 = .ok (.ireturn, 1) := by decide +kernel
theorem dX11_unseen_45 : decode cX11_unseen 45 = .ok (.aload_n 0, 1) := by decide +kernel
theorem dX11_unseen_46 : decode cX11_unseen 46 = .ok (.getfield 26, 3) := by decide +kernel
theorem dX11_unseen_49 : decode cX11_unseen 49 = .ok (.aload_n 0, 1) := by decide +kernel
theorem dX11_unseen_50 : decode cX11_unseen 50 = .ok (.getfield 47, 3) := by decide +kernel
theorem dX11_unseen_53 : decode cX11_unseen 53 = .ok (.iload_n 1, 1) := by decide +kernel
theorem dX11_unseen_54 : decode cX11_unseen 54 = .ok (.iload_n 2, 1) := by decide +kernel
theorem dX11_unseen_55 : decode cX11_unseen 55 = .ok (.invokevirtual 219, 3) := by decide +kernel
theorem dX11_unseen_58 : decode cX11_unseen 58 = .ok (.iload_n 3, 1) := by decide +kernel
theorem dX11_unseen_59 : decode cX11_unseen 59 = .ok (.ifCond .ne 13, 3) := by decide +kernel
theorem dX11_unseen_62 : decode cX11_unseen 62 = .ok (.aload_n 0, 1) := by decide +kernel
theorem dX11_unseen_63 : decode cX11_unseen 63 = .ok (.getfield 26, 3) := by decide +kernel
theorem dX11_unseen_66 : decode cX11_unseen 66 = .ok (.getfield 223, 3) := by decide +kernel
theorem dX11_unseen_69 : decode cX11_unseen 69 = .ok (.goto 10, 3) := by decide +kernel
theorem dX11_unseen_72 : decode cX11_unseen 72 = .ok (.aload_n 0, 1) := by decide +kernel
theorem dX11_unseen_73 : decode cX11_unseen 73 = .ok (.getfield 26, 3) := by decide +kernel
theorem dX11_unseen_76 : decode cX11_unseen 76 = .ok (.getfield 226, 3) := by decide +kernel
theorem dX11_unseen_79 : decode cX11_unseen 79 = .ok (.ireturn, 1) := by decide +kernel
set_option maxRecDepth 20000 in
theorem ggX11_sure_X11_isSpan : GoodIn wsX11_sure wsX11_isSpan := goodIn_r _ [11] (by decide +kernel) (by decide +kernel)
set_option maxRecDepth 20000 in
theorem gX11_sure_X11_isSpan : GoodIn wsX11_sure (va_wsS RX11 180 yX11_isSpan wsX11_isSpan) := goodIn_app (goodIn_of _ (by decide +kernel)) ggX11_sure_X11_isSpan
set_option maxRecDepth 20000 in
theorem ggX11_sure_X4_lowestOn : GoodIn wsX11_sure wsX4_lowestOn := goodIn_r _ [15, 16, 17, 18, 13, 19, 20, 21, 22, 23, 24, 25, 26, 27, 28, 38, 39, 40, 41, 42, 43, 44, 45, 46, 47, 48] (by decide +kernel) (by decide +kernel)
set_option maxRecDepth 20000 in
theorem gX11_sure_X4_lowestOn_n229 : GoodIn wsX11_sure (wsX4_lowestOn) := ggX11_sure_X4_lowestOn
theorem dX11_sure_0 : decode cX11_sure 0 = .ok (.aload_n 0, 1) := by decide +kernel
theorem dX11_sure_1 : decode cX11_sure 1 = .ok (.getfield 47, 3) := by decide +kernel
theorem dX11_sure_4 : decode cX11_sure 4 = .ok (.getfield 117, 3) := by decide +kernel
theorem dX11_sure_7 : decode cX11_sure 7 = .ok (.ifCond .ne 6, 3) := by decide +kernel
theorem dX11_sure_10 : decode cX11_sure 10 = .ok (.ldc 121, 2) := by decide +kernel
theorem dX11_sure_12 : decode cX11_sure 12 = .ok (.ireturn, 1) := by decide +kernel
theorem dX11_sure_13 : decode cX11_sure 13 = .ok (.iload_n 1, 1) := by decide +kernel
theorem dX11_sure_14 : decode cX11_sure 14 = .ok (.invokestatic 180, 3) := by decide +kernel
theorem dX11_sure_17 : decode cX11_sure 17 = .ok (.ifCond .ne 6, 3) := by decide +kernel
theorem dX11_sure_20 : decode cX11_sure 20 = .ok (.ldc 57, 2) := by decide +kernel
theorem dX11_sure_22 : decode cX11_sure 22 = .ok (.ireturn, 1) := by decide +kernel
theorem dX11_sure_23 : decode cX11_sure 23 = .ok (.aload_n 0, 1) := by decide +kernel
theorem dX11_sure_24 : decode cX11_sure 24 = .ok (.getfield 47, 3) := by decide +kernel
theorem dX11_sure_27 : decode cX11_sure 27 = .ok (.iconst 0, 1) := by decide +kernel
theorem dX11_sure_28 : decode cX11_sure 28 = .ok (.iload_n 1, 1) := by decide +kernel
theorem dX11_sure_29 : decode cX11_sure 29 = .ok (.invokevirtual 229, 3) := by decide +kernel
theorem dX11_sure_32 : decode cX11_sure 32 = .ok (.aload_n 0, 1) := by decide +kernel
theorem dX11_sure_33 : decode cX11_sure 33 = .ok (.getfield 47, 3) := by decide +kernel
theorem dX11_sure_36 : decode cX11_sure 36 = .ok (.iconst 1, 1) := by decide +kernel
theorem dX11_sure_37 : decode cX11_sure 37 = .ok (.iload_n 1, 1) := by decide +kernel
theorem dX11_sure_38 : decode cX11_sure 38 = .ok (.invokevirtual 229, 3) := by decide +kernel
theorem dX11_sure_41 : decode cX11_sure 41 = .ok (.invokestatic 232, 3) := by decide +kernel
theorem dX11_sure_44 : decode cX11_sure 44 = .ok (.istore_n 2, 1) := by decide +kernel
theorem dX11_sure_45 : decode cX11_sure 45 = .ok (.iconst 1, 1) := by decide +kernel
theorem dX11_sure_46 : decode cX11_sure 46 = .ok (.iload_n 2, 1) := by decide +kernel
theorem dX11_sure_47 : decode cX11_sure 47 = .ok (.ishl, 1) := by decide +kernel
theorem dX11_sure_48 : decode cX11_sure 48 = .ok (.iconst 1, 1) := by decide +kernel
theorem dX11_sure_49 : decode cX11_sure 49 = .ok (.isub, 1) := by decide +kernel
theorem dX11_sure_50 : decode cX11_sure 50 = .ok (.ireturn, 1) := by decide +kernel
set_option maxRecDepth 20000 in
theorem ggX11_image_X11_imageOf : GoodIn wsX11_image wsX11_imageOf := goodIn_r _ [8, 9, 10, 30, 31, 32, 33, 34, 35, 36, 37, 38] (by decide +kernel) (by decide +kernel)
set_option maxRecDepth 20000 in
theorem gX11_image_X11_imageOf : GoodIn wsX11_image (wsV RX11 237 RX11 yX11_imageOf wsX11_imageOf) := goodIn_app (goodIn_of _ (by decide +kernel)) ggX11_image_X11_imageOf
set_option maxRecDepth 20000 in
theorem ggX11_image_X4_become : GoodIn wsX11_image wsX4_become := goodIn_r _ [14, 15, 16, 17, 18, 19, 20, 21, 22, 23, 24, 25, 26, 27, 28, 29, 39, 40, 41, 42, 43, 44, 45, 46, 47, 48, 49] (by decide +kernel) (by decide +kernel)
set_option maxRecDepth 20000 in
theorem gX11_image_X4_become_n241 : GoodIn wsX11_image (wsX4_become) := ggX11_image_X4_become
theorem dX11_image_0 : decode cX11_image 0 = .ok (.iload_n 1, 1) := by decide +kernel
theorem dX11_image_1 : decode cX11_image 1 = .ok (.ifCond .lt 8, 3) := by decide +kernel
theorem dX11_image_4 : decode cX11_image 4 = .ok (.iload_n 1, 1) := by decide +kernel
theorem dX11_image_5 : decode cX11_image 5 = .ok (.iconst 1, 1) := by decide +kernel
theorem dX11_image_6 : decode cX11_image 6 = .ok (.if_icmp .le 6, 3) := by decide +kernel
theorem dX11_image_9 : decode cX11_image 9 = .ok (.ldc 57, 2) := by decide +kernel
theorem dX11_image_11 : decode cX11_image 11 = .ok (.ireturn, 1) := by decide +kernel
theorem dX11_image_12 : decode cX11_image 12 = .ok (.aload_n 0, 1) := by decide +kernel
theorem dX11_image_13 : decode cX11_image 13 = .ok (.getfield 47, 3) := by decide +kernel
theorem dX11_image_16 : decode cX11_image 16 = .ok (.getfield 117, 3) := by decide +kernel
theorem dX11_image_19 : decode cX11_image 19 = .ok (.ifCond .ne 6, 3) := by decide +kernel
theorem dX11_image_22 : decode cX11_image 22 = .ok (.ldc 121, 2) := by decide +kernel
theorem dX11_image_24 : decode cX11_image 24 = .ok (.ireturn, 1) := by decide +kernel
theorem dX11_image_25 : decode cX11_image 25 = .ok (.aload_n 0, 1) := by decide +kernel
theorem dX11_image_26 : decode cX11_image 26 = .ok (.iload_n 1, 1) := by decide +kernel
theorem dX11_image_27 : decode cX11_image 27 = .ok (.invokevirtual 237, 3) := by decide +kernel
theorem dX11_image_30 : decode cX11_image 30 = .ok (.aload_n 0, 1) := by decide +kernel
theorem dX11_image_31 : decode cX11_image 31 = .ok (.getfield 47, 3) := by decide +kernel
theorem dX11_image_34 : decode cX11_image 34 = .ok (.invokevirtual 241, 3) := by decide +kernel
theorem dX11_image_37 : decode cX11_image 37 = .ok (.iconst 1, 1) := by decide +kernel
theorem dX11_image_38 : decode cX11_image 38 = .ok (.ireturn, 1) := by decide +kernel
set_option maxRecDepth 20000 in
theorem ggX11_restore_X11_imageOf : GoodIn wsX11_restore wsX11_imageOf := goodIn_r _ [8, 9, 10, 41, 42, 43, 44, 45, 46, 47, 48, 49] (by decide +kernel) (by decide +kernel)
set_option maxRecDepth 20000 in
theorem gX11_restore_X11_imageOf : GoodIn wsX11_restore (wsV RX11 237 RX11 yX11_imageOf wsX11_imageOf) := goodIn_app (goodIn_of _ (by decide +kernel)) ggX11_restore_X11_imageOf
set_option maxRecDepth 20000 in
theorem ggX11_restore_X4_become : GoodIn wsX11_restore wsX4_become := goodIn_r _ [14, 15, 16, 17, 18, 19, 20, 21, 22, 23, 24, 25, 26, 27, 28, 29, 30, 31, 32, 33, 34, 35, 36, 37, 38, 39, 40] (by decide +kernel) (by decide +kernel)
set_option maxRecDepth 20000 in
theorem gX11_restore_X4_become_n241 : GoodIn wsX11_restore (wsX4_become) := ggX11_restore_X4_become
theorem dX11_restore_0 : decode cX11_restore 0 = .ok (.iload_n 1, 1) := by decide +kernel
theorem dX11_restore_1 : decode cX11_restore 1 = .ok (.ifCond .lt 8, 3) := by decide +kernel
theorem dX11_restore_4 : decode cX11_restore 4 = .ok (.iload_n 1, 1) := by decide +kernel
theorem dX11_restore_5 : decode cX11_restore 5 = .ok (.iconst 1, 1) := by decide +kernel
theorem dX11_restore_6 : decode cX11_restore 6 = .ok (.if_icmp .le 6, 3) := by decide +kernel
theorem dX11_restore_9 : decode cX11_restore 9 = .ok (.ldc 57, 2) := by decide +kernel
theorem dX11_restore_11 : decode cX11_restore 11 = .ok (.ireturn, 1) := by decide +kernel
theorem dX11_restore_12 : decode cX11_restore 12 = .ok (.aload_n 0, 1) := by decide +kernel
theorem dX11_restore_13 : decode cX11_restore 13 = .ok (.iload_n 1, 1) := by decide +kernel
theorem dX11_restore_14 : decode cX11_restore 14 = .ok (.invokevirtual 237, 3) := by decide +kernel
theorem dX11_restore_17 : decode cX11_restore 17 = .ok (.getfield 117, 3) := by decide +kernel
theorem dX11_restore_20 : decode cX11_restore 20 = .ok (.ifCond .ne 6, 3) := by decide +kernel
theorem dX11_restore_23 : decode cX11_restore 23 = .ok (.ldc 121, 2) := by decide +kernel
theorem dX11_restore_25 : decode cX11_restore 25 = .ok (.ireturn, 1) := by decide +kernel
theorem dX11_restore_26 : decode cX11_restore 26 = .ok (.aload_n 0, 1) := by decide +kernel
theorem dX11_restore_27 : decode cX11_restore 27 = .ok (.getfield 47, 3) := by decide +kernel
theorem dX11_restore_30 : decode cX11_restore 30 = .ok (.aload_n 0, 1) := by decide +kernel
theorem dX11_restore_31 : decode cX11_restore 31 = .ok (.iload_n 1, 1) := by decide +kernel
theorem dX11_restore_32 : decode cX11_restore 32 = .ok (.invokevirtual 237, 3) := by decide +kernel
theorem dX11_restore_35 : decode cX11_restore 35 = .ok (.invokevirtual 241, 3) := by decide +kernel
theorem dX11_restore_38 : decode cX11_restore 38 = .ok (.iconst 1, 1) := by decide +kernel
theorem dX11_restore_39 : decode cX11_restore 39 = .ok (.ireturn, 1) := by decide +kernel
set_option maxRecDepth 20000 in
theorem ggX11_kind_X4_toldStrip : GoodIn wsX11_kind wsX4_toldStrip := goodIn_r _ [6, 7, 8, 40, 41, 42, 43, 44, 45, 46, 47, 48, 49, 50] (by decide +kernel) (by decide +kernel)
set_option maxRecDepth 20000 in
theorem gX11_kind_X4_toldStrip_n150 : GoodIn wsX11_kind (wsX4_toldStrip) := ggX11_kind_X4_toldStrip
set_option maxRecDepth 20000 in
theorem ggX11_kind_X0_kindNumber : GoodIn wsX11_kind wsX0_kindNumber := goodIn_r _ [14] (by decide +kernel) (by decide +kernel)
set_option maxRecDepth 20000 in
theorem gX11_kind_X0_kindNumber_u245X0 : GoodIn wsX11_kind (va_wsU RX11 245 RX0 "FenceYards$Strip" ⟨"FenceYards$Strip", "kindNumber", "()I"⟩ yX0_kindNumber wsX0_kindNumber) := goodIn_app (goodIn_of _ (by decide +kernel)) ggX11_kind_X0_kindNumber
set_option maxRecDepth 20000 in
theorem ggX11_kind_X1_kindNumber : GoodIn wsX11_kind wsX1_kindNumber := goodIn_r _ [18] (by decide +kernel) (by decide +kernel)
set_option maxRecDepth 20000 in
theorem gX11_kind_X1_kindNumber_u245X1 : GoodIn wsX11_kind (va_wsU RX11 245 RX1 "FenceYards$Strip" ⟨"FenceYards$Strip", "kindNumber", "()I"⟩ yX1_kindNumber wsX1_kindNumber) := goodIn_app (goodIn_of _ (by decide +kernel)) ggX11_kind_X1_kindNumber
set_option maxRecDepth 20000 in
theorem ggX11_kind_X2_kindNumber : GoodIn wsX11_kind wsX2_kindNumber := goodIn_r _ [22] (by decide +kernel) (by decide +kernel)
set_option maxRecDepth 20000 in
theorem gX11_kind_X2_kindNumber_u245X2 : GoodIn wsX11_kind (va_wsU RX11 245 RX2 "FenceYards$Strip" ⟨"FenceYards$Strip", "kindNumber", "()I"⟩ yX2_kindNumber wsX2_kindNumber) := goodIn_app (goodIn_of _ (by decide +kernel)) ggX11_kind_X2_kindNumber
set_option maxRecDepth 20000 in
theorem ggX11_kind_X3_kindNumber : GoodIn wsX11_kind wsX3_kindNumber := goodIn_r _ [26] (by decide +kernel) (by decide +kernel)
set_option maxRecDepth 20000 in
theorem gX11_kind_X3_kindNumber_u245X3 : GoodIn wsX11_kind (va_wsU RX11 245 RX3 "FenceYards$Strip" ⟨"FenceYards$Strip", "kindNumber", "()I"⟩ yX3_kindNumber wsX3_kindNumber) := goodIn_app (goodIn_of _ (by decide +kernel)) ggX11_kind_X3_kindNumber
set_option maxRecDepth 20000 in
theorem ggX11_kind_X7_kindNumber : GoodIn wsX11_kind wsX7_kindNumber := goodIn_r _ [30] (by decide +kernel) (by decide +kernel)
set_option maxRecDepth 20000 in
theorem gX11_kind_X7_kindNumber_u245X7 : GoodIn wsX11_kind (va_wsU RX11 245 RX7 "FenceYards$Strip" ⟨"FenceYards$Strip", "kindNumber", "()I"⟩ yX7_kindNumber wsX7_kindNumber) := goodIn_app (goodIn_of _ (by decide +kernel)) ggX11_kind_X7_kindNumber
theorem dX11_kind_0 : decode cX11_kind 0 = .ok (.aload_n 0, 1) := by decide +kernel
theorem dX11_kind_1 : decode cX11_kind 1 = .ok (.getfield 47, 3) := by decide +kernel
theorem dX11_kind_4 : decode cX11_kind 4 = .ok (.iload_n 1, 1) := by decide +kernel
theorem dX11_kind_5 : decode cX11_kind 5 = .ok (.invokevirtual 150, 3) := by decide +kernel
theorem dX11_kind_8 : decode cX11_kind 8 = .ok (.astore_n 2, 1) := by decide +kernel
theorem dX11_kind_9 : decode cX11_kind 9 = .ok (.aload_n 2, 1) := by decide +kernel
theorem dX11_kind_10 : decode cX11_kind 10 = .ok (.ifnonnull 8, 3) := by decide +kernel
theorem dX11_kind_13 : decode cX11_kind 13 = .ok (.ldc 57, 2) := by decide +kernel
theorem dX11_kind_15 : decode cX11_kind 15 = .ok (.goto 7, 3) := by decide +kernel
theorem dX11_kind_18 : decode cX11_kind 18 = .ok (.aload_n 2, 1) := by decide +kernel
theorem dX11_kind_19 : decode cX11_kind 19 = .ok (.invokevirtual 245, 3) := by decide +kernel
theorem dX11_kind_22 : decode cX11_kind 22 = .ok (.ireturn, 1) := by decide +kernel
set_option maxRecDepth 20000 in
theorem ggX11_as_X4_toldStrip : GoodIn wsX11_as wsX4_toldStrip := goodIn_r _ [7, 8, 9, 53, 54, 55, 56, 57, 58, 59, 60, 61, 62, 63] (by decide +kernel) (by decide +kernel)
set_option maxRecDepth 20000 in
theorem gX11_as_X4_toldStrip_n150 : GoodIn wsX11_as (wsX4_toldStrip) := ggX11_as_X4_toldStrip
set_option maxRecDepth 20000 in
theorem ggX11_as_X11_isOfKind : GoodIn wsX11_as wsX11_isOfKind := goodIn_r _ [13, 14, 15, 16, 17, 18] (by decide +kernel) (by decide +kernel)
set_option maxRecDepth 20000 in
theorem gX11_as_X11_isOfKind : GoodIn wsX11_as (va_wsS RX11 248 yX11_isOfKind wsX11_isOfKind) := goodIn_app (goodIn_of _ (by decide +kernel)) ggX11_as_X11_isOfKind
set_option maxRecDepth 20000 in
theorem ggX11_as_X11_fine : GoodIn wsX11_as wsX11_fine := goodIn_r _ [22, 23, 29, 30, 31, 32, 33, 34, 35, 36, 37] (by decide +kernel) (by decide +kernel)
set_option maxRecDepth 20000 in
theorem gX11_as_X11_fine : GoodIn wsX11_as (wsV RX11 66 RX11 yX11_fine wsX11_fine) := goodIn_app (goodIn_of _ (by decide +kernel)) ggX11_as_X11_fine
set_option maxRecDepth 20000 in
theorem ggX11_as_X11_found : GoodIn wsX11_as wsX11_found := goodIn_r _ [27, 23, 28, 29, 30, 31, 32, 33, 34, 35, 36, 37] (by decide +kernel) (by decide +kernel)
set_option maxRecDepth 20000 in
theorem gX11_as_X11_found : GoodIn wsX11_as (wsV RX11 58 RX11 yX11_found wsX11_found) := goodIn_app (goodIn_of _ (by decide +kernel)) ggX11_as_X11_found
theorem dX11_as_0 : decode cX11_as 0 = .ok (.aload_n 0, 1) := by decide +kernel
theorem dX11_as_1 : decode cX11_as 1 = .ok (.getfield 47, 3) := by decide +kernel
theorem dX11_as_4 : decode cX11_as 4 = .ok (.iload_n 1, 1) := by decide +kernel
theorem dX11_as_5 : decode cX11_as 5 = .ok (.invokevirtual 150, 3) := by decide +kernel
theorem dX11_as_8 : decode cX11_as 8 = .ok (.astore_n 3, 1) := by decide +kernel
theorem dX11_as_9 : decode cX11_as 9 = .ok (.aload_n 3, 1) := by decide +kernel
theorem dX11_as_10 : decode cX11_as 10 = .ok (.ifnull 12, 3) := by decide +kernel
theorem dX11_as_13 : decode cX11_as 13 = .ok (.iload_n 2, 1) := by decide +kernel
theorem dX11_as_14 : decode cX11_as 14 = .ok (.ifCond .lt 8, 3) := by decide +kernel
theorem dX11_as_17 : decode cX11_as 17 = .ok (.iload_n 2, 1) := by decide +kernel
theorem dX11_as_18 : decode cX11_as 18 = .ok (.iconst 5, 1) := by decide +kernel
theorem dX11_as_19 : decode cX11_as 19 = .ok (.if_icmp .le 6, 3) := by decide +kernel
theorem dX11_as_22 : decode cX11_as 22 = .ok (.ldc 57, 2) := by decide +kernel
theorem dX11_as_24 : decode cX11_as 24 = .ok (.ireturn, 1) := by decide +kernel
theorem dX11_as_25 : decode cX11_as 25 = .ok (.aload_n 3, 1) := by decide +kernel
theorem dX11_as_26 : decode cX11_as 26 = .ok (.iload_n 2, 1) := by decide +kernel
theorem dX11_as_27 : decode cX11_as 27 = .ok (.invokestatic 248, 3) := by decide +kernel
theorem dX11_as_30 : decode cX11_as 30 = .ok (.ifCond .eq 14, 3) := by decide +kernel
theorem dX11_as_33 : decode cX11_as 33 = .ok (.aload_n 0, 1) := by decide +kernel
theorem dX11_as_34 : decode cX11_as 34 = .ok (.aload_n 3, 1) := by decide +kernel
theorem dX11_as_35 : decode cX11_as 35 = .ok (.getfield 252, 3) := by decide +kernel
theorem dX11_as_38 : decode cX11_as 38 = .ok (.invokevirtual 66, 3) := by decide +kernel
theorem dX11_as_41 : decode cX11_as 41 = .ok (.goto 8, 3) := by decide +kernel
theorem dX11_as_44 : decode cX11_as 44 = .ok (.aload_n 0, 1) := by decide +kernel
theorem dX11_as_45 : decode cX11_as 45 = .ok (.iconst 3, 1) := by decide +kernel
theorem dX11_as_46 : decode cX11_as 46 = .ok (.invokevirtual 58, 3) := by decide +kernel
theorem dX11_as_49 : decode cX11_as 49 = .ok (.ireturn, 1) := by decide +kernel
set_option maxRecDepth 20000 in
theorem ggX11_ask_X4_toldStrip : GoodIn wsX11_ask wsX4_toldStrip := goodIn_r _ [7, 8, 9, 104, 105, 106, 107, 108, 109, 110, 111, 112, 113, 114] (by decide +kernel) (by decide +kernel)
set_option maxRecDepth 20000 in
theorem gX11_ask_X4_toldStrip_n150 : GoodIn wsX11_ask (wsX4_toldStrip) := ggX11_ask_X4_toldStrip
set_option maxRecDepth 20000 in
theorem ggX11_ask_X11_isUpOrDown : GoodIn wsX11_ask wsX11_isUpOrDown := goodIn_r _ [13] (by decide +kernel) (by decide +kernel)
set_option maxRecDepth 20000 in
theorem gX11_ask_X11_isUpOrDown : GoodIn wsX11_ask (va_wsS RX11 171 yX11_isUpOrDown wsX11_isUpOrDown) := goodIn_app (goodIn_of _ (by decide +kernel)) ggX11_ask_X11_isUpOrDown
set_option maxRecDepth 20000 in
theorem ggX11_ask_X0_askSize : GoodIn wsX11_ask wsX0_askSize := goodIn_r _ [20, 21, 22, 23, 24, 25, 26, 27, 28, 29, 30, 31, 32, 33, 15, 34, 35, 36, 37, 38, 39, 40, 41, 42, 43, 19, 44, 45, 46, 47, 48, 49, 50, 51, 52, 53, 54, 55, 56, 57, 58, 59, 60, 61, 62, 102, 103, 115, 116, 117, 118, 119, 120, 121, 122, 123, 124, 125, 126, 127, 128, 129] (by decide +kernel) (by decide +kernel)
set_option maxRecDepth 20000 in
theorem gX11_ask_X0_askSize_u256X0 : GoodIn wsX11_ask (va_wsO RX11 256 RX0 "FenceYards$Strip" ⟨"FenceYards$Strip", "askSize", "(LFenceYards$Trace;)I"⟩ yX0_askSize wsX0_askSize) := goodIn_app (goodIn_of _ (by decide +kernel)) ggX11_ask_X0_askSize
set_option maxRecDepth 20000 in
theorem ggX11_ask_X1_askSize : GoodIn wsX11_ask wsX1_askSize := goodIn_r _ [32, 21, 22, 23, 24, 25, 26, 33, 15, 34, 35, 36, 37, 38, 39, 40, 41, 42, 43, 19, 44, 45, 29, 46, 31, 47, 48, 49, 50, 51, 52, 53, 54, 55, 56, 57, 58, 59, 60, 61, 62, 102, 103, 115, 116, 117, 118, 119, 120, 121, 122, 123, 124, 125, 126, 127, 128, 129] (by decide +kernel) (by decide +kernel)
set_option maxRecDepth 20000 in
theorem gX11_ask_X1_askSize_u256X1 : GoodIn wsX11_ask (va_wsO RX11 256 RX1 "FenceYards$Strip" ⟨"FenceYards$Strip", "askSize", "(LFenceYards$Trace;)I"⟩ yX1_askSize wsX1_askSize) := goodIn_app (goodIn_of _ (by decide +kernel)) ggX11_ask_X1_askSize
set_option maxRecDepth 20000 in
theorem ggX11_ask_X2_askSize : GoodIn wsX11_ask wsX2_askSize := goodIn_r _ [67, 21, 22, 23, 24, 25, 26, 68, 69, 70, 71, 72, 73, 74, 15, 75, 35, 36, 37, 38, 102, 103, 115, 116, 117, 118, 119, 120, 121, 122, 123, 124, 125, 126, 127, 128, 129] (by decide +kernel) (by decide +kernel)
set_option maxRecDepth 20000 in
theorem gX11_ask_X2_askSize_u256X2 : GoodIn wsX11_ask (va_wsO RX11 256 RX2 "FenceYards$Strip" ⟨"FenceYards$Strip", "askSize", "(LFenceYards$Trace;)I"⟩ yX2_askSize wsX2_askSize) := goodIn_app (goodIn_of _ (by decide +kernel)) ggX11_ask_X2_askSize
set_option maxRecDepth 20000 in
theorem ggX11_ask_X3_askSize : GoodIn wsX11_ask wsX3_askSize := goodIn_r _ [73, 21, 22, 23, 24, 25, 26, 74, 15, 75, 35, 36, 37, 38, 102, 103, 115, 116, 117, 118, 119, 120, 121, 122, 123, 124, 125, 126, 127, 128, 129] (by decide +kernel) (by decide +kernel)
set_option maxRecDepth 20000 in
theorem gX11_ask_X3_askSize_u256X3 : GoodIn wsX11_ask (va_wsO RX11 256 RX3 "FenceYards$Strip" ⟨"FenceYards$Strip", "askSize", "(LFenceYards$Trace;)I"⟩ yX3_askSize wsX3_askSize) := goodIn_app (goodIn_of _ (by decide +kernel)) ggX11_ask_X3_askSize
set_option maxRecDepth 20000 in
theorem gX11_ask_X1_askSize_u256X7 : GoodIn wsX11_ask (va_wsO RX11 256 RX7 "FenceYards$Strip" ⟨"FenceYards$Strip", "askSize", "(LFenceYards$Trace;)I"⟩ yX1_askSize wsX1_askSize) := goodIn_app (goodIn_of _ (by decide +kernel)) ggX11_ask_X1_askSize
set_option maxRecDepth 20000 in
theorem ggX11_ask_X0_askMark : GoodIn wsX11_ask wsX0_askMark := goodIn_r _ [44, 21, 22, 23, 24, 25, 26, 45, 40, 29, 46, 31, 47, 48, 49, 50, 51, 34, 52, 36, 53, 54, 102, 103, 115, 116, 117, 118, 119, 120, 121, 122, 123, 124, 125, 126, 127, 128, 129] (by decide +kernel) (by decide +kernel)
set_option maxRecDepth 20000 in
theorem gX11_ask_X0_askMark_u260X0 : GoodIn wsX11_ask (va_wsO RX11 260 RX0 "FenceYards$Strip" ⟨"FenceYards$Strip", "askMark", "(LFenceYards$Trace;)I"⟩ yX0_askMark wsX0_askMark) := goodIn_app (goodIn_of _ (by decide +kernel)) ggX11_ask_X0_askMark
set_option maxRecDepth 20000 in
theorem ggX11_ask_X1_askMark : GoodIn wsX11_ask wsX1_askMark := goodIn_r _ [47, 48, 49, 21, 22, 23, 24, 25, 26, 50, 51, 34, 52, 36, 53, 54, 115, 116, 117, 118, 119, 120, 121, 122, 123, 124, 125, 126, 127, 128, 129, 102, 103] (by decide +kernel) (by decide +kernel)
set_option maxRecDepth 20000 in
theorem gX11_ask_X1_askMark_u260X1 : GoodIn wsX11_ask (va_wsO RX11 260 RX1 "FenceYards$Strip" ⟨"FenceYards$Strip", "askMark", "(LFenceYards$Trace;)I"⟩ yX1_askMark wsX1_askMark) := goodIn_app (goodIn_of _ (by decide +kernel)) ggX11_ask_X1_askMark
set_option maxRecDepth 20000 in
theorem ggX11_ask_X3_askMark : GoodIn wsX11_ask wsX3_askMark := goodIn_r _ [84, 21, 22, 23, 24, 25, 26, 85, 51, 75, 52, 36, 53, 54, 86, 69, 87, 88, 65, 66, 67, 68, 70, 71, 72, 73, 74, 15, 35, 37, 38, 89, 90, 102, 103, 115, 116, 117, 118, 119, 120, 121, 122, 123, 124, 125, 126, 127, 128, 129] (by decide +kernel) (by decide +kernel)
set_option maxRecDepth 20000 in
theorem gX11_ask_X3_askMark_u260X2 : GoodIn wsX11_ask (va_wsO RX11 260 RX2 "FenceYards$Strip" ⟨"FenceYards$Strip", "askMark", "(LFenceYards$Trace;)I"⟩ yX3_askMark wsX3_askMark) := goodIn_app (goodIn_of _ (by decide +kernel)) ggX11_ask_X3_askMark
set_option maxRecDepth 20000 in
theorem gX11_ask_X3_askMark_u260X3 : GoodIn wsX11_ask (va_wsO RX11 260 RX3 "FenceYards$Strip" ⟨"FenceYards$Strip", "askMark", "(LFenceYards$Trace;)I"⟩ yX3_askMark wsX3_askMark) := goodIn_app (goodIn_of _ (by decide +kernel)) ggX11_ask_X3_askMark
set_option maxRecDepth 20000 in
theorem ggX11_ask_X7_askMark : GoodIn wsX11_ask wsX7_askMark := goodIn_r _ [60, 21, 22, 23, 24, 25, 26, 61, 40, 62, 46, 31, 47, 48, 49, 50, 51, 34, 52, 36, 53, 54, 102, 103, 115, 116, 117, 118, 119, 120, 121, 122, 123, 124, 125, 126, 127, 128, 129] (by decide +kernel) (by decide +kernel)
set_option maxRecDepth 20000 in
theorem gX11_ask_X7_askMark_u260X7 : GoodIn wsX11_ask (va_wsO RX11 260 RX7 "FenceYards$Strip" ⟨"FenceYards$Strip", "askMark", "(LFenceYards$Trace;)I"⟩ yX7_askMark wsX7_askMark) := goodIn_app (goodIn_of _ (by decide +kernel)) ggX11_ask_X7_askMark
theorem dX11_ask_0 : decode cX11_ask 0 = .ok (.aload_n 0, 1) := by decide +kernel
theorem dX11_ask_1 : decode cX11_ask 1 = .ok (.getfield 47, 3) := by decide +kernel
theorem dX11_ask_4 : decode cX11_ask 4 = .ok (.iload_n 1, 1) := by decide +kernel
theorem dX11_ask_5 : decode cX11_ask 5 = .ok (.invokevirtual 150, 3) := by decide +kernel
theorem dX11_ask_8 : decode cX11_ask 8 = .ok (.astore_n 3, 1) := by decide +kernel
theorem dX11_ask_9 : decode cX11_ask 9 = .ok (.aload_n 3, 1) := by decide +kernel
theorem dX11_ask_10 : decode cX11_ask 10 = .ok (.ifnull 10, 3) := by decide +kernel
theorem dX11_ask_13 : decode cX11_ask 13 = .ok (.iload_n 2, 1) := by decide +kernel
theorem dX11_ask_14 : decode cX11_ask 14 = .ok (.invokestatic 171, 3) := by decide +kernel
theorem dX11_ask_17 : decode cX11_ask 17 = .ok (.ifCond .ne 6, 3) := by decide +kernel
theorem dX11_ask_20 : decode cX11_ask 20 = .ok (.ldc 57, 2) := by decide +kernel
theorem dX11_ask_22 : decode cX11_ask 22 = .ok (.ireturn, 1) := by decide +kernel
theorem dX11_ask_23 : decode cX11_ask 23 = .ok (.aload_n 0, 1) := by decide +kernel
theorem dX11_ask_24 : decode cX11_ask 24 = .ok (.getfield 33, 3) := by decide +kernel
theorem dX11_ask_27 : decode cX11_ask 27 = .ok (.iconst 0, 1) := by decide +kernel
theorem dX11_ask_28 : decode cX11_ask 28 = .ok (.putfield 255, 3) := by decide +kernel
theorem dX11_ask_31 : decode cX11_ask 31 = .ok (.iload_n 2, 1) := by decide +kernel
theorem dX11_ask_32 : decode cX11_ask 32 = .ok (.ifCond .ne 14, 3) := by decide +kernel
theorem dX11_ask_35 : decode cX11_ask 35 = .ok (.aload_n 3, 1) := by decide +kernel
theorem dX11_ask_36 : decode cX11_ask 36 = .ok (.aload_n 0, 1) := by decide +kernel
theorem dX11_ask_37 : decode cX11_ask 37 = .ok (.getfield 33, 3) := by decide +kernel
theorem dX11_ask_40 : decode cX11_ask 40 = .ok (.invokevirtual 256, 3) := by decide +kernel
theorem dX11_ask_43 : decode cX11_ask 43 = .ok (.goto 11, 3) := by decide +kernel
theorem dX11_ask_46 : decode cX11_ask 46 = .ok (.aload_n 3, 1) := by decide +kernel
theorem dX11_ask_47 : decode cX11_ask 47 = .ok (.aload_n 0, 1) := by decide +kernel
theorem dX11_ask_48 : decode cX11_ask 48 = .ok (.getfield 33, 3) := by decide +kernel
theorem dX11_ask_51 : decode cX11_ask 51 = .ok (.invokevirtual 260, 3) := by decide +kernel
theorem dX11_ask_54 : decode cX11_ask 54 = .ok (.ireturn, 1) := by decide +kernel
set_option maxRecDepth 20000 in
theorem ggX11_trace_X10_numberAt : GoodIn wsX11_trace wsX10_numberAt := goodIn_r _ [5, 6, 7, 8, 18, 19] (by decide +kernel) (by decide +kernel)
set_option maxRecDepth 20000 in
theorem gX11_trace_X10_numberAt_n263 : GoodIn wsX11_trace (wsX10_numberAt) := ggX11_trace_X10_numberAt
theorem dX11_trace_0 : decode cX11_trace 0 = .ok (.aload_n 0, 1) := by decide +kernel
theorem dX11_trace_1 : decode cX11_trace 1 = .ok (.getfield 33, 3) := by decide +kernel
theorem dX11_trace_4 : decode cX11_trace 4 = .ok (.iload_n 1, 1) := by decide +kernel
theorem dX11_trace_5 : decode cX11_trace 5 = .ok (.invokevirtual 263, 3) := by decide +kernel
theorem dX11_trace_8 : decode cX11_trace 8 = .ok (.ireturn, 1) := by decide +kernel
set_option maxRecDepth 20000 in
theorem ggX11_count_X6_present : GoodIn wsX11_count wsX6_present := goodIn_r _ [8, 9, 10, 11, 6, 12, 13, 49, 50, 51] (by decide +kernel) (by decide +kernel)
set_option maxRecDepth 20000 in
theorem gX11_count_X6_present_n266 : GoodIn wsX11_count (wsX6_present) := ggX11_count_X6_present
set_option maxRecDepth 20000 in
theorem ggX11_count_X4_endOn : GoodIn wsX11_count wsX4_endOn := goodIn_r _ [17, 18, 19, 20, 30, 31, 32, 33, 34, 35, 36, 37, 38, 39, 40] (by decide +kernel) (by decide +kernel)
set_option maxRecDepth 20000 in
theorem gX11_count_X4_endOn_n125 : GoodIn wsX11_count (wsX4_endOn) := ggX11_count_X4_endOn
theorem dX11_count_0 : decode cX11_count 0 = .ok (.iload_n 1, 1) := by decide +kernel
theorem dX11_count_1 : decode cX11_count 1 = .ok (.tableswitch 101 0 6 #[43, 51, 59, 67, 76, 85, 93], 43) := by decide +kernel
theorem dX11_count_44 : decode cX11_count 44 = .ok (.aload_n 0, 1) := by decide +kernel
theorem dX11_count_45 : decode cX11_count 45 = .ok (.getfield 12, 3) := by decide +kernel
theorem dX11_count_48 : decode cX11_count 48 = .ok (.invokevirtual 266, 3) := by decide +kernel
theorem dX11_count_51 : decode cX11_count 51 = .ok (.ireturn, 1) := by decide +kernel
theorem dX11_count_52 : decode cX11_count 52 = .ok (.aload_n 0, 1) := by decide +kernel
theorem dX11_count_53 : decode cX11_count 53 = .ok (.getfield 47, 3) := by decide +kernel
theorem dX11_count_56 : decode cX11_count 56 = .ok (.getfield 111, 3) := by decide +kernel
theorem dX11_count_59 : decode cX11_count 59 = .ok (.ireturn, 1) := by decide +kernel
theorem dX11_count_60 : decode cX11_count 60 = .ok (.aload_n 0, 1) := by decide +kernel
theorem dX11_count_61 : decode cX11_count 61 = .ok (.getfield 47, 3) := by decide +kernel
theorem dX11_count_64 : decode cX11_count 64 = .ok (.getfield 128, 3) := by decide +kernel
theorem dX11_count_67 : decode cX11_count 67 = .ok (.ireturn, 1) := by decide +kernel
theorem dX11_count_68 : decode cX11_count 68 = .ok (.aload_n 0, 1) := by decide +kernel
theorem dX11_count_69 : decode cX11_count 69 = .ok (.getfield 47, 3) := by decide +kernel
theorem dX11_count_72 : decode cX11_count 72 = .ok (.iconst 0, 1) := by decide +kernel
theorem dX11_count_73 : decode cX11_count 73 = .ok (.invokevirtual 125, 3) := by decide +kernel
theorem dX11_count_76 : decode cX11_count 76 = .ok (.ireturn, 1) := by decide +kernel
theorem dX11_count_77 : decode cX11_count 77 = .ok (.aload_n 0, 1) := by decide +kernel
theorem dX11_count_78 : decode cX11_count 78 = .ok (.getfield 47, 3) := by decide +kernel
theorem dX11_count_81 : decode cX11_count 81 = .ok (.iconst 1, 1) := by decide +kernel
theorem dX11_count_82 : decode cX11_count 82 = .ok (.invokevirtual 125, 3) := by decide +kernel
theorem dX11_count_85 : decode cX11_count 85 = .ok (.ireturn, 1) := by decide +kernel
theorem dX11_count_86 : decode cX11_count 86 = .ok (.aload_n 0, 1) := by decide +kernel
theorem dX11_count_87 : decode cX11_count 87 = .ok (.getfield 47, 3) := by decide +kernel
theorem dX11_count_90 : decode cX11_count 90 = .ok (.getfield 269, 3) := by decide +kernel
theorem dX11_count_93 : decode cX11_count 93 = .ok (.ireturn, 1) := by decide +kernel
theorem dX11_count_94 : decode cX11_count 94 = .ok (.aload_n 0, 1) := by decide +kernel
theorem dX11_count_95 : decode cX11_count 95 = .ok (.getfield 19, 3) := by decide +kernel
theorem dX11_count_98 : decode cX11_count 98 = .ok (.getfield 94, 3) := by decide +kernel
theorem dX11_count_101 : decode cX11_count 101 = .ok (.ireturn, 1) := by decide +kernel
theorem dX11_count_102 : decode cX11_count 102 = .ok (.ldc 57, 2) := by decide +kernel
theorem dX11_count_104 : decode cX11_count 104 = .ok (.ireturn, 1) := by decide +kernel
theorem dX11_status_0 : decode cX11_status 0 = .ok (.aload_n 0, 1) := by decide +kernel
theorem dX11_status_1 : decode cX11_status 1 = .ok (.getfield 272, 3) := by decide +kernel
theorem dX11_status_4 : decode cX11_status 4 = .ok (.ireturn, 1) := by decide +kernel
theorem dX11_found_0 : decode cX11_found 0 = .ok (.aload_n 0, 1) := by decide +kernel
theorem dX11_found_1 : decode cX11_found 1 = .ok (.iload_n 1, 1) := by decide +kernel
theorem dX11_found_2 : decode cX11_found 2 = .ok (.putfield 272, 3) := by decide +kernel
theorem dX11_found_5 : decode cX11_found 5 = .ok (.ldc_w 275, 3) := by decide +kernel
theorem dX11_found_8 : decode cX11_found 8 = .ok (.iload_n 1, 1) := by decide +kernel
theorem dX11_found_9 : decode cX11_found 9 = .ok (.isub, 1) := by decide +kernel
theorem dX11_found_10 : decode cX11_found 10 = .ok (.ireturn, 1) := by decide +kernel
theorem dX11_fine_0 : decode cX11_fine 0 = .ok (.aload_n 0, 1) := by decide +kernel
theorem dX11_fine_1 : decode cX11_fine 1 = .ok (.iconst 0, 1) := by decide +kernel
theorem dX11_fine_2 : decode cX11_fine 2 = .ok (.putfield 272, 3) := by decide +kernel
theorem dX11_fine_5 : decode cX11_fine 5 = .ok (.iload_n 1, 1) := by decide +kernel
theorem dX11_fine_6 : decode cX11_fine 6 = .ok (.ireturn, 1) := by decide +kernel
theorem dX11_imageOf_0 : decode cX11_imageOf 0 = .ok (.iload_n 1, 1) := by decide +kernel
theorem dX11_imageOf_1 : decode cX11_imageOf 1 = .ok (.ifCond .ne 10, 3) := by decide +kernel
theorem dX11_imageOf_4 : decode cX11_imageOf 4 = .ok (.aload_n 0, 1) := by decide +kernel
theorem dX11_imageOf_5 : decode cX11_imageOf 5 = .ok (.getfield 40, 3) := by decide +kernel
theorem dX11_imageOf_8 : decode cX11_imageOf 8 = .ok (.goto 7, 3) := by decide +kernel
theorem dX11_imageOf_11 : decode cX11_imageOf 11 = .ok (.aload_n 0, 1) := by decide +kernel
theorem dX11_imageOf_12 : decode cX11_imageOf 12 = .ok (.getfield 44, 3) := by decide +kernel
theorem dX11_imageOf_15 : decode cX11_imageOf 15 = .ok (.areturn, 1) := by decide +kernel
set_option maxRecDepth 20000 in
theorem ggX11_shareNow_X4_endOn : GoodIn wsX11_shareNow wsX4_endOn := goodIn_r _ [5, 6, 7, 8, 31, 32, 33, 34, 35, 36, 37, 38, 39, 40, 41] (by decide +kernel) (by decide +kernel)
set_option maxRecDepth 20000 in
theorem gX11_shareNow_X4_endOn_n125 : GoodIn wsX11_shareNow (wsX4_endOn) := ggX11_shareNow_X4_endOn
set_option maxRecDepth 20000 in
theorem ggX11_shareNow_X11_shareOf : GoodIn wsX11_shareNow wsX11_shareOf := goodIn_r _ [12, 13, 14, 15, 16, 17, 18, 19, 20, 21] (by decide +kernel) (by decide +kernel)
set_option maxRecDepth 20000 in
theorem gX11_shareNow_X11_shareOf : GoodIn wsX11_shareNow (va_wsS RX11 276 yX11_shareOf wsX11_shareOf) := goodIn_app (goodIn_of _ (by decide +kernel)) ggX11_shareNow_X11_shareOf
theorem dX11_shareNow_0 : decode cX11_shareNow 0 = .ok (.aload_n 0, 1) := by decide +kernel
theorem dX11_shareNow_1 : decode cX11_shareNow 1 = .ok (.getfield 47, 3) := by decide +kernel
theorem dX11_shareNow_4 : decode cX11_shareNow 4 = .ok (.iconst 0, 1) := by decide +kernel
theorem dX11_shareNow_5 : decode cX11_shareNow 5 = .ok (.invokevirtual 125, 3) := by decide +kernel
theorem dX11_shareNow_8 : decode cX11_shareNow 8 = .ok (.aload_n 0, 1) := by decide +kernel
theorem dX11_shareNow_9 : decode cX11_shareNow 9 = .ok (.getfield 47, 3) := by decide +kernel
theorem dX11_shareNow_12 : decode cX11_shareNow 12 = .ok (.iconst 1, 1) := by decide +kernel
theorem dX11_shareNow_13 : decode cX11_shareNow 13 = .ok (.invokevirtual 125, 3) := by decide +kernel
theorem dX11_shareNow_16 : decode cX11_shareNow 16 = .ok (.iload_n 1, 1) := by decide +kernel
theorem dX11_shareNow_17 : decode cX11_shareNow 17 = .ok (.invokestatic 276, 3) := by decide +kernel
theorem dX11_shareNow_20 : decode cX11_shareNow 20 = .ok (.ireturn, 1) := by decide +kernel
theorem dX11_isRow_0 : decode cX11_isRow 0 = .ok (.iload_n 0, 1) := by decide +kernel
theorem dX11_isRow_1 : decode cX11_isRow 1 = .ok (.ifCond .lt 13, 3) := by decide +kernel
theorem dX11_isRow_4 : decode cX11_isRow 4 = .ok (.iload_n 0, 1) := by decide +kernel
theorem dX11_isRow_5 : decode cX11_isRow 5 = .ok (.bipush 8, 2) := by decide +kernel
theorem dX11_isRow_7 : decode cX11_isRow 7 = .ok (.if_icmp .ge 7, 3) := by decide +kernel
theorem dX11_isRow_10 : decode cX11_isRow 10 = .ok (.iconst 1, 1) := by decide +kernel
theorem dX11_isRow_11 : decode cX11_isRow 11 = .ok (.goto 4, 3) := by decide +kernel
theorem dX11_isRow_14 : decode cX11_isRow 14 = .ok (.iconst 0, 1) := by decide +kernel
theorem dX11_isRow_15 : decode cX11_isRow 15 = .ok (.ireturn, 1) := by decide +kernel
theorem dX11_isMove_0 : decode cX11_isMove 0 = .ok (.iload_n 0, 1) := by decide +kernel
theorem dX11_isMove_1 : decode cX11_isMove 1 = .ok (.iconst (-1), 1) := by decide +kernel
theorem dX11_isMove_2 : decode cX11_isMove 2 = .ok (.if_icmp .lt 12, 3) := by decide +kernel
theorem dX11_isMove_5 : decode cX11_isMove 5 = .ok (.iload_n 0, 1) := by decide +kernel
theorem dX11_isMove_6 : decode cX11_isMove 6 = .ok (.iconst 1, 1) := by decide +kernel
theorem dX11_isMove_7 : decode cX11_isMove 7 = .ok (.if_icmp .gt 7, 3) := by decide +kernel
theorem dX11_isMove_10 : decode cX11_isMove 10 = .ok (.iconst 1, 1) := by decide +kernel
theorem dX11_isMove_11 : decode cX11_isMove 11 = .ok (.goto 4, 3) := by decide +kernel
theorem dX11_isMove_14 : decode cX11_isMove 14 = .ok (.iconst 0, 1) := by decide +kernel
theorem dX11_isMove_15 : decode cX11_isMove 15 = .ok (.ireturn, 1) := by decide +kernel
theorem dX11_isSpan_0 : decode cX11_isSpan 0 = .ok (.iload_n 0, 1) := by decide +kernel
theorem dX11_isSpan_1 : decode cX11_isSpan 1 = .ok (.iconst 1, 1) := by decide +kernel
theorem dX11_isSpan_2 : decode cX11_isSpan 2 = .ok (.if_icmp .lt 13, 3) := by decide +kernel
theorem dX11_isSpan_5 : decode cX11_isSpan 5 = .ok (.iload_n 0, 1) := by decide +kernel
theorem dX11_isSpan_6 : decode cX11_isSpan 6 = .ok (.bipush 12, 2) := by decide +kernel
theorem dX11_isSpan_8 : decode cX11_isSpan 8 = .ok (.if_icmp .gt 7, 3) := by decide +kernel
