set_option maxRecDepth 20000 in
theorem ggX12_best_X12_well : GoodIn wsX12_best wsX12_well := goodIn_r _ [86, 24, 87, 88, 89, 90, 91, 92, 93, 94, 95, 96, 97, 98, 99, 100, 101, 102, 103, 104, 105, 106, 107, 108, 109, 110, 111, 112] (by decide +kernel) (by decide +kernel)
set_option maxRecDepth 20000 in
theorem gX12_best_X12_well : GoodIn wsX12_best (wsV RX12 76 RX12 yX12_well wsX12_well) := goodIn_app (goodIn_of _ (by decide +kernel)) ggX12_best_X12_well
theorem dX12_best_0 : decode cX12_best 0 = .ok (.aload_n 0, 1) := by decide +kernel
theorem dX12_best_1 : decode cX12_best 1 = .ok (.invokevirtual 196, 3) := by decide +kernel
theorem dX12_best_4 : decode cX12_best 4 = .ok (.ifCond .ne 6, 3) := by decide +kernel
theorem dX12_best_7 : decode cX12_best 7 = .ok (.ldc 200, 2) := by decide +kernel
theorem dX12_best_9 : decode cX12_best 9 = .ok (.ireturn, 1) := by decide +kernel
theorem dX12_best_10 : decode cX12_best 10 = .ok (.iload_n 1, 1) := by decide +kernel
theorem dX12_best_11 : decode cX12_best 11 = .ok (.invokestatic 67, 3) := by decide +kernel
theorem dX12_best_14 : decode cX12_best 14 = .ok (.ifCond .eq 19, 3) := by decide +kernel
theorem dX12_best_17 : decode cX12_best 17 = .ok (.iload_n 2, 1) := by decide +kernel
theorem dX12_best_18 : decode cX12_best 18 = .ok (.iconst 1, 1) := by decide +kernel
theorem dX12_best_19 : decode cX12_best 19 = .ok (.bipush 12, 2) := by decide +kernel
theorem dX12_best_21 : decode cX12_best 21 = .ok (.invokestatic 63, 3) := by decide +kernel
theorem dX12_best_24 : decode cX12_best 24 = .ok (.ifCond .eq 9, 3) := by decide +kernel
theorem dX12_best_27 : decode cX12_best 27 = .ok (.iload_n 3, 1) := by decide +kernel
theorem dX12_best_28 : decode cX12_best 28 = .ok (.bipush (-2), 2) := by decide +kernel
theorem dX12_best_30 : decode cX12_best 30 = .ok (.if_icmp .ge 6, 3) := by decide +kernel
theorem dX12_best_33 : decode cX12_best 33 = .ok (.ldc 71, 2) := by decide +kernel
theorem dX12_best_35 : decode cX12_best 35 = .ok (.ireturn, 1) := by decide +kernel
theorem dX12_best_36 : decode cX12_best 36 = .ok (.aload_n 0, 1) := by decide +kernel
theorem dX12_best_37 : decode cX12_best 37 = .ok (.getfield 20, 3) := by decide +kernel
theorem dX12_best_40 : decode cX12_best 40 = .ok (.iload_n 1, 1) := by decide +kernel
theorem dX12_best_41 : decode cX12_best 41 = .ok (.iaload, 1) := by decide +kernel
theorem dX12_best_42 : decode cX12_best 42 = .ok (.ldc 57, 2) := by decide +kernel
theorem dX12_best_44 : decode cX12_best 44 = .ok (.if_icmp .ne 9, 3) := by decide +kernel
theorem dX12_best_47 : decode cX12_best 47 = .ok (.aload_n 0, 1) := by decide +kernel
theorem dX12_best_48 : decode cX12_best 48 = .ok (.iconst 1, 1) := by decide +kernel
theorem dX12_best_49 : decode cX12_best 49 = .ok (.invokevirtual 72, 3) := by decide +kernel
theorem dX12_best_52 : decode cX12_best 52 = .ok (.ireturn, 1) := by decide +kernel
theorem dX12_best_53 : decode cX12_best 53 = .ok (.aload_n 0, 1) := by decide +kernel
theorem dX12_best_54 : decode cX12_best 54 = .ok (.getfield 23, 3) := by decide +kernel
theorem dX12_best_57 : decode cX12_best 57 = .ok (.iload_n 1, 1) := by decide +kernel
theorem dX12_best_58 : decode cX12_best 58 = .ok (.iaload, 1) := by decide +kernel
theorem dX12_best_59 : decode cX12_best 59 = .ok (.iload_n 2, 1) := by decide +kernel
theorem dX12_best_60 : decode cX12_best 60 = .ok (.if_icmp .ge 9, 3) := by decide +kernel
theorem dX12_best_63 : decode cX12_best 63 = .ok (.aload_n 0, 1) := by decide +kernel
theorem dX12_best_64 : decode cX12_best 64 = .ok (.iconst 2, 1) := by decide +kernel
theorem dX12_best_65 : decode cX12_best 65 = .ok (.invokevirtual 72, 3) := by decide +kernel
theorem dX12_best_68 : decode cX12_best 68 = .ok (.ireturn, 1) := by decide +kernel
theorem dX12_best_69 : decode cX12_best 69 = .ok (.aload_n 0, 1) := by decide +kernel
theorem dX12_best_70 : decode cX12_best 70 = .ok (.iload_n 1, 1) := by decide +kernel
theorem dX12_best_71 : decode cX12_best 71 = .ok (.iload_n 2, 1) := by decide +kernel
theorem dX12_best_72 : decode cX12_best 72 = .ok (.invokevirtual 214, 3) := by decide +kernel
theorem dX12_best_75 : decode cX12_best 75 = .ok (.ifCond .ne 6, 3) := by decide +kernel
theorem dX12_best_78 : decode cX12_best 78 = .ok (.ldc 71, 2) := by decide +kernel
theorem dX12_best_80 : decode cX12_best 80 = .ok (.ireturn, 1) := by decide +kernel
theorem dX12_best_81 : decode cX12_best 81 = .ok (.aload_n 0, 1) := by decide +kernel
theorem dX12_best_82 : decode cX12_best 82 = .ok (.iload_n 2, 1) := by decide +kernel
theorem dX12_best_83 : decode cX12_best 83 = .ok (.invokevirtual 217, 3) := by decide +kernel
theorem dX12_best_86 : decode cX12_best 86 = .ok (.istore 4, 2) := by decide +kernel
theorem dX12_best_88 : decode cX12_best 88 = .ok (.aload_n 0, 1) := by decide +kernel
theorem dX12_best_89 : decode cX12_best 89 = .ok (.iload_n 1, 1) := by decide +kernel
theorem dX12_best_90 : decode cX12_best 90 = .ok (.iload 4, 2) := by decide +kernel
theorem dX12_best_92 : decode cX12_best 92 = .ok (.invokevirtual 220, 3) := by decide +kernel
theorem dX12_best_95 : decode cX12_best 95 = .ok (.aload_n 0, 1) := by decide +kernel
theorem dX12_best_96 : decode cX12_best 96 = .ok (.iload 4, 2) := by decide +kernel
theorem dX12_best_98 : decode cX12_best 98 = .ok (.invokevirtual 224, 3) := by decide +kernel
theorem dX12_best_101 : decode cX12_best 101 = .ok (.aload_n 0, 1) := by decide +kernel
theorem dX12_best_102 : decode cX12_best 102 = .ok (.iload 4, 2) := by decide +kernel
theorem dX12_best_104 : decode cX12_best 104 = .ok (.invokevirtual 228, 3) := by decide +kernel
theorem dX12_best_107 : decode cX12_best 107 = .ok (.aload_n 0, 1) := by decide +kernel
theorem dX12_best_108 : decode cX12_best 108 = .ok (.iload_n 3, 1) := by decide +kernel
theorem dX12_best_109 : decode cX12_best 109 = .ok (.ifCond .ge 23, 3) := by decide +kernel
theorem dX12_best_112 : decode cX12_best 112 = .ok (.aload_n 0, 1) := by decide +kernel
theorem dX12_best_113 : decode cX12_best 113 = .ok (.getfield 48, 3) := by decide +kernel
theorem dX12_best_116 : decode cX12_best 116 = .ok (.aload_n 0, 1) := by decide +kernel
theorem dX12_best_117 : decode cX12_best 117 = .ok (.getfield 7, 3) := by decide +kernel
theorem dX12_best_120 : decode cX12_best 120 = .ok (.iconst 1, 1) := by decide +kernel
theorem dX12_best_121 : decode cX12_best 121 = .ok (.iaload, 1) := by decide +kernel
theorem dX12_best_122 : decode cX12_best 122 = .ok (.laload, 1) := by decide +kernel
theorem dX12_best_123 : decode cX12_best 123 = .ok (.iload_n 3, 1) := by decide +kernel
theorem dX12_best_124 : decode cX12_best 124 = .ok (.iconst 2, 1) := by decide +kernel
theorem dX12_best_125 : decode cX12_best 125 = .ok (.iadd, 1) := by decide +kernel
theorem dX12_best_126 : decode cX12_best 126 = .ok (.invokestatic 188, 3) := by decide +kernel
theorem dX12_best_129 : decode cX12_best 129 = .ok (.goto 20, 3) := by decide +kernel
theorem dX12_best_132 : decode cX12_best 132 = .ok (.iload_n 3, 1) := by decide +kernel
theorem dX12_best_133 : decode cX12_best 133 = .ok (.iload 4, 2) := by decide +kernel
theorem dX12_best_135 : decode cX12_best 135 = .ok (.if_icmp .ge 12, 3) := by decide +kernel
theorem dX12_best_138 : decode cX12_best 138 = .ok (.aload_n 0, 1) := by decide +kernel
theorem dX12_best_139 : decode cX12_best 139 = .ok (.getfield 51, 3) := by decide +kernel
theorem dX12_best_142 : decode cX12_best 142 = .ok (.iload_n 3, 1) := by decide +kernel
theorem dX12_best_143 : decode cX12_best 143 = .ok (.iaload, 1) := by decide +kernel
theorem dX12_best_144 : decode cX12_best 144 = .ok (.goto 5, 3) := by decide +kernel
theorem dX12_best_147 : decode cX12_best 147 = .ok (.ldc 57, 2) := by decide +kernel
theorem dX12_best_149 : decode cX12_best 149 = .ok (.invokevirtual 76, 3) := by decide +kernel
theorem dX12_best_152 : decode cX12_best 152 = .ok (.ireturn, 1) := by decide +kernel
set_option maxRecDepth 20000 in
theorem ggX12_leaves_X12_mayBe : GoodIn wsX12_leaves wsX12_mayBe := goodIn_r _ [8, 9, 10, 7, 11, 12, 13, 14, 15, 16, 17, 18, 19, 20, 21, 22, 23, 24, 25, 26, 27, 28, 29, 30, 31, 32, 33, 34, 35, 36, 37, 38, 39, 40, 41, 42] (by decide +kernel) (by decide +kernel)
set_option maxRecDepth 20000 in
theorem gX12_leaves_X12_mayBe : GoodIn wsX12_leaves (wsV RX12 201 RX12 yX12_mayBe wsX12_mayBe) := goodIn_app (goodIn_of _ (by decide +kernel)) ggX12_leaves_X12_mayBe
theorem dX12_leaves_0 : decode cX12_leaves 0 = .ok (.ldc2_w 212, 3) := by decide +kernel
theorem dX12_leaves_3 : decode cX12_leaves 3 = .ok (.lstore_n 3, 1) := by decide +kernel
theorem dX12_leaves_4 : decode cX12_leaves 4 = .ok (.iload_n 2, 1) := by decide +kernel
theorem dX12_leaves_5 : decode cX12_leaves 5 = .ok (.iconst 1, 1) := by decide +kernel
theorem dX12_leaves_6 : decode cX12_leaves 6 = .ok (.isub, 1) := by decide +kernel
theorem dX12_leaves_7 : decode cX12_leaves 7 = .ok (.istore 5, 2) := by decide +kernel
theorem dX12_leaves_9 : decode cX12_leaves 9 = .ok (.iload 5, 2) := by decide +kernel
theorem dX12_leaves_11 : decode cX12_leaves 11 = .ok (.iload_n 2, 1) := by decide +kernel
theorem dX12_leaves_12 : decode cX12_leaves 12 = .ok (.iconst 1, 1) := by decide +kernel
theorem dX12_leaves_13 : decode cX12_leaves 13 = .ok (.iadd, 1) := by decide +kernel
theorem dX12_leaves_14 : decode cX12_leaves 14 = .ok (.if_icmp .gt 79, 3) := by decide +kernel
theorem dX12_leaves_17 : decode cX12_leaves 17 = .ok (.aload_n 0, 1) := by decide +kernel
theorem dX12_leaves_18 : decode cX12_leaves 18 = .ok (.iconst 1, 1) := by decide +kernel
theorem dX12_leaves_19 : decode cX12_leaves 19 = .ok (.iload 5, 2) := by decide +kernel
theorem dX12_leaves_21 : decode cX12_leaves 21 = .ok (.invokevirtual 201, 3) := by decide +kernel
theorem dX12_leaves_24 : decode cX12_leaves 24 = .ok (.ifCond .eq 31, 3) := by decide +kernel
theorem dX12_leaves_27 : decode cX12_leaves 27 = .ok (.aload_n 0, 1) := by decide +kernel
theorem dX12_leaves_28 : decode cX12_leaves 28 = .ok (.getfield 35, 3) := by decide +kernel
theorem dX12_leaves_31 : decode cX12_leaves 31 = .ok (.bipush 13, 2) := by decide +kernel
theorem dX12_leaves_33 : decode cX12_leaves 33 = .ok (.iload_n 1, 1) := by decide +kernel
theorem dX12_leaves_34 : decode cX12_leaves 34 = .ok (.imul, 1) := by decide +kernel
theorem dX12_leaves_35 : decode cX12_leaves 35 = .ok (.iload 5, 2) := by decide +kernel
theorem dX12_leaves_37 : decode cX12_leaves 37 = .ok (.iadd, 1) := by decide +kernel
theorem dX12_leaves_38 : decode cX12_leaves 38 = .ok (.laload, 1) := by decide +kernel
theorem dX12_leaves_39 : decode cX12_leaves 39 = .ok (.aload_n 0, 1) := by decide +kernel
theorem dX12_leaves_40 : decode cX12_leaves 40 = .ok (.getfield 39, 3) := by decide +kernel
theorem dX12_leaves_43 : decode cX12_leaves 43 = .ok (.bipush 13, 2) := by decide +kernel
theorem dX12_leaves_45 : decode cX12_leaves 45 = .ok (.iload_n 1, 1) := by decide +kernel
theorem dX12_leaves_46 : decode cX12_leaves 46 = .ok (.imul, 1) := by decide +kernel
theorem dX12_leaves_47 : decode cX12_leaves 47 = .ok (.iload 5, 2) := by decide +kernel
theorem dX12_leaves_49 : decode cX12_leaves 49 = .ok (.iadd, 1) := by decide +kernel
theorem dX12_leaves_50 : decode cX12_leaves 50 = .ok (.laload, 1) := by decide +kernel
theorem dX12_leaves_51 : decode cX12_leaves 51 = .ok (.ladd, 1) := by decide +kernel
theorem dX12_leaves_52 : decode cX12_leaves 52 = .ok (.goto 6, 3) := by decide +kernel
theorem dX12_leaves_55 : decode cX12_leaves 55 = .ok (.ldc2_w 212, 3) := by decide +kernel
theorem dX12_leaves_58 : decode cX12_leaves 58 = .ok (.lstore 6, 2) := by decide +kernel
theorem dX12_leaves_60 : decode cX12_leaves 60 = .ok (.lload 6, 2) := by decide +kernel
theorem dX12_leaves_62 : decode cX12_leaves 62 = .ok (.lconst 0, 1) := by decide +kernel
theorem dX12_leaves_63 : decode cX12_leaves 63 = .ok (.lcmp, 1) := by decide +kernel
theorem dX12_leaves_64 : decode cX12_leaves 64 = .ok (.ifCond .lt 21, 3) := by decide +kernel
theorem dX12_leaves_67 : decode cX12_leaves 67 = .ok (.lload_n 3, 1) := by decide +kernel
theorem dX12_leaves_68 : decode cX12_leaves 68 = .ok (.lconst 0, 1) := by decide +kernel
theorem dX12_leaves_69 : decode cX12_leaves 69 = .ok (.lcmp, 1) := by decide +kernel
theorem dX12_leaves_70 : decode cX12_leaves 70 = .ok (.ifCond .lt 10, 3) := by decide +kernel
theorem dX12_leaves_73 : decode cX12_leaves 73 = .ok (.lload 6, 2) := by decide +kernel
theorem dX12_leaves_75 : decode cX12_leaves 75 = .ok (.lload_n 3, 1) := by decide +kernel
theorem dX12_leaves_76 : decode cX12_leaves 76 = .ok (.lcmp, 1) := by decide +kernel
theorem dX12_leaves_77 : decode cX12_leaves 77 = .ok (.ifCond .ge 8, 3) := by decide +kernel
theorem dX12_leaves_80 : decode cX12_leaves 80 = .ok (.lload 6, 2) := by decide +kernel
theorem dX12_leaves_82 : decode cX12_leaves 82 = .ok (.goto 4, 3) := by decide +kernel
theorem dX12_leaves_85 : decode cX12_leaves 85 = .ok (.lload_n 3, 1) := by decide +kernel
theorem dX12_leaves_86 : decode cX12_leaves 86 = .ok (.lstore_n 3, 1) := by decide +kernel
theorem dX12_leaves_87 : decode cX12_leaves 87 = .ok (.iinc 5 1, 3) := by decide +kernel
theorem dX12_leaves_90 : decode cX12_leaves 90 = .ok (.goto (-81), 3) := by decide +kernel
theorem dX12_leaves_93 : decode cX12_leaves 93 = .ok (.lload_n 3, 1) := by decide +kernel
theorem dX12_leaves_94 : decode cX12_leaves 94 = .ok (.lreturn, 1) := by decide +kernel
set_option maxRecDepth 20000 in
theorem ggX12_chooses_X12_mayBe : GoodIn wsX12_chooses wsX12_mayBe := goodIn_r _ [7, 8, 9, 6, 10, 11, 12, 13, 14, 15, 22, 23, 24, 25, 26, 27, 28, 29, 30, 31, 32, 33, 34, 35, 36, 37, 38, 39, 40, 41, 42, 43, 44, 45, 46, 47] (by decide +kernel) (by decide +kernel)
set_option maxRecDepth 20000 in
theorem gX12_chooses_X12_mayBe : GoodIn wsX12_chooses (wsV RX12 201 RX12 yX12_mayBe wsX12_mayBe) := goodIn_app (goodIn_of _ (by decide +kernel)) ggX12_chooses_X12_mayBe
set_option maxRecDepth 20000 in
theorem ggX12_chooses_X12_leaves : GoodIn wsX12_chooses wsX12_leaves := goodIn_r _ [19, 1, 20, 21, 3, 4, 5, 6, 7, 8, 9, 10, 11, 12, 13, 14, 15, 22, 23, 24, 25, 26, 27, 28, 29, 30, 31, 32, 33, 34, 35, 36, 37, 38, 39, 40, 41, 42, 43, 44, 45, 46, 47] (by decide +kernel) (by decide +kernel)
set_option maxRecDepth 20000 in
theorem gX12_chooses_X12_leaves : GoodIn wsX12_chooses (wsV RX12 231 RX12 yX12_leaves wsX12_leaves) := goodIn_app (goodIn_of _ (by decide +kernel)) ggX12_chooses_X12_leaves
theorem dX12_chooses_0 : decode cX12_chooses 0 = .ok (.ldc2_w 212, 3) := by decide +kernel
theorem dX12_chooses_3 : decode cX12_chooses 3 = .ok (.lstore_n 3, 1) := by decide +kernel
theorem dX12_chooses_4 : decode cX12_chooses 4 = .ok (.iconst (-1), 1) := by decide +kernel
theorem dX12_chooses_5 : decode cX12_chooses 5 = .ok (.istore 5, 2) := by decide +kernel
theorem dX12_chooses_7 : decode cX12_chooses 7 = .ok (.iload 5, 2) := by decide +kernel
theorem dX12_chooses_9 : decode cX12_chooses 9 = .ok (.iconst 1, 1) := by decide +kernel
theorem dX12_chooses_10 : decode cX12_chooses 10 = .ok (.if_icmp .gt 72, 3) := by decide +kernel
theorem dX12_chooses_13 : decode cX12_chooses 13 = .ok (.aload_n 0, 1) := by decide +kernel
theorem dX12_chooses_14 : decode cX12_chooses 14 = .ok (.iconst 0, 1) := by decide +kernel
theorem dX12_chooses_15 : decode cX12_chooses 15 = .ok (.iload_n 1, 1) := by decide +kernel
theorem dX12_chooses_16 : decode cX12_chooses 16 = .ok (.iload 5, 2) := by decide +kernel
theorem dX12_chooses_18 : decode cX12_chooses 18 = .ok (.iadd, 1) := by decide +kernel
theorem dX12_chooses_19 : decode cX12_chooses 19 = .ok (.invokevirtual 201, 3) := by decide +kernel
theorem dX12_chooses_22 : decode cX12_chooses 22 = .ok (.ifCond .eq 15, 3) := by decide +kernel
theorem dX12_chooses_25 : decode cX12_chooses 25 = .ok (.aload_n 0, 1) := by decide +kernel
theorem dX12_chooses_26 : decode cX12_chooses 26 = .ok (.iload_n 1, 1) := by decide +kernel
theorem dX12_chooses_27 : decode cX12_chooses 27 = .ok (.iload 5, 2) := by decide +kernel
theorem dX12_chooses_29 : decode cX12_chooses 29 = .ok (.iadd, 1) := by decide +kernel
theorem dX12_chooses_30 : decode cX12_chooses 30 = .ok (.iload_n 2, 1) := by decide +kernel
theorem dX12_chooses_31 : decode cX12_chooses 31 = .ok (.invokevirtual 231, 3) := by decide +kernel
theorem dX12_chooses_34 : decode cX12_chooses 34 = .ok (.goto 6, 3) := by decide +kernel
theorem dX12_chooses_37 : decode cX12_chooses 37 = .ok (.ldc2_w 212, 3) := by decide +kernel
theorem dX12_chooses_40 : decode cX12_chooses 40 = .ok (.lstore 6, 2) := by decide +kernel
theorem dX12_chooses_42 : decode cX12_chooses 42 = .ok (.aload_n 0, 1) := by decide +kernel
theorem dX12_chooses_43 : decode cX12_chooses 43 = .ok (.lload 6, 2) := by decide +kernel
theorem dX12_chooses_45 : decode cX12_chooses 45 = .ok (.lload_n 3, 1) := by decide +kernel
theorem dX12_chooses_46 : decode cX12_chooses 46 = .ok (.lcmp, 1) := by decide +kernel
theorem dX12_chooses_47 : decode cX12_chooses 47 = .ok (.ifCond .le 8, 3) := by decide +kernel
theorem dX12_chooses_50 : decode cX12_chooses 50 = .ok (.iload 5, 2) := by decide +kernel
theorem dX12_chooses_52 : decode cX12_chooses 52 = .ok (.goto 7, 3) := by decide +kernel
theorem dX12_chooses_55 : decode cX12_chooses 55 = .ok (.aload_n 0, 1) := by decide +kernel
theorem dX12_chooses_56 : decode cX12_chooses 56 = .ok (.getfield 235, 3) := by decide +kernel
theorem dX12_chooses_59 : decode cX12_chooses 59 = .ok (.putfield 235, 3) := by decide +kernel
theorem dX12_chooses_62 : decode cX12_chooses 62 = .ok (.lload 6, 2) := by decide +kernel
theorem dX12_chooses_64 : decode cX12_chooses 64 = .ok (.lload_n 3, 1) := by decide +kernel
theorem dX12_chooses_65 : decode cX12_chooses 65 = .ok (.lcmp, 1) := by decide +kernel
theorem dX12_chooses_66 : decode cX12_chooses 66 = .ok (.ifCond .le 8, 3) := by decide +kernel
theorem dX12_chooses_69 : decode cX12_chooses 69 = .ok (.lload 6, 2) := by decide +kernel
theorem dX12_chooses_71 : decode cX12_chooses 71 = .ok (.goto 4, 3) := by decide +kernel
theorem dX12_chooses_74 : decode cX12_chooses 74 = .ok (.lload_n 3, 1) := by decide +kernel
theorem dX12_chooses_75 : decode cX12_chooses 75 = .ok (.lstore_n 3, 1) := by decide +kernel
theorem dX12_chooses_76 : decode cX12_chooses 76 = .ok (.iinc 5 1, 3) := by decide +kernel
theorem dX12_chooses_79 : decode cX12_chooses 79 = .ok (.goto (-72), 3) := by decide +kernel
theorem dX12_chooses_82 : decode cX12_chooses 82 = .ok (.lload_n 3, 1) := by decide +kernel
theorem dX12_chooses_83 : decode cX12_chooses 83 = .ok (.lreturn, 1) := by decide +kernel
set_option maxRecDepth 20000 in
theorem ggX12_gameOf_X12_daysOf : GoodIn wsX12_gameOf wsX12_daysOf := goodIn_r _ [10, 2, 55, 56, 57, 58, 59, 60, 61, 62, 63, 64, 65, 66, 67, 68, 69, 70, 71, 72, 73, 74, 75, 76, 77, 78, 79, 80] (by decide +kernel) (by decide +kernel)
set_option maxRecDepth 20000 in
theorem gX12_gameOf_X12_daysOf : GoodIn wsX12_gameOf (wsV RX12 217 RX12 yX12_daysOf wsX12_daysOf) := goodIn_app (goodIn_of _ (by decide +kernel)) ggX12_gameOf_X12_daysOf
set_option maxRecDepth 20000 in
theorem ggX12_gameOf_X12_findGains : GoodIn wsX12_gameOf wsX12_findGains := goodIn_r _ [14, 15, 16, 17, 18, 9, 19, 2, 20, 21, 22, 23, 24, 25, 26, 27, 28, 29, 30, 31, 32, 33, 34, 55, 56, 57, 58, 59, 60, 61, 62, 63, 64, 65, 66, 67, 68, 69, 70, 71, 72, 73, 74, 75, 76, 77, 78, 79, 80] (by decide +kernel) (by decide +kernel)
set_option maxRecDepth 20000 in
theorem gX12_gameOf_X12_findGains : GoodIn wsX12_gameOf (wsV RX12 238 RX12 yX12_findGains wsX12_findGains) := goodIn_app (goodIn_of _ (by decide +kernel)) ggX12_gameOf_X12_findGains
set_option maxRecDepth 20000 in
theorem ggX12_gameOf_X12_mayBe : GoodIn wsX12_gameOf wsX12_mayBe := goodIn_r _ [38, 39, 40, 9, 41, 42, 43, 44, 45, 2, 55, 56, 57, 58, 59, 60, 61, 62, 63, 64, 65, 66, 67, 68, 69, 70, 71, 72, 73, 74, 75, 76, 77, 78, 79, 80] (by decide +kernel) (by decide +kernel)
set_option maxRecDepth 20000 in
theorem gX12_gameOf_X12_mayBe : GoodIn wsX12_gameOf (wsV RX12 201 RX12 yX12_mayBe wsX12_mayBe) := goodIn_app (goodIn_of _ (by decide +kernel)) ggX12_gameOf_X12_mayBe
set_option maxRecDepth 20000 in
theorem ggX12_gameOf_X12_chooses : GoodIn wsX12_gameOf wsX12_chooses := goodIn_r _ [49, 50, 5, 35, 36, 37, 9, 38, 39, 40, 41, 42, 43, 44, 45, 2, 51, 52, 53, 54, 15, 1, 55, 56, 57, 58, 59, 60, 61, 62, 63, 64, 65, 66, 67, 68, 69, 70, 71, 72, 73, 74, 75, 76, 77, 78, 79, 80] (by decide +kernel) (by decide +kernel)
set_option maxRecDepth 20000 in
theorem gX12_gameOf_X12_chooses : GoodIn wsX12_gameOf (wsV RX12 241 RX12 yX12_chooses wsX12_chooses) := goodIn_app (goodIn_of _ (by decide +kernel)) ggX12_gameOf_X12_chooses
theorem dX12_gameOf_0 : decode cX12_gameOf 0 = .ok (.iconst 0, 1) := by decide +kernel
theorem dX12_gameOf_1 : decode cX12_gameOf 1 = .ok (.istore_n 2, 1) := by decide +kernel
theorem dX12_gameOf_2 : decode cX12_gameOf 2 = .ok (.iload_n 2, 1) := by decide +kernel
theorem dX12_gameOf_3 : decode cX12_gameOf 3 = .ok (.sipush 169, 3) := by decide +kernel
theorem dX12_gameOf_6 : decode cX12_gameOf 6 = .ok (.if_icmp .ge 16, 3) := by decide +kernel
theorem dX12_gameOf_9 : decode cX12_gameOf 9 = .ok (.aload_n 0, 1) := by decide +kernel
theorem dX12_gameOf_10 : decode cX12_gameOf 10 = .ok (.getfield 39, 3) := by decide +kernel
theorem dX12_gameOf_13 : decode cX12_gameOf 13 = .ok (.iload_n 2, 1) := by decide +kernel
theorem dX12_gameOf_14 : decode cX12_gameOf 14 = .ok (.lconst 0, 1) := by decide +kernel
theorem dX12_gameOf_15 : decode cX12_gameOf 15 = .ok (.lastore, 1) := by decide +kernel
theorem dX12_gameOf_16 : decode cX12_gameOf 16 = .ok (.iinc 2 1, 3) := by decide +kernel
theorem dX12_gameOf_19 : decode cX12_gameOf 19 = .ok (.goto (-17), 3) := by decide +kernel
theorem dX12_gameOf_22 : decode cX12_gameOf 22 = .ok (.aload_n 0, 1) := by decide +kernel
theorem dX12_gameOf_23 : decode cX12_gameOf 23 = .ok (.iload_n 1, 1) := by decide +kernel
theorem dX12_gameOf_24 : decode cX12_gameOf 24 = .ok (.invokevirtual 217, 3) := by decide +kernel
theorem dX12_gameOf_27 : decode cX12_gameOf 27 = .ok (.istore_n 2, 1) := by decide +kernel
theorem dX12_gameOf_28 : decode cX12_gameOf 28 = .ok (.aload_n 0, 1) := by decide +kernel
theorem dX12_gameOf_29 : decode cX12_gameOf 29 = .ok (.getfield 7, 3) := by decide +kernel
theorem dX12_gameOf_32 : decode cX12_gameOf 32 = .ok (.iconst 3, 1) := by decide +kernel
theorem dX12_gameOf_33 : decode cX12_gameOf 33 = .ok (.iaload, 1) := by decide +kernel
theorem dX12_gameOf_34 : decode cX12_gameOf 34 = .ok (.iload_n 2, 1) := by decide +kernel
theorem dX12_gameOf_35 : decode cX12_gameOf 35 = .ok (.iadd, 1) := by decide +kernel
theorem dX12_gameOf_36 : decode cX12_gameOf 36 = .ok (.iconst 1, 1) := by decide +kernel
theorem dX12_gameOf_37 : decode cX12_gameOf 37 = .ok (.isub, 1) := by decide +kernel
theorem dX12_gameOf_38 : decode cX12_gameOf 38 = .ok (.istore_n 3, 1) := by decide +kernel
theorem dX12_gameOf_39 : decode cX12_gameOf 39 = .ok (.iload_n 3, 1) := by decide +kernel
theorem dX12_gameOf_40 : decode cX12_gameOf 40 = .ok (.aload_n 0, 1) := by decide +kernel
theorem dX12_gameOf_41 : decode cX12_gameOf 41 = .ok (.getfield 7, 3) := by decide +kernel
theorem dX12_gameOf_44 : decode cX12_gameOf 44 = .ok (.iconst 3, 1) := by decide +kernel
theorem dX12_gameOf_45 : decode cX12_gameOf 45 = .ok (.iaload, 1) := by decide +kernel
theorem dX12_gameOf_46 : decode cX12_gameOf 46 = .ok (.if_icmp .le 113, 3) := by decide +kernel
theorem dX12_gameOf_49 : decode cX12_gameOf 49 = .ok (.aload_n 0, 1) := by decide +kernel
theorem dX12_gameOf_50 : decode cX12_gameOf 50 = .ok (.iload_n 3, 1) := by decide +kernel
theorem dX12_gameOf_51 : decode cX12_gameOf 51 = .ok (.invokevirtual 238, 3) := by decide +kernel
theorem dX12_gameOf_54 : decode cX12_gameOf 54 = .ok (.iconst 0, 1) := by decide +kernel
theorem dX12_gameOf_55 : decode cX12_gameOf 55 = .ok (.istore 4, 2) := by decide +kernel
theorem dX12_gameOf_57 : decode cX12_gameOf 57 = .ok (.iload 4, 2) := by decide +kernel
theorem dX12_gameOf_59 : decode cX12_gameOf 59 = .ok (.sipush 169, 3) := by decide +kernel
theorem dX12_gameOf_62 : decode cX12_gameOf 62 = .ok (.if_icmp .ge 60, 3) := by decide +kernel
theorem dX12_gameOf_65 : decode cX12_gameOf 65 = .ok (.aload_n 0, 1) := by decide +kernel
theorem dX12_gameOf_66 : decode cX12_gameOf 66 = .ok (.getfield 42, 3) := by decide +kernel
theorem dX12_gameOf_69 : decode cX12_gameOf 69 = .ok (.iload 4, 2) := by decide +kernel
theorem dX12_gameOf_71 : decode cX12_gameOf 71 = .ok (.aload_n 0, 1) := by decide +kernel
theorem dX12_gameOf_72 : decode cX12_gameOf 72 = .ok (.iconst 0, 1) := by decide +kernel
theorem dX12_gameOf_73 : decode cX12_gameOf 73 = .ok (.iload 4, 2) := by decide +kernel
theorem dX12_gameOf_75 : decode cX12_gameOf 75 = .ok (.bipush 13, 2) := by decide +kernel
theorem dX12_gameOf_77 : decode cX12_gameOf 77 = .ok (.idiv, 1) := by decide +kernel
theorem dX12_gameOf_78 : decode cX12_gameOf 78 = .ok (.invokevirtual 201, 3) := by decide +kernel
theorem dX12_gameOf_81 : decode cX12_gameOf 81 = .ok (.ifCond .eq 33, 3) := by decide +kernel
theorem dX12_gameOf_84 : decode cX12_gameOf 84 = .ok (.aload_n 0, 1) := by decide +kernel
theorem dX12_gameOf_85 : decode cX12_gameOf 85 = .ok (.iconst 1, 1) := by decide +kernel
theorem dX12_gameOf_86 : decode cX12_gameOf 86 = .ok (.iload 4, 2) := by decide +kernel
theorem dX12_gameOf_88 : decode cX12_gameOf 88 = .ok (.bipush 13, 2) := by decide +kernel
theorem dX12_gameOf_90 : decode cX12_gameOf 90 = .ok (.irem, 1) := by decide +kernel
theorem dX12_gameOf_91 : decode cX12_gameOf 91 = .ok (.invokevirtual 201, 3) := by decide +kernel
theorem dX12_gameOf_94 : decode cX12_gameOf 94 = .ok (.ifCond .eq 20, 3) := by decide +kernel
theorem dX12_gameOf_97 : decode cX12_gameOf 97 = .ok (.aload_n 0, 1) := by decide +kernel
theorem dX12_gameOf_98 : decode cX12_gameOf 98 = .ok (.iload 4, 2) := by decide +kernel
theorem dX12_gameOf_100 : decode cX12_gameOf 100 = .ok (.bipush 13, 2) := by decide +kernel
theorem dX12_gameOf_102 : decode cX12_gameOf 102 = .ok (.idiv, 1) := by decide +kernel
theorem dX12_gameOf_103 : decode cX12_gameOf 103 = .ok (.iload 4, 2) := by decide +kernel
theorem dX12_gameOf_105 : decode cX12_gameOf 105 = .ok (.bipush 13, 2) := by decide +kernel
theorem dX12_gameOf_107 : decode cX12_gameOf 107 = .ok (.irem, 1) := by decide +kernel
theorem dX12_gameOf_108 : decode cX12_gameOf 108 = .ok (.invokevirtual 241, 3) := by decide +kernel
theorem dX12_gameOf_111 : decode cX12_gameOf 111 = .ok (.goto 4, 3) := by decide +kernel
theorem dX12_gameOf_114 : decode cX12_gameOf 114 = .ok (.lconst 0, 1) := by decide +kernel
theorem dX12_gameOf_115 : decode cX12_gameOf 115 = .ok (.lastore, 1) := by decide +kernel
theorem dX12_gameOf_116 : decode cX12_gameOf 116 = .ok (.iinc 4 1, 3) := by decide +kernel
theorem dX12_gameOf_119 : decode cX12_gameOf 119 = .ok (.goto (-62), 3) := by decide +kernel
theorem dX12_gameOf_122 : decode cX12_gameOf 122 = .ok (.iconst 0, 1) := by decide +kernel
theorem dX12_gameOf_123 : decode cX12_gameOf 123 = .ok (.istore 4, 2) := by decide +kernel
theorem dX12_gameOf_125 : decode cX12_gameOf 125 = .ok (.iload 4, 2) := by decide +kernel
theorem dX12_gameOf_127 : decode cX12_gameOf 127 = .ok (.sipush 169, 3) := by decide +kernel
theorem dX12_gameOf_130 : decode cX12_gameOf 130 = .ok (.if_icmp .ge 23, 3) := by decide +kernel
theorem dX12_gameOf_133 : decode cX12_gameOf 133 = .ok (.aload_n 0, 1) := by decide +kernel
theorem dX12_gameOf_134 : decode cX12_gameOf 134 = .ok (.getfield 39, 3) := by decide +kernel
theorem dX12_gameOf_137 : decode cX12_gameOf 137 = .ok (.iload 4, 2) := by decide +kernel
theorem dX12_gameOf_139 : decode cX12_gameOf 139 = .ok (.aload_n 0, 1) := by decide +kernel
theorem dX12_gameOf_140 : decode cX12_gameOf 140 = .ok (.getfield 42, 3) := by decide +kernel
theorem dX12_gameOf_143 : decode cX12_gameOf 143 = .ok (.iload 4, 2) := by decide +kernel
theorem dX12_gameOf_145 : decode cX12_gameOf 145 = .ok (.laload, 1) := by decide +kernel
theorem dX12_gameOf_146 : decode cX12_gameOf 146 = .ok (.lastore, 1) := by decide +kernel
theorem dX12_gameOf_147 : decode cX12_gameOf 147 = .ok (.iinc 4 1, 3) := by decide +kernel
theorem dX12_gameOf_150 : decode cX12_gameOf 150 = .ok (.goto (-25), 3) := by decide +kernel
theorem dX12_gameOf_153 : decode cX12_gameOf 153 = .ok (.iinc 3 (-1), 3) := by decide +kernel
theorem dX12_gameOf_156 : decode cX12_gameOf 156 = .ok (.goto (-117), 3) := by decide +kernel
theorem dX12_gameOf_159 : decode cX12_gameOf 159 = .ok (.aload_n 0, 1) := by decide +kernel
theorem dX12_gameOf_160 : decode cX12_gameOf 160 = .ok (.ldc 57, 2) := by decide +kernel
theorem dX12_gameOf_162 : decode cX12_gameOf 162 = .ok (.putfield 235, 3) := by decide +kernel
theorem dX12_gameOf_165 : decode cX12_gameOf 165 = .ok (.iload_n 2, 1) := by decide +kernel
theorem dX12_gameOf_166 : decode cX12_gameOf 166 = .ok (.ifCond .ne 5, 3) := by decide +kernel
theorem dX12_gameOf_169 : decode cX12_gameOf 169 = .ok (.lconst 0, 1) := by decide +kernel
theorem dX12_gameOf_170 : decode cX12_gameOf 170 = .ok (.lreturn, 1) := by decide +kernel
theorem dX12_gameOf_171 : decode cX12_gameOf 171 = .ok (.aload_n 0, 1) := by decide +kernel
theorem dX12_gameOf_172 : decode cX12_gameOf 172 = .ok (.aload_n 0, 1) := by decide +kernel
theorem dX12_gameOf_173 : decode cX12_gameOf 173 = .ok (.getfield 7, 3) := by decide +kernel
theorem dX12_gameOf_176 : decode cX12_gameOf 176 = .ok (.iconst 3, 1) := by decide +kernel
theorem dX12_gameOf_177 : decode cX12_gameOf 177 = .ok (.iaload, 1) := by decide +kernel
theorem dX12_gameOf_178 : decode cX12_gameOf 178 = .ok (.invokevirtual 238, 3) := by decide +kernel
theorem dX12_gameOf_181 : decode cX12_gameOf 181 = .ok (.aload_n 0, 1) := by decide +kernel
theorem dX12_gameOf_182 : decode cX12_gameOf 182 = .ok (.aload_n 0, 1) := by decide +kernel
theorem dX12_gameOf_183 : decode cX12_gameOf 183 = .ok (.getfield 7, 3) := by decide +kernel
theorem dX12_gameOf_186 : decode cX12_gameOf 186 = .ok (.iconst 1, 1) := by decide +kernel
theorem dX12_gameOf_187 : decode cX12_gameOf 187 = .ok (.iaload, 1) := by decide +kernel
theorem dX12_gameOf_188 : decode cX12_gameOf 188 = .ok (.aload_n 0, 1) := by decide +kernel
theorem dX12_gameOf_189 : decode cX12_gameOf 189 = .ok (.getfield 7, 3) := by decide +kernel
theorem dX12_gameOf_192 : decode cX12_gameOf 192 = .ok (.iconst 2, 1) := by decide +kernel
theorem dX12_gameOf_193 : decode cX12_gameOf 193 = .ok (.iaload, 1) := by decide +kernel
theorem dX12_gameOf_194 : decode cX12_gameOf 194 = .ok (.invokevirtual 241, 3) := by decide +kernel
theorem dX12_gameOf_197 : decode cX12_gameOf 197 = .ok (.lreturn, 1) := by decide +kernel
set_option maxRecDepth 20000 in
theorem ggX12_game_X12_isGround : GoodIn wsX12_game wsX12_isGround := goodIn_r _ [8, 9, 72, 73, 74, 75, 76, 77, 78, 79, 80, 81, 82, 83, 84, 85, 86, 87, 88, 89, 90, 91, 92, 93, 94, 95, 96, 97] (by decide +kernel) (by decide +kernel)
set_option maxRecDepth 20000 in
theorem gX12_game_X12_isGround : GoodIn wsX12_game (wsV RX12 196 RX12 yX12_isGround wsX12_isGround) := goodIn_app (goodIn_of _ (by decide +kernel)) ggX12_game_X12_isGround
set_option maxRecDepth 20000 in
theorem ggX12_game_X12_in : GoodIn wsX12_game wsX12_in := goodIn_r _ [12] (by decide +kernel) (by decide +kernel)
set_option maxRecDepth 20000 in
theorem gX12_game_X12_in : GoodIn wsX12_game (va_wsS RX12 63 yX12_in wsX12_in) := goodIn_app (goodIn_of _ (by decide +kernel)) ggX12_game_X12_in
set_option maxRecDepth 20000 in
theorem ggX12_game_X12_gameOf : GoodIn wsX12_game wsX12_gameOf := goodIn_r _ [16, 17, 9, 18, 19, 3, 20, 21, 22, 7, 23, 24, 25, 26, 27, 28, 29, 30, 31, 32, 33, 34, 35, 36, 37, 38, 39, 40, 41, 42, 43, 44, 45, 46, 47, 48, 49, 50, 51, 10, 11, 12, 52, 53, 54, 55, 56, 57, 58, 59, 60, 61, 62, 63, 64, 72, 73, 74, 75, 76, 77, 78, 79, 80, 81, 82, 83, 84, 85, 86, 87, 88, 89, 90, 91, 92, 93, 94, 95, 96, 97] (by decide +kernel) (by decide +kernel)
set_option maxRecDepth 20000 in
theorem gX12_game_X12_gameOf : GoodIn wsX12_game (wsV RX12 244 RX12 yX12_gameOf wsX12_gameOf) := goodIn_app (goodIn_of _ (by decide +kernel)) ggX12_game_X12_gameOf
set_option maxRecDepth 20000 in
theorem ggX12_game_X12_told : GoodIn wsX12_game wsX12_told := goodIn_r _ [67, 68, 69, 70, 7, 71] (by decide +kernel) (by decide +kernel)
set_option maxRecDepth 20000 in
theorem gX12_game_X12_told : GoodIn wsX12_game (va_wsS RX12 188 yX12_told wsX12_told) := goodIn_app (goodIn_of _ (by decide +kernel)) ggX12_game_X12_told
theorem dX12_game_0 : decode cX12_game 0 = .ok (.aload_n 0, 1) := by decide +kernel
theorem dX12_game_1 : decode cX12_game 1 = .ok (.invokevirtual 196, 3) := by decide +kernel
theorem dX12_game_4 : decode cX12_game 4 = .ok (.ifCond .ne 6, 3) := by decide +kernel
theorem dX12_game_7 : decode cX12_game 7 = .ok (.ldc 200, 2) := by decide +kernel
theorem dX12_game_9 : decode cX12_game 9 = .ok (.ireturn, 1) := by decide +kernel
theorem dX12_game_10 : decode cX12_game 10 = .ok (.iload_n 1, 1) := by decide +kernel
theorem dX12_game_11 : decode cX12_game 11 = .ok (.iconst 1, 1) := by decide +kernel
theorem dX12_game_12 : decode cX12_game 12 = .ok (.bipush 12, 2) := by decide +kernel
theorem dX12_game_14 : decode cX12_game 14 = .ok (.invokestatic 63, 3) := by decide +kernel
theorem dX12_game_17 : decode cX12_game 17 = .ok (.ifCond .eq 12, 3) := by decide +kernel
theorem dX12_game_20 : decode cX12_game 20 = .ok (.iload_n 2, 1) := by decide +kernel
theorem dX12_game_21 : decode cX12_game 21 = .ok (.iconst 0, 1) := by decide +kernel
theorem dX12_game_22 : decode cX12_game 22 = .ok (.iconst 2, 1) := by decide +kernel
theorem dX12_game_23 : decode cX12_game 23 = .ok (.invokestatic 63, 3) := by decide +kernel
theorem dX12_game_26 : decode cX12_game 26 = .ok (.ifCond .ne 6, 3) := by decide +kernel
theorem dX12_game_29 : decode cX12_game 29 = .ok (.ldc 71, 2) := by decide +kernel
theorem dX12_game_31 : decode cX12_game 31 = .ok (.ireturn, 1) := by decide +kernel
theorem dX12_game_32 : decode cX12_game 32 = .ok (.aload_n 0, 1) := by decide +kernel
theorem dX12_game_33 : decode cX12_game 33 = .ok (.iload_n 1, 1) := by decide +kernel
theorem dX12_game_34 : decode cX12_game 34 = .ok (.invokevirtual 244, 3) := by decide +kernel
theorem dX12_game_37 : decode cX12_game 37 = .ok (.lstore_n 3, 1) := by decide +kernel
theorem dX12_game_38 : decode cX12_game 38 = .ok (.iload_n 2, 1) := by decide +kernel
theorem dX12_game_39 : decode cX12_game 39 = .ok (.iconst 2, 1) := by decide +kernel
theorem dX12_game_40 : decode cX12_game 40 = .ok (.if_icmp .ne 10, 3) := by decide +kernel
theorem dX12_game_43 : decode cX12_game 43 = .ok (.aload_n 0, 1) := by decide +kernel
theorem dX12_game_44 : decode cX12_game 44 = .ok (.getfield 235, 3) := by decide +kernel
theorem dX12_game_47 : decode cX12_game 47 = .ok (.goto 8, 3) := by decide +kernel
theorem dX12_game_50 : decode cX12_game 50 = .ok (.lload_n 3, 1) := by decide +kernel
theorem dX12_game_51 : decode cX12_game 51 = .ok (.iload_n 2, 1) := by decide +kernel
theorem dX12_game_52 : decode cX12_game 52 = .ok (.invokestatic 188, 3) := by decide +kernel
theorem dX12_game_55 : decode cX12_game 55 = .ok (.ireturn, 1) := by decide +kernel
set_option maxRecDepth 20000 in
theorem ggX12_treaty_X12_isGround : GoodIn wsX12_treaty wsX12_isGround := goodIn_r _ [8, 3, 72, 73, 74, 75, 76, 77, 78, 79, 80, 81, 82, 83, 84, 85, 86, 87, 88, 89, 90, 91, 92, 93, 94, 95, 96, 97] (by decide +kernel) (by decide +kernel)
set_option maxRecDepth 20000 in
theorem gX12_treaty_X12_isGround : GoodIn wsX12_treaty (wsV RX12 196 RX12 yX12_isGround wsX12_isGround) := goodIn_app (goodIn_of _ (by decide +kernel)) ggX12_treaty_X12_isGround
set_option maxRecDepth 20000 in
theorem ggX12_treaty_X12_in : GoodIn wsX12_treaty wsX12_in := goodIn_r _ [11] (by decide +kernel) (by decide +kernel)
set_option maxRecDepth 20000 in
theorem gX12_treaty_X12_in : GoodIn wsX12_treaty (va_wsS RX12 63 yX12_in wsX12_in) := goodIn_app (goodIn_of _ (by decide +kernel)) ggX12_treaty_X12_in
set_option maxRecDepth 20000 in
theorem ggX12_treaty_X12_daysOf : GoodIn wsX12_treaty wsX12_daysOf := goodIn_r _ [15, 3, 72, 73, 74, 75, 76, 77, 78, 79, 80, 81, 82, 83, 84, 85, 86, 87, 88, 89, 90, 91, 92, 93, 94, 95, 96, 97] (by decide +kernel) (by decide +kernel)
set_option maxRecDepth 20000 in
theorem gX12_treaty_X12_daysOf : GoodIn wsX12_treaty (wsV RX12 217 RX12 yX12_daysOf wsX12_daysOf) := goodIn_app (goodIn_of _ (by decide +kernel)) ggX12_treaty_X12_daysOf
set_option maxRecDepth 20000 in
theorem ggX12_treaty_X12_gets : GoodIn wsX12_treaty wsX12_gets := goodIn_r _ [19, 3, 20, 21, 22, 7, 23, 24, 25, 26, 27, 28, 29, 30, 31, 32, 33, 34, 72, 73, 74, 75, 76, 77, 78, 79, 80, 81, 82, 83, 84, 85, 86, 87, 88, 89, 90, 91, 92, 93, 94, 95, 96, 97] (by decide +kernel) (by decide +kernel)
set_option maxRecDepth 20000 in
theorem gX12_treaty_X12_gets : GoodIn wsX12_treaty (wsV RX12 204 RX12 yX12_gets wsX12_gets) := goodIn_app (goodIn_of _ (by decide +kernel)) ggX12_treaty_X12_gets
set_option maxRecDepth 20000 in
theorem ggX12_treaty_X12_gameOf : GoodIn wsX12_treaty wsX12_gameOf := goodIn_r _ [38, 39, 3, 40, 41, 42, 12, 13, 14, 7, 15, 43, 44, 45, 46, 47, 16, 17, 18, 19, 20, 21, 22, 23, 24, 25, 26, 27, 28, 29, 30, 31, 32, 33, 34, 48, 49, 50, 51, 9, 10, 11, 52, 53, 54, 55, 56, 57, 58, 59, 60, 61, 62, 63, 64, 72, 73, 74, 75, 76, 77, 78, 79, 80, 81, 82, 83, 84, 85, 86, 87, 88, 89, 90, 91, 92, 93, 94, 95, 96, 97] (by decide +kernel) (by decide +kernel)
set_option maxRecDepth 20000 in
theorem gX12_treaty_X12_gameOf : GoodIn wsX12_treaty (wsV RX12 244 RX12 yX12_gameOf wsX12_gameOf) := goodIn_app (goodIn_of _ (by decide +kernel)) ggX12_treaty_X12_gameOf
set_option maxRecDepth 20000 in
theorem ggX12_treaty_X12_told : GoodIn wsX12_treaty wsX12_told := goodIn_r _ [67, 68, 69, 70, 7, 71] (by decide +kernel) (by decide +kernel)
set_option maxRecDepth 20000 in
theorem gX12_treaty_X12_told : GoodIn wsX12_treaty (va_wsS RX12 188 yX12_told wsX12_told) := goodIn_app (goodIn_of _ (by decide +kernel)) ggX12_treaty_X12_told
theorem dX12_treaty_0 : decode cX12_treaty 0 = .ok (.aload_n 0, 1) := by decide +kernel
theorem dX12_treaty_1 : decode cX12_treaty 1 = .ok (.invokevirtual 196, 3) := by decide +kernel
theorem dX12_treaty_4 : decode cX12_treaty 4 = .ok (.ifCond .ne 6, 3) := by decide +kernel
theorem dX12_treaty_7 : decode cX12_treaty 7 = .ok (.ldc 200, 2) := by decide +kernel
theorem dX12_treaty_9 : decode cX12_treaty 9 = .ok (.ireturn, 1) := by decide +kernel
theorem dX12_treaty_10 : decode cX12_treaty 10 = .ok (.iload_n 1, 1) := by decide +kernel
theorem dX12_treaty_11 : decode cX12_treaty 11 = .ok (.iconst 1, 1) := by decide +kernel
theorem dX12_treaty_12 : decode cX12_treaty 12 = .ok (.bipush 12, 2) := by decide +kernel
theorem dX12_treaty_14 : decode cX12_treaty 14 = .ok (.invokestatic 63, 3) := by decide +kernel
theorem dX12_treaty_17 : decode cX12_treaty 17 = .ok (.ifCond .eq 12, 3) := by decide +kernel
theorem dX12_treaty_20 : decode cX12_treaty 20 = .ok (.iload_n 2, 1) := by decide +kernel
theorem dX12_treaty_21 : decode cX12_treaty 21 = .ok (.iconst 0, 1) := by decide +kernel
theorem dX12_treaty_22 : decode cX12_treaty 22 = .ok (.iconst 1, 1) := by decide +kernel
theorem dX12_treaty_23 : decode cX12_treaty 23 = .ok (.invokestatic 63, 3) := by decide +kernel
theorem dX12_treaty_26 : decode cX12_treaty 26 = .ok (.ifCond .ne 6, 3) := by decide +kernel
theorem dX12_treaty_29 : decode cX12_treaty 29 = .ok (.ldc 71, 2) := by decide +kernel
theorem dX12_treaty_31 : decode cX12_treaty 31 = .ok (.ireturn, 1) := by decide +kernel
theorem dX12_treaty_32 : decode cX12_treaty 32 = .ok (.lconst 0, 1) := by decide +kernel
theorem dX12_treaty_33 : decode cX12_treaty 33 = .ok (.lstore_n 3, 1) := by decide +kernel
theorem dX12_treaty_34 : decode cX12_treaty 34 = .ok (.iconst 0, 1) := by decide +kernel
theorem dX12_treaty_35 : decode cX12_treaty 35 = .ok (.istore 5, 2) := by decide +kernel
theorem dX12_treaty_37 : decode cX12_treaty 37 = .ok (.iload 5, 2) := by decide +kernel
theorem dX12_treaty_39 : decode cX12_treaty 39 = .ok (.aload_n 0, 1) := by decide +kernel
theorem dX12_treaty_40 : decode cX12_treaty 40 = .ok (.iload_n 1, 1) := by decide +kernel
theorem dX12_treaty_41 : decode cX12_treaty 41 = .ok (.invokevirtual 217, 3) := by decide +kernel
theorem dX12_treaty_44 : decode cX12_treaty 44 = .ok (.if_icmp .ge 37, 3) := by decide +kernel
theorem dX12_treaty_47 : decode cX12_treaty 47 = .ok (.lload_n 3, 1) := by decide +kernel
theorem dX12_treaty_48 : decode cX12_treaty 48 = .ok (.aload_n 0, 1) := by decide +kernel
theorem dX12_treaty_49 : decode cX12_treaty 49 = .ok (.aload_n 0, 1) := by decide +kernel
theorem dX12_treaty_50 : decode cX12_treaty 50 = .ok (.getfield 7, 3) := by decide +kernel
theorem dX12_treaty_53 : decode cX12_treaty 53 = .ok (.iconst 3, 1) := by decide +kernel
theorem dX12_treaty_54 : decode cX12_treaty 54 = .ok (.iaload, 1) := by decide +kernel
theorem dX12_treaty_55 : decode cX12_treaty 55 = .ok (.iload 5, 2) := by decide +kernel
theorem dX12_treaty_57 : decode cX12_treaty 57 = .ok (.iadd, 1) := by decide +kernel
theorem dX12_treaty_58 : decode cX12_treaty 58 = .ok (.aload_n 0, 1) := by decide +kernel
theorem dX12_treaty_59 : decode cX12_treaty 59 = .ok (.getfield 7, 3) := by decide +kernel
theorem dX12_treaty_62 : decode cX12_treaty 62 = .ok (.iconst 1, 1) := by decide +kernel
theorem dX12_treaty_63 : decode cX12_treaty 63 = .ok (.iaload, 1) := by decide +kernel
theorem dX12_treaty_64 : decode cX12_treaty 64 = .ok (.aload_n 0, 1) := by decide +kernel
theorem dX12_treaty_65 : decode cX12_treaty 65 = .ok (.getfield 7, 3) := by decide +kernel
theorem dX12_treaty_68 : decode cX12_treaty 68 = .ok (.iconst 2, 1) := by decide +kernel
theorem dX12_treaty_69 : decode cX12_treaty 69 = .ok (.iaload, 1) := by decide +kernel
theorem dX12_treaty_70 : decode cX12_treaty 70 = .ok (.invokevirtual 204, 3) := by decide +kernel
theorem dX12_treaty_73 : decode cX12_treaty 73 = .ok (.ladd, 1) := by decide +kernel
theorem dX12_treaty_74 : decode cX12_treaty 74 = .ok (.lstore_n 3, 1) := by decide +kernel
theorem dX12_treaty_75 : decode cX12_treaty 75 = .ok (.iinc 5 1, 3) := by decide +kernel
theorem dX12_treaty_78 : decode cX12_treaty 78 = .ok (.goto (-41), 3) := by decide +kernel
theorem dX12_treaty_81 : decode cX12_treaty 81 = .ok (.lload_n 3, 1) := by decide +kernel
theorem dX12_treaty_82 : decode cX12_treaty 82 = .ok (.aload_n 0, 1) := by decide +kernel
theorem dX12_treaty_83 : decode cX12_treaty 83 = .ok (.iload_n 1, 1) := by decide +kernel
theorem dX12_treaty_84 : decode cX12_treaty 84 = .ok (.invokevirtual 244, 3) := by decide +kernel
theorem dX12_treaty_87 : decode cX12_treaty 87 = .ok (.lsub, 1) := by decide +kernel
theorem dX12_treaty_88 : decode cX12_treaty 88 = .ok (.iload_n 2, 1) := by decide +kernel
theorem dX12_treaty_89 : decode cX12_treaty 89 = .ok (.invokestatic 188, 3) := by decide +kernel
theorem dX12_treaty_92 : decode cX12_treaty 92 = .ok (.ireturn, 1) := by decide +kernel
set_option maxRecDepth 20000 in
theorem ggX12_sow_X12_isStrip : GoodIn wsX12_sow wsX12_isStrip := goodIn_r _ [7, 2, 8, 9, 6, 10, 71, 72, 73, 74, 75, 76, 77, 78, 79, 80, 81, 82, 83, 84, 85, 86, 87, 88, 89, 90, 91, 92, 93, 94, 95, 96] (by decide +kernel) (by decide +kernel)
set_option maxRecDepth 20000 in
theorem gX12_sow_X12_isStrip : GoodIn wsX12_sow (wsV RX12 185 RX12 yX12_isStrip wsX12_isStrip) := goodIn_app (goodIn_of _ (by decide +kernel)) ggX12_sow_X12_isStrip
set_option maxRecDepth 20000 in
theorem ggX12_sow_X12_in : GoodIn wsX12_sow wsX12_in := goodIn_r _ [10] (by decide +kernel) (by decide +kernel)
set_option maxRecDepth 20000 in
theorem gX12_sow_X12_in : GoodIn wsX12_sow (va_wsS RX12 63 yX12_in wsX12_in) := goodIn_app (goodIn_of _ (by decide +kernel)) ggX12_sow_X12_in
set_option maxRecDepth 20000 in
theorem ggX12_sow_X12_gameOf : GoodIn wsX12_sow wsX12_gameOf := goodIn_r _ [14, 15, 2, 16, 17, 18, 19, 20, 21, 6, 22, 23, 24, 25, 26, 27, 28, 29, 30, 31, 32, 33, 34, 35, 36, 37, 38, 39, 40, 41, 42, 43, 44, 45, 46, 47, 48, 49, 50, 8, 9, 10, 51, 52, 53, 54, 55, 56, 57, 58, 59, 60, 61, 62, 63, 71, 72, 73, 74, 75, 76, 77, 78, 79, 80, 81, 82, 83, 84, 85, 86, 87, 88, 89, 90, 91, 92, 93, 94, 95, 96] (by decide +kernel) (by decide +kernel)
set_option maxRecDepth 20000 in
theorem gX12_sow_X12_gameOf : GoodIn wsX12_sow (wsV RX12 244 RX12 yX12_gameOf wsX12_gameOf) := goodIn_app (goodIn_of _ (by decide +kernel)) ggX12_sow_X12_gameOf
set_option maxRecDepth 20000 in
theorem ggX12_sow_X12_told : GoodIn wsX12_sow wsX12_told := goodIn_r _ [66, 67, 68, 69, 6, 70] (by decide +kernel) (by decide +kernel)
set_option maxRecDepth 20000 in
theorem gX12_sow_X12_told : GoodIn wsX12_sow (va_wsS RX12 188 yX12_told wsX12_told) := goodIn_app (goodIn_of _ (by decide +kernel)) ggX12_sow_X12_told
theorem dX12_sow_0 : decode cX12_sow 0 = .ok (.aload_n 0, 1) := by decide +kernel
theorem dX12_sow_1 : decode cX12_sow 1 = .ok (.iload_n 1, 1) := by decide +kernel
theorem dX12_sow_2 : decode cX12_sow 2 = .ok (.invokevirtual 185, 3) := by decide +kernel
theorem dX12_sow_5 : decode cX12_sow 5 = .ok (.ifCond .eq 54, 3) := by decide +kernel
theorem dX12_sow_8 : decode cX12_sow 8 = .ok (.iload_n 2, 1) := by decide +kernel
theorem dX12_sow_9 : decode cX12_sow 9 = .ok (.iconst 0, 1) := by decide +kernel
theorem dX12_sow_10 : decode cX12_sow 10 = .ok (.iconst 4, 1) := by decide +kernel
theorem dX12_sow_11 : decode cX12_sow 11 = .ok (.invokestatic 63, 3) := by decide +kernel
theorem dX12_sow_14 : decode cX12_sow 14 = .ok (.ifCond .eq 45, 3) := by decide +kernel
theorem dX12_sow_17 : decode cX12_sow 17 = .ok (.iload_n 3, 1) := by decide +kernel
theorem dX12_sow_18 : decode cX12_sow 18 = .ok (.iconst 0, 1) := by decide +kernel
theorem dX12_sow_19 : decode cX12_sow 19 = .ok (.bipush 99, 2) := by decide +kernel
theorem dX12_sow_21 : decode cX12_sow 21 = .ok (.invokestatic 63, 3) := by decide +kernel
theorem dX12_sow_24 : decode cX12_sow 24 = .ok (.ifCond .eq 35, 3) := by decide +kernel
theorem dX12_sow_27 : decode cX12_sow 27 = .ok (.iload 4, 2) := by decide +kernel
theorem dX12_sow_29 : decode cX12_sow 29 = .ok (.iconst 0, 1) := by decide +kernel
theorem dX12_sow_30 : decode cX12_sow 30 = .ok (.bipush 11, 2) := by decide +kernel
theorem dX12_sow_32 : decode cX12_sow 32 = .ok (.invokestatic 63, 3) := by decide +kernel
theorem dX12_sow_35 : decode cX12_sow 35 = .ok (.ifCond .eq 24, 3) := by decide +kernel
theorem dX12_sow_38 : decode cX12_sow 38 = .ok (.iload 5, 2) := by decide +kernel
theorem dX12_sow_40 : decode cX12_sow 40 = .ok (.iconst 1, 1) := by decide +kernel
theorem dX12_sow_41 : decode cX12_sow 41 = .ok (.bipush 12, 2) := by decide +kernel
theorem dX12_sow_43 : decode cX12_sow 43 = .ok (.invokestatic 63, 3) := by decide +kernel
theorem dX12_sow_46 : decode cX12_sow 46 = .ok (.ifCond .eq 13, 3) := by decide +kernel
theorem dX12_sow_49 : decode cX12_sow 49 = .ok (.iload 6, 2) := by decide +kernel
theorem dX12_sow_51 : decode cX12_sow 51 = .ok (.iconst 0, 1) := by decide +kernel
theorem dX12_sow_52 : decode cX12_sow 52 = .ok (.iconst 1, 1) := by decide +kernel
theorem dX12_sow_53 : decode cX12_sow 53 = .ok (.invokestatic 63, 3) := by decide +kernel
theorem dX12_sow_56 : decode cX12_sow 56 = .ok (.ifCond .ne 6, 3) := by decide +kernel
theorem dX12_sow_59 : decode cX12_sow 59 = .ok (.ldc 71, 2) := by decide +kernel
theorem dX12_sow_61 : decode cX12_sow 61 = .ok (.ireturn, 1) := by decide +kernel
theorem dX12_sow_62 : decode cX12_sow 62 = .ok (.aload_n 0, 1) := by decide +kernel
theorem dX12_sow_63 : decode cX12_sow 63 = .ok (.iload 5, 2) := by decide +kernel
theorem dX12_sow_65 : decode cX12_sow 65 = .ok (.invokevirtual 244, 3) := by decide +kernel
theorem dX12_sow_68 : decode cX12_sow 68 = .ok (.lstore 7, 2) := by decide +kernel
theorem dX12_sow_70 : decode cX12_sow 70 = .ok (.bipush 6, 2) := by decide +kernel
theorem dX12_sow_72 : decode cX12_sow 72 = .ok (.iconst 3, 1) := by decide +kernel
theorem dX12_sow_73 : decode cX12_sow 73 = .ok (.iload_n 1, 1) := by decide +kernel
theorem dX12_sow_74 : decode cX12_sow 74 = .ok (.imul, 1) := by decide +kernel
theorem dX12_sow_75 : decode cX12_sow 75 = .ok (.iadd, 1) := by decide +kernel
theorem dX12_sow_76 : decode cX12_sow 76 = .ok (.istore 9, 2) := by decide +kernel
theorem dX12_sow_78 : decode cX12_sow 78 = .ok (.aload_n 0, 1) := by decide +kernel
theorem dX12_sow_79 : decode cX12_sow 79 = .ok (.getfield 7, 3) := by decide +kernel
theorem dX12_sow_82 : decode cX12_sow 82 = .ok (.iload 9, 2) := by decide +kernel
theorem dX12_sow_84 : decode cX12_sow 84 = .ok (.iaload, 1) := by decide +kernel
theorem dX12_sow_85 : decode cX12_sow 85 = .ok (.istore 10, 2) := by decide +kernel
theorem dX12_sow_87 : decode cX12_sow 87 = .ok (.aload_n 0, 1) := by decide +kernel
theorem dX12_sow_88 : decode cX12_sow 88 = .ok (.getfield 7, 3) := by decide +kernel
theorem dX12_sow_91 : decode cX12_sow 91 = .ok (.iload 9, 2) := by decide +kernel
theorem dX12_sow_93 : decode cX12_sow 93 = .ok (.iconst 1, 1) := by decide +kernel
theorem dX12_sow_94 : decode cX12_sow 94 = .ok (.iadd, 1) := by decide +kernel
theorem dX12_sow_95 : decode cX12_sow 95 = .ok (.iaload, 1) := by decide +kernel
theorem dX12_sow_96 : decode cX12_sow 96 = .ok (.istore 11, 2) := by decide +kernel
theorem dX12_sow_98 : decode cX12_sow 98 = .ok (.aload_n 0, 1) := by decide +kernel
theorem dX12_sow_99 : decode cX12_sow 99 = .ok (.getfield 7, 3) := by decide +kernel
theorem dX12_sow_102 : decode cX12_sow 102 = .ok (.iload 9, 2) := by decide +kernel
theorem dX12_sow_104 : decode cX12_sow 104 = .ok (.iconst 2, 1) := by decide +kernel
theorem dX12_sow_105 : decode cX12_sow 105 = .ok (.iadd, 1) := by decide +kernel
theorem dX12_sow_106 : decode cX12_sow 106 = .ok (.iaload, 1) := by decide +kernel
theorem dX12_sow_107 : decode cX12_sow 107 = .ok (.istore 12, 2) := by decide +kernel
theorem dX12_sow_109 : decode cX12_sow 109 = .ok (.aload_n 0, 1) := by decide +kernel
theorem dX12_sow_110 : decode cX12_sow 110 = .ok (.getfield 7, 3) := by decide +kernel
theorem dX12_sow_113 : decode cX12_sow 113 = .ok (.iload 9, 2) := by decide +kernel
theorem dX12_sow_115 : decode cX12_sow 115 = .ok (.iload_n 2, 1) := by decide +kernel
theorem dX12_sow_116 : decode cX12_sow 116 = .ok (.iconst 1, 1) := by decide +kernel
theorem dX12_sow_117 : decode cX12_sow 117 = .ok (.iadd, 1) := by decide +kernel
theorem dX12_sow_118 : decode cX12_sow 118 = .ok (.iastore, 1) := by decide +kernel
theorem dX12_sow_119 : decode cX12_sow 119 = .ok (.aload_n 0, 1) := by decide +kernel
theorem dX12_sow_120 : decode cX12_sow 120 = .ok (.getfield 7, 3) := by decide +kernel
theorem dX12_sow_123 : decode cX12_sow 123 = .ok (.iload 9, 2) := by decide +kernel
theorem dX12_sow_125 : decode cX12_sow 125 = .ok (.iconst 1, 1) := by decide +kernel
theorem dX12_sow_126 : decode cX12_sow 126 = .ok (.iadd, 1) := by decide +kernel
theorem dX12_sow_127 : decode cX12_sow 127 = .ok (.iload_n 3, 1) := by decide +kernel
theorem dX12_sow_128 : decode cX12_sow 128 = .ok (.iastore, 1) := by decide +kernel
theorem dX12_sow_129 : decode cX12_sow 129 = .ok (.aload_n 0, 1) := by decide +kernel
theorem dX12_sow_130 : decode cX12_sow 130 = .ok (.getfield 7, 3) := by decide +kernel
theorem dX12_sow_133 : decode cX12_sow 133 = .ok (.iload 9, 2) := by decide +kernel
theorem dX12_sow_135 : decode cX12_sow 135 = .ok (.iconst 2, 1) := by decide +kernel
theorem dX12_sow_136 : decode cX12_sow 136 = .ok (.iadd, 1) := by decide +kernel
theorem dX12_sow_137 : decode cX12_sow 137 = .ok (.iload 4, 2) := by decide +kernel
theorem dX12_sow_139 : decode cX12_sow 139 = .ok (.iastore, 1) := by decide +kernel
theorem dX12_sow_140 : decode cX12_sow 140 = .ok (.aload_n 0, 1) := by decide +kernel
theorem dX12_sow_141 : decode cX12_sow 141 = .ok (.iload 5, 2) := by decide +kernel
theorem dX12_sow_143 : decode cX12_sow 143 = .ok (.invokevirtual 244, 3) := by decide +kernel
theorem dX12_sow_146 : decode cX12_sow 146 = .ok (.lload 7, 2) := by decide +kernel
theorem dX12_sow_148 : decode cX12_sow 148 = .ok (.lsub, 1) := by decide +kernel
theorem dX12_sow_149 : decode cX12_sow 149 = .ok (.lstore 13, 2) := by decide +kernel
theorem dX12_sow_151 : decode cX12_sow 151 = .ok (.aload_n 0, 1) := by decide +kernel
theorem dX12_sow_152 : decode cX12_sow 152 = .ok (.getfield 7, 3) := by decide +kernel
theorem dX12_sow_155 : decode cX12_sow 155 = .ok (.iload 9, 2) := by decide +kernel
theorem dX12_sow_157 : decode cX12_sow 157 = .ok (.iload 10, 2) := by decide +kernel
theorem dX12_sow_159 : decode cX12_sow 159 = .ok (.iastore, 1) := by decide +kernel
theorem dX12_sow_160 : decode cX12_sow 160 = .ok (.aload_n 0, 1) := by decide +kernel
theorem dX12_sow_161 : decode cX12_sow 161 = .ok (.getfield 7, 3) := by decide +kernel
theorem dX12_sow_164 : decode cX12_sow 164 = .ok (.iload 9, 2) := by decide +kernel
theorem dX12_sow_166 : decode cX12_sow 166 = .ok (.iconst 1, 1) := by decide +kernel
theorem dX12_sow_167 : decode cX12_sow 167 = .ok (.iadd, 1) := by decide +kernel
theorem dX12_sow_168 : decode cX12_sow 168 = .ok (.iload 11, 2) := by decide +kernel
theorem dX12_sow_170 : decode cX12_sow 170 = .ok (.iastore, 1) := by decide +kernel
theorem dX12_sow_171 : decode cX12_sow 171 = .ok (.aload_n 0, 1) := by decide +kernel
theorem dX12_sow_172 : decode cX12_sow 172 = .ok (.getfield 7, 3) := by decide +kernel
theorem dX12_sow_175 : decode cX12_sow 175 = .ok (.iload 9, 2) := by decide +kernel
theorem dX12_sow_177 : decode cX12_sow 177 = .ok (.iconst 2, 1) := by decide +kernel
theorem dX12_sow_178 : decode cX12_sow 178 = .ok (.iadd, 1) := by decide +kernel
theorem dX12_sow_179 : decode cX12_sow 179 = .ok (.iload 12, 2) := by decide +kernel
theorem dX12_sow_181 : decode cX12_sow 181 = .ok (.iastore, 1) := by decide +kernel
theorem dX12_sow_182 : decode cX12_sow 182 = .ok (.lload 13, 2) := by decide +kernel
theorem dX12_sow_184 : decode cX12_sow 184 = .ok (.iload 6, 2) := by decide +kernel
theorem dX12_sow_186 : decode cX12_sow 186 = .ok (.invokestatic 188, 3) := by decide +kernel
theorem dX12_sow_189 : decode cX12_sow 189 = .ok (.ireturn, 1) := by decide +kernel
set_option maxRecDepth 20000 in
theorem ggX12_unseen_X12_isGround : GoodIn wsX12_unseen wsX12_isGround := goodIn_r _ [10, 4, 41, 42, 43, 44, 45, 46, 47, 48, 49, 50, 51, 52, 53, 54, 55, 56, 57, 58, 59, 60, 61, 62, 63, 64, 65, 66] (by decide +kernel) (by decide +kernel)
set_option maxRecDepth 20000 in
theorem gX12_unseen_X12_isGround : GoodIn wsX12_unseen (wsV RX12 196 RX12 yX12_isGround wsX12_isGround) := goodIn_app (goodIn_of _ (by decide +kernel)) ggX12_unseen_X12_isGround
set_option maxRecDepth 20000 in
theorem ggX12_unseen_X12_in : GoodIn wsX12_unseen wsX12_in := goodIn_r _ [13] (by decide +kernel) (by decide +kernel)
set_option maxRecDepth 20000 in
theorem gX12_unseen_X12_in : GoodIn wsX12_unseen (va_wsS RX12 63 yX12_in wsX12_in) := goodIn_app (goodIn_of _ (by decide +kernel)) ggX12_unseen_X12_in
set_option maxRecDepth 20000 in
theorem ggX12_unseen_X12_mayBe : GoodIn wsX12_unseen wsX12_mayBe := goodIn_r _ [17, 11, 12, 9, 13, 18, 19, 20, 21, 4, 41, 42, 43, 44, 45, 46, 47, 48, 49, 50, 51, 52, 53, 54, 55, 56, 57, 58, 59, 60, 61, 62, 63, 64, 65, 66] (by decide +kernel) (by decide +kernel)
set_option maxRecDepth 20000 in
theorem gX12_unseen_X12_mayBe : GoodIn wsX12_unseen (wsV RX12 201 RX12 yX12_mayBe wsX12_mayBe) := goodIn_app (goodIn_of _ (by decide +kernel)) ggX12_unseen_X12_mayBe
set_option maxRecDepth 20000 in
theorem ggX12_unseen_X12_gets : GoodIn wsX12_unseen wsX12_gets := goodIn_r _ [25, 4, 26, 27, 28, 9, 29, 30, 31, 32, 33, 34, 35, 36, 37, 38, 39, 40, 41, 42, 43, 44, 45, 46, 47, 48, 49, 50, 51, 52, 53, 54, 55, 56, 57, 58, 59, 60, 61, 62, 63, 64, 65, 66] (by decide +kernel) (by decide +kernel)
set_option maxRecDepth 20000 in
theorem gX12_unseen_X12_gets : GoodIn wsX12_unseen (wsV RX12 204 RX12 yX12_gets wsX12_gets) := goodIn_app (goodIn_of _ (by decide +kernel)) ggX12_unseen_X12_gets
theorem dX12_unseen_0 : decode cX12_unseen 0 = .ok (.aload_n 0, 1) := by decide +kernel
theorem dX12_unseen_1 : decode cX12_unseen 1 = .ok (.invokevirtual 196, 3) := by decide +kernel
theorem dX12_unseen_4 : decode cX12_unseen 4 = .ok (.ifCond .ne 6, 3) := by decide +kernel
theorem dX12_unseen_7 : decode cX12_unseen 7 = .ok (.ldc 200, 2) := by decide +kernel
theorem dX12_unseen_9 : decode cX12_unseen 9 = .ok (.ireturn, 1) := by decide +kernel
theorem dX12_unseen_10 : decode cX12_unseen 10 = .ok (.iload_n 1, 1) := by decide +kernel
theorem dX12_unseen_11 : decode cX12_unseen 11 = .ok (.iconst 0, 1) := by decide +kernel
theorem dX12_unseen_12 : decode cX12_unseen 12 = .ok (.sipush 9999, 3) := by decide +kernel
theorem dX12_unseen_15 : decode cX12_unseen 15 = .ok (.invokestatic 63, 3) := by decide +kernel
theorem dX12_unseen_18 : decode cX12_unseen 18 = .ok (.ifCond .eq 22, 3) := by decide +kernel
theorem dX12_unseen_21 : decode cX12_unseen 21 = .ok (.iload_n 2, 1) := by decide +kernel
theorem dX12_unseen_22 : decode cX12_unseen 22 = .ok (.iconst 1, 1) := by decide +kernel
theorem dX12_unseen_23 : decode cX12_unseen 23 = .ok (.bipush 99, 2) := by decide +kernel
theorem dX12_unseen_25 : decode cX12_unseen 25 = .ok (.invokestatic 63, 3) := by decide +kernel
theorem dX12_unseen_28 : decode cX12_unseen 28 = .ok (.ifCond .eq 12, 3) := by decide +kernel
theorem dX12_unseen_31 : decode cX12_unseen 31 = .ok (.iload_n 3, 1) := by decide +kernel
theorem dX12_unseen_32 : decode cX12_unseen 32 = .ok (.iconst 0, 1) := by decide +kernel
theorem dX12_unseen_33 : decode cX12_unseen 33 = .ok (.iconst 1, 1) := by decide +kernel
theorem dX12_unseen_34 : decode cX12_unseen 34 = .ok (.invokestatic 63, 3) := by decide +kernel
theorem dX12_unseen_37 : decode cX12_unseen 37 = .ok (.ifCond .ne 6, 3) := by decide +kernel
theorem dX12_unseen_40 : decode cX12_unseen 40 = .ok (.ldc 71, 2) := by decide +kernel
theorem dX12_unseen_42 : decode cX12_unseen 42 = .ok (.ireturn, 1) := by decide +kernel
theorem dX12_unseen_43 : decode cX12_unseen 43 = .ok (.iconst 0, 1) := by decide +kernel
theorem dX12_unseen_44 : decode cX12_unseen 44 = .ok (.istore 4, 2) := by decide +kernel
theorem dX12_unseen_46 : decode cX12_unseen 46 = .ok (.ldc 57, 2) := by decide +kernel
theorem dX12_unseen_48 : decode cX12_unseen 48 = .ok (.istore 5, 2) := by decide +kernel
theorem dX12_unseen_50 : decode cX12_unseen 50 = .ok (.iconst 0, 1) := by decide +kernel
theorem dX12_unseen_51 : decode cX12_unseen 51 = .ok (.istore 6, 2) := by decide +kernel
theorem dX12_unseen_53 : decode cX12_unseen 53 = .ok (.iload 6, 2) := by decide +kernel
theorem dX12_unseen_55 : decode cX12_unseen 55 = .ok (.bipush 9, 2) := by decide +kernel
theorem dX12_unseen_57 : decode cX12_unseen 57 = .ok (.if_icmp .ge 114, 3) := by decide +kernel
theorem dX12_unseen_60 : decode cX12_unseen 60 = .ok (.aload_n 0, 1) := by decide +kernel
theorem dX12_unseen_61 : decode cX12_unseen 61 = .ok (.getfield 7, 3) := by decide +kernel
theorem dX12_unseen_64 : decode cX12_unseen 64 = .ok (.iconst 3, 1) := by decide +kernel
theorem dX12_unseen_65 : decode cX12_unseen 65 = .ok (.iaload, 1) := by decide +kernel
theorem dX12_unseen_66 : decode cX12_unseen 66 = .ok (.bipush 12, 2) := by decide +kernel
theorem dX12_unseen_68 : decode cX12_unseen 68 = .ok (.if_icmp .ge 103, 3) := by decide +kernel
theorem dX12_unseen_71 : decode cX12_unseen 71 = .ok (.aload_n 0, 1) := by decide +kernel
theorem dX12_unseen_72 : decode cX12_unseen 72 = .ok (.getfield 7, 3) := by decide +kernel
theorem dX12_unseen_75 : decode cX12_unseen 75 = .ok (.iconst 1, 1) := by decide +kernel
theorem dX12_unseen_76 : decode cX12_unseen 76 = .ok (.iaload, 1) := by decide +kernel
theorem dX12_unseen_77 : decode cX12_unseen 77 = .ok (.iload 6, 2) := by decide +kernel
theorem dX12_unseen_79 : decode cX12_unseen 79 = .ok (.iconst 3, 1) := by decide +kernel
theorem dX12_unseen_80 : decode cX12_unseen 80 = .ok (.idiv, 1) := by decide +kernel
theorem dX12_unseen_81 : decode cX12_unseen 81 = .ok (.iadd, 1) := by decide +kernel
theorem dX12_unseen_82 : decode cX12_unseen 82 = .ok (.iconst 1, 1) := by decide +kernel
theorem dX12_unseen_83 : decode cX12_unseen 83 = .ok (.isub, 1) := by decide +kernel
theorem dX12_unseen_84 : decode cX12_unseen 84 = .ok (.istore 7, 2) := by decide +kernel
theorem dX12_unseen_86 : decode cX12_unseen 86 = .ok (.aload_n 0, 1) := by decide +kernel
theorem dX12_unseen_87 : decode cX12_unseen 87 = .ok (.getfield 7, 3) := by decide +kernel
theorem dX12_unseen_90 : decode cX12_unseen 90 = .ok (.iconst 2, 1) := by decide +kernel
theorem dX12_unseen_91 : decode cX12_unseen 91 = .ok (.iaload, 1) := by decide +kernel
theorem dX12_unseen_92 : decode cX12_unseen 92 = .ok (.iload 6, 2) := by decide +kernel
theorem dX12_unseen_94 : decode cX12_unseen 94 = .ok (.iconst 3, 1) := by decide +kernel
theorem dX12_unseen_95 : decode cX12_unseen 95 = .ok (.irem, 1) := by decide +kernel
theorem dX12_unseen_96 : decode cX12_unseen 96 = .ok (.iadd, 1) := by decide +kernel
theorem dX12_unseen_97 : decode cX12_unseen 97 = .ok (.iconst 1, 1) := by decide +kernel
theorem dX12_unseen_98 : decode cX12_unseen 98 = .ok (.isub, 1) := by decide +kernel
theorem dX12_unseen_99 : decode cX12_unseen 99 = .ok (.istore 8, 2) := by decide +kernel
theorem dX12_unseen_101 : decode cX12_unseen 101 = .ok (.aload_n 0, 1) := by decide +kernel
theorem dX12_unseen_102 : decode cX12_unseen 102 = .ok (.iconst 0, 1) := by decide +kernel
theorem dX12_unseen_103 : decode cX12_unseen 103 = .ok (.iload 7, 2) := by decide +kernel
theorem dX12_unseen_105 : decode cX12_unseen 105 = .ok (.invokevirtual 201, 3) := by decide +kernel
theorem dX12_unseen_108 : decode cX12_unseen 108 = .ok (.ifCond .eq 57, 3) := by decide +kernel
theorem dX12_unseen_111 : decode cX12_unseen 111 = .ok (.aload_n 0, 1) := by decide +kernel
theorem dX12_unseen_112 : decode cX12_unseen 112 = .ok (.iconst 1, 1) := by decide +kernel
theorem dX12_unseen_113 : decode cX12_unseen 113 = .ok (.iload 8, 2) := by decide +kernel
theorem dX12_unseen_115 : decode cX12_unseen 115 = .ok (.invokevirtual 201, 3) := by decide +kernel
theorem dX12_unseen_118 : decode cX12_unseen 118 = .ok (.ifCond .eq 47, 3) := by decide +kernel
theorem dX12_unseen_121 : decode cX12_unseen 121 = .ok (.aload_n 0, 1) := by decide +kernel
theorem dX12_unseen_122 : decode cX12_unseen 122 = .ok (.aload_n 0, 1) := by decide +kernel
theorem dX12_unseen_123 : decode cX12_unseen 123 = .ok (.getfield 7, 3) := by decide +kernel
theorem dX12_unseen_126 : decode cX12_unseen 126 = .ok (.iconst 3, 1) := by decide +kernel
theorem dX12_unseen_127 : decode cX12_unseen 127 = .ok (.iaload, 1) := by decide +kernel
theorem dX12_unseen_128 : decode cX12_unseen 128 = .ok (.iload 7, 2) := by decide +kernel
theorem dX12_unseen_130 : decode cX12_unseen 130 = .ok (.iload 8, 2) := by decide +kernel
theorem dX12_unseen_132 : decode cX12_unseen 132 = .ok (.invokevirtual 204, 3) := by decide +kernel
theorem dX12_unseen_135 : decode cX12_unseen 135 = .ok (.iload_n 2, 1) := by decide +kernel
theorem dX12_unseen_136 : decode cX12_unseen 136 = .ok (.i2l, 1) := by decide +kernel
theorem dX12_unseen_137 : decode cX12_unseen 137 = .ok (.lmul, 1) := by decide +kernel
theorem dX12_unseen_138 : decode cX12_unseen 138 = .ok (.iload_n 1, 1) := by decide +kernel
theorem dX12_unseen_139 : decode cX12_unseen 139 = .ok (.i2l, 1) := by decide +kernel
theorem dX12_unseen_140 : decode cX12_unseen 140 = .ok (.ldc2_w 179, 3) := by decide +kernel
theorem dX12_unseen_143 : decode cX12_unseen 143 = .ok (.lmul, 1) := by decide +kernel
theorem dX12_unseen_144 : decode cX12_unseen 144 = .ok (.lcmp, 1) := by decide +kernel
theorem dX12_unseen_145 : decode cX12_unseen 145 = .ok (.ifCond .ne 20, 3) := by decide +kernel
theorem dX12_unseen_148 : decode cX12_unseen 148 = .ok (.iload 4, 2) := by decide +kernel
theorem dX12_unseen_150 : decode cX12_unseen 150 = .ok (.ifCond .ne 8, 3) := by decide +kernel
theorem dX12_unseen_153 : decode cX12_unseen 153 = .ok (.iload 6, 2) := by decide +kernel
theorem dX12_unseen_155 : decode cX12_unseen 155 = .ok (.goto 5, 3) := by decide +kernel
theorem dX12_unseen_158 : decode cX12_unseen 158 = .ok (.iload 5, 2) := by decide +kernel
theorem dX12_unseen_160 : decode cX12_unseen 160 = .ok (.istore 5, 2) := by decide +kernel
theorem dX12_unseen_162 : decode cX12_unseen 162 = .ok (.iinc 4 1, 3) := by decide +kernel
theorem dX12_unseen_165 : decode cX12_unseen 165 = .ok (.iinc 6 1, 3) := by decide +kernel
theorem dX12_unseen_168 : decode cX12_unseen 168 = .ok (.goto (-115), 3) := by decide +kernel
theorem dX12_unseen_171 : decode cX12_unseen 171 = .ok (.iload_n 3, 1) := by decide +kernel
theorem dX12_unseen_172 : decode cX12_unseen 172 = .ok (.ifCond .ne 8, 3) := by decide +kernel
theorem dX12_unseen_175 : decode cX12_unseen 175 = .ok (.iload 4, 2) := by decide +kernel
theorem dX12_unseen_177 : decode cX12_unseen 177 = .ok (.goto 5, 3) := by decide +kernel
theorem dX12_unseen_180 : decode cX12_unseen 180 = .ok (.iload 5, 2) := by decide +kernel
theorem dX12_unseen_182 : decode cX12_unseen 182 = .ok (.ireturn, 1) := by decide +kernel
set_option maxRecDepth 20000 in
theorem ggX12_leastBy_X12_mayBe : GoodIn wsX12_leastBy wsX12_mayBe := goodIn_r _ [5, 6, 7, 4, 8, 9, 10, 11, 12, 13, 14, 15, 16, 17, 18, 19, 20, 21, 22, 23, 24, 25, 26, 27, 28, 29, 30, 31, 32, 33, 34, 35, 36, 37, 38, 39] (by decide +kernel) (by decide +kernel)
set_option maxRecDepth 20000 in
theorem gX12_leastBy_X12_mayBe : GoodIn wsX12_leastBy (wsV RX12 201 RX12 yX12_mayBe wsX12_mayBe) := goodIn_app (goodIn_of _ (by decide +kernel)) ggX12_leastBy_X12_mayBe
theorem dX12_leastBy_0 : decode cX12_leastBy 0 = .ok (.iload_n 2, 1) := by decide +kernel
theorem dX12_leastBy_1 : decode cX12_leastBy 1 = .ok (.istore 4, 2) := by decide +kernel
theorem dX12_leastBy_3 : decode cX12_leastBy 3 = .ok (.iconst 0, 1) := by decide +kernel
theorem dX12_leastBy_4 : decode cX12_leastBy 4 = .ok (.istore 5, 2) := by decide +kernel
theorem dX12_leastBy_6 : decode cX12_leastBy 6 = .ok (.iload 5, 2) := by decide +kernel
theorem dX12_leastBy_8 : decode cX12_leastBy 8 = .ok (.iload_n 3, 1) := by decide +kernel
theorem dX12_leastBy_9 : decode cX12_leastBy 9 = .ok (.if_icmp .ge 32, 3) := by decide +kernel
theorem dX12_leastBy_12 : decode cX12_leastBy 12 = .ok (.aload_n 0, 1) := by decide +kernel
theorem dX12_leastBy_13 : decode cX12_leastBy 13 = .ok (.iload_n 1, 1) := by decide +kernel
theorem dX12_leastBy_14 : decode cX12_leastBy 14 = .ok (.iload 4, 2) := by decide +kernel
theorem dX12_leastBy_16 : decode cX12_leastBy 16 = .ok (.iconst 1, 1) := by decide +kernel
theorem dX12_leastBy_17 : decode cX12_leastBy 17 = .ok (.isub, 1) := by decide +kernel
theorem dX12_leastBy_18 : decode cX12_leastBy 18 = .ok (.invokevirtual 201, 3) := by decide +kernel
theorem dX12_leastBy_21 : decode cX12_leastBy 21 = .ok (.ifCond .eq 10, 3) := by decide +kernel
theorem dX12_leastBy_24 : decode cX12_leastBy 24 = .ok (.iload 4, 2) := by decide +kernel
theorem dX12_leastBy_26 : decode cX12_leastBy 26 = .ok (.iconst 1, 1) := by decide +kernel
theorem dX12_leastBy_27 : decode cX12_leastBy 27 = .ok (.isub, 1) := by decide +kernel
theorem dX12_leastBy_28 : decode cX12_leastBy 28 = .ok (.goto 5, 3) := by decide +kernel
theorem dX12_leastBy_31 : decode cX12_leastBy 31 = .ok (.iload 4, 2) := by decide +kernel
theorem dX12_leastBy_33 : decode cX12_leastBy 33 = .ok (.istore 4, 2) := by decide +kernel
theorem dX12_leastBy_35 : decode cX12_leastBy 35 = .ok (.iinc 5 1, 3) := by decide +kernel
theorem dX12_leastBy_38 : decode cX12_leastBy 38 = .ok (.goto (-32), 3) := by decide +kernel
theorem dX12_leastBy_41 : decode cX12_leastBy 41 = .ok (.iload 4, 2) := by decide +kernel
theorem dX12_leastBy_43 : decode cX12_leastBy 43 = .ok (.ireturn, 1) := by decide +kernel
set_option maxRecDepth 20000 in
theorem ggX12_sure_X12_isGround : GoodIn wsX12_sure wsX12_isGround := goodIn_r _ [8, 3, 24, 25, 26, 27, 28, 29, 30, 31, 32, 33, 34, 35, 36, 37, 38, 39, 40, 41, 42, 43, 44, 45, 46, 47, 48, 49] (by decide +kernel) (by decide +kernel)
set_option maxRecDepth 20000 in
theorem gX12_sure_X12_isGround : GoodIn wsX12_sure (wsV RX12 196 RX12 yX12_isGround wsX12_isGround) := goodIn_app (goodIn_of _ (by decide +kernel)) ggX12_sure_X12_isGround
set_option maxRecDepth 20000 in
theorem ggX12_sure_X12_in : GoodIn wsX12_sure wsX12_in := goodIn_r _ [11] (by decide +kernel) (by decide +kernel)
set_option maxRecDepth 20000 in
theorem gX12_sure_X12_in : GoodIn wsX12_sure (va_wsS RX12 63 yX12_in wsX12_in) := goodIn_app (goodIn_of _ (by decide +kernel)) ggX12_sure_X12_in
set_option maxRecDepth 20000 in
theorem ggX12_sure_X12_leastBy : GoodIn wsX12_sure wsX12_leastBy := goodIn_r _ [15, 16, 17, 18, 7, 19, 9, 10, 11, 20, 21, 22, 23, 3, 24, 25, 26, 27, 28, 29, 30, 31, 32, 33, 34, 35, 36, 37, 38, 39, 40, 41, 42, 43, 44, 45, 46, 47, 48, 49] (by decide +kernel) (by decide +kernel)
set_option maxRecDepth 20000 in
theorem gX12_sure_X12_leastBy : GoodIn wsX12_sure (wsV RX12 247 RX12 yX12_leastBy wsX12_leastBy) := goodIn_app (goodIn_of _ (by decide +kernel)) ggX12_sure_X12_leastBy
theorem dX12_sure_0 : decode cX12_sure 0 = .ok (.aload_n 0, 1) := by decide +kernel
theorem dX12_sure_1 : decode cX12_sure 1 = .ok (.invokevirtual 196, 3) := by decide +kernel
theorem dX12_sure_4 : decode cX12_sure 4 = .ok (.ifCond .ne 6, 3) := by decide +kernel
theorem dX12_sure_7 : decode cX12_sure 7 = .ok (.ldc 200, 2) := by decide +kernel
theorem dX12_sure_9 : decode cX12_sure 9 = .ok (.ireturn, 1) := by decide +kernel
theorem dX12_sure_10 : decode cX12_sure 10 = .ok (.iload_n 1, 1) := by decide +kernel
theorem dX12_sure_11 : decode cX12_sure 11 = .ok (.iconst 1, 1) := by decide +kernel
theorem dX12_sure_12 : decode cX12_sure 12 = .ok (.bipush 12, 2) := by decide +kernel
theorem dX12_sure_14 : decode cX12_sure 14 = .ok (.invokestatic 63, 3) := by decide +kernel
theorem dX12_sure_17 : decode cX12_sure 17 = .ok (.ifCond .ne 6, 3) := by decide +kernel
theorem dX12_sure_20 : decode cX12_sure 20 = .ok (.ldc 71, 2) := by decide +kernel
theorem dX12_sure_22 : decode cX12_sure 22 = .ok (.ireturn, 1) := by decide +kernel
theorem dX12_sure_23 : decode cX12_sure 23 = .ok (.aload_n 0, 1) := by decide +kernel
theorem dX12_sure_24 : decode cX12_sure 24 = .ok (.iconst 0, 1) := by decide +kernel
theorem dX12_sure_25 : decode cX12_sure 25 = .ok (.aload_n 0, 1) := by decide +kernel
theorem dX12_sure_26 : decode cX12_sure 26 = .ok (.getfield 7, 3) := by decide +kernel
theorem dX12_sure_29 : decode cX12_sure 29 = .ok (.iconst 1, 1) := by decide +kernel
theorem dX12_sure_30 : decode cX12_sure 30 = .ok (.iaload, 1) := by decide +kernel
theorem dX12_sure_31 : decode cX12_sure 31 = .ok (.iload_n 1, 1) := by decide +kernel
theorem dX12_sure_32 : decode cX12_sure 32 = .ok (.invokevirtual 247, 3) := by decide +kernel
theorem dX12_sure_35 : decode cX12_sure 35 = .ok (.istore_n 2, 1) := by decide +kernel
theorem dX12_sure_36 : decode cX12_sure 36 = .ok (.aload_n 0, 1) := by decide +kernel
theorem dX12_sure_37 : decode cX12_sure 37 = .ok (.iconst 1, 1) := by decide +kernel
theorem dX12_sure_38 : decode cX12_sure 38 = .ok (.aload_n 0, 1) := by decide +kernel
theorem dX12_sure_39 : decode cX12_sure 39 = .ok (.getfield 7, 3) := by decide +kernel
theorem dX12_sure_42 : decode cX12_sure 42 = .ok (.iconst 2, 1) := by decide +kernel
theorem dX12_sure_43 : decode cX12_sure 43 = .ok (.iaload, 1) := by decide +kernel
theorem dX12_sure_44 : decode cX12_sure 44 = .ok (.iload_n 1, 1) := by decide +kernel
theorem dX12_sure_45 : decode cX12_sure 45 = .ok (.invokevirtual 247, 3) := by decide +kernel
theorem dX12_sure_48 : decode cX12_sure 48 = .ok (.istore_n 3, 1) := by decide +kernel
theorem dX12_sure_49 : decode cX12_sure 49 = .ok (.iconst 0, 1) := by decide +kernel
theorem dX12_sure_50 : decode cX12_sure 50 = .ok (.istore 4, 2) := by decide +kernel
theorem dX12_sure_52 : decode cX12_sure 52 = .ok (.iconst 0, 1) := by decide +kernel
theorem dX12_sure_53 : decode cX12_sure 53 = .ok (.istore 5, 2) := by decide +kernel
theorem dX12_sure_55 : decode cX12_sure 55 = .ok (.iload 5, 2) := by decide +kernel
theorem dX12_sure_57 : decode cX12_sure 57 = .ok (.bipush 12, 2) := by decide +kernel
theorem dX12_sure_59 : decode cX12_sure 59 = .ok (.if_icmp .ge 34, 3) := by decide +kernel
theorem dX12_sure_62 : decode cX12_sure 62 = .ok (.iload 4, 2) := by decide +kernel
theorem dX12_sure_64 : decode cX12_sure 64 = .ok (.iload 5, 2) := by decide +kernel
theorem dX12_sure_66 : decode cX12_sure 66 = .ok (.iload_n 2, 1) := by decide +kernel
theorem dX12_sure_67 : decode cX12_sure 67 = .ok (.if_icmp .ge 16, 3) := by decide +kernel
theorem dX12_sure_70 : decode cX12_sure 70 = .ok (.iload 5, 2) := by decide +kernel
theorem dX12_sure_72 : decode cX12_sure 72 = .ok (.iload_n 3, 1) := by decide +kernel
theorem dX12_sure_73 : decode cX12_sure 73 = .ok (.if_icmp .ge 10, 3) := by decide +kernel
theorem dX12_sure_76 : decode cX12_sure 76 = .ok (.iconst 1, 1) := by decide +kernel
theorem dX12_sure_77 : decode cX12_sure 77 = .ok (.iload 5, 2) := by decide +kernel
theorem dX12_sure_79 : decode cX12_sure 79 = .ok (.ishl, 1) := by decide +kernel
theorem dX12_sure_80 : decode cX12_sure 80 = .ok (.goto 4, 3) := by decide +kernel
theorem dX12_sure_83 : decode cX12_sure 83 = .ok (.iconst 0, 1) := by decide +kernel
theorem dX12_sure_84 : decode cX12_sure 84 = .ok (.ior, 1) := by decide +kernel
theorem dX12_sure_85 : decode cX12_sure 85 = .ok (.istore 4, 2) := by decide +kernel
theorem dX12_sure_87 : decode cX12_sure 87 = .ok (.iinc 5 1, 3) := by decide +kernel
theorem dX12_sure_90 : decode cX12_sure 90 = .ok (.goto (-35), 3) := by decide +kernel
theorem dX12_sure_93 : decode cX12_sure 93 = .ok (.iload 4, 2) := by decide +kernel
theorem dX12_sure_95 : decode cX12_sure 95 = .ok (.ireturn, 1) := by decide +kernel
set_option maxRecDepth 20000 in
theorem ggX12_image_X12_in : GoodIn wsX12_image wsX12_in := goodIn_r _ [9] (by decide +kernel) (by decide +kernel)
set_option maxRecDepth 20000 in
theorem gX12_image_X12_in : GoodIn wsX12_image (va_wsS RX12 63 yX12_in wsX12_in) := goodIn_app (goodIn_of _ (by decide +kernel)) ggX12_image_X12_in
set_option maxRecDepth 20000 in
theorem ggX12_image_X12_isGround : GoodIn wsX12_image wsX12_isGround := goodIn_r _ [13, 4, 14, 15, 16, 17, 18, 19, 20, 21, 22, 23, 24, 25, 26, 27, 28, 29, 30, 31, 32, 33, 34, 35, 36, 37, 38, 39] (by decide +kernel) (by decide +kernel)
set_option maxRecDepth 20000 in
theorem gX12_image_X12_isGround : GoodIn wsX12_image (wsV RX12 196 RX12 yX12_isGround wsX12_isGround) := goodIn_app (goodIn_of _ (by decide +kernel)) ggX12_image_X12_isGround
