theorem dX12_strip_10 : decode cX12_strip 10 = .ok (.iconst 3, 1) := by decide +kernel
theorem dX12_strip_11 : decode cX12_strip 11 = .ok (.invokestatic 63, 3) := by decide +kernel
theorem dX12_strip_14 : decode cX12_strip 14 = .ok (.ifCond .ne 6, 3) := by decide +kernel
theorem dX12_strip_17 : decode cX12_strip 17 = .ok (.ldc 71, 2) := by decide +kernel
theorem dX12_strip_19 : decode cX12_strip 19 = .ok (.ireturn, 1) := by decide +kernel
theorem dX12_strip_20 : decode cX12_strip 20 = .ok (.iload_n 2, 1) := by decide +kernel
theorem dX12_strip_21 : decode cX12_strip 21 = .ok (.iconst 2, 1) := by decide +kernel
theorem dX12_strip_22 : decode cX12_strip 22 = .ok (.if_icmp .ge 14, 3) := by decide +kernel
theorem dX12_strip_25 : decode cX12_strip 25 = .ok (.aload_n 0, 1) := by decide +kernel
theorem dX12_strip_26 : decode cX12_strip 26 = .ok (.iload_n 1, 1) := by decide +kernel
theorem dX12_strip_27 : decode cX12_strip 27 = .ok (.iconst 1, 1) := by decide +kernel
theorem dX12_strip_28 : decode cX12_strip 28 = .ok (.iload_n 2, 1) := by decide +kernel
theorem dX12_strip_29 : decode cX12_strip 29 = .ok (.iadd, 1) := by decide +kernel
theorem dX12_strip_30 : decode cX12_strip 30 = .ok (.invokevirtual 165, 3) := by decide +kernel
theorem dX12_strip_33 : decode cX12_strip 33 = .ok (.goto 26, 3) := by decide +kernel
theorem dX12_strip_36 : decode cX12_strip 36 = .ok (.iload_n 1, 1) := by decide +kernel
theorem dX12_strip_37 : decode cX12_strip 37 = .ok (.aload_n 0, 1) := by decide +kernel
theorem dX12_strip_38 : decode cX12_strip 38 = .ok (.getfield 7, 3) := by decide +kernel
theorem dX12_strip_41 : decode cX12_strip 41 = .ok (.iconst 1, 1) := by decide +kernel
theorem dX12_strip_42 : decode cX12_strip 42 = .ok (.iaload, 1) := by decide +kernel
theorem dX12_strip_43 : decode cX12_strip 43 = .ok (.aload_n 0, 1) := by decide +kernel
theorem dX12_strip_44 : decode cX12_strip 44 = .ok (.getfield 7, 3) := by decide +kernel
theorem dX12_strip_47 : decode cX12_strip 47 = .ok (.iconst 2, 1) := by decide +kernel
theorem dX12_strip_48 : decode cX12_strip 48 = .ok (.iaload, 1) := by decide +kernel
theorem dX12_strip_49 : decode cX12_strip 49 = .ok (.invokestatic 172, 3) := by decide +kernel
theorem dX12_strip_52 : decode cX12_strip 52 = .ok (.i2l, 1) := by decide +kernel
theorem dX12_strip_53 : decode cX12_strip 53 = .ok (.iload_n 2, 1) := by decide +kernel
theorem dX12_strip_54 : decode cX12_strip 54 = .ok (.iconst 2, 1) := by decide +kernel
theorem dX12_strip_55 : decode cX12_strip 55 = .ok (.isub, 1) := by decide +kernel
theorem dX12_strip_56 : decode cX12_strip 56 = .ok (.invokestatic 188, 3) := by decide +kernel
theorem dX12_strip_59 : decode cX12_strip 59 = .ok (.ireturn, 1) := by decide +kernel
set_option maxRecDepth 20000 in
theorem ggX12_crop_X12_isStrip : GoodIn wsX12_crop wsX12_isStrip := goodIn_r _ [6, 7, 8, 9, 5, 10, 22, 23, 24, 25, 26, 27, 28, 29, 30, 31, 32, 33, 34, 35, 36, 37, 38, 39, 40, 41, 42, 43, 44, 45, 46, 47] (by decide +kernel) (by decide +kernel)
set_option maxRecDepth 20000 in
theorem gX12_crop_X12_isStrip : GoodIn wsX12_crop (wsV RX12 185 RX12 yX12_isStrip wsX12_isStrip) := goodIn_app (goodIn_of _ (by decide +kernel)) ggX12_crop_X12_isStrip
set_option maxRecDepth 20000 in
theorem ggX12_crop_X12_in : GoodIn wsX12_crop wsX12_in := goodIn_r _ [10] (by decide +kernel) (by decide +kernel)
set_option maxRecDepth 20000 in
theorem gX12_crop_X12_in : GoodIn wsX12_crop (va_wsS RX12 63 yX12_in wsX12_in) := goodIn_app (goodIn_of _ (by decide +kernel)) ggX12_crop_X12_in
set_option maxRecDepth 20000 in
theorem ggX12_crop_X12_cropOn : GoodIn wsX12_crop wsX12_cropOn := goodIn_r _ [14, 15, 16, 17, 5, 18, 7, 19, 20, 21, 22, 23, 24, 25, 26, 27, 28, 29, 30, 31, 32, 33, 34, 35, 36, 37, 38, 39, 40, 41, 42, 43, 44, 45, 46, 47] (by decide +kernel) (by decide +kernel)
set_option maxRecDepth 20000 in
theorem gX12_crop_X12_cropOn : GoodIn wsX12_crop (wsV RX12 176 RX12 yX12_cropOn wsX12_cropOn) := goodIn_app (goodIn_of _ (by decide +kernel)) ggX12_crop_X12_cropOn
theorem dX12_crop_0 : decode cX12_crop 0 = .ok (.aload_n 0, 1) := by decide +kernel
theorem dX12_crop_1 : decode cX12_crop 1 = .ok (.iload_n 1, 1) := by decide +kernel
theorem dX12_crop_2 : decode cX12_crop 2 = .ok (.invokevirtual 185, 3) := by decide +kernel
theorem dX12_crop_5 : decode cX12_crop 5 = .ok (.ifCond .eq 22, 3) := by decide +kernel
theorem dX12_crop_8 : decode cX12_crop 8 = .ok (.iload_n 2, 1) := by decide +kernel
theorem dX12_crop_9 : decode cX12_crop 9 = .ok (.iconst 0, 1) := by decide +kernel
theorem dX12_crop_10 : decode cX12_crop 10 = .ok (.bipush 11, 2) := by decide +kernel
theorem dX12_crop_12 : decode cX12_crop 12 = .ok (.invokestatic 63, 3) := by decide +kernel
theorem dX12_crop_15 : decode cX12_crop 15 = .ok (.ifCond .eq 12, 3) := by decide +kernel
theorem dX12_crop_18 : decode cX12_crop 18 = .ok (.aload_n 0, 1) := by decide +kernel
theorem dX12_crop_19 : decode cX12_crop 19 = .ok (.iload_n 1, 1) := by decide +kernel
theorem dX12_crop_20 : decode cX12_crop 20 = .ok (.iload_n 2, 1) := by decide +kernel
theorem dX12_crop_21 : decode cX12_crop 21 = .ok (.invokevirtual 176, 3) := by decide +kernel
theorem dX12_crop_24 : decode cX12_crop 24 = .ok (.goto 5, 3) := by decide +kernel
theorem dX12_crop_27 : decode cX12_crop 27 = .ok (.ldc 71, 2) := by decide +kernel
theorem dX12_crop_29 : decode cX12_crop 29 = .ok (.ireturn, 1) := by decide +kernel
theorem dX12_isPond_0 : decode cX12_isPond 0 = .ok (.iconst 0, 1) := by decide +kernel
theorem dX12_isPond_1 : decode cX12_isPond 1 = .ok (.istore_n 3, 1) := by decide +kernel
theorem dX12_isPond_2 : decode cX12_isPond 2 = .ok (.iconst 0, 1) := by decide +kernel
theorem dX12_isPond_3 : decode cX12_isPond 3 = .ok (.istore 4, 2) := by decide +kernel
theorem dX12_isPond_5 : decode cX12_isPond 5 = .ok (.iload 4, 2) := by decide +kernel
theorem dX12_isPond_7 : decode cX12_isPond 7 = .ok (.aload_n 0, 1) := by decide +kernel
theorem dX12_isPond_8 : decode cX12_isPond 8 = .ok (.getfield 7, 3) := by decide +kernel
theorem dX12_isPond_11 : decode cX12_isPond 11 = .ok (.iconst 5, 1) := by decide +kernel
theorem dX12_isPond_12 : decode cX12_isPond 12 = .ok (.iaload, 1) := by decide +kernel
theorem dX12_isPond_13 : decode cX12_isPond 13 = .ok (.if_icmp .ge 53, 3) := by decide +kernel
theorem dX12_isPond_16 : decode cX12_isPond 16 = .ok (.iload_n 3, 1) := by decide +kernel
theorem dX12_isPond_17 : decode cX12_isPond 17 = .ok (.ifCond .ne 37, 3) := by decide +kernel
theorem dX12_isPond_20 : decode cX12_isPond 20 = .ok (.aload_n 0, 1) := by decide +kernel
theorem dX12_isPond_21 : decode cX12_isPond 21 = .ok (.getfield 7, 3) := by decide +kernel
theorem dX12_isPond_24 : decode cX12_isPond 24 = .ok (.bipush 42, 2) := by decide +kernel
theorem dX12_isPond_26 : decode cX12_isPond 26 = .ok (.iconst 2, 1) := by decide +kernel
theorem dX12_isPond_27 : decode cX12_isPond 27 = .ok (.iload 4, 2) := by decide +kernel
theorem dX12_isPond_29 : decode cX12_isPond 29 = .ok (.imul, 1) := by decide +kernel
theorem dX12_isPond_30 : decode cX12_isPond 30 = .ok (.iadd, 1) := by decide +kernel
theorem dX12_isPond_31 : decode cX12_isPond 31 = .ok (.iaload, 1) := by decide +kernel
theorem dX12_isPond_32 : decode cX12_isPond 32 = .ok (.iload_n 1, 1) := by decide +kernel
theorem dX12_isPond_33 : decode cX12_isPond 33 = .ok (.if_icmp .ne 25, 3) := by decide +kernel
theorem dX12_isPond_36 : decode cX12_isPond 36 = .ok (.aload_n 0, 1) := by decide +kernel
theorem dX12_isPond_37 : decode cX12_isPond 37 = .ok (.getfield 7, 3) := by decide +kernel
theorem dX12_isPond_40 : decode cX12_isPond 40 = .ok (.bipush 42, 2) := by decide +kernel
theorem dX12_isPond_42 : decode cX12_isPond 42 = .ok (.iconst 2, 1) := by decide +kernel
theorem dX12_isPond_43 : decode cX12_isPond 43 = .ok (.iload 4, 2) := by decide +kernel
theorem dX12_isPond_45 : decode cX12_isPond 45 = .ok (.imul, 1) := by decide +kernel
theorem dX12_isPond_46 : decode cX12_isPond 46 = .ok (.iadd, 1) := by decide +kernel
theorem dX12_isPond_47 : decode cX12_isPond 47 = .ok (.iconst 1, 1) := by decide +kernel
theorem dX12_isPond_48 : decode cX12_isPond 48 = .ok (.iadd, 1) := by decide +kernel
theorem dX12_isPond_49 : decode cX12_isPond 49 = .ok (.iaload, 1) := by decide +kernel
theorem dX12_isPond_50 : decode cX12_isPond 50 = .ok (.iload_n 2, 1) := by decide +kernel
theorem dX12_isPond_51 : decode cX12_isPond 51 = .ok (.if_icmp .ne 7, 3) := by decide +kernel
theorem dX12_isPond_54 : decode cX12_isPond 54 = .ok (.iconst 1, 1) := by decide +kernel
theorem dX12_isPond_55 : decode cX12_isPond 55 = .ok (.goto 4, 3) := by decide +kernel
theorem dX12_isPond_58 : decode cX12_isPond 58 = .ok (.iconst 0, 1) := by decide +kernel
theorem dX12_isPond_59 : decode cX12_isPond 59 = .ok (.istore_n 3, 1) := by decide +kernel
theorem dX12_isPond_60 : decode cX12_isPond 60 = .ok (.iinc 4 1, 3) := by decide +kernel
theorem dX12_isPond_63 : decode cX12_isPond 63 = .ok (.goto (-58), 3) := by decide +kernel
theorem dX12_isPond_66 : decode cX12_isPond 66 = .ok (.iload_n 3, 1) := by decide +kernel
theorem dX12_isPond_67 : decode cX12_isPond 67 = .ok (.ireturn, 1) := by decide +kernel
set_option maxRecDepth 20000 in
theorem ggX12_mayBe_X12_in : GoodIn wsX12_mayBe wsX12_in := goodIn_r _ [4] (by decide +kernel) (by decide +kernel)
set_option maxRecDepth 20000 in
theorem gX12_mayBe_X12_in : GoodIn wsX12_mayBe (va_wsS RX12 63 yX12_in wsX12_in) := goodIn_app (goodIn_of _ (by decide +kernel)) ggX12_mayBe_X12_in
set_option maxRecDepth 20000 in
theorem ggX12_mayBe_X12_isPond : GoodIn wsX12_mayBe wsX12_isPond := goodIn_r _ [8, 9, 10, 11, 12, 13, 14, 15, 16, 17, 18, 19, 20, 21, 22, 23, 24, 25, 26, 27, 28, 29, 30, 31, 32, 33, 34, 35] (by decide +kernel) (by decide +kernel)
set_option maxRecDepth 20000 in
theorem gX12_mayBe_X12_isPond : GoodIn wsX12_mayBe (wsV RX12 192 RX12 yX12_isPond wsX12_isPond) := goodIn_app (goodIn_of _ (by decide +kernel)) ggX12_mayBe_X12_isPond
theorem dX12_mayBe_0 : decode cX12_mayBe 0 = .ok (.iload_n 2, 1) := by decide +kernel
theorem dX12_mayBe_1 : decode cX12_mayBe 1 = .ok (.iconst 0, 1) := by decide +kernel
theorem dX12_mayBe_2 : decode cX12_mayBe 2 = .ok (.bipush 12, 2) := by decide +kernel
theorem dX12_mayBe_4 : decode cX12_mayBe 4 = .ok (.invokestatic 63, 3) := by decide +kernel
theorem dX12_mayBe_7 : decode cX12_mayBe 7 = .ok (.ifCond .eq 16, 3) := by decide +kernel
theorem dX12_mayBe_10 : decode cX12_mayBe 10 = .ok (.aload_n 0, 1) := by decide +kernel
theorem dX12_mayBe_11 : decode cX12_mayBe 11 = .ok (.iload_n 1, 1) := by decide +kernel
theorem dX12_mayBe_12 : decode cX12_mayBe 12 = .ok (.iload_n 2, 1) := by decide +kernel
theorem dX12_mayBe_13 : decode cX12_mayBe 13 = .ok (.invokevirtual 192, 3) := by decide +kernel
theorem dX12_mayBe_16 : decode cX12_mayBe 16 = .ok (.ifCond .ne 7, 3) := by decide +kernel
theorem dX12_mayBe_19 : decode cX12_mayBe 19 = .ok (.iconst 1, 1) := by decide +kernel
theorem dX12_mayBe_20 : decode cX12_mayBe 20 = .ok (.goto 4, 3) := by decide +kernel
theorem dX12_mayBe_23 : decode cX12_mayBe 23 = .ok (.iconst 0, 1) := by decide +kernel
theorem dX12_mayBe_24 : decode cX12_mayBe 24 = .ok (.ireturn, 1) := by decide +kernel
set_option maxRecDepth 20000 in
theorem ggX12_day_X12_isGround : GoodIn wsX12_day wsX12_isGround := goodIn_r _ [8, 3, 20, 21, 22, 23, 24, 25, 26, 27, 28, 29, 30, 31, 32, 33, 34, 35, 36, 37, 38, 39, 40, 41, 42, 43, 44, 45] (by decide +kernel) (by decide +kernel)
set_option maxRecDepth 20000 in
theorem gX12_day_X12_isGround : GoodIn wsX12_day (wsV RX12 196 RX12 yX12_isGround wsX12_isGround) := goodIn_app (goodIn_of _ (by decide +kernel)) ggX12_day_X12_isGround
set_option maxRecDepth 20000 in
theorem ggX12_day_X12_in : GoodIn wsX12_day wsX12_in := goodIn_r _ [11] (by decide +kernel) (by decide +kernel)
set_option maxRecDepth 20000 in
theorem gX12_day_X12_in : GoodIn wsX12_day (va_wsS RX12 63 yX12_in wsX12_in) := goodIn_app (goodIn_of _ (by decide +kernel)) ggX12_day_X12_in
set_option maxRecDepth 20000 in
theorem ggX12_day_X12_mayBe : GoodIn wsX12_day wsX12_mayBe := goodIn_r _ [15, 9, 10, 7, 11, 16, 17, 18, 19, 3, 20, 21, 22, 23, 24, 25, 26, 27, 28, 29, 30, 31, 32, 33, 34, 35, 36, 37, 38, 39, 40, 41, 42, 43, 44, 45] (by decide +kernel) (by decide +kernel)
set_option maxRecDepth 20000 in
theorem gX12_day_X12_mayBe : GoodIn wsX12_day (wsV RX12 201 RX12 yX12_mayBe wsX12_mayBe) := goodIn_app (goodIn_of _ (by decide +kernel)) ggX12_day_X12_mayBe
theorem dX12_day_0 : decode cX12_day 0 = .ok (.aload_n 0, 1) := by decide +kernel
theorem dX12_day_1 : decode cX12_day 1 = .ok (.invokevirtual 196, 3) := by decide +kernel
theorem dX12_day_4 : decode cX12_day 4 = .ok (.ifCond .ne 6, 3) := by decide +kernel
theorem dX12_day_7 : decode cX12_day 7 = .ok (.ldc 200, 2) := by decide +kernel
theorem dX12_day_9 : decode cX12_day 9 = .ok (.ireturn, 1) := by decide +kernel
theorem dX12_day_10 : decode cX12_day 10 = .ok (.iload_n 1, 1) := by decide +kernel
theorem dX12_day_11 : decode cX12_day 11 = .ok (.iconst (-1), 1) := by decide +kernel
theorem dX12_day_12 : decode cX12_day 12 = .ok (.iconst 1, 1) := by decide +kernel
theorem dX12_day_13 : decode cX12_day 13 = .ok (.invokestatic 63, 3) := by decide +kernel
theorem dX12_day_16 : decode cX12_day 16 = .ok (.ifCond .eq 12, 3) := by decide +kernel
theorem dX12_day_19 : decode cX12_day 19 = .ok (.iload_n 2, 1) := by decide +kernel
theorem dX12_day_20 : decode cX12_day 20 = .ok (.iconst (-1), 1) := by decide +kernel
theorem dX12_day_21 : decode cX12_day 21 = .ok (.iconst 1, 1) := by decide +kernel
theorem dX12_day_22 : decode cX12_day 22 = .ok (.invokestatic 63, 3) := by decide +kernel
theorem dX12_day_25 : decode cX12_day 25 = .ok (.ifCond .ne 6, 3) := by decide +kernel
theorem dX12_day_28 : decode cX12_day 28 = .ok (.ldc 71, 2) := by decide +kernel
theorem dX12_day_30 : decode cX12_day 30 = .ok (.ireturn, 1) := by decide +kernel
theorem dX12_day_31 : decode cX12_day 31 = .ok (.aload_n 0, 1) := by decide +kernel
theorem dX12_day_32 : decode cX12_day 32 = .ok (.getfield 7, 3) := by decide +kernel
theorem dX12_day_35 : decode cX12_day 35 = .ok (.iconst 3, 1) := by decide +kernel
theorem dX12_day_36 : decode cX12_day 36 = .ok (.iaload, 1) := by decide +kernel
theorem dX12_day_37 : decode cX12_day 37 = .ok (.bipush 12, 2) := by decide +kernel
theorem dX12_day_39 : decode cX12_day 39 = .ok (.if_icmp .eq 35, 3) := by decide +kernel
theorem dX12_day_42 : decode cX12_day 42 = .ok (.aload_n 0, 1) := by decide +kernel
theorem dX12_day_43 : decode cX12_day 43 = .ok (.iconst 0, 1) := by decide +kernel
theorem dX12_day_44 : decode cX12_day 44 = .ok (.aload_n 0, 1) := by decide +kernel
theorem dX12_day_45 : decode cX12_day 45 = .ok (.getfield 7, 3) := by decide +kernel
theorem dX12_day_48 : decode cX12_day 48 = .ok (.iconst 1, 1) := by decide +kernel
theorem dX12_day_49 : decode cX12_day 49 = .ok (.iaload, 1) := by decide +kernel
theorem dX12_day_50 : decode cX12_day 50 = .ok (.iload_n 1, 1) := by decide +kernel
theorem dX12_day_51 : decode cX12_day 51 = .ok (.iadd, 1) := by decide +kernel
theorem dX12_day_52 : decode cX12_day 52 = .ok (.invokevirtual 201, 3) := by decide +kernel
theorem dX12_day_55 : decode cX12_day 55 = .ok (.ifCond .eq 19, 3) := by decide +kernel
theorem dX12_day_58 : decode cX12_day 58 = .ok (.aload_n 0, 1) := by decide +kernel
theorem dX12_day_59 : decode cX12_day 59 = .ok (.iconst 1, 1) := by decide +kernel
theorem dX12_day_60 : decode cX12_day 60 = .ok (.aload_n 0, 1) := by decide +kernel
theorem dX12_day_61 : decode cX12_day 61 = .ok (.getfield 7, 3) := by decide +kernel
theorem dX12_day_64 : decode cX12_day 64 = .ok (.iconst 2, 1) := by decide +kernel
theorem dX12_day_65 : decode cX12_day 65 = .ok (.iaload, 1) := by decide +kernel
theorem dX12_day_66 : decode cX12_day 66 = .ok (.iload_n 2, 1) := by decide +kernel
theorem dX12_day_67 : decode cX12_day 67 = .ok (.iadd, 1) := by decide +kernel
theorem dX12_day_68 : decode cX12_day 68 = .ok (.invokevirtual 201, 3) := by decide +kernel
theorem dX12_day_71 : decode cX12_day 71 = .ok (.ifCond .ne 6, 3) := by decide +kernel
theorem dX12_day_74 : decode cX12_day 74 = .ok (.ldc 200, 2) := by decide +kernel
theorem dX12_day_76 : decode cX12_day 76 = .ok (.ireturn, 1) := by decide +kernel
theorem dX12_day_77 : decode cX12_day 77 = .ok (.aload_n 0, 1) := by decide +kernel
theorem dX12_day_78 : decode cX12_day 78 = .ok (.getfield 7, 3) := by decide +kernel
theorem dX12_day_81 : decode cX12_day 81 = .ok (.bipush 54, 2) := by decide +kernel
theorem dX12_day_83 : decode cX12_day 83 = .ok (.iconst 2, 1) := by decide +kernel
theorem dX12_day_84 : decode cX12_day 84 = .ok (.aload_n 0, 1) := by decide +kernel
theorem dX12_day_85 : decode cX12_day 85 = .ok (.getfield 7, 3) := by decide +kernel
theorem dX12_day_88 : decode cX12_day 88 = .ok (.iconst 3, 1) := by decide +kernel
theorem dX12_day_89 : decode cX12_day 89 = .ok (.iaload, 1) := by decide +kernel
theorem dX12_day_90 : decode cX12_day 90 = .ok (.imul, 1) := by decide +kernel
theorem dX12_day_91 : decode cX12_day 91 = .ok (.iadd, 1) := by decide +kernel
theorem dX12_day_92 : decode cX12_day 92 = .ok (.aload_n 0, 1) := by decide +kernel
theorem dX12_day_93 : decode cX12_day 93 = .ok (.getfield 7, 3) := by decide +kernel
theorem dX12_day_96 : decode cX12_day 96 = .ok (.iconst 1, 1) := by decide +kernel
theorem dX12_day_97 : decode cX12_day 97 = .ok (.iaload, 1) := by decide +kernel
theorem dX12_day_98 : decode cX12_day 98 = .ok (.iastore, 1) := by decide +kernel
theorem dX12_day_99 : decode cX12_day 99 = .ok (.aload_n 0, 1) := by decide +kernel
theorem dX12_day_100 : decode cX12_day 100 = .ok (.getfield 7, 3) := by decide +kernel
theorem dX12_day_103 : decode cX12_day 103 = .ok (.bipush 54, 2) := by decide +kernel
theorem dX12_day_105 : decode cX12_day 105 = .ok (.iconst 2, 1) := by decide +kernel
theorem dX12_day_106 : decode cX12_day 106 = .ok (.aload_n 0, 1) := by decide +kernel
theorem dX12_day_107 : decode cX12_day 107 = .ok (.getfield 7, 3) := by decide +kernel
theorem dX12_day_110 : decode cX12_day 110 = .ok (.iconst 3, 1) := by decide +kernel
theorem dX12_day_111 : decode cX12_day 111 = .ok (.iaload, 1) := by decide +kernel
theorem dX12_day_112 : decode cX12_day 112 = .ok (.imul, 1) := by decide +kernel
theorem dX12_day_113 : decode cX12_day 113 = .ok (.iadd, 1) := by decide +kernel
theorem dX12_day_114 : decode cX12_day 114 = .ok (.iconst 1, 1) := by decide +kernel
theorem dX12_day_115 : decode cX12_day 115 = .ok (.iadd, 1) := by decide +kernel
theorem dX12_day_116 : decode cX12_day 116 = .ok (.aload_n 0, 1) := by decide +kernel
theorem dX12_day_117 : decode cX12_day 117 = .ok (.getfield 7, 3) := by decide +kernel
theorem dX12_day_120 : decode cX12_day 120 = .ok (.iconst 2, 1) := by decide +kernel
theorem dX12_day_121 : decode cX12_day 121 = .ok (.iaload, 1) := by decide +kernel
theorem dX12_day_122 : decode cX12_day 122 = .ok (.iastore, 1) := by decide +kernel
theorem dX12_day_123 : decode cX12_day 123 = .ok (.aload_n 0, 1) := by decide +kernel
theorem dX12_day_124 : decode cX12_day 124 = .ok (.getfield 7, 3) := by decide +kernel
theorem dX12_day_127 : decode cX12_day 127 = .ok (.iconst 1, 1) := by decide +kernel
theorem dX12_day_128 : decode cX12_day 128 = .ok (.dup2, 1) := by decide +kernel
theorem dX12_day_129 : decode cX12_day 129 = .ok (.iaload, 1) := by decide +kernel
theorem dX12_day_130 : decode cX12_day 130 = .ok (.iload_n 1, 1) := by decide +kernel
theorem dX12_day_131 : decode cX12_day 131 = .ok (.iadd, 1) := by decide +kernel
theorem dX12_day_132 : decode cX12_day 132 = .ok (.iastore, 1) := by decide +kernel
theorem dX12_day_133 : decode cX12_day 133 = .ok (.aload_n 0, 1) := by decide +kernel
theorem dX12_day_134 : decode cX12_day 134 = .ok (.getfield 7, 3) := by decide +kernel
theorem dX12_day_137 : decode cX12_day 137 = .ok (.iconst 2, 1) := by decide +kernel
theorem dX12_day_138 : decode cX12_day 138 = .ok (.dup2, 1) := by decide +kernel
theorem dX12_day_139 : decode cX12_day 139 = .ok (.iaload, 1) := by decide +kernel
theorem dX12_day_140 : decode cX12_day 140 = .ok (.iload_n 2, 1) := by decide +kernel
theorem dX12_day_141 : decode cX12_day 141 = .ok (.iadd, 1) := by decide +kernel
theorem dX12_day_142 : decode cX12_day 142 = .ok (.iastore, 1) := by decide +kernel
theorem dX12_day_143 : decode cX12_day 143 = .ok (.aload_n 0, 1) := by decide +kernel
theorem dX12_day_144 : decode cX12_day 144 = .ok (.getfield 7, 3) := by decide +kernel
theorem dX12_day_147 : decode cX12_day 147 = .ok (.iconst 3, 1) := by decide +kernel
theorem dX12_day_148 : decode cX12_day 148 = .ok (.dup2, 1) := by decide +kernel
theorem dX12_day_149 : decode cX12_day 149 = .ok (.iaload, 1) := by decide +kernel
theorem dX12_day_150 : decode cX12_day 150 = .ok (.iconst 1, 1) := by decide +kernel
theorem dX12_day_151 : decode cX12_day 151 = .ok (.iadd, 1) := by decide +kernel
theorem dX12_day_152 : decode cX12_day 152 = .ok (.iastore, 1) := by decide +kernel
theorem dX12_day_153 : decode cX12_day 153 = .ok (.bipush 13, 2) := by decide +kernel
theorem dX12_day_155 : decode cX12_day 155 = .ok (.aload_n 0, 1) := by decide +kernel
theorem dX12_day_156 : decode cX12_day 156 = .ok (.getfield 7, 3) := by decide +kernel
theorem dX12_day_159 : decode cX12_day 159 = .ok (.iconst 1, 1) := by decide +kernel
theorem dX12_day_160 : decode cX12_day 160 = .ok (.iaload, 1) := by decide +kernel
theorem dX12_day_161 : decode cX12_day 161 = .ok (.imul, 1) := by decide +kernel
theorem dX12_day_162 : decode cX12_day 162 = .ok (.aload_n 0, 1) := by decide +kernel
theorem dX12_day_163 : decode cX12_day 163 = .ok (.getfield 7, 3) := by decide +kernel
theorem dX12_day_166 : decode cX12_day 166 = .ok (.iconst 2, 1) := by decide +kernel
theorem dX12_day_167 : decode cX12_day 167 = .ok (.iaload, 1) := by decide +kernel
theorem dX12_day_168 : decode cX12_day 168 = .ok (.iadd, 1) := by decide +kernel
theorem dX12_day_169 : decode cX12_day 169 = .ok (.ireturn, 1) := by decide +kernel
set_option maxRecDepth 20000 in
theorem ggX12_undo_X12_isGround : GoodIn wsX12_undo wsX12_isGround := goodIn_r _ [7, 1, 8, 9, 10, 11, 12, 13, 14, 15, 16, 17, 18, 19, 20, 21, 22, 23, 24, 25, 26, 27, 28, 29, 30, 31, 32, 33] (by decide +kernel) (by decide +kernel)
set_option maxRecDepth 20000 in
theorem gX12_undo_X12_isGround : GoodIn wsX12_undo (wsV RX12 196 RX12 yX12_isGround wsX12_isGround) := goodIn_app (goodIn_of _ (by decide +kernel)) ggX12_undo_X12_isGround
theorem dX12_undo_0 : decode cX12_undo 0 = .ok (.aload_n 0, 1) := by decide +kernel
theorem dX12_undo_1 : decode cX12_undo 1 = .ok (.invokevirtual 196, 3) := by decide +kernel
theorem dX12_undo_4 : decode cX12_undo 4 = .ok (.ifCond .eq 12, 3) := by decide +kernel
theorem dX12_undo_7 : decode cX12_undo 7 = .ok (.aload_n 0, 1) := by decide +kernel
theorem dX12_undo_8 : decode cX12_undo 8 = .ok (.getfield 7, 3) := by decide +kernel
theorem dX12_undo_11 : decode cX12_undo 11 = .ok (.iconst 3, 1) := by decide +kernel
theorem dX12_undo_12 : decode cX12_undo 12 = .ok (.iaload, 1) := by decide +kernel
theorem dX12_undo_13 : decode cX12_undo 13 = .ok (.ifCond .ne 6, 3) := by decide +kernel
theorem dX12_undo_16 : decode cX12_undo 16 = .ok (.ldc 200, 2) := by decide +kernel
theorem dX12_undo_18 : decode cX12_undo 18 = .ok (.ireturn, 1) := by decide +kernel
theorem dX12_undo_19 : decode cX12_undo 19 = .ok (.aload_n 0, 1) := by decide +kernel
theorem dX12_undo_20 : decode cX12_undo 20 = .ok (.getfield 7, 3) := by decide +kernel
theorem dX12_undo_23 : decode cX12_undo 23 = .ok (.iconst 3, 1) := by decide +kernel
theorem dX12_undo_24 : decode cX12_undo 24 = .ok (.dup2, 1) := by decide +kernel
theorem dX12_undo_25 : decode cX12_undo 25 = .ok (.iaload, 1) := by decide +kernel
theorem dX12_undo_26 : decode cX12_undo 26 = .ok (.iconst 1, 1) := by decide +kernel
theorem dX12_undo_27 : decode cX12_undo 27 = .ok (.isub, 1) := by decide +kernel
theorem dX12_undo_28 : decode cX12_undo 28 = .ok (.iastore, 1) := by decide +kernel
theorem dX12_undo_29 : decode cX12_undo 29 = .ok (.aload_n 0, 1) := by decide +kernel
theorem dX12_undo_30 : decode cX12_undo 30 = .ok (.getfield 7, 3) := by decide +kernel
theorem dX12_undo_33 : decode cX12_undo 33 = .ok (.iconst 1, 1) := by decide +kernel
theorem dX12_undo_34 : decode cX12_undo 34 = .ok (.aload_n 0, 1) := by decide +kernel
theorem dX12_undo_35 : decode cX12_undo 35 = .ok (.getfield 7, 3) := by decide +kernel
theorem dX12_undo_38 : decode cX12_undo 38 = .ok (.bipush 54, 2) := by decide +kernel
theorem dX12_undo_40 : decode cX12_undo 40 = .ok (.iconst 2, 1) := by decide +kernel
theorem dX12_undo_41 : decode cX12_undo 41 = .ok (.aload_n 0, 1) := by decide +kernel
theorem dX12_undo_42 : decode cX12_undo 42 = .ok (.getfield 7, 3) := by decide +kernel
theorem dX12_undo_45 : decode cX12_undo 45 = .ok (.iconst 3, 1) := by decide +kernel
theorem dX12_undo_46 : decode cX12_undo 46 = .ok (.iaload, 1) := by decide +kernel
theorem dX12_undo_47 : decode cX12_undo 47 = .ok (.imul, 1) := by decide +kernel
theorem dX12_undo_48 : decode cX12_undo 48 = .ok (.iadd, 1) := by decide +kernel
theorem dX12_undo_49 : decode cX12_undo 49 = .ok (.iaload, 1) := by decide +kernel
theorem dX12_undo_50 : decode cX12_undo 50 = .ok (.iastore, 1) := by decide +kernel
theorem dX12_undo_51 : decode cX12_undo 51 = .ok (.aload_n 0, 1) := by decide +kernel
theorem dX12_undo_52 : decode cX12_undo 52 = .ok (.getfield 7, 3) := by decide +kernel
theorem dX12_undo_55 : decode cX12_undo 55 = .ok (.iconst 2, 1) := by decide +kernel
theorem dX12_undo_56 : decode cX12_undo 56 = .ok (.aload_n 0, 1) := by decide +kernel
theorem dX12_undo_57 : decode cX12_undo 57 = .ok (.getfield 7, 3) := by decide +kernel
theorem dX12_undo_60 : decode cX12_undo 60 = .ok (.bipush 54, 2) := by decide +kernel
theorem dX12_undo_62 : decode cX12_undo 62 = .ok (.iconst 2, 1) := by decide +kernel
theorem dX12_undo_63 : decode cX12_undo 63 = .ok (.aload_n 0, 1) := by decide +kernel
theorem dX12_undo_64 : decode cX12_undo 64 = .ok (.getfield 7, 3) := by decide +kernel
theorem dX12_undo_67 : decode cX12_undo 67 = .ok (.iconst 3, 1) := by decide +kernel
theorem dX12_undo_68 : decode cX12_undo 68 = .ok (.iaload, 1) := by decide +kernel
theorem dX12_undo_69 : decode cX12_undo 69 = .ok (.imul, 1) := by decide +kernel
theorem dX12_undo_70 : decode cX12_undo 70 = .ok (.iadd, 1) := by decide +kernel
theorem dX12_undo_71 : decode cX12_undo 71 = .ok (.iconst 1, 1) := by decide +kernel
theorem dX12_undo_72 : decode cX12_undo 72 = .ok (.iadd, 1) := by decide +kernel
theorem dX12_undo_73 : decode cX12_undo 73 = .ok (.iaload, 1) := by decide +kernel
theorem dX12_undo_74 : decode cX12_undo 74 = .ok (.iastore, 1) := by decide +kernel
theorem dX12_undo_75 : decode cX12_undo 75 = .ok (.aload_n 0, 1) := by decide +kernel
theorem dX12_undo_76 : decode cX12_undo 76 = .ok (.getfield 7, 3) := by decide +kernel
theorem dX12_undo_79 : decode cX12_undo 79 = .ok (.iconst 3, 1) := by decide +kernel
theorem dX12_undo_80 : decode cX12_undo 80 = .ok (.iaload, 1) := by decide +kernel
theorem dX12_undo_81 : decode cX12_undo 81 = .ok (.ireturn, 1) := by decide +kernel
set_option maxRecDepth 20000 in
theorem ggX12_reapedBy_X12_gets : GoodIn wsX12_reapedBy wsX12_gets := goodIn_r _ [7, 1, 8, 9, 10, 6, 11, 12, 13, 14, 15, 16, 17, 18, 19, 20, 21, 22, 23, 24, 25, 26, 27, 28, 29, 30, 31, 32, 33, 34, 35, 36, 37, 38, 39, 40, 41, 42, 43, 44, 45, 46, 47, 48] (by decide +kernel) (by decide +kernel)
set_option maxRecDepth 20000 in
theorem gX12_reapedBy_X12_gets : GoodIn wsX12_reapedBy (wsV RX12 204 RX12 yX12_gets wsX12_gets) := goodIn_app (goodIn_of _ (by decide +kernel)) ggX12_reapedBy_X12_gets
set_option maxRecDepth 20000 in
theorem ggX12_reapedBy_X12_cropOn : GoodIn wsX12_reapedBy wsX12_cropOn := goodIn_r _ [19, 12, 13, 14, 6, 15, 1, 20, 21, 22, 23, 24, 25, 26, 27, 28, 29, 30, 31, 32, 33, 34, 35, 36, 37, 38, 39, 40, 41, 42, 43, 44, 45, 46, 47, 48] (by decide +kernel) (by decide +kernel)
set_option maxRecDepth 20000 in
theorem gX12_reapedBy_X12_cropOn : GoodIn wsX12_reapedBy (wsV RX12 176 RX12 yX12_cropOn wsX12_cropOn) := goodIn_app (goodIn_of _ (by decide +kernel)) ggX12_reapedBy_X12_cropOn
theorem dX12_reapedBy_0 : decode cX12_reapedBy 0 = .ok (.lconst 0, 1) := by decide +kernel
theorem dX12_reapedBy_1 : decode cX12_reapedBy 1 = .ok (.lstore_n 2, 1) := by decide +kernel
theorem dX12_reapedBy_2 : decode cX12_reapedBy 2 = .ok (.lconst 0, 1) := by decide +kernel
theorem dX12_reapedBy_3 : decode cX12_reapedBy 3 = .ok (.lstore 4, 2) := by decide +kernel
theorem dX12_reapedBy_5 : decode cX12_reapedBy 5 = .ok (.iconst 0, 1) := by decide +kernel
theorem dX12_reapedBy_6 : decode cX12_reapedBy 6 = .ok (.istore 6, 2) := by decide +kernel
theorem dX12_reapedBy_8 : decode cX12_reapedBy 8 = .ok (.iload 6, 2) := by decide +kernel
theorem dX12_reapedBy_10 : decode cX12_reapedBy 10 = .ok (.aload_n 0, 1) := by decide +kernel
theorem dX12_reapedBy_11 : decode cX12_reapedBy 11 = .ok (.getfield 7, 3) := by decide +kernel
theorem dX12_reapedBy_14 : decode cX12_reapedBy 14 = .ok (.iconst 3, 1) := by decide +kernel
theorem dX12_reapedBy_15 : decode cX12_reapedBy 15 = .ok (.iaload, 1) := by decide +kernel
theorem dX12_reapedBy_16 : decode cX12_reapedBy 16 = .ok (.if_icmp .ge 132, 3) := by decide +kernel
theorem dX12_reapedBy_19 : decode cX12_reapedBy 19 = .ok (.iload 6, 2) := by decide +kernel
theorem dX12_reapedBy_21 : decode cX12_reapedBy 21 = .ok (.iconst 1, 1) := by decide +kernel
theorem dX12_reapedBy_22 : decode cX12_reapedBy 22 = .ok (.iadd, 1) := by decide +kernel
theorem dX12_reapedBy_23 : decode cX12_reapedBy 23 = .ok (.aload_n 0, 1) := by decide +kernel
theorem dX12_reapedBy_24 : decode cX12_reapedBy 24 = .ok (.getfield 7, 3) := by decide +kernel
theorem dX12_reapedBy_27 : decode cX12_reapedBy 27 = .ok (.iconst 3, 1) := by decide +kernel
theorem dX12_reapedBy_28 : decode cX12_reapedBy 28 = .ok (.iaload, 1) := by decide +kernel
theorem dX12_reapedBy_29 : decode cX12_reapedBy 29 = .ok (.if_icmp .ne 7, 3) := by decide +kernel
theorem dX12_reapedBy_32 : decode cX12_reapedBy 32 = .ok (.iconst 1, 1) := by decide +kernel
theorem dX12_reapedBy_33 : decode cX12_reapedBy 33 = .ok (.goto 4, 3) := by decide +kernel
theorem dX12_reapedBy_36 : decode cX12_reapedBy 36 = .ok (.iconst 0, 1) := by decide +kernel
theorem dX12_reapedBy_37 : decode cX12_reapedBy 37 = .ok (.istore 7, 2) := by decide +kernel
theorem dX12_reapedBy_39 : decode cX12_reapedBy 39 = .ok (.lload_n 2, 1) := by decide +kernel
theorem dX12_reapedBy_40 : decode cX12_reapedBy 40 = .ok (.aload_n 0, 1) := by decide +kernel
theorem dX12_reapedBy_41 : decode cX12_reapedBy 41 = .ok (.iload 6, 2) := by decide +kernel
theorem dX12_reapedBy_43 : decode cX12_reapedBy 43 = .ok (.iload 7, 2) := by decide +kernel
theorem dX12_reapedBy_45 : decode cX12_reapedBy 45 = .ok (.ifCond .eq 12, 3) := by decide +kernel
theorem dX12_reapedBy_48 : decode cX12_reapedBy 48 = .ok (.aload_n 0, 1) := by decide +kernel
theorem dX12_reapedBy_49 : decode cX12_reapedBy 49 = .ok (.getfield 7, 3) := by decide +kernel
theorem dX12_reapedBy_52 : decode cX12_reapedBy 52 = .ok (.iconst 1, 1) := by decide +kernel
theorem dX12_reapedBy_53 : decode cX12_reapedBy 53 = .ok (.iaload, 1) := by decide +kernel
theorem dX12_reapedBy_54 : decode cX12_reapedBy 54 = .ok (.goto 17, 3) := by decide +kernel
theorem dX12_reapedBy_57 : decode cX12_reapedBy 57 = .ok (.aload_n 0, 1) := by decide +kernel
theorem dX12_reapedBy_58 : decode cX12_reapedBy 58 = .ok (.getfield 7, 3) := by decide +kernel
theorem dX12_reapedBy_61 : decode cX12_reapedBy 61 = .ok (.bipush 54, 2) := by decide +kernel
theorem dX12_reapedBy_63 : decode cX12_reapedBy 63 = .ok (.iconst 2, 1) := by decide +kernel
theorem dX12_reapedBy_64 : decode cX12_reapedBy 64 = .ok (.iload 6, 2) := by decide +kernel
theorem dX12_reapedBy_66 : decode cX12_reapedBy 66 = .ok (.imul, 1) := by decide +kernel
theorem dX12_reapedBy_67 : decode cX12_reapedBy 67 = .ok (.iadd, 1) := by decide +kernel
theorem dX12_reapedBy_68 : decode cX12_reapedBy 68 = .ok (.iconst 2, 1) := by decide +kernel
theorem dX12_reapedBy_69 : decode cX12_reapedBy 69 = .ok (.iadd, 1) := by decide +kernel
theorem dX12_reapedBy_70 : decode cX12_reapedBy 70 = .ok (.iaload, 1) := by decide +kernel
theorem dX12_reapedBy_71 : decode cX12_reapedBy 71 = .ok (.iload 7, 2) := by decide +kernel
theorem dX12_reapedBy_73 : decode cX12_reapedBy 73 = .ok (.ifCond .eq 12, 3) := by decide +kernel
theorem dX12_reapedBy_76 : decode cX12_reapedBy 76 = .ok (.aload_n 0, 1) := by decide +kernel
theorem dX12_reapedBy_77 : decode cX12_reapedBy 77 = .ok (.getfield 7, 3) := by decide +kernel
theorem dX12_reapedBy_80 : decode cX12_reapedBy 80 = .ok (.iconst 2, 1) := by decide +kernel
theorem dX12_reapedBy_81 : decode cX12_reapedBy 81 = .ok (.iaload, 1) := by decide +kernel
theorem dX12_reapedBy_82 : decode cX12_reapedBy 82 = .ok (.goto 17, 3) := by decide +kernel
theorem dX12_reapedBy_85 : decode cX12_reapedBy 85 = .ok (.aload_n 0, 1) := by decide +kernel
theorem dX12_reapedBy_86 : decode cX12_reapedBy 86 = .ok (.getfield 7, 3) := by decide +kernel
theorem dX12_reapedBy_89 : decode cX12_reapedBy 89 = .ok (.bipush 54, 2) := by decide +kernel
theorem dX12_reapedBy_91 : decode cX12_reapedBy 91 = .ok (.iconst 2, 1) := by decide +kernel
theorem dX12_reapedBy_92 : decode cX12_reapedBy 92 = .ok (.iload 6, 2) := by decide +kernel
theorem dX12_reapedBy_94 : decode cX12_reapedBy 94 = .ok (.imul, 1) := by decide +kernel
theorem dX12_reapedBy_95 : decode cX12_reapedBy 95 = .ok (.iadd, 1) := by decide +kernel
theorem dX12_reapedBy_96 : decode cX12_reapedBy 96 = .ok (.iconst 3, 1) := by decide +kernel
theorem dX12_reapedBy_97 : decode cX12_reapedBy 97 = .ok (.iadd, 1) := by decide +kernel
theorem dX12_reapedBy_98 : decode cX12_reapedBy 98 = .ok (.iaload, 1) := by decide +kernel
theorem dX12_reapedBy_99 : decode cX12_reapedBy 99 = .ok (.invokevirtual 204, 3) := by decide +kernel
theorem dX12_reapedBy_102 : decode cX12_reapedBy 102 = .ok (.ladd, 1) := by decide +kernel
theorem dX12_reapedBy_103 : decode cX12_reapedBy 103 = .ok (.lstore_n 2, 1) := by decide +kernel
theorem dX12_reapedBy_104 : decode cX12_reapedBy 104 = .ok (.iconst 0, 1) := by decide +kernel
theorem dX12_reapedBy_105 : decode cX12_reapedBy 105 = .ok (.istore 8, 2) := by decide +kernel
theorem dX12_reapedBy_107 : decode cX12_reapedBy 107 = .ok (.iload 8, 2) := by decide +kernel
theorem dX12_reapedBy_109 : decode cX12_reapedBy 109 = .ok (.aload_n 0, 1) := by decide +kernel
theorem dX12_reapedBy_110 : decode cX12_reapedBy 110 = .ok (.getfield 7, 3) := by decide +kernel
theorem dX12_reapedBy_113 : decode cX12_reapedBy 113 = .ok (.iconst 4, 1) := by decide +kernel
theorem dX12_reapedBy_114 : decode cX12_reapedBy 114 = .ok (.iaload, 1) := by decide +kernel
theorem dX12_reapedBy_115 : decode cX12_reapedBy 115 = .ok (.if_icmp .ge 27, 3) := by decide +kernel
theorem dX12_reapedBy_118 : decode cX12_reapedBy 118 = .ok (.lload 4, 2) := by decide +kernel
theorem dX12_reapedBy_120 : decode cX12_reapedBy 120 = .ok (.aload_n 0, 1) := by decide +kernel
theorem dX12_reapedBy_121 : decode cX12_reapedBy 121 = .ok (.iload 8, 2) := by decide +kernel
theorem dX12_reapedBy_123 : decode cX12_reapedBy 123 = .ok (.iload 6, 2) := by decide +kernel
theorem dX12_reapedBy_125 : decode cX12_reapedBy 125 = .ok (.invokevirtual 176, 3) := by decide +kernel
theorem dX12_reapedBy_128 : decode cX12_reapedBy 128 = .ok (.i2l, 1) := by decide +kernel
theorem dX12_reapedBy_129 : decode cX12_reapedBy 129 = .ok (.ldc2_w 179, 3) := by decide +kernel
theorem dX12_reapedBy_132 : decode cX12_reapedBy 132 = .ok (.lmul, 1) := by decide +kernel
theorem dX12_reapedBy_133 : decode cX12_reapedBy 133 = .ok (.ladd, 1) := by decide +kernel
theorem dX12_reapedBy_134 : decode cX12_reapedBy 134 = .ok (.lstore 4, 2) := by decide +kernel
theorem dX12_reapedBy_136 : decode cX12_reapedBy 136 = .ok (.iinc 8 1, 3) := by decide +kernel
theorem dX12_reapedBy_139 : decode cX12_reapedBy 139 = .ok (.goto (-32), 3) := by decide +kernel
theorem dX12_reapedBy_142 : decode cX12_reapedBy 142 = .ok (.iinc 6 1, 3) := by decide +kernel
theorem dX12_reapedBy_145 : decode cX12_reapedBy 145 = .ok (.goto (-137), 3) := by decide +kernel
theorem dX12_reapedBy_148 : decode cX12_reapedBy 148 = .ok (.iload_n 1, 1) := by decide +kernel
theorem dX12_reapedBy_149 : decode cX12_reapedBy 149 = .ok (.ifCond .ne 7, 3) := by decide +kernel
theorem dX12_reapedBy_152 : decode cX12_reapedBy 152 = .ok (.lload_n 2, 1) := by decide +kernel
theorem dX12_reapedBy_153 : decode cX12_reapedBy 153 = .ok (.goto 7, 3) := by decide +kernel
theorem dX12_reapedBy_156 : decode cX12_reapedBy 156 = .ok (.lload 4, 2) := by decide +kernel
theorem dX12_reapedBy_158 : decode cX12_reapedBy 158 = .ok (.lload_n 2, 1) := by decide +kernel
theorem dX12_reapedBy_159 : decode cX12_reapedBy 159 = .ok (.lsub, 1) := by decide +kernel
theorem dX12_reapedBy_160 : decode cX12_reapedBy 160 = .ok (.lreturn, 1) := by decide +kernel
set_option maxRecDepth 20000 in
theorem ggX12_reaped_X12_isGround : GoodIn wsX12_reaped wsX12_isGround := goodIn_r _ [7, 8, 42, 43, 44, 45, 46, 47, 48, 49, 50, 51, 52, 53, 54, 55, 56, 57, 58, 59, 60, 61, 62, 63, 64, 65, 66, 67] (by decide +kernel) (by decide +kernel)
set_option maxRecDepth 20000 in
theorem gX12_reaped_X12_isGround : GoodIn wsX12_reaped (wsV RX12 196 RX12 yX12_isGround wsX12_isGround) := goodIn_app (goodIn_of _ (by decide +kernel)) ggX12_reaped_X12_isGround
set_option maxRecDepth 20000 in
theorem ggX12_reaped_X12_in : GoodIn wsX12_reaped wsX12_in := goodIn_r _ [11] (by decide +kernel) (by decide +kernel)
set_option maxRecDepth 20000 in
theorem gX12_reaped_X12_in : GoodIn wsX12_reaped (va_wsS RX12 63 yX12_in wsX12_in) := goodIn_app (goodIn_of _ (by decide +kernel)) ggX12_reaped_X12_in
set_option maxRecDepth 20000 in
theorem ggX12_reaped_X12_reapedBy : GoodIn wsX12_reaped wsX12_reapedBy := goodIn_r _ [15, 8, 16, 17, 18, 19, 6, 20, 21, 22, 23, 24, 25, 26, 27, 28, 29, 30, 31, 32, 33, 34, 35, 42, 43, 44, 45, 46, 47, 48, 49, 50, 51, 52, 53, 54, 55, 56, 57, 58, 59, 60, 61, 62, 63, 64, 65, 66, 67] (by decide +kernel) (by decide +kernel)
set_option maxRecDepth 20000 in
theorem gX12_reaped_X12_reapedBy : GoodIn wsX12_reaped (wsV RX12 208 RX12 yX12_reapedBy wsX12_reapedBy) := goodIn_app (goodIn_of _ (by decide +kernel)) ggX12_reaped_X12_reapedBy
set_option maxRecDepth 20000 in
theorem ggX12_reaped_X12_told : GoodIn wsX12_reaped wsX12_told := goodIn_r _ [38, 16, 39, 40, 6, 41] (by decide +kernel) (by decide +kernel)
set_option maxRecDepth 20000 in
theorem gX12_reaped_X12_told : GoodIn wsX12_reaped (va_wsS RX12 188 yX12_told wsX12_told) := goodIn_app (goodIn_of _ (by decide +kernel)) ggX12_reaped_X12_told
theorem dX12_reaped_0 : decode cX12_reaped 0 = .ok (.aload_n 0, 1) := by decide +kernel
theorem dX12_reaped_1 : decode cX12_reaped 1 = .ok (.invokevirtual 196, 3) := by decide +kernel
theorem dX12_reaped_4 : decode cX12_reaped 4 = .ok (.ifCond .ne 6, 3) := by decide +kernel
theorem dX12_reaped_7 : decode cX12_reaped 7 = .ok (.ldc 200, 2) := by decide +kernel
theorem dX12_reaped_9 : decode cX12_reaped 9 = .ok (.ireturn, 1) := by decide +kernel
theorem dX12_reaped_10 : decode cX12_reaped 10 = .ok (.iload_n 1, 1) := by decide +kernel
theorem dX12_reaped_11 : decode cX12_reaped 11 = .ok (.iconst 0, 1) := by decide +kernel
theorem dX12_reaped_12 : decode cX12_reaped 12 = .ok (.iconst 1, 1) := by decide +kernel
theorem dX12_reaped_13 : decode cX12_reaped 13 = .ok (.invokestatic 63, 3) := by decide +kernel
theorem dX12_reaped_16 : decode cX12_reaped 16 = .ok (.ifCond .eq 24, 3) := by decide +kernel
theorem dX12_reaped_19 : decode cX12_reaped 19 = .ok (.iload_n 2, 1) := by decide +kernel
theorem dX12_reaped_20 : decode cX12_reaped 20 = .ok (.iconst 0, 1) := by decide +kernel
theorem dX12_reaped_21 : decode cX12_reaped 21 = .ok (.iconst 1, 1) := by decide +kernel
theorem dX12_reaped_22 : decode cX12_reaped 22 = .ok (.invokestatic 63, 3) := by decide +kernel
theorem dX12_reaped_25 : decode cX12_reaped 25 = .ok (.ifCond .eq 15, 3) := by decide +kernel
theorem dX12_reaped_28 : decode cX12_reaped 28 = .ok (.aload_n 0, 1) := by decide +kernel
theorem dX12_reaped_29 : decode cX12_reaped 29 = .ok (.iload_n 1, 1) := by decide +kernel
theorem dX12_reaped_30 : decode cX12_reaped 30 = .ok (.invokevirtual 208, 3) := by decide +kernel
theorem dX12_reaped_33 : decode cX12_reaped 33 = .ok (.iload_n 2, 1) := by decide +kernel
theorem dX12_reaped_34 : decode cX12_reaped 34 = .ok (.invokestatic 188, 3) := by decide +kernel
theorem dX12_reaped_37 : decode cX12_reaped 37 = .ok (.goto 5, 3) := by decide +kernel
theorem dX12_reaped_40 : decode cX12_reaped 40 = .ok (.ldc 71, 2) := by decide +kernel
theorem dX12_reaped_42 : decode cX12_reaped 42 = .ok (.ireturn, 1) := by decide +kernel
set_option maxRecDepth 20000 in
theorem ggX12_findGains_X12_gets : GoodIn wsX12_findGains wsX12_gets := goodIn_r _ [6, 7, 8, 9, 10, 5, 11, 12, 13, 14, 15, 16, 17, 18, 19, 20, 21, 22, 23, 24, 25, 26, 27, 28, 29, 30, 31, 32, 33, 34, 35, 36, 37, 38, 39, 40, 41, 42, 43, 44, 45, 46, 47, 48] (by decide +kernel) (by decide +kernel)
set_option maxRecDepth 20000 in
theorem gX12_findGains_X12_gets : GoodIn wsX12_findGains (wsV RX12 204 RX12 yX12_gets wsX12_gets) := goodIn_app (goodIn_of _ (by decide +kernel)) ggX12_findGains_X12_gets
theorem dX12_findGains_0 : decode cX12_findGains 0 = .ok (.iconst 0, 1) := by decide +kernel
theorem dX12_findGains_1 : decode cX12_findGains 1 = .ok (.istore_n 2, 1) := by decide +kernel
theorem dX12_findGains_2 : decode cX12_findGains 2 = .ok (.iload_n 2, 1) := by decide +kernel
theorem dX12_findGains_3 : decode cX12_findGains 3 = .ok (.sipush 169, 3) := by decide +kernel
theorem dX12_findGains_6 : decode cX12_findGains 6 = .ok (.if_icmp .ge 28, 3) := by decide +kernel
theorem dX12_findGains_9 : decode cX12_findGains 9 = .ok (.aload_n 0, 1) := by decide +kernel
theorem dX12_findGains_10 : decode cX12_findGains 10 = .ok (.getfield 35, 3) := by decide +kernel
theorem dX12_findGains_13 : decode cX12_findGains 13 = .ok (.iload_n 2, 1) := by decide +kernel
theorem dX12_findGains_14 : decode cX12_findGains 14 = .ok (.aload_n 0, 1) := by decide +kernel
theorem dX12_findGains_15 : decode cX12_findGains 15 = .ok (.iload_n 1, 1) := by decide +kernel
theorem dX12_findGains_16 : decode cX12_findGains 16 = .ok (.iload_n 2, 1) := by decide +kernel
theorem dX12_findGains_17 : decode cX12_findGains 17 = .ok (.bipush 13, 2) := by decide +kernel
theorem dX12_findGains_19 : decode cX12_findGains 19 = .ok (.idiv, 1) := by decide +kernel
theorem dX12_findGains_20 : decode cX12_findGains 20 = .ok (.iload_n 2, 1) := by decide +kernel
theorem dX12_findGains_21 : decode cX12_findGains 21 = .ok (.bipush 13, 2) := by decide +kernel
theorem dX12_findGains_23 : decode cX12_findGains 23 = .ok (.irem, 1) := by decide +kernel
theorem dX12_findGains_24 : decode cX12_findGains 24 = .ok (.invokevirtual 204, 3) := by decide +kernel
theorem dX12_findGains_27 : decode cX12_findGains 27 = .ok (.lastore, 1) := by decide +kernel
theorem dX12_findGains_28 : decode cX12_findGains 28 = .ok (.iinc 2 1, 3) := by decide +kernel
theorem dX12_findGains_31 : decode cX12_findGains 31 = .ok (.goto (-29), 3) := by decide +kernel
theorem dX12_findGains_34 : decode cX12_findGains 34 = .ok (.return_, 1) := by decide +kernel
theorem dX12_daysOf_0 : decode cX12_daysOf 0 = .ok (.aload_n 0, 1) := by decide +kernel
theorem dX12_daysOf_1 : decode cX12_daysOf 1 = .ok (.getfield 7, 3) := by decide +kernel
theorem dX12_daysOf_4 : decode cX12_daysOf 4 = .ok (.iconst 3, 1) := by decide +kernel
theorem dX12_daysOf_5 : decode cX12_daysOf 5 = .ok (.iaload, 1) := by decide +kernel
theorem dX12_daysOf_6 : decode cX12_daysOf 6 = .ok (.iload_n 1, 1) := by decide +kernel
theorem dX12_daysOf_7 : decode cX12_daysOf 7 = .ok (.iadd, 1) := by decide +kernel
theorem dX12_daysOf_8 : decode cX12_daysOf 8 = .ok (.bipush 12, 2) := by decide +kernel
theorem dX12_daysOf_10 : decode cX12_daysOf 10 = .ok (.if_icmp .le 15, 3) := by decide +kernel
theorem dX12_daysOf_13 : decode cX12_daysOf 13 = .ok (.bipush 12, 2) := by decide +kernel
theorem dX12_daysOf_15 : decode cX12_daysOf 15 = .ok (.aload_n 0, 1) := by decide +kernel
theorem dX12_daysOf_16 : decode cX12_daysOf 16 = .ok (.getfield 7, 3) := by decide +kernel
theorem dX12_daysOf_19 : decode cX12_daysOf 19 = .ok (.iconst 3, 1) := by decide +kernel
theorem dX12_daysOf_20 : decode cX12_daysOf 20 = .ok (.iaload, 1) := by decide +kernel
theorem dX12_daysOf_21 : decode cX12_daysOf 21 = .ok (.isub, 1) := by decide +kernel
theorem dX12_daysOf_22 : decode cX12_daysOf 22 = .ok (.goto 4, 3) := by decide +kernel
theorem dX12_daysOf_25 : decode cX12_daysOf 25 = .ok (.iload_n 1, 1) := by decide +kernel
theorem dX12_daysOf_26 : decode cX12_daysOf 26 = .ok (.ireturn, 1) := by decide +kernel
set_option maxRecDepth 20000 in
theorem ggX12_findEnds_X12_mayBe : GoodIn wsX12_findEnds wsX12_mayBe := goodIn_r _ [8, 9, 10, 7, 11, 12, 13, 14, 15, 1, 16, 17, 18, 19, 20, 21, 22, 23, 24, 25, 26, 27, 28, 29, 30, 31, 32, 33, 34, 35, 36, 37, 38, 39, 40, 41] (by decide +kernel) (by decide +kernel)
set_option maxRecDepth 20000 in
theorem gX12_findEnds_X12_mayBe : GoodIn wsX12_findEnds (wsV RX12 201 RX12 yX12_mayBe wsX12_mayBe) := goodIn_app (goodIn_of _ (by decide +kernel)) ggX12_findEnds_X12_mayBe
theorem dX12_findEnds_0 : decode cX12_findEnds 0 = .ok (.aload_n 0, 1) := by decide +kernel
theorem dX12_findEnds_1 : decode cX12_findEnds 1 = .ok (.getfield 7, 3) := by decide +kernel
theorem dX12_findEnds_4 : decode cX12_findEnds 4 = .ok (.iconst 2, 1) := by decide +kernel
theorem dX12_findEnds_5 : decode cX12_findEnds 5 = .ok (.iaload, 1) := by decide +kernel
theorem dX12_findEnds_6 : decode cX12_findEnds 6 = .ok (.istore_n 3, 1) := by decide +kernel
theorem dX12_findEnds_7 : decode cX12_findEnds 7 = .ok (.iconst 0, 1) := by decide +kernel
theorem dX12_findEnds_8 : decode cX12_findEnds 8 = .ok (.istore 4, 2) := by decide +kernel
theorem dX12_findEnds_10 : decode cX12_findEnds 10 = .ok (.iload 4, 2) := by decide +kernel
theorem dX12_findEnds_12 : decode cX12_findEnds 12 = .ok (.iload_n 2, 1) := by decide +kernel
theorem dX12_findEnds_13 : decode cX12_findEnds 13 = .ok (.if_icmp .ge 50, 3) := by decide +kernel
theorem dX12_findEnds_16 : decode cX12_findEnds 16 = .ok (.iload_n 3, 1) := by decide +kernel
theorem dX12_findEnds_17 : decode cX12_findEnds 17 = .ok (.aload_n 0, 1) := by decide +kernel
theorem dX12_findEnds_18 : decode cX12_findEnds 18 = .ok (.getfield 26, 3) := by decide +kernel
theorem dX12_findEnds_21 : decode cX12_findEnds 21 = .ok (.bipush 40, 2) := by decide +kernel
theorem dX12_findEnds_23 : decode cX12_findEnds 23 = .ok (.iload_n 1, 1) := by decide +kernel
theorem dX12_findEnds_24 : decode cX12_findEnds 24 = .ok (.imul, 1) := by decide +kernel
theorem dX12_findEnds_25 : decode cX12_findEnds 25 = .ok (.iload 4, 2) := by decide +kernel
theorem dX12_findEnds_27 : decode cX12_findEnds 27 = .ok (.iadd, 1) := by decide +kernel
theorem dX12_findEnds_28 : decode cX12_findEnds 28 = .ok (.iaload, 1) := by decide +kernel
theorem dX12_findEnds_29 : decode cX12_findEnds 29 = .ok (.iadd, 1) := by decide +kernel
theorem dX12_findEnds_30 : decode cX12_findEnds 30 = .ok (.istore 5, 2) := by decide +kernel
theorem dX12_findEnds_32 : decode cX12_findEnds 32 = .ok (.aload_n 0, 1) := by decide +kernel
theorem dX12_findEnds_33 : decode cX12_findEnds 33 = .ok (.iconst 1, 1) := by decide +kernel
theorem dX12_findEnds_34 : decode cX12_findEnds 34 = .ok (.iload 5, 2) := by decide +kernel
theorem dX12_findEnds_36 : decode cX12_findEnds 36 = .ok (.invokevirtual 201, 3) := by decide +kernel
theorem dX12_findEnds_39 : decode cX12_findEnds 39 = .ok (.ifCond .eq 8, 3) := by decide +kernel
theorem dX12_findEnds_42 : decode cX12_findEnds 42 = .ok (.iload 5, 2) := by decide +kernel
theorem dX12_findEnds_44 : decode cX12_findEnds 44 = .ok (.goto 4, 3) := by decide +kernel
theorem dX12_findEnds_47 : decode cX12_findEnds 47 = .ok (.iload_n 3, 1) := by decide +kernel
theorem dX12_findEnds_48 : decode cX12_findEnds 48 = .ok (.istore_n 3, 1) := by decide +kernel
theorem dX12_findEnds_49 : decode cX12_findEnds 49 = .ok (.aload_n 0, 1) := by decide +kernel
theorem dX12_findEnds_50 : decode cX12_findEnds 50 = .ok (.getfield 45, 3) := by decide +kernel
theorem dX12_findEnds_53 : decode cX12_findEnds 53 = .ok (.iload 4, 2) := by decide +kernel
theorem dX12_findEnds_55 : decode cX12_findEnds 55 = .ok (.iload_n 3, 1) := by decide +kernel
theorem dX12_findEnds_56 : decode cX12_findEnds 56 = .ok (.iastore, 1) := by decide +kernel
theorem dX12_findEnds_57 : decode cX12_findEnds 57 = .ok (.iinc 4 1, 3) := by decide +kernel
theorem dX12_findEnds_60 : decode cX12_findEnds 60 = .ok (.goto (-50), 3) := by decide +kernel
theorem dX12_findEnds_63 : decode cX12_findEnds 63 = .ok (.return_, 1) := by decide +kernel
set_option maxRecDepth 20000 in
theorem ggX12_findMost_X12_mayBe : GoodIn wsX12_findMost wsX12_mayBe := goodIn_r _ [9, 10, 11, 8, 12, 13, 14, 15, 16, 3, 36, 37, 38, 39, 40, 41, 42, 43, 44, 45, 46, 47, 48, 49, 50, 51, 52, 53, 54, 55, 56, 57, 58, 59, 60, 61] (by decide +kernel) (by decide +kernel)
set_option maxRecDepth 20000 in
theorem gX12_findMost_X12_mayBe : GoodIn wsX12_findMost (wsV RX12 201 RX12 yX12_mayBe wsX12_mayBe) := goodIn_app (goodIn_of _ (by decide +kernel)) ggX12_findMost_X12_mayBe
set_option maxRecDepth 20000 in
theorem ggX12_findMost_X12_gets : GoodIn wsX12_findMost wsX12_gets := goodIn_r _ [20, 3, 21, 22, 23, 8, 24, 25, 26, 27, 28, 29, 30, 31, 32, 33, 34, 35, 36, 37, 38, 39, 40, 41, 42, 43, 44, 45, 46, 47, 48, 49, 50, 51, 52, 53, 54, 55, 56, 57, 58, 59, 60, 61] (by decide +kernel) (by decide +kernel)
set_option maxRecDepth 20000 in
theorem gX12_findMost_X12_gets : GoodIn wsX12_findMost (wsV RX12 204 RX12 yX12_gets wsX12_gets) := goodIn_app (goodIn_of _ (by decide +kernel)) ggX12_findMost_X12_gets
theorem dX12_findMost_0 : decode cX12_findMost 0 = .ok (.iconst 0, 1) := by decide +kernel
theorem dX12_findMost_1 : decode cX12_findMost 1 = .ok (.istore_n 2, 1) := by decide +kernel
theorem dX12_findMost_2 : decode cX12_findMost 2 = .ok (.iload_n 2, 1) := by decide +kernel
theorem dX12_findMost_3 : decode cX12_findMost 3 = .ok (.bipush 13, 2) := by decide +kernel
theorem dX12_findMost_5 : decode cX12_findMost 5 = .ok (.if_icmp .ge 21, 3) := by decide +kernel
theorem dX12_findMost_8 : decode cX12_findMost 8 = .ok (.aload_n 0, 1) := by decide +kernel
theorem dX12_findMost_9 : decode cX12_findMost 9 = .ok (.getfield 48, 3) := by decide +kernel
theorem dX12_findMost_12 : decode cX12_findMost 12 = .ok (.bipush 13, 2) := by decide +kernel
theorem dX12_findMost_14 : decode cX12_findMost 14 = .ok (.iload_n 1, 1) := by decide +kernel
theorem dX12_findMost_15 : decode cX12_findMost 15 = .ok (.imul, 1) := by decide +kernel
theorem dX12_findMost_16 : decode cX12_findMost 16 = .ok (.iload_n 2, 1) := by decide +kernel
theorem dX12_findMost_17 : decode cX12_findMost 17 = .ok (.iadd, 1) := by decide +kernel
theorem dX12_findMost_18 : decode cX12_findMost 18 = .ok (.lconst 0, 1) := by decide +kernel
theorem dX12_findMost_19 : decode cX12_findMost 19 = .ok (.lastore, 1) := by decide +kernel
theorem dX12_findMost_20 : decode cX12_findMost 20 = .ok (.iinc 2 1, 3) := by decide +kernel
theorem dX12_findMost_23 : decode cX12_findMost 23 = .ok (.goto (-21), 3) := by decide +kernel
theorem dX12_findMost_26 : decode cX12_findMost 26 = .ok (.iload_n 1, 1) := by decide +kernel
theorem dX12_findMost_27 : decode cX12_findMost 27 = .ok (.iconst 1, 1) := by decide +kernel
theorem dX12_findMost_28 : decode cX12_findMost 28 = .ok (.isub, 1) := by decide +kernel
theorem dX12_findMost_29 : decode cX12_findMost 29 = .ok (.istore_n 2, 1) := by decide +kernel
theorem dX12_findMost_30 : decode cX12_findMost 30 = .ok (.iload_n 2, 1) := by decide +kernel
theorem dX12_findMost_31 : decode cX12_findMost 31 = .ok (.ifCond .lt 130, 3) := by decide +kernel
theorem dX12_findMost_34 : decode cX12_findMost 34 = .ok (.iconst 0, 1) := by decide +kernel
theorem dX12_findMost_35 : decode cX12_findMost 35 = .ok (.istore_n 3, 1) := by decide +kernel
theorem dX12_findMost_36 : decode cX12_findMost 36 = .ok (.iload_n 3, 1) := by decide +kernel
theorem dX12_findMost_37 : decode cX12_findMost 37 = .ok (.bipush 13, 2) := by decide +kernel
theorem dX12_findMost_39 : decode cX12_findMost 39 = .ok (.if_icmp .ge 116, 3) := by decide +kernel
theorem dX12_findMost_42 : decode cX12_findMost 42 = .ok (.ldc2_w 212, 3) := by decide +kernel
theorem dX12_findMost_45 : decode cX12_findMost 45 = .ok (.lstore 4, 2) := by decide +kernel
theorem dX12_findMost_47 : decode cX12_findMost 47 = .ok (.iload_n 3, 1) := by decide +kernel
theorem dX12_findMost_48 : decode cX12_findMost 48 = .ok (.iconst 1, 1) := by decide +kernel
theorem dX12_findMost_49 : decode cX12_findMost 49 = .ok (.isub, 1) := by decide +kernel
theorem dX12_findMost_50 : decode cX12_findMost 50 = .ok (.istore 6, 2) := by decide +kernel
theorem dX12_findMost_52 : decode cX12_findMost 52 = .ok (.iload 6, 2) := by decide +kernel
theorem dX12_findMost_54 : decode cX12_findMost 54 = .ok (.iload_n 3, 1) := by decide +kernel
theorem dX12_findMost_55 : decode cX12_findMost 55 = .ok (.iconst 1, 1) := by decide +kernel
theorem dX12_findMost_56 : decode cX12_findMost 56 = .ok (.iadd, 1) := by decide +kernel
theorem dX12_findMost_57 : decode cX12_findMost 57 = .ok (.if_icmp .gt 79, 3) := by decide +kernel
theorem dX12_findMost_60 : decode cX12_findMost 60 = .ok (.aload_n 0, 1) := by decide +kernel
theorem dX12_findMost_61 : decode cX12_findMost 61 = .ok (.iconst 0, 1) := by decide +kernel
theorem dX12_findMost_62 : decode cX12_findMost 62 = .ok (.iload 6, 2) := by decide +kernel
theorem dX12_findMost_64 : decode cX12_findMost 64 = .ok (.invokevirtual 201, 3) := by decide +kernel
theorem dX12_findMost_67 : decode cX12_findMost 67 = .ok (.ifCond .eq 41, 3) := by decide +kernel
theorem dX12_findMost_70 : decode cX12_findMost 70 = .ok (.aload_n 0, 1) := by decide +kernel
theorem dX12_findMost_71 : decode cX12_findMost 71 = .ok (.aload_n 0, 1) := by decide +kernel
theorem dX12_findMost_72 : decode cX12_findMost 72 = .ok (.getfield 7, 3) := by decide +kernel
theorem dX12_findMost_75 : decode cX12_findMost 75 = .ok (.iconst 3, 1) := by decide +kernel
theorem dX12_findMost_76 : decode cX12_findMost 76 = .ok (.iaload, 1) := by decide +kernel
theorem dX12_findMost_77 : decode cX12_findMost 77 = .ok (.iload_n 2, 1) := by decide +kernel
theorem dX12_findMost_78 : decode cX12_findMost 78 = .ok (.iadd, 1) := by decide +kernel
theorem dX12_findMost_79 : decode cX12_findMost 79 = .ok (.iload 6, 2) := by decide +kernel
theorem dX12_findMost_81 : decode cX12_findMost 81 = .ok (.aload_n 0, 1) := by decide +kernel
theorem dX12_findMost_82 : decode cX12_findMost 82 = .ok (.getfield 45, 3) := by decide +kernel
theorem dX12_findMost_85 : decode cX12_findMost 85 = .ok (.iload_n 2, 1) := by decide +kernel
theorem dX12_findMost_86 : decode cX12_findMost 86 = .ok (.iaload, 1) := by decide +kernel
theorem dX12_findMost_87 : decode cX12_findMost 87 = .ok (.invokevirtual 204, 3) := by decide +kernel
theorem dX12_findMost_90 : decode cX12_findMost 90 = .ok (.aload_n 0, 1) := by decide +kernel
theorem dX12_findMost_91 : decode cX12_findMost 91 = .ok (.getfield 48, 3) := by decide +kernel
theorem dX12_findMost_94 : decode cX12_findMost 94 = .ok (.bipush 13, 2) := by decide +kernel
theorem dX12_findMost_96 : decode cX12_findMost 96 = .ok (.iload_n 2, 1) := by decide +kernel
theorem dX12_findMost_97 : decode cX12_findMost 97 = .ok (.iconst 1, 1) := by decide +kernel
theorem dX12_findMost_98 : decode cX12_findMost 98 = .ok (.iadd, 1) := by decide +kernel
theorem dX12_findMost_99 : decode cX12_findMost 99 = .ok (.imul, 1) := by decide +kernel
theorem dX12_findMost_100 : decode cX12_findMost 100 = .ok (.iload 6, 2) := by decide +kernel
theorem dX12_findMost_102 : decode cX12_findMost 102 = .ok (.iadd, 1) := by decide +kernel
theorem dX12_findMost_103 : decode cX12_findMost 103 = .ok (.laload, 1) := by decide +kernel
theorem dX12_findMost_104 : decode cX12_findMost 104 = .ok (.ladd, 1) := by decide +kernel
theorem dX12_findMost_105 : decode cX12_findMost 105 = .ok (.goto 6, 3) := by decide +kernel
theorem dX12_findMost_108 : decode cX12_findMost 108 = .ok (.ldc2_w 212, 3) := by decide +kernel
theorem dX12_findMost_111 : decode cX12_findMost 111 = .ok (.lstore 7, 2) := by decide +kernel
theorem dX12_findMost_113 : decode cX12_findMost 113 = .ok (.lload 7, 2) := by decide +kernel
theorem dX12_findMost_115 : decode cX12_findMost 115 = .ok (.lload 4, 2) := by decide +kernel
theorem dX12_findMost_117 : decode cX12_findMost 117 = .ok (.lcmp, 1) := by decide +kernel
theorem dX12_findMost_118 : decode cX12_findMost 118 = .ok (.ifCond .le 8, 3) := by decide +kernel
theorem dX12_findMost_121 : decode cX12_findMost 121 = .ok (.lload 7, 2) := by decide +kernel
theorem dX12_findMost_123 : decode cX12_findMost 123 = .ok (.goto 5, 3) := by decide +kernel
theorem dX12_findMost_126 : decode cX12_findMost 126 = .ok (.lload 4, 2) := by decide +kernel
theorem dX12_findMost_128 : decode cX12_findMost 128 = .ok (.lstore 4, 2) := by decide +kernel
theorem dX12_findMost_130 : decode cX12_findMost 130 = .ok (.iinc 6 1, 3) := by decide +kernel
theorem dX12_findMost_133 : decode cX12_findMost 133 = .ok (.goto (-81), 3) := by decide +kernel
theorem dX12_findMost_136 : decode cX12_findMost 136 = .ok (.aload_n 0, 1) := by decide +kernel
theorem dX12_findMost_137 : decode cX12_findMost 137 = .ok (.getfield 48, 3) := by decide +kernel
theorem dX12_findMost_140 : decode cX12_findMost 140 = .ok (.bipush 13, 2) := by decide +kernel
theorem dX12_findMost_142 : decode cX12_findMost 142 = .ok (.iload_n 2, 1) := by decide +kernel
theorem dX12_findMost_143 : decode cX12_findMost 143 = .ok (.imul, 1) := by decide +kernel
theorem dX12_findMost_144 : decode cX12_findMost 144 = .ok (.iload_n 3, 1) := by decide +kernel
theorem dX12_findMost_145 : decode cX12_findMost 145 = .ok (.iadd, 1) := by decide +kernel
theorem dX12_findMost_146 : decode cX12_findMost 146 = .ok (.lload 4, 2) := by decide +kernel
theorem dX12_findMost_148 : decode cX12_findMost 148 = .ok (.lastore, 1) := by decide +kernel
theorem dX12_findMost_149 : decode cX12_findMost 149 = .ok (.iinc 3 1, 3) := by decide +kernel
theorem dX12_findMost_152 : decode cX12_findMost 152 = .ok (.goto (-116), 3) := by decide +kernel
theorem dX12_findMost_155 : decode cX12_findMost 155 = .ok (.iinc 2 (-1), 3) := by decide +kernel
theorem dX12_findMost_158 : decode cX12_findMost 158 = .ok (.goto (-128), 3) := by decide +kernel
theorem dX12_findMost_161 : decode cX12_findMost 161 = .ok (.return_, 1) := by decide +kernel
set_option maxRecDepth 20000 in
theorem ggX12_findMoves_X12_mayBe : GoodIn wsX12_findMoves wsX12_mayBe := goodIn_r _ [9, 10, 11, 8, 12, 13, 14, 15, 16, 1, 36, 37, 38, 39, 40, 41, 42, 43, 44, 45, 46, 47, 48, 49, 50, 51, 52, 53, 54, 55, 56, 57, 58, 59, 60, 61] (by decide +kernel) (by decide +kernel)
set_option maxRecDepth 20000 in
theorem gX12_findMoves_X12_mayBe : GoodIn wsX12_findMoves (wsV RX12 201 RX12 yX12_mayBe wsX12_mayBe) := goodIn_app (goodIn_of _ (by decide +kernel)) ggX12_findMoves_X12_mayBe
set_option maxRecDepth 20000 in
theorem ggX12_findMoves_X12_gets : GoodIn wsX12_findMoves wsX12_gets := goodIn_r _ [20, 1, 21, 22, 23, 8, 24, 25, 26, 27, 28, 29, 30, 31, 32, 33, 34, 35, 36, 37, 38, 39, 40, 41, 42, 43, 44, 45, 46, 47, 48, 49, 50, 51, 52, 53, 54, 55, 56, 57, 58, 59, 60, 61] (by decide +kernel) (by decide +kernel)
set_option maxRecDepth 20000 in
theorem gX12_findMoves_X12_gets : GoodIn wsX12_findMoves (wsV RX12 204 RX12 yX12_gets wsX12_gets) := goodIn_app (goodIn_of _ (by decide +kernel)) ggX12_findMoves_X12_gets
theorem dX12_findMoves_0 : decode cX12_findMoves 0 = .ok (.aload_n 0, 1) := by decide +kernel
theorem dX12_findMoves_1 : decode cX12_findMoves 1 = .ok (.getfield 7, 3) := by decide +kernel
theorem dX12_findMoves_4 : decode cX12_findMoves 4 = .ok (.iconst 1, 1) := by decide +kernel
theorem dX12_findMoves_5 : decode cX12_findMoves 5 = .ok (.iaload, 1) := by decide +kernel
theorem dX12_findMoves_6 : decode cX12_findMoves 6 = .ok (.istore_n 2, 1) := by decide +kernel
theorem dX12_findMoves_7 : decode cX12_findMoves 7 = .ok (.iconst 0, 1) := by decide +kernel
theorem dX12_findMoves_8 : decode cX12_findMoves 8 = .ok (.istore_n 3, 1) := by decide +kernel
theorem dX12_findMoves_9 : decode cX12_findMoves 9 = .ok (.iload_n 3, 1) := by decide +kernel
theorem dX12_findMoves_10 : decode cX12_findMoves 10 = .ok (.iload_n 1, 1) := by decide +kernel
theorem dX12_findMoves_11 : decode cX12_findMoves 11 = .ok (.if_icmp .ge 127, 3) := by decide +kernel
theorem dX12_findMoves_14 : decode cX12_findMoves 14 = .ok (.iconst 2, 1) := by decide +kernel
theorem dX12_findMoves_15 : decode cX12_findMoves 15 = .ok (.istore 4, 2) := by decide +kernel
theorem dX12_findMoves_17 : decode cX12_findMoves 17 = .ok (.iconst 1, 1) := by decide +kernel
theorem dX12_findMoves_18 : decode cX12_findMoves 18 = .ok (.istore 5, 2) := by decide +kernel
theorem dX12_findMoves_20 : decode cX12_findMoves 20 = .ok (.iload 5, 2) := by decide +kernel
theorem dX12_findMoves_22 : decode cX12_findMoves 22 = .ok (.iconst (-1), 1) := by decide +kernel
theorem dX12_findMoves_23 : decode cX12_findMoves 23 = .ok (.if_icmp .lt 96, 3) := by decide +kernel
theorem dX12_findMoves_26 : decode cX12_findMoves 26 = .ok (.aload_n 0, 1) := by decide +kernel
theorem dX12_findMoves_27 : decode cX12_findMoves 27 = .ok (.iconst 0, 1) := by decide +kernel
theorem dX12_findMoves_28 : decode cX12_findMoves 28 = .ok (.iload_n 2, 1) := by decide +kernel
theorem dX12_findMoves_29 : decode cX12_findMoves 29 = .ok (.iload 5, 2) := by decide +kernel
theorem dX12_findMoves_31 : decode cX12_findMoves 31 = .ok (.iadd, 1) := by decide +kernel
theorem dX12_findMoves_32 : decode cX12_findMoves 32 = .ok (.invokevirtual 201, 3) := by decide +kernel
theorem dX12_findMoves_35 : decode cX12_findMoves 35 = .ok (.ifCond .eq 61, 3) := by decide +kernel
theorem dX12_findMoves_38 : decode cX12_findMoves 38 = .ok (.aload_n 0, 1) := by decide +kernel
theorem dX12_findMoves_39 : decode cX12_findMoves 39 = .ok (.aload_n 0, 1) := by decide +kernel
theorem dX12_findMoves_40 : decode cX12_findMoves 40 = .ok (.getfield 7, 3) := by decide +kernel
theorem dX12_findMoves_43 : decode cX12_findMoves 43 = .ok (.iconst 3, 1) := by decide +kernel
theorem dX12_findMoves_44 : decode cX12_findMoves 44 = .ok (.iaload, 1) := by decide +kernel
theorem dX12_findMoves_45 : decode cX12_findMoves 45 = .ok (.iload_n 3, 1) := by decide +kernel
theorem dX12_findMoves_46 : decode cX12_findMoves 46 = .ok (.iadd, 1) := by decide +kernel
theorem dX12_findMoves_47 : decode cX12_findMoves 47 = .ok (.iload_n 2, 1) := by decide +kernel
theorem dX12_findMoves_48 : decode cX12_findMoves 48 = .ok (.iload 5, 2) := by decide +kernel
theorem dX12_findMoves_50 : decode cX12_findMoves 50 = .ok (.iadd, 1) := by decide +kernel
theorem dX12_findMoves_51 : decode cX12_findMoves 51 = .ok (.aload_n 0, 1) := by decide +kernel
theorem dX12_findMoves_52 : decode cX12_findMoves 52 = .ok (.getfield 45, 3) := by decide +kernel
theorem dX12_findMoves_55 : decode cX12_findMoves 55 = .ok (.iload_n 3, 1) := by decide +kernel
theorem dX12_findMoves_56 : decode cX12_findMoves 56 = .ok (.iaload, 1) := by decide +kernel
theorem dX12_findMoves_57 : decode cX12_findMoves 57 = .ok (.invokevirtual 204, 3) := by decide +kernel
theorem dX12_findMoves_60 : decode cX12_findMoves 60 = .ok (.aload_n 0, 1) := by decide +kernel
theorem dX12_findMoves_61 : decode cX12_findMoves 61 = .ok (.getfield 48, 3) := by decide +kernel
theorem dX12_findMoves_64 : decode cX12_findMoves 64 = .ok (.bipush 13, 2) := by decide +kernel
theorem dX12_findMoves_66 : decode cX12_findMoves 66 = .ok (.iload_n 3, 1) := by decide +kernel
theorem dX12_findMoves_67 : decode cX12_findMoves 67 = .ok (.iconst 1, 1) := by decide +kernel
theorem dX12_findMoves_68 : decode cX12_findMoves 68 = .ok (.iadd, 1) := by decide +kernel
theorem dX12_findMoves_69 : decode cX12_findMoves 69 = .ok (.imul, 1) := by decide +kernel
theorem dX12_findMoves_70 : decode cX12_findMoves 70 = .ok (.iload_n 2, 1) := by decide +kernel
theorem dX12_findMoves_71 : decode cX12_findMoves 71 = .ok (.iadd, 1) := by decide +kernel
theorem dX12_findMoves_72 : decode cX12_findMoves 72 = .ok (.iload 5, 2) := by decide +kernel
theorem dX12_findMoves_74 : decode cX12_findMoves 74 = .ok (.iadd, 1) := by decide +kernel
theorem dX12_findMoves_75 : decode cX12_findMoves 75 = .ok (.laload, 1) := by decide +kernel
theorem dX12_findMoves_76 : decode cX12_findMoves 76 = .ok (.ladd, 1) := by decide +kernel
theorem dX12_findMoves_77 : decode cX12_findMoves 77 = .ok (.aload_n 0, 1) := by decide +kernel
theorem dX12_findMoves_78 : decode cX12_findMoves 78 = .ok (.getfield 48, 3) := by decide +kernel
theorem dX12_findMoves_81 : decode cX12_findMoves 81 = .ok (.bipush 13, 2) := by decide +kernel
theorem dX12_findMoves_83 : decode cX12_findMoves 83 = .ok (.iload_n 3, 1) := by decide +kernel
theorem dX12_findMoves_84 : decode cX12_findMoves 84 = .ok (.imul, 1) := by decide +kernel
theorem dX12_findMoves_85 : decode cX12_findMoves 85 = .ok (.iload_n 2, 1) := by decide +kernel
theorem dX12_findMoves_86 : decode cX12_findMoves 86 = .ok (.iadd, 1) := by decide +kernel
theorem dX12_findMoves_87 : decode cX12_findMoves 87 = .ok (.laload, 1) := by decide +kernel
theorem dX12_findMoves_88 : decode cX12_findMoves 88 = .ok (.lcmp, 1) := by decide +kernel
theorem dX12_findMoves_89 : decode cX12_findMoves 89 = .ok (.ifCond .ne 7, 3) := by decide +kernel
theorem dX12_findMoves_92 : decode cX12_findMoves 92 = .ok (.iconst 1, 1) := by decide +kernel
theorem dX12_findMoves_93 : decode cX12_findMoves 93 = .ok (.goto 4, 3) := by decide +kernel
theorem dX12_findMoves_96 : decode cX12_findMoves 96 = .ok (.iconst 0, 1) := by decide +kernel
theorem dX12_findMoves_97 : decode cX12_findMoves 97 = .ok (.istore 6, 2) := by decide +kernel
theorem dX12_findMoves_99 : decode cX12_findMoves 99 = .ok (.iload 6, 2) := by decide +kernel
theorem dX12_findMoves_101 : decode cX12_findMoves 101 = .ok (.ifCond .eq 8, 3) := by decide +kernel
theorem dX12_findMoves_104 : decode cX12_findMoves 104 = .ok (.iload 5, 2) := by decide +kernel
theorem dX12_findMoves_106 : decode cX12_findMoves 106 = .ok (.goto 5, 3) := by decide +kernel
theorem dX12_findMoves_109 : decode cX12_findMoves 109 = .ok (.iload 4, 2) := by decide +kernel
theorem dX12_findMoves_111 : decode cX12_findMoves 111 = .ok (.istore 4, 2) := by decide +kernel
theorem dX12_findMoves_113 : decode cX12_findMoves 113 = .ok (.iinc 5 (-1), 3) := by decide +kernel
theorem dX12_findMoves_116 : decode cX12_findMoves 116 = .ok (.goto (-96), 3) := by decide +kernel
theorem dX12_findMoves_119 : decode cX12_findMoves 119 = .ok (.aload_n 0, 1) := by decide +kernel
theorem dX12_findMoves_120 : decode cX12_findMoves 120 = .ok (.getfield 51, 3) := by decide +kernel
theorem dX12_findMoves_123 : decode cX12_findMoves 123 = .ok (.iload_n 3, 1) := by decide +kernel
theorem dX12_findMoves_124 : decode cX12_findMoves 124 = .ok (.iload 4, 2) := by decide +kernel
theorem dX12_findMoves_126 : decode cX12_findMoves 126 = .ok (.iastore, 1) := by decide +kernel
theorem dX12_findMoves_127 : decode cX12_findMoves 127 = .ok (.iload_n 2, 1) := by decide +kernel
theorem dX12_findMoves_128 : decode cX12_findMoves 128 = .ok (.iload 4, 2) := by decide +kernel
theorem dX12_findMoves_130 : decode cX12_findMoves 130 = .ok (.iadd, 1) := by decide +kernel
theorem dX12_findMoves_131 : decode cX12_findMoves 131 = .ok (.istore_n 2, 1) := by decide +kernel
theorem dX12_findMoves_132 : decode cX12_findMoves 132 = .ok (.iinc 3 1, 3) := by decide +kernel
theorem dX12_findMoves_135 : decode cX12_findMoves 135 = .ok (.goto (-126), 3) := by decide +kernel
theorem dX12_findMoves_138 : decode cX12_findMoves 138 = .ok (.return_, 1) := by decide +kernel
set_option maxRecDepth 20000 in
theorem ggX12_areMoves_X12_in : GoodIn wsX12_areMoves wsX12_in := goodIn_r _ [5] (by decide +kernel) (by decide +kernel)
set_option maxRecDepth 20000 in
theorem gX12_areMoves_X12_in : GoodIn wsX12_areMoves (va_wsS RX12 63 yX12_in wsX12_in) := goodIn_app (goodIn_of _ (by decide +kernel)) ggX12_areMoves_X12_in
theorem dX12_areMoves_0 : decode cX12_areMoves 0 = .ok (.iconst 1, 1) := by decide +kernel
theorem dX12_areMoves_1 : decode cX12_areMoves 1 = .ok (.istore_n 3, 1) := by decide +kernel
theorem dX12_areMoves_2 : decode cX12_areMoves 2 = .ok (.iconst 0, 1) := by decide +kernel
theorem dX12_areMoves_3 : decode cX12_areMoves 3 = .ok (.istore 4, 2) := by decide +kernel
theorem dX12_areMoves_5 : decode cX12_areMoves 5 = .ok (.iload 4, 2) := by decide +kernel
theorem dX12_areMoves_7 : decode cX12_areMoves 7 = .ok (.iload_n 2, 1) := by decide +kernel
theorem dX12_areMoves_8 : decode cX12_areMoves 8 = .ok (.if_icmp .ge 39, 3) := by decide +kernel
theorem dX12_areMoves_11 : decode cX12_areMoves 11 = .ok (.iload_n 3, 1) := by decide +kernel
theorem dX12_areMoves_12 : decode cX12_areMoves 12 = .ok (.ifCond .eq 27, 3) := by decide +kernel
theorem dX12_areMoves_15 : decode cX12_areMoves 15 = .ok (.aload_n 0, 1) := by decide +kernel
theorem dX12_areMoves_16 : decode cX12_areMoves 16 = .ok (.getfield 26, 3) := by decide +kernel
theorem dX12_areMoves_19 : decode cX12_areMoves 19 = .ok (.bipush 40, 2) := by decide +kernel
theorem dX12_areMoves_21 : decode cX12_areMoves 21 = .ok (.iload_n 1, 1) := by decide +kernel
theorem dX12_areMoves_22 : decode cX12_areMoves 22 = .ok (.imul, 1) := by decide +kernel
theorem dX12_areMoves_23 : decode cX12_areMoves 23 = .ok (.iload 4, 2) := by decide +kernel
theorem dX12_areMoves_25 : decode cX12_areMoves 25 = .ok (.iadd, 1) := by decide +kernel
theorem dX12_areMoves_26 : decode cX12_areMoves 26 = .ok (.iaload, 1) := by decide +kernel
theorem dX12_areMoves_27 : decode cX12_areMoves 27 = .ok (.iconst (-1), 1) := by decide +kernel
theorem dX12_areMoves_28 : decode cX12_areMoves 28 = .ok (.iconst 1, 1) := by decide +kernel
theorem dX12_areMoves_29 : decode cX12_areMoves 29 = .ok (.invokestatic 63, 3) := by decide +kernel
theorem dX12_areMoves_32 : decode cX12_areMoves 32 = .ok (.ifCond .eq 7, 3) := by decide +kernel
theorem dX12_areMoves_35 : decode cX12_areMoves 35 = .ok (.iconst 1, 1) := by decide +kernel
theorem dX12_areMoves_36 : decode cX12_areMoves 36 = .ok (.goto 4, 3) := by decide +kernel
theorem dX12_areMoves_39 : decode cX12_areMoves 39 = .ok (.iconst 0, 1) := by decide +kernel
theorem dX12_areMoves_40 : decode cX12_areMoves 40 = .ok (.istore_n 3, 1) := by decide +kernel
theorem dX12_areMoves_41 : decode cX12_areMoves 41 = .ok (.iinc 4 1, 3) := by decide +kernel
theorem dX12_areMoves_44 : decode cX12_areMoves 44 = .ok (.goto (-39), 3) := by decide +kernel
theorem dX12_areMoves_47 : decode cX12_areMoves 47 = .ok (.iload_n 3, 1) := by decide +kernel
theorem dX12_areMoves_48 : decode cX12_areMoves 48 = .ok (.ireturn, 1) := by decide +kernel
set_option maxRecDepth 20000 in
theorem ggX12_best_X12_isGround : GoodIn wsX12_best wsX12_isGround := goodIn_r _ [13, 7, 87, 88, 89, 90, 91, 92, 93, 94, 95, 96, 97, 98, 99, 100, 101, 102, 103, 104, 105, 106, 107, 108, 109, 110, 111, 112] (by decide +kernel) (by decide +kernel)
set_option maxRecDepth 20000 in
theorem gX12_best_X12_isGround : GoodIn wsX12_best (wsV RX12 196 RX12 yX12_isGround wsX12_isGround) := goodIn_app (goodIn_of _ (by decide +kernel)) ggX12_best_X12_isGround
set_option maxRecDepth 20000 in
theorem ggX12_best_X12_isRow : GoodIn wsX12_best wsX12_isRow := goodIn_r _ [16, 17, 18, 12, 19] (by decide +kernel) (by decide +kernel)
set_option maxRecDepth 20000 in
theorem gX12_best_X12_isRow : GoodIn wsX12_best (va_wsS RX12 67 yX12_isRow wsX12_isRow) := goodIn_app (goodIn_of _ (by decide +kernel)) ggX12_best_X12_isRow
set_option maxRecDepth 20000 in
theorem ggX12_best_X12_in : GoodIn wsX12_best wsX12_in := goodIn_r _ [19] (by decide +kernel) (by decide +kernel)
set_option maxRecDepth 20000 in
theorem gX12_best_X12_in : GoodIn wsX12_best (va_wsS RX12 63 yX12_in wsX12_in) := goodIn_app (goodIn_of _ (by decide +kernel)) ggX12_best_X12_in
set_option maxRecDepth 20000 in
theorem ggX12_best_X12_found : GoodIn wsX12_best wsX12_found := goodIn_r _ [23, 24, 25, 87, 88, 89, 90, 91, 92, 93, 94, 95, 96, 97, 98, 99, 100, 101, 102, 103, 104, 105, 106, 107, 108, 109, 110, 111, 112] (by decide +kernel) (by decide +kernel)
set_option maxRecDepth 20000 in
theorem gX12_best_X12_found : GoodIn wsX12_best (wsV RX12 72 RX12 yX12_found wsX12_found) := goodIn_app (goodIn_of _ (by decide +kernel)) ggX12_best_X12_found
set_option maxRecDepth 20000 in
theorem ggX12_best_X12_areMoves : GoodIn wsX12_best wsX12_areMoves := goodIn_r _ [29, 30, 17, 18, 12, 19, 87, 88, 89, 90, 91, 92, 93, 94, 95, 96, 97, 98, 99, 100, 101, 102, 103, 104, 105, 106, 107, 108, 109, 110, 111, 112] (by decide +kernel) (by decide +kernel)
set_option maxRecDepth 20000 in
theorem gX12_best_X12_areMoves : GoodIn wsX12_best (wsV RX12 214 RX12 yX12_areMoves wsX12_areMoves) := goodIn_app (goodIn_of _ (by decide +kernel)) ggX12_best_X12_areMoves
set_option maxRecDepth 20000 in
theorem ggX12_best_X12_daysOf : GoodIn wsX12_best wsX12_daysOf := goodIn_r _ [34, 7, 87, 88, 89, 90, 91, 92, 93, 94, 95, 96, 97, 98, 99, 100, 101, 102, 103, 104, 105, 106, 107, 108, 109, 110, 111, 112] (by decide +kernel) (by decide +kernel)
set_option maxRecDepth 20000 in
theorem gX12_best_X12_daysOf : GoodIn wsX12_best (wsV RX12 217 RX12 yX12_daysOf wsX12_daysOf) := goodIn_app (goodIn_of _ (by decide +kernel)) ggX12_best_X12_daysOf
set_option maxRecDepth 20000 in
theorem ggX12_best_X12_findEnds : GoodIn wsX12_best wsX12_findEnds := goodIn_r _ [38, 7, 30, 39, 40, 41, 42, 12, 43, 17, 18, 19, 44, 45, 46, 47, 87, 88, 89, 90, 91, 92, 93, 94, 95, 96, 97, 98, 99, 100, 101, 102, 103, 104, 105, 106, 107, 108, 109, 110, 111, 112] (by decide +kernel) (by decide +kernel)
set_option maxRecDepth 20000 in
theorem gX12_best_X12_findEnds : GoodIn wsX12_best (wsV RX12 220 RX12 yX12_findEnds wsX12_findEnds) := goodIn_app (goodIn_of _ (by decide +kernel)) ggX12_best_X12_findEnds
set_option maxRecDepth 20000 in
theorem ggX12_best_X12_findMost : GoodIn wsX12_best wsX12_findMost := goodIn_r _ [51, 6, 52, 7, 39, 40, 41, 42, 12, 43, 17, 18, 19, 44, 45, 46, 47, 53, 54, 55, 56, 57, 58, 59, 60, 61, 62, 63, 64, 65, 66, 67, 68, 69, 70, 71, 87, 88, 89, 90, 91, 92, 93, 94, 95, 96, 97, 98, 99, 100, 101, 102, 103, 104, 105, 106, 107, 108, 109, 110, 111, 112] (by decide +kernel) (by decide +kernel)
set_option maxRecDepth 20000 in
theorem gX12_best_X12_findMost : GoodIn wsX12_best (wsV RX12 224 RX12 yX12_findMost wsX12_findMost) := goodIn_app (goodIn_of _ (by decide +kernel)) ggX12_best_X12_findMost
set_option maxRecDepth 20000 in
theorem ggX12_best_X12_findMoves : GoodIn wsX12_best wsX12_findMoves := goodIn_r _ [75, 7, 39, 6, 8, 40, 41, 42, 12, 43, 17, 18, 19, 44, 45, 46, 47, 53, 54, 55, 56, 57, 58, 59, 60, 61, 62, 63, 64, 65, 66, 67, 68, 69, 70, 71, 87, 88, 89, 90, 91, 92, 93, 94, 95, 96, 97, 98, 99, 100, 101, 102, 103, 104, 105, 106, 107, 108, 109, 110, 111, 112] (by decide +kernel) (by decide +kernel)
set_option maxRecDepth 20000 in
theorem gX12_best_X12_findMoves : GoodIn wsX12_best (wsV RX12 228 RX12 yX12_findMoves wsX12_findMoves) := goodIn_app (goodIn_of _ (by decide +kernel)) ggX12_best_X12_findMoves
set_option maxRecDepth 20000 in
theorem ggX12_best_X12_told : GoodIn wsX12_best wsX12_told := goodIn_r _ [78, 79, 80, 81, 12, 82] (by decide +kernel) (by decide +kernel)
set_option maxRecDepth 20000 in
theorem gX12_best_X12_told : GoodIn wsX12_best (va_wsS RX12 188 yX12_told wsX12_told) := goodIn_app (goodIn_of _ (by decide +kernel)) ggX12_best_X12_told
