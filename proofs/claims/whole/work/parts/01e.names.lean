theorem dX8_init_25 : decode cX8_init 25 = .ok (.putfield 18, 3) := by decide +kernel
theorem dX8_init_28 : decode cX8_init 28 = .ok (.aload_n 0, 1) := by decide +kernel
theorem dX8_init_29 : decode cX8_init 29 = .ok (.sipush 169, 3) := by decide +kernel
theorem dX8_init_32 : decode cX8_init 32 = .ok (.newarray .int, 2) := by decide +kernel
theorem dX8_init_34 : decode cX8_init 34 = .ok (.putfield 22, 3) := by decide +kernel
theorem dX8_init_37 : decode cX8_init 37 = .ok (.aload_n 0, 1) := by decide +kernel
theorem dX8_init_38 : decode cX8_init 38 = .ok (.sipush 169, 3) := by decide +kernel
theorem dX8_init_41 : decode cX8_init 41 = .ok (.newarray .int, 2) := by decide +kernel
theorem dX8_init_43 : decode cX8_init 43 = .ok (.putfield 25, 3) := by decide +kernel
theorem dX8_init_46 : decode cX8_init 46 = .ok (.aload_n 0, 1) := by decide +kernel
theorem dX8_init_47 : decode cX8_init 47 = .ok (.sipush 169, 3) := by decide +kernel
theorem dX8_init_50 : decode cX8_init 50 = .ok (.newarray .int, 2) := by decide +kernel
theorem dX8_init_52 : decode cX8_init 52 = .ok (.putfield 28, 3) := by decide +kernel
theorem dX8_init_55 : decode cX8_init 55 = .ok (.aload_n 0, 1) := by decide +kernel
theorem dX8_init_56 : decode cX8_init 56 = .ok (.bipush 12, 2) := by decide +kernel
theorem dX8_init_58 : decode cX8_init 58 = .ok (.newarray .int, 2) := by decide +kernel
theorem dX8_init_60 : decode cX8_init 60 = .ok (.putfield 31, 3) := by decide +kernel
theorem dX8_init_63 : decode cX8_init 63 = .ok (.aload_n 0, 1) := by decide +kernel
theorem dX8_init_64 : decode cX8_init 64 = .ok (.sipush 156, 3) := by decide +kernel
theorem dX8_init_67 : decode cX8_init 67 = .ok (.newarray .int, 2) := by decide +kernel
theorem dX8_init_69 : decode cX8_init 69 = .ok (.putfield 34, 3) := by decide +kernel
theorem dX8_init_72 : decode cX8_init 72 = .ok (.aload_n 0, 1) := by decide +kernel
theorem dX8_init_73 : decode cX8_init 73 = .ok (.bipush 12, 2) := by decide +kernel
theorem dX8_init_75 : decode cX8_init 75 = .ok (.newarray .int, 2) := by decide +kernel
theorem dX8_init_77 : decode cX8_init 77 = .ok (.putfield 37, 3) := by decide +kernel
theorem dX8_init_80 : decode cX8_init 80 = .ok (.return_, 1) := by decide +kernel
set_option maxRecDepth 20000 in
theorem ggX8_gather_X4_toldStrip : GoodIn wsX8_gather wsX4_toldStrip := goodIn_r _ [8, 9, 10, 80, 81, 82, 83, 84, 85, 86, 87, 88, 89, 90] (by decide +kernel) (by decide +kernel)
set_option maxRecDepth 20000 in
theorem gX8_gather_X4_toldStrip_n49 : GoodIn wsX8_gather (wsX4_toldStrip) := ggX8_gather_X4_toldStrip
set_option maxRecDepth 20000 in
theorem ggX8_gather_X1_cropOn : GoodIn wsX8_gather wsX1_cropOn := goodIn_r _ [16, 17, 18, 19, 20, 91, 92, 93, 94, 95, 96, 97, 98, 99, 100, 101, 102, 103, 104, 105] (by decide +kernel) (by decide +kernel)
set_option maxRecDepth 20000 in
theorem gX8_gather_X1_cropOn_u53X0 : GoodIn wsX8_gather (va_wsU RX8 53 RX0 "FenceYards$Strip" ⟨"FenceYards$Strip", "cropOn", "(I)I"⟩ yX1_cropOn wsX1_cropOn) := goodIn_app (goodIn_of _ (by decide +kernel)) ggX8_gather_X1_cropOn
set_option maxRecDepth 20000 in
theorem gX8_gather_X1_cropOn_u53X1 : GoodIn wsX8_gather (va_wsU RX8 53 RX1 "FenceYards$Strip" ⟨"FenceYards$Strip", "cropOn", "(I)I"⟩ yX1_cropOn wsX1_cropOn) := goodIn_app (goodIn_of _ (by decide +kernel)) ggX8_gather_X1_cropOn
set_option maxRecDepth 20000 in
theorem ggX8_gather_X2_cropOn : GoodIn wsX8_gather wsX2_cropOn := goodIn_r _ [25, 26, 27, 28, 29, 91, 92, 93, 94, 95, 96, 97, 98, 99, 100, 101, 102, 103, 104, 105] (by decide +kernel) (by decide +kernel)
set_option maxRecDepth 20000 in
theorem gX8_gather_X2_cropOn_u53X2 : GoodIn wsX8_gather (va_wsU RX8 53 RX2 "FenceYards$Strip" ⟨"FenceYards$Strip", "cropOn", "(I)I"⟩ yX2_cropOn wsX2_cropOn) := goodIn_app (goodIn_of _ (by decide +kernel)) ggX8_gather_X2_cropOn
set_option maxRecDepth 20000 in
theorem ggX8_gather_X3_cropOn : GoodIn wsX8_gather wsX3_cropOn := goodIn_r _ [33, 34, 35, 36, 37, 91, 92, 93, 94, 95, 96, 97, 98, 99, 100, 101, 102, 103, 104, 105] (by decide +kernel) (by decide +kernel)
set_option maxRecDepth 20000 in
theorem gX8_gather_X3_cropOn_u53X3 : GoodIn wsX8_gather (va_wsU RX8 53 RX3 "FenceYards$Strip" ⟨"FenceYards$Strip", "cropOn", "(I)I"⟩ yX3_cropOn wsX3_cropOn) := goodIn_app (goodIn_of _ (by decide +kernel)) ggX8_gather_X3_cropOn
set_option maxRecDepth 20000 in
theorem ggX8_gather_X7_cropOn : GoodIn wsX8_gather wsX7_cropOn := goodIn_r _ [41, 42, 43, 44, 45, 46, 47, 48, 49, 91, 92, 93, 94, 95, 96, 97, 98, 99, 100, 101, 102, 103, 104, 105] (by decide +kernel) (by decide +kernel)
set_option maxRecDepth 20000 in
theorem gX8_gather_X7_cropOn_u53X7 : GoodIn wsX8_gather (va_wsU RX8 53 RX7 "FenceYards$Strip" ⟨"FenceYards$Strip", "cropOn", "(I)I"⟩ yX7_cropOn wsX7_cropOn) := goodIn_app (goodIn_of _ (by decide +kernel)) ggX8_gather_X7_cropOn
set_option maxRecDepth 20000 in
theorem ggX8_gather_X0_fallsWhole : GoodIn wsX8_gather wsX0_fallsWhole := goodIn_r _ [56] (by decide +kernel) (by decide +kernel)
set_option maxRecDepth 20000 in
theorem gX8_gather_X0_fallsWhole_u59X0 : GoodIn wsX8_gather (va_wsO RX8 59 RX0 "FenceYards$Strip" ⟨"FenceYards$Strip", "fallsWhole", "()Z"⟩ yX0_fallsWhole wsX0_fallsWhole) := goodIn_app (goodIn_of _ (by decide +kernel)) ggX8_gather_X0_fallsWhole
set_option maxRecDepth 20000 in
theorem ggX8_gather_X9_fallsWhole : GoodIn wsX8_gather wsX9_fallsWhole := goodIn_r _ [57] (by decide +kernel) (by decide +kernel)
set_option maxRecDepth 20000 in
theorem gX8_gather_X9_fallsWhole_u59X1 : GoodIn wsX8_gather (va_wsU RX8 59 RX1 "FenceYards$Strip" ⟨"FenceYards$Strip", "fallsWhole", "()Z"⟩ yX9_fallsWhole wsX9_fallsWhole) := goodIn_app (goodIn_of _ (by decide +kernel)) ggX8_gather_X9_fallsWhole
set_option maxRecDepth 20000 in
theorem gX8_gather_X9_fallsWhole_u59X2 : GoodIn wsX8_gather (va_wsU RX8 59 RX2 "FenceYards$Strip" ⟨"FenceYards$Strip", "fallsWhole", "()Z"⟩ yX9_fallsWhole wsX9_fallsWhole) := goodIn_app (goodIn_of _ (by decide +kernel)) ggX8_gather_X9_fallsWhole
set_option maxRecDepth 20000 in
theorem gX8_gather_X9_fallsWhole_u59X3 : GoodIn wsX8_gather (va_wsU RX8 59 RX3 "FenceYards$Strip" ⟨"FenceYards$Strip", "fallsWhole", "()Z"⟩ yX9_fallsWhole wsX9_fallsWhole) := goodIn_app (goodIn_of _ (by decide +kernel)) ggX8_gather_X9_fallsWhole
set_option maxRecDepth 20000 in
theorem gX8_gather_X9_fallsWhole_u59X7 : GoodIn wsX8_gather (va_wsU RX8 59 RX7 "FenceYards$Strip" ⟨"FenceYards$Strip", "fallsWhole", "()Z"⟩ yX9_fallsWhole wsX9_fallsWhole) := goodIn_app (goodIn_of _ (by decide +kernel)) ggX8_gather_X9_fallsWhole
theorem dX8_gather_0 : decode cX8_gather 0 = .ok (.aload_n 0, 1) := by decide +kernel
theorem dX8_gather_1 : decode cX8_gather 1 = .ok (.iconst 0, 1) := by decide +kernel
theorem dX8_gather_2 : decode cX8_gather 2 = .ok (.putfield 40, 3) := by decide +kernel
theorem dX8_gather_5 : decode cX8_gather 5 = .ok (.iconst 0, 1) := by decide +kernel
theorem dX8_gather_6 : decode cX8_gather 6 = .ok (.istore_n 3, 1) := by decide +kernel
theorem dX8_gather_7 : decode cX8_gather 7 = .ok (.iload_n 3, 1) := by decide +kernel
theorem dX8_gather_8 : decode cX8_gather 8 = .ok (.aload_n 1, 1) := by decide +kernel
theorem dX8_gather_9 : decode cX8_gather 9 = .ok (.getfield 44, 3) := by decide +kernel
theorem dX8_gather_12 : decode cX8_gather 12 = .ok (.if_icmp .ge 94, 3) := by decide +kernel
theorem dX8_gather_15 : decode cX8_gather 15 = .ok (.iload_n 3, 1) := by decide +kernel
theorem dX8_gather_16 : decode cX8_gather 16 = .ok (.bipush 12, 2) := by decide +kernel
theorem dX8_gather_18 : decode cX8_gather 18 = .ok (.if_icmp .ge 88, 3) := by decide +kernel
theorem dX8_gather_21 : decode cX8_gather 21 = .ok (.aload_n 1, 1) := by decide +kernel
theorem dX8_gather_22 : decode cX8_gather 22 = .ok (.iload_n 3, 1) := by decide +kernel
theorem dX8_gather_23 : decode cX8_gather 23 = .ok (.invokevirtual 49, 3) := by decide +kernel
theorem dX8_gather_26 : decode cX8_gather 26 = .ok (.astore 4, 2) := by decide +kernel
theorem dX8_gather_28 : decode cX8_gather 28 = .ok (.aload 4, 2) := by decide +kernel
theorem dX8_gather_30 : decode cX8_gather 30 = .ok (.ifnonnull 7, 3) := by decide +kernel
theorem dX8_gather_33 : decode cX8_gather 33 = .ok (.iconst 0, 1) := by decide +kernel
theorem dX8_gather_34 : decode cX8_gather 34 = .ok (.goto 9, 3) := by decide +kernel
theorem dX8_gather_37 : decode cX8_gather 37 = .ok (.aload 4, 2) := by decide +kernel
theorem dX8_gather_39 : decode cX8_gather 39 = .ok (.iload_n 2, 1) := by decide +kernel
theorem dX8_gather_40 : decode cX8_gather 40 = .ok (.invokevirtual 53, 3) := by decide +kernel
theorem dX8_gather_43 : decode cX8_gather 43 = .ok (.istore 5, 2) := by decide +kernel
theorem dX8_gather_45 : decode cX8_gather 45 = .ok (.aload 4, 2) := by decide +kernel
theorem dX8_gather_47 : decode cX8_gather 47 = .ok (.ifnull 53, 3) := by decide +kernel
theorem dX8_gather_50 : decode cX8_gather 50 = .ok (.iload 5, 2) := by decide +kernel
theorem dX8_gather_52 : decode cX8_gather 52 = .ok (.ifCond .le 48, 3) := by decide +kernel
theorem dX8_gather_55 : decode cX8_gather 55 = .ok (.aload_n 0, 1) := by decide +kernel
theorem dX8_gather_56 : decode cX8_gather 56 = .ok (.getfield 9, 3) := by decide +kernel
theorem dX8_gather_59 : decode cX8_gather 59 = .ok (.aload_n 0, 1) := by decide +kernel
theorem dX8_gather_60 : decode cX8_gather 60 = .ok (.getfield 40, 3) := by decide +kernel
theorem dX8_gather_63 : decode cX8_gather 63 = .ok (.iload_n 3, 1) := by decide +kernel
theorem dX8_gather_64 : decode cX8_gather 64 = .ok (.iastore, 1) := by decide +kernel
theorem dX8_gather_65 : decode cX8_gather 65 = .ok (.aload_n 0, 1) := by decide +kernel
theorem dX8_gather_66 : decode cX8_gather 66 = .ok (.getfield 15, 3) := by decide +kernel
theorem dX8_gather_69 : decode cX8_gather 69 = .ok (.aload_n 0, 1) := by decide +kernel
theorem dX8_gather_70 : decode cX8_gather 70 = .ok (.getfield 40, 3) := by decide +kernel
theorem dX8_gather_73 : decode cX8_gather 73 = .ok (.iload 5, 2) := by decide +kernel
theorem dX8_gather_75 : decode cX8_gather 75 = .ok (.iastore, 1) := by decide +kernel
theorem dX8_gather_76 : decode cX8_gather 76 = .ok (.aload_n 0, 1) := by decide +kernel
theorem dX8_gather_77 : decode cX8_gather 77 = .ok (.getfield 18, 3) := by decide +kernel
theorem dX8_gather_80 : decode cX8_gather 80 = .ok (.aload_n 0, 1) := by decide +kernel
theorem dX8_gather_81 : decode cX8_gather 81 = .ok (.getfield 40, 3) := by decide +kernel
theorem dX8_gather_84 : decode cX8_gather 84 = .ok (.aload 4, 2) := by decide +kernel
theorem dX8_gather_86 : decode cX8_gather 86 = .ok (.invokevirtual 59, 3) := by decide +kernel
theorem dX8_gather_89 : decode cX8_gather 89 = .ok (.bastore, 1) := by decide +kernel
theorem dX8_gather_90 : decode cX8_gather 90 = .ok (.aload_n 0, 1) := by decide +kernel
theorem dX8_gather_91 : decode cX8_gather 91 = .ok (.dup, 1) := by decide +kernel
theorem dX8_gather_92 : decode cX8_gather 92 = .ok (.getfield 40, 3) := by decide +kernel
theorem dX8_gather_95 : decode cX8_gather 95 = .ok (.iconst 1, 1) := by decide +kernel
theorem dX8_gather_96 : decode cX8_gather 96 = .ok (.iadd, 1) := by decide +kernel
theorem dX8_gather_97 : decode cX8_gather 97 = .ok (.putfield 40, 3) := by decide +kernel
theorem dX8_gather_100 : decode cX8_gather 100 = .ok (.iinc 3 1, 3) := by decide +kernel
theorem dX8_gather_103 : decode cX8_gather 103 = .ok (.goto (-96), 3) := by decide +kernel
theorem dX8_gather_106 : decode cX8_gather 106 = .ok (.return_, 1) := by decide +kernel
set_option maxRecDepth 20000 in
theorem ggX8_leftReaps_X11_shareOf : GoodIn wsX8_leftReaps wsX11_shareOf := goodIn_r _ [8, 9, 10, 11, 12, 13, 14, 15, 16, 17] (by decide +kernel) (by decide +kernel)
set_option maxRecDepth 20000 in
theorem gX8_leftReaps_X11_shareOf_n62 : GoodIn wsX8_leftReaps (wsX11_shareOf) := ggX8_leftReaps_X11_shareOf
theorem dX8_leftReaps_0 : decode cX8_leftReaps 0 = .ok (.iconst 0, 1) := by decide +kernel
theorem dX8_leftReaps_1 : decode cX8_leftReaps 1 = .ok (.istore_n 3, 1) := by decide +kernel
theorem dX8_leftReaps_2 : decode cX8_leftReaps 2 = .ok (.iconst 0, 1) := by decide +kernel
theorem dX8_leftReaps_3 : decode cX8_leftReaps 3 = .ok (.istore 4, 2) := by decide +kernel
theorem dX8_leftReaps_5 : decode cX8_leftReaps 5 = .ok (.iload 4, 2) := by decide +kernel
theorem dX8_leftReaps_7 : decode cX8_leftReaps 7 = .ok (.aload_n 0, 1) := by decide +kernel
theorem dX8_leftReaps_8 : decode cX8_leftReaps 8 = .ok (.getfield 40, 3) := by decide +kernel
theorem dX8_leftReaps_11 : decode cX8_leftReaps 11 = .ok (.if_icmp .ge 63, 3) := by decide +kernel
theorem dX8_leftReaps_14 : decode cX8_leftReaps 14 = .ok (.iload_n 1, 1) := by decide +kernel
theorem dX8_leftReaps_15 : decode cX8_leftReaps 15 = .ok (.iload_n 2, 1) := by decide +kernel
theorem dX8_leftReaps_16 : decode cX8_leftReaps 16 = .ok (.aload_n 0, 1) := by decide +kernel
theorem dX8_leftReaps_17 : decode cX8_leftReaps 17 = .ok (.getfield 9, 3) := by decide +kernel
theorem dX8_leftReaps_20 : decode cX8_leftReaps 20 = .ok (.iload 4, 2) := by decide +kernel
theorem dX8_leftReaps_22 : decode cX8_leftReaps 22 = .ok (.iaload, 1) := by decide +kernel
theorem dX8_leftReaps_23 : decode cX8_leftReaps 23 = .ok (.invokestatic 62, 3) := by decide +kernel
theorem dX8_leftReaps_26 : decode cX8_leftReaps 26 = .ok (.istore 5, 2) := by decide +kernel
theorem dX8_leftReaps_28 : decode cX8_leftReaps 28 = .ok (.aload_n 0, 1) := by decide +kernel
theorem dX8_leftReaps_29 : decode cX8_leftReaps 29 = .ok (.getfield 18, 3) := by decide +kernel
theorem dX8_leftReaps_32 : decode cX8_leftReaps 32 = .ok (.iload 4, 2) := by decide +kernel
theorem dX8_leftReaps_34 : decode cX8_leftReaps 34 = .ok (.baload, 1) := by decide +kernel
theorem dX8_leftReaps_35 : decode cX8_leftReaps 35 = .ok (.ifCond .eq 20, 3) := by decide +kernel
theorem dX8_leftReaps_38 : decode cX8_leftReaps 38 = .ok (.iconst 2, 1) := by decide +kernel
theorem dX8_leftReaps_39 : decode cX8_leftReaps 39 = .ok (.iload 5, 2) := by decide +kernel
theorem dX8_leftReaps_41 : decode cX8_leftReaps 41 = .ok (.imul, 1) := by decide +kernel
theorem dX8_leftReaps_42 : decode cX8_leftReaps 42 = .ok (.ldc 66, 2) := by decide +kernel
theorem dX8_leftReaps_44 : decode cX8_leftReaps 44 = .ok (.if_icmp .le 8, 3) := by decide +kernel
theorem dX8_leftReaps_47 : decode cX8_leftReaps 47 = .ok (.ldc 66, 2) := by decide +kernel
theorem dX8_leftReaps_49 : decode cX8_leftReaps 49 = .ok (.goto 4, 3) := by decide +kernel
theorem dX8_leftReaps_52 : decode cX8_leftReaps 52 = .ok (.iconst 0, 1) := by decide +kernel
theorem dX8_leftReaps_53 : decode cX8_leftReaps 53 = .ok (.istore 5, 2) := by decide +kernel
theorem dX8_leftReaps_55 : decode cX8_leftReaps 55 = .ok (.iload_n 3, 1) := by decide +kernel
theorem dX8_leftReaps_56 : decode cX8_leftReaps 56 = .ok (.aload_n 0, 1) := by decide +kernel
theorem dX8_leftReaps_57 : decode cX8_leftReaps 57 = .ok (.getfield 15, 3) := by decide +kernel
theorem dX8_leftReaps_60 : decode cX8_leftReaps 60 = .ok (.iload 4, 2) := by decide +kernel
theorem dX8_leftReaps_62 : decode cX8_leftReaps 62 = .ok (.iaload, 1) := by decide +kernel
theorem dX8_leftReaps_63 : decode cX8_leftReaps 63 = .ok (.iload 5, 2) := by decide +kernel
theorem dX8_leftReaps_65 : decode cX8_leftReaps 65 = .ok (.imul, 1) := by decide +kernel
theorem dX8_leftReaps_66 : decode cX8_leftReaps 66 = .ok (.iadd, 1) := by decide +kernel
theorem dX8_leftReaps_67 : decode cX8_leftReaps 67 = .ok (.istore_n 3, 1) := by decide +kernel
theorem dX8_leftReaps_68 : decode cX8_leftReaps 68 = .ok (.iinc 4 1, 3) := by decide +kernel
theorem dX8_leftReaps_71 : decode cX8_leftReaps 71 = .ok (.goto (-66), 3) := by decide +kernel
theorem dX8_leftReaps_74 : decode cX8_leftReaps 74 = .ok (.iload_n 3, 1) := by decide +kernel
theorem dX8_leftReaps_75 : decode cX8_leftReaps 75 = .ok (.ireturn, 1) := by decide +kernel
theorem dX8_allReaps_0 : decode cX8_allReaps 0 = .ok (.iconst 0, 1) := by decide +kernel
theorem dX8_allReaps_1 : decode cX8_allReaps 1 = .ok (.istore_n 1, 1) := by decide +kernel
theorem dX8_allReaps_2 : decode cX8_allReaps 2 = .ok (.iconst 0, 1) := by decide +kernel
theorem dX8_allReaps_3 : decode cX8_allReaps 3 = .ok (.istore_n 2, 1) := by decide +kernel
theorem dX8_allReaps_4 : decode cX8_allReaps 4 = .ok (.iload_n 2, 1) := by decide +kernel
theorem dX8_allReaps_5 : decode cX8_allReaps 5 = .ok (.aload_n 0, 1) := by decide +kernel
theorem dX8_allReaps_6 : decode cX8_allReaps 6 = .ok (.getfield 40, 3) := by decide +kernel
theorem dX8_allReaps_9 : decode cX8_allReaps 9 = .ok (.if_icmp .ge 21, 3) := by decide +kernel
theorem dX8_allReaps_12 : decode cX8_allReaps 12 = .ok (.iload_n 1, 1) := by decide +kernel
theorem dX8_allReaps_13 : decode cX8_allReaps 13 = .ok (.aload_n 0, 1) := by decide +kernel
theorem dX8_allReaps_14 : decode cX8_allReaps 14 = .ok (.getfield 15, 3) := by decide +kernel
theorem dX8_allReaps_17 : decode cX8_allReaps 17 = .ok (.iload_n 2, 1) := by decide +kernel
theorem dX8_allReaps_18 : decode cX8_allReaps 18 = .ok (.iaload, 1) := by decide +kernel
theorem dX8_allReaps_19 : decode cX8_allReaps 19 = .ok (.ldc 66, 2) := by decide +kernel
theorem dX8_allReaps_21 : decode cX8_allReaps 21 = .ok (.imul, 1) := by decide +kernel
theorem dX8_allReaps_22 : decode cX8_allReaps 22 = .ok (.iadd, 1) := by decide +kernel
theorem dX8_allReaps_23 : decode cX8_allReaps 23 = .ok (.istore_n 1, 1) := by decide +kernel
theorem dX8_allReaps_24 : decode cX8_allReaps 24 = .ok (.iinc 2 1, 3) := by decide +kernel
theorem dX8_allReaps_27 : decode cX8_allReaps 27 = .ok (.goto (-23), 3) := by decide +kernel
theorem dX8_allReaps_30 : decode cX8_allReaps 30 = .ok (.iload_n 1, 1) := by decide +kernel
theorem dX8_allReaps_31 : decode cX8_allReaps 31 = .ok (.ireturn, 1) := by decide +kernel
set_option maxRecDepth 20000 in
theorem ggX8_findReach_X4_lowestOn : GoodIn wsX8_findReach wsX4_lowestOn := goodIn_r _ [8, 9, 10, 11, 6, 12, 13, 14, 15, 16, 17, 18, 19, 20, 21, 41, 42, 43, 44, 45, 46, 47, 48, 49, 50, 51] (by decide +kernel) (by decide +kernel)
set_option maxRecDepth 20000 in
theorem gX8_findReach_X4_lowestOn_n67 : GoodIn wsX8_findReach (wsX4_lowestOn) := ggX8_findReach_X4_lowestOn
set_option maxRecDepth 20000 in
theorem ggX8_findReach_X4_highestOn : GoodIn wsX8_findReach wsX4_highestOn := goodIn_r _ [24, 9, 10, 11, 6, 12, 13, 14, 15, 16, 17, 18, 19, 20, 21, 41, 42, 43, 44, 45, 46, 47, 48, 49, 50, 51] (by decide +kernel) (by decide +kernel)
set_option maxRecDepth 20000 in
theorem gX8_findReach_X4_highestOn_n74 : GoodIn wsX8_findReach (wsX4_highestOn) := ggX8_findReach_X4_highestOn
theorem dX8_findReach_0 : decode cX8_findReach 0 = .ok (.aload_n 0, 1) := by decide +kernel
theorem dX8_findReach_1 : decode cX8_findReach 1 = .ok (.aload_n 1, 1) := by decide +kernel
theorem dX8_findReach_2 : decode cX8_findReach 2 = .ok (.iconst 0, 1) := by decide +kernel
theorem dX8_findReach_3 : decode cX8_findReach 3 = .ok (.iload_n 2, 1) := by decide +kernel
theorem dX8_findReach_4 : decode cX8_findReach 4 = .ok (.invokevirtual 67, 3) := by decide +kernel
theorem dX8_findReach_7 : decode cX8_findReach 7 = .ok (.putfield 71, 3) := by decide +kernel
theorem dX8_findReach_10 : decode cX8_findReach 10 = .ok (.aload_n 0, 1) := by decide +kernel
theorem dX8_findReach_11 : decode cX8_findReach 11 = .ok (.aload_n 1, 1) := by decide +kernel
theorem dX8_findReach_12 : decode cX8_findReach 12 = .ok (.iconst 0, 1) := by decide +kernel
theorem dX8_findReach_13 : decode cX8_findReach 13 = .ok (.iload_n 2, 1) := by decide +kernel
theorem dX8_findReach_14 : decode cX8_findReach 14 = .ok (.invokevirtual 74, 3) := by decide +kernel
theorem dX8_findReach_17 : decode cX8_findReach 17 = .ok (.putfield 77, 3) := by decide +kernel
theorem dX8_findReach_20 : decode cX8_findReach 20 = .ok (.aload_n 0, 1) := by decide +kernel
theorem dX8_findReach_21 : decode cX8_findReach 21 = .ok (.aload_n 1, 1) := by decide +kernel
theorem dX8_findReach_22 : decode cX8_findReach 22 = .ok (.iconst 1, 1) := by decide +kernel
theorem dX8_findReach_23 : decode cX8_findReach 23 = .ok (.iload_n 2, 1) := by decide +kernel
theorem dX8_findReach_24 : decode cX8_findReach 24 = .ok (.invokevirtual 67, 3) := by decide +kernel
theorem dX8_findReach_27 : decode cX8_findReach 27 = .ok (.putfield 80, 3) := by decide +kernel
theorem dX8_findReach_30 : decode cX8_findReach 30 = .ok (.aload_n 0, 1) := by decide +kernel
theorem dX8_findReach_31 : decode cX8_findReach 31 = .ok (.aload_n 1, 1) := by decide +kernel
theorem dX8_findReach_32 : decode cX8_findReach 32 = .ok (.iconst 1, 1) := by decide +kernel
theorem dX8_findReach_33 : decode cX8_findReach 33 = .ok (.iload_n 2, 1) := by decide +kernel
theorem dX8_findReach_34 : decode cX8_findReach 34 = .ok (.invokevirtual 74, 3) := by decide +kernel
theorem dX8_findReach_37 : decode cX8_findReach 37 = .ok (.putfield 83, 3) := by decide +kernel
theorem dX8_findReach_40 : decode cX8_findReach 40 = .ok (.return_, 1) := by decide +kernel
set_option maxRecDepth 20000 in
theorem ggX8_gameOf_X4_daysOf : GoodIn wsX8_gameOf wsX4_daysOf := goodIn_r _ [5, 6, 7, 8, 9, 10, 151, 152, 153, 154, 155, 156, 157, 158, 159, 160, 161] (by decide +kernel) (by decide +kernel)
set_option maxRecDepth 20000 in
theorem gX8_gameOf_X4_daysOf_n86 : GoodIn wsX8_gameOf (wsX4_daysOf) := ggX8_gameOf_X4_daysOf
set_option maxRecDepth 20000 in
theorem ggX8_gameOf_X8_findReach : GoodIn wsX8_gameOf wsX8_findReach := goodIn_r _ [15, 16, 17, 18, 19, 20, 3, 21, 22, 23, 24, 25, 26, 27, 6, 28, 29, 30, 31, 32, 33, 34, 35, 36, 37, 135, 136, 137, 138, 139, 140, 141, 142, 143, 144, 145, 146, 147, 148, 149, 150, 151, 152, 153, 154, 155, 156, 157, 158, 159, 160, 161] (by decide +kernel) (by decide +kernel)
set_option maxRecDepth 20000 in
theorem gX8_gameOf_X8_findReach : GoodIn wsX8_gameOf (wsV RX8 89 RX8 yX8_findReach wsX8_findReach) := goodIn_app (goodIn_of _ (by decide +kernel)) ggX8_gameOf_X8_findReach
set_option maxRecDepth 20000 in
theorem ggX8_gameOf_J7_fill_53178 : GoodIn wsX8_gameOf wsJ7_fill_53178 := goodIn_r _ [41] (by decide +kernel) (by decide +kernel)
set_option maxRecDepth 20000 in
theorem gX8_gameOf_J7_fill_53178 : GoodIn wsX8_gameOf (va_wsS RX8 93 yJ7_fill_53178 wsJ7_fill_53178) := goodIn_app (goodIn_of _ (by decide +kernel)) ggX8_gameOf_J7_fill_53178
set_option maxRecDepth 20000 in
theorem ggX8_gameOf_X8_gather : GoodIn wsX8_gameOf wsX8_gather := goodIn_r _ [45, 46, 47, 48, 49, 50, 3, 51, 52, 53, 54, 55, 56, 57, 58, 59, 60, 61, 62, 63, 64, 65, 66, 67, 68, 69, 70, 71, 72, 73, 74, 75, 76, 77, 78, 79, 80, 81, 82, 83, 84, 85, 86, 87, 88, 89, 90, 91, 9, 92, 93, 94, 95, 96, 97, 98, 99, 100, 101, 102, 103, 104, 105, 106, 135, 136, 137, 138, 139, 140, 141, 142, 143, 144, 145, 146, 147, 148, 149, 150, 151, 152, 153, 154, 155, 156, 157, 158, 159, 160, 161, 162, 163, 164, 165, 166, 167, 168, 169, 170, 171, 172, 173, 174, 175, 176] (by decide +kernel) (by decide +kernel)
set_option maxRecDepth 20000 in
theorem gX8_gameOf_X8_gather : GoodIn wsX8_gameOf (wsV RX8 102 RX8 yX8_gather wsX8_gather) := goodIn_app (goodIn_of _ (by decide +kernel)) ggX8_gameOf_X8_gather
set_option maxRecDepth 20000 in
theorem ggX8_gameOf_X8_addDay : GoodIn wsX8_gameOf wsX8_addDay := goodIn_r _ [110, 16, 17, 18, 19, 111, 1, 112, 113, 114, 14, 115, 46, 47, 49, 116, 48, 117, 118, 119, 120, 8, 9, 10, 121, 91, 92, 122, 123, 135, 136, 137, 138, 139, 140, 141, 142, 143, 144, 145, 146, 147, 148, 149, 150] (by decide +kernel) (by decide +kernel)
set_option maxRecDepth 20000 in
theorem gX8_gameOf_X8_addDay : GoodIn wsX8_gameOf (wsV RX8 105 RX8 yX8_addDay wsX8_addDay) := goodIn_app (goodIn_of _ (by decide +kernel)) ggX8_gameOf_X8_addDay
set_option maxRecDepth 20000 in
theorem ggX8_gameOf_X8_letRightChoose : GoodIn wsX8_gameOf wsX8_letRightChoose := goodIn_r _ [127, 16, 17, 18, 19, 111, 128, 8, 9, 10, 129, 135, 136, 137, 138, 139, 140, 141, 142, 143, 144, 145, 146, 147, 148, 149, 150] (by decide +kernel) (by decide +kernel)
set_option maxRecDepth 20000 in
theorem gX8_gameOf_X8_letRightChoose : GoodIn wsX8_gameOf (wsV RX8 108 RX8 yX8_letRightChoose wsX8_letRightChoose) := goodIn_app (goodIn_of _ (by decide +kernel)) ggX8_gameOf_X8_letRightChoose
set_option maxRecDepth 20000 in
theorem ggX8_gameOf_X8_letLeftChoose : GoodIn wsX8_gameOf wsX8_letLeftChoose := goodIn_r _ [133, 16, 17, 18, 19, 129, 134, 91, 9, 92, 1, 135, 136, 137, 138, 139, 140, 141, 142, 143, 144, 145, 146, 147, 148, 149, 150] (by decide +kernel) (by decide +kernel)
set_option maxRecDepth 20000 in
theorem gX8_gameOf_X8_letLeftChoose : GoodIn wsX8_gameOf (wsV RX8 111 RX8 yX8_letLeftChoose wsX8_letLeftChoose) := goodIn_app (goodIn_of _ (by decide +kernel)) ggX8_gameOf_X8_letLeftChoose
set_option maxRecDepth 20000 in
theorem ggX8_gameOf_X4_endOn : GoodIn wsX8_gameOf wsX4_endOn := goodIn_r _ [26, 27, 6, 28, 151, 152, 153, 154, 155, 156, 157, 158, 159, 160, 161] (by decide +kernel) (by decide +kernel)
set_option maxRecDepth 20000 in
theorem gX8_gameOf_X4_endOn_n114 : GoodIn wsX8_gameOf (wsX4_endOn) := ggX8_gameOf_X4_endOn
theorem dX8_gameOf_0 : decode cX8_gameOf 0 = .ok (.aload_n 1, 1) := by decide +kernel
theorem dX8_gameOf_1 : decode cX8_gameOf 1 = .ok (.iload_n 2, 1) := by decide +kernel
theorem dX8_gameOf_2 : decode cX8_gameOf 2 = .ok (.invokevirtual 86, 3) := by decide +kernel
theorem dX8_gameOf_5 : decode cX8_gameOf 5 = .ok (.istore_n 3, 1) := by decide +kernel
theorem dX8_gameOf_6 : decode cX8_gameOf 6 = .ok (.aload_n 0, 1) := by decide +kernel
theorem dX8_gameOf_7 : decode cX8_gameOf 7 = .ok (.aload_n 1, 1) := by decide +kernel
theorem dX8_gameOf_8 : decode cX8_gameOf 8 = .ok (.iload_n 3, 1) := by decide +kernel
theorem dX8_gameOf_9 : decode cX8_gameOf 9 = .ok (.invokevirtual 89, 3) := by decide +kernel
theorem dX8_gameOf_12 : decode cX8_gameOf 12 = .ok (.aload_n 0, 1) := by decide +kernel
theorem dX8_gameOf_13 : decode cX8_gameOf 13 = .ok (.getfield 22, 3) := by decide +kernel
theorem dX8_gameOf_16 : decode cX8_gameOf 16 = .ok (.iconst 0, 1) := by decide +kernel
theorem dX8_gameOf_17 : decode cX8_gameOf 17 = .ok (.invokestatic 93, 3) := by decide +kernel
theorem dX8_gameOf_20 : decode cX8_gameOf 20 = .ok (.aload_n 1, 1) := by decide +kernel
theorem dX8_gameOf_21 : decode cX8_gameOf 21 = .ok (.getfield 99, 3) := by decide +kernel
theorem dX8_gameOf_24 : decode cX8_gameOf 24 = .ok (.iload_n 3, 1) := by decide +kernel
theorem dX8_gameOf_25 : decode cX8_gameOf 25 = .ok (.iadd, 1) := by decide +kernel
theorem dX8_gameOf_26 : decode cX8_gameOf 26 = .ok (.iconst 1, 1) := by decide +kernel
theorem dX8_gameOf_27 : decode cX8_gameOf 27 = .ok (.isub, 1) := by decide +kernel
theorem dX8_gameOf_28 : decode cX8_gameOf 28 = .ok (.istore 4, 2) := by decide +kernel
theorem dX8_gameOf_30 : decode cX8_gameOf 30 = .ok (.iload 4, 2) := by decide +kernel
theorem dX8_gameOf_32 : decode cX8_gameOf 32 = .ok (.aload_n 1, 1) := by decide +kernel
theorem dX8_gameOf_33 : decode cX8_gameOf 33 = .ok (.getfield 99, 3) := by decide +kernel
theorem dX8_gameOf_36 : decode cX8_gameOf 36 = .ok (.if_icmp .lt 28, 3) := by decide +kernel
theorem dX8_gameOf_39 : decode cX8_gameOf 39 = .ok (.aload_n 0, 1) := by decide +kernel
theorem dX8_gameOf_40 : decode cX8_gameOf 40 = .ok (.aload_n 1, 1) := by decide +kernel
theorem dX8_gameOf_41 : decode cX8_gameOf 41 = .ok (.iload 4, 2) := by decide +kernel
theorem dX8_gameOf_43 : decode cX8_gameOf 43 = .ok (.invokevirtual 102, 3) := by decide +kernel
theorem dX8_gameOf_46 : decode cX8_gameOf 46 = .ok (.aload_n 0, 1) := by decide +kernel
theorem dX8_gameOf_47 : decode cX8_gameOf 47 = .ok (.invokevirtual 105, 3) := by decide +kernel
theorem dX8_gameOf_50 : decode cX8_gameOf 50 = .ok (.aload_n 0, 1) := by decide +kernel
theorem dX8_gameOf_51 : decode cX8_gameOf 51 = .ok (.invokevirtual 108, 3) := by decide +kernel
theorem dX8_gameOf_54 : decode cX8_gameOf 54 = .ok (.aload_n 0, 1) := by decide +kernel
theorem dX8_gameOf_55 : decode cX8_gameOf 55 = .ok (.invokevirtual 111, 3) := by decide +kernel
theorem dX8_gameOf_58 : decode cX8_gameOf 58 = .ok (.iinc 4 (-1), 3) := by decide +kernel
theorem dX8_gameOf_61 : decode cX8_gameOf 61 = .ok (.goto (-31), 3) := by decide +kernel
theorem dX8_gameOf_64 : decode cX8_gameOf 64 = .ok (.aload_n 0, 1) := by decide +kernel
theorem dX8_gameOf_65 : decode cX8_gameOf 65 = .ok (.getfield 22, 3) := by decide +kernel
theorem dX8_gameOf_68 : decode cX8_gameOf 68 = .ok (.bipush 13, 2) := by decide +kernel
theorem dX8_gameOf_70 : decode cX8_gameOf 70 = .ok (.aload_n 1, 1) := by decide +kernel
theorem dX8_gameOf_71 : decode cX8_gameOf 71 = .ok (.iconst 0, 1) := by decide +kernel
theorem dX8_gameOf_72 : decode cX8_gameOf 72 = .ok (.invokevirtual 114, 3) := by decide +kernel
theorem dX8_gameOf_75 : decode cX8_gameOf 75 = .ok (.imul, 1) := by decide +kernel
theorem dX8_gameOf_76 : decode cX8_gameOf 76 = .ok (.aload_n 1, 1) := by decide +kernel
theorem dX8_gameOf_77 : decode cX8_gameOf 77 = .ok (.iconst 1, 1) := by decide +kernel
theorem dX8_gameOf_78 : decode cX8_gameOf 78 = .ok (.invokevirtual 114, 3) := by decide +kernel
theorem dX8_gameOf_81 : decode cX8_gameOf 81 = .ok (.iadd, 1) := by decide +kernel
theorem dX8_gameOf_82 : decode cX8_gameOf 82 = .ok (.iaload, 1) := by decide +kernel
theorem dX8_gameOf_83 : decode cX8_gameOf 83 = .ok (.ireturn, 1) := by decide +kernel
set_option maxRecDepth 20000 in
theorem ggX8_addDay_X8_leftReaps : GoodIn wsX8_addDay wsX8_leftReaps := goodIn_r _ [11, 12, 13, 14, 15, 16, 17, 18, 19, 20, 21, 22, 23, 24, 25, 26, 27, 28, 29, 30, 31, 32, 33, 34, 35, 36, 37, 38, 39, 40, 41, 42, 43, 44] (by decide +kernel) (by decide +kernel)
set_option maxRecDepth 20000 in
theorem gX8_addDay_X8_leftReaps : GoodIn wsX8_addDay (wsV RX8 117 RX8 yX8_leftReaps wsX8_leftReaps) := goodIn_app (goodIn_of _ (by decide +kernel)) ggX8_addDay_X8_leftReaps
theorem dX8_addDay_0 : decode cX8_addDay 0 = .ok (.aload_n 0, 1) := by decide +kernel
theorem dX8_addDay_1 : decode cX8_addDay 1 = .ok (.getfield 71, 3) := by decide +kernel
theorem dX8_addDay_4 : decode cX8_addDay 4 = .ok (.istore_n 1, 1) := by decide +kernel
theorem dX8_addDay_5 : decode cX8_addDay 5 = .ok (.iload_n 1, 1) := by decide +kernel
theorem dX8_addDay_6 : decode cX8_addDay 6 = .ok (.aload_n 0, 1) := by decide +kernel
theorem dX8_addDay_7 : decode cX8_addDay 7 = .ok (.getfield 77, 3) := by decide +kernel
theorem dX8_addDay_10 : decode cX8_addDay 10 = .ok (.if_icmp .gt 57, 3) := by decide +kernel
theorem dX8_addDay_13 : decode cX8_addDay 13 = .ok (.aload_n 0, 1) := by decide +kernel
theorem dX8_addDay_14 : decode cX8_addDay 14 = .ok (.getfield 80, 3) := by decide +kernel
theorem dX8_addDay_17 : decode cX8_addDay 17 = .ok (.istore_n 2, 1) := by decide +kernel
theorem dX8_addDay_18 : decode cX8_addDay 18 = .ok (.iload_n 2, 1) := by decide +kernel
theorem dX8_addDay_19 : decode cX8_addDay 19 = .ok (.aload_n 0, 1) := by decide +kernel
theorem dX8_addDay_20 : decode cX8_addDay 20 = .ok (.getfield 83, 3) := by decide +kernel
theorem dX8_addDay_23 : decode cX8_addDay 23 = .ok (.if_icmp .gt 38, 3) := by decide +kernel
theorem dX8_addDay_26 : decode cX8_addDay 26 = .ok (.aload_n 0, 1) := by decide +kernel
theorem dX8_addDay_27 : decode cX8_addDay 27 = .ok (.getfield 25, 3) := by decide +kernel
theorem dX8_addDay_30 : decode cX8_addDay 30 = .ok (.bipush 13, 2) := by decide +kernel
theorem dX8_addDay_32 : decode cX8_addDay 32 = .ok (.iload_n 1, 1) := by decide +kernel
theorem dX8_addDay_33 : decode cX8_addDay 33 = .ok (.imul, 1) := by decide +kernel
theorem dX8_addDay_34 : decode cX8_addDay 34 = .ok (.iload_n 2, 1) := by decide +kernel
theorem dX8_addDay_35 : decode cX8_addDay 35 = .ok (.iadd, 1) := by decide +kernel
theorem dX8_addDay_36 : decode cX8_addDay 36 = .ok (.aload_n 0, 1) := by decide +kernel
theorem dX8_addDay_37 : decode cX8_addDay 37 = .ok (.iload_n 1, 1) := by decide +kernel
theorem dX8_addDay_38 : decode cX8_addDay 38 = .ok (.iload_n 2, 1) := by decide +kernel
theorem dX8_addDay_39 : decode cX8_addDay 39 = .ok (.invokevirtual 117, 3) := by decide +kernel
theorem dX8_addDay_42 : decode cX8_addDay 42 = .ok (.aload_n 0, 1) := by decide +kernel
theorem dX8_addDay_43 : decode cX8_addDay 43 = .ok (.getfield 22, 3) := by decide +kernel
theorem dX8_addDay_46 : decode cX8_addDay 46 = .ok (.bipush 13, 2) := by decide +kernel
theorem dX8_addDay_48 : decode cX8_addDay 48 = .ok (.iload_n 1, 1) := by decide +kernel
theorem dX8_addDay_49 : decode cX8_addDay 49 = .ok (.imul, 1) := by decide +kernel
theorem dX8_addDay_50 : decode cX8_addDay 50 = .ok (.iload_n 2, 1) := by decide +kernel
theorem dX8_addDay_51 : decode cX8_addDay 51 = .ok (.iadd, 1) := by decide +kernel
theorem dX8_addDay_52 : decode cX8_addDay 52 = .ok (.iaload, 1) := by decide +kernel
theorem dX8_addDay_53 : decode cX8_addDay 53 = .ok (.iadd, 1) := by decide +kernel
theorem dX8_addDay_54 : decode cX8_addDay 54 = .ok (.iastore, 1) := by decide +kernel
theorem dX8_addDay_55 : decode cX8_addDay 55 = .ok (.iinc 2 1, 3) := by decide +kernel
theorem dX8_addDay_58 : decode cX8_addDay 58 = .ok (.goto (-40), 3) := by decide +kernel
theorem dX8_addDay_61 : decode cX8_addDay 61 = .ok (.iinc 1 1, 3) := by decide +kernel
theorem dX8_addDay_64 : decode cX8_addDay 64 = .ok (.goto (-59), 3) := by decide +kernel
theorem dX8_addDay_67 : decode cX8_addDay 67 = .ok (.return_, 1) := by decide +kernel
theorem dX8_letRightChoose_0 : decode cX8_letRightChoose 0 = .ok (.aload_n 0, 1) := by decide +kernel
theorem dX8_letRightChoose_1 : decode cX8_letRightChoose 1 = .ok (.getfield 71, 3) := by decide +kernel
theorem dX8_letRightChoose_4 : decode cX8_letRightChoose 4 = .ok (.istore_n 1, 1) := by decide +kernel
theorem dX8_letRightChoose_5 : decode cX8_letRightChoose 5 = .ok (.iload_n 1, 1) := by decide +kernel
theorem dX8_letRightChoose_6 : decode cX8_letRightChoose 6 = .ok (.aload_n 0, 1) := by decide +kernel
theorem dX8_letRightChoose_7 : decode cX8_letRightChoose 7 = .ok (.getfield 77, 3) := by decide +kernel
theorem dX8_letRightChoose_10 : decode cX8_letRightChoose 10 = .ok (.if_icmp .gt 104, 3) := by decide +kernel
theorem dX8_letRightChoose_13 : decode cX8_letRightChoose 13 = .ok (.aload_n 0, 1) := by decide +kernel
theorem dX8_letRightChoose_14 : decode cX8_letRightChoose 14 = .ok (.getfield 80, 3) := by decide +kernel
theorem dX8_letRightChoose_17 : decode cX8_letRightChoose 17 = .ok (.istore_n 2, 1) := by decide +kernel
theorem dX8_letRightChoose_18 : decode cX8_letRightChoose 18 = .ok (.iload_n 2, 1) := by decide +kernel
theorem dX8_letRightChoose_19 : decode cX8_letRightChoose 19 = .ok (.aload_n 0, 1) := by decide +kernel
theorem dX8_letRightChoose_20 : decode cX8_letRightChoose 20 = .ok (.getfield 83, 3) := by decide +kernel
theorem dX8_letRightChoose_23 : decode cX8_letRightChoose 23 = .ok (.if_icmp .gt 85, 3) := by decide +kernel
theorem dX8_letRightChoose_26 : decode cX8_letRightChoose 26 = .ok (.aload_n 0, 1) := by decide +kernel
theorem dX8_letRightChoose_27 : decode cX8_letRightChoose 27 = .ok (.getfield 25, 3) := by decide +kernel
theorem dX8_letRightChoose_30 : decode cX8_letRightChoose 30 = .ok (.bipush 13, 2) := by decide +kernel
theorem dX8_letRightChoose_32 : decode cX8_letRightChoose 32 = .ok (.iload_n 1, 1) := by decide +kernel
theorem dX8_letRightChoose_33 : decode cX8_letRightChoose 33 = .ok (.imul, 1) := by decide +kernel
theorem dX8_letRightChoose_34 : decode cX8_letRightChoose 34 = .ok (.iload_n 2, 1) := by decide +kernel
theorem dX8_letRightChoose_35 : decode cX8_letRightChoose 35 = .ok (.iadd, 1) := by decide +kernel
theorem dX8_letRightChoose_36 : decode cX8_letRightChoose 36 = .ok (.iaload, 1) := by decide +kernel
theorem dX8_letRightChoose_37 : decode cX8_letRightChoose 37 = .ok (.istore_n 3, 1) := by decide +kernel
theorem dX8_letRightChoose_38 : decode cX8_letRightChoose 38 = .ok (.iload_n 2, 1) := by decide +kernel
theorem dX8_letRightChoose_39 : decode cX8_letRightChoose 39 = .ok (.aload_n 0, 1) := by decide +kernel
theorem dX8_letRightChoose_40 : decode cX8_letRightChoose 40 = .ok (.getfield 80, 3) := by decide +kernel
theorem dX8_letRightChoose_43 : decode cX8_letRightChoose 43 = .ok (.if_icmp .le 21, 3) := by decide +kernel
theorem dX8_letRightChoose_46 : decode cX8_letRightChoose 46 = .ok (.iload_n 3, 1) := by decide +kernel
theorem dX8_letRightChoose_47 : decode cX8_letRightChoose 47 = .ok (.aload_n 0, 1) := by decide +kernel
theorem dX8_letRightChoose_48 : decode cX8_letRightChoose 48 = .ok (.getfield 25, 3) := by decide +kernel
theorem dX8_letRightChoose_51 : decode cX8_letRightChoose 51 = .ok (.bipush 13, 2) := by decide +kernel
theorem dX8_letRightChoose_53 : decode cX8_letRightChoose 53 = .ok (.iload_n 1, 1) := by decide +kernel
theorem dX8_letRightChoose_54 : decode cX8_letRightChoose 54 = .ok (.imul, 1) := by decide +kernel
theorem dX8_letRightChoose_55 : decode cX8_letRightChoose 55 = .ok (.iload_n 2, 1) := by decide +kernel
theorem dX8_letRightChoose_56 : decode cX8_letRightChoose 56 = .ok (.iadd, 1) := by decide +kernel
theorem dX8_letRightChoose_57 : decode cX8_letRightChoose 57 = .ok (.iconst 1, 1) := by decide +kernel
theorem dX8_letRightChoose_58 : decode cX8_letRightChoose 58 = .ok (.isub, 1) := by decide +kernel
theorem dX8_letRightChoose_59 : decode cX8_letRightChoose 59 = .ok (.iaload, 1) := by decide +kernel
theorem dX8_letRightChoose_60 : decode cX8_letRightChoose 60 = .ok (.invokestatic 120, 3) := by decide +kernel
theorem dX8_letRightChoose_63 : decode cX8_letRightChoose 63 = .ok (.istore_n 3, 1) := by decide +kernel
theorem dX8_letRightChoose_64 : decode cX8_letRightChoose 64 = .ok (.iload_n 2, 1) := by decide +kernel
theorem dX8_letRightChoose_65 : decode cX8_letRightChoose 65 = .ok (.aload_n 0, 1) := by decide +kernel
theorem dX8_letRightChoose_66 : decode cX8_letRightChoose 66 = .ok (.getfield 83, 3) := by decide +kernel
theorem dX8_letRightChoose_69 : decode cX8_letRightChoose 69 = .ok (.if_icmp .ge 21, 3) := by decide +kernel
theorem dX8_letRightChoose_72 : decode cX8_letRightChoose 72 = .ok (.iload_n 3, 1) := by decide +kernel
theorem dX8_letRightChoose_73 : decode cX8_letRightChoose 73 = .ok (.aload_n 0, 1) := by decide +kernel
theorem dX8_letRightChoose_74 : decode cX8_letRightChoose 74 = .ok (.getfield 25, 3) := by decide +kernel
theorem dX8_letRightChoose_77 : decode cX8_letRightChoose 77 = .ok (.bipush 13, 2) := by decide +kernel
theorem dX8_letRightChoose_79 : decode cX8_letRightChoose 79 = .ok (.iload_n 1, 1) := by decide +kernel
theorem dX8_letRightChoose_80 : decode cX8_letRightChoose 80 = .ok (.imul, 1) := by decide +kernel
theorem dX8_letRightChoose_81 : decode cX8_letRightChoose 81 = .ok (.iload_n 2, 1) := by decide +kernel
theorem dX8_letRightChoose_82 : decode cX8_letRightChoose 82 = .ok (.iadd, 1) := by decide +kernel
theorem dX8_letRightChoose_83 : decode cX8_letRightChoose 83 = .ok (.iconst 1, 1) := by decide +kernel
theorem dX8_letRightChoose_84 : decode cX8_letRightChoose 84 = .ok (.iadd, 1) := by decide +kernel
theorem dX8_letRightChoose_85 : decode cX8_letRightChoose 85 = .ok (.iaload, 1) := by decide +kernel
theorem dX8_letRightChoose_86 : decode cX8_letRightChoose 86 = .ok (.invokestatic 120, 3) := by decide +kernel
theorem dX8_letRightChoose_89 : decode cX8_letRightChoose 89 = .ok (.istore_n 3, 1) := by decide +kernel
theorem dX8_letRightChoose_90 : decode cX8_letRightChoose 90 = .ok (.aload_n 0, 1) := by decide +kernel
theorem dX8_letRightChoose_91 : decode cX8_letRightChoose 91 = .ok (.getfield 28, 3) := by decide +kernel
theorem dX8_letRightChoose_94 : decode cX8_letRightChoose 94 = .ok (.bipush 13, 2) := by decide +kernel
theorem dX8_letRightChoose_96 : decode cX8_letRightChoose 96 = .ok (.iload_n 1, 1) := by decide +kernel
theorem dX8_letRightChoose_97 : decode cX8_letRightChoose 97 = .ok (.imul, 1) := by decide +kernel
theorem dX8_letRightChoose_98 : decode cX8_letRightChoose 98 = .ok (.iload_n 2, 1) := by decide +kernel
theorem dX8_letRightChoose_99 : decode cX8_letRightChoose 99 = .ok (.iadd, 1) := by decide +kernel
theorem dX8_letRightChoose_100 : decode cX8_letRightChoose 100 = .ok (.iload_n 3, 1) := by decide +kernel
theorem dX8_letRightChoose_101 : decode cX8_letRightChoose 101 = .ok (.iastore, 1) := by decide +kernel
theorem dX8_letRightChoose_102 : decode cX8_letRightChoose 102 = .ok (.iinc 2 1, 3) := by decide +kernel
theorem dX8_letRightChoose_105 : decode cX8_letRightChoose 105 = .ok (.goto (-87), 3) := by decide +kernel
theorem dX8_letRightChoose_108 : decode cX8_letRightChoose 108 = .ok (.iinc 1 1, 3) := by decide +kernel
theorem dX8_letRightChoose_111 : decode cX8_letRightChoose 111 = .ok (.goto (-106), 3) := by decide +kernel
theorem dX8_letRightChoose_114 : decode cX8_letRightChoose 114 = .ok (.return_, 1) := by decide +kernel
theorem dX8_letLeftChoose_0 : decode cX8_letLeftChoose 0 = .ok (.aload_n 0, 1) := by decide +kernel
theorem dX8_letLeftChoose_1 : decode cX8_letLeftChoose 1 = .ok (.getfield 71, 3) := by decide +kernel
theorem dX8_letLeftChoose_4 : decode cX8_letLeftChoose 4 = .ok (.istore_n 1, 1) := by decide +kernel
theorem dX8_letLeftChoose_5 : decode cX8_letLeftChoose 5 = .ok (.iload_n 1, 1) := by decide +kernel
theorem dX8_letLeftChoose_6 : decode cX8_letLeftChoose 6 = .ok (.aload_n 0, 1) := by decide +kernel
theorem dX8_letLeftChoose_7 : decode cX8_letLeftChoose 7 = .ok (.getfield 77, 3) := by decide +kernel
theorem dX8_letLeftChoose_10 : decode cX8_letLeftChoose 10 = .ok (.if_icmp .gt 104, 3) := by decide +kernel
theorem dX8_letLeftChoose_13 : decode cX8_letLeftChoose 13 = .ok (.aload_n 0, 1) := by decide +kernel
theorem dX8_letLeftChoose_14 : decode cX8_letLeftChoose 14 = .ok (.getfield 80, 3) := by decide +kernel
theorem dX8_letLeftChoose_17 : decode cX8_letLeftChoose 17 = .ok (.istore_n 2, 1) := by decide +kernel
theorem dX8_letLeftChoose_18 : decode cX8_letLeftChoose 18 = .ok (.iload_n 2, 1) := by decide +kernel
theorem dX8_letLeftChoose_19 : decode cX8_letLeftChoose 19 = .ok (.aload_n 0, 1) := by decide +kernel
theorem dX8_letLeftChoose_20 : decode cX8_letLeftChoose 20 = .ok (.getfield 83, 3) := by decide +kernel
theorem dX8_letLeftChoose_23 : decode cX8_letLeftChoose 23 = .ok (.if_icmp .gt 85, 3) := by decide +kernel
theorem dX8_letLeftChoose_26 : decode cX8_letLeftChoose 26 = .ok (.aload_n 0, 1) := by decide +kernel
theorem dX8_letLeftChoose_27 : decode cX8_letLeftChoose 27 = .ok (.getfield 28, 3) := by decide +kernel
theorem dX8_letLeftChoose_30 : decode cX8_letLeftChoose 30 = .ok (.bipush 13, 2) := by decide +kernel
theorem dX8_letLeftChoose_32 : decode cX8_letLeftChoose 32 = .ok (.iload_n 1, 1) := by decide +kernel
theorem dX8_letLeftChoose_33 : decode cX8_letLeftChoose 33 = .ok (.imul, 1) := by decide +kernel
theorem dX8_letLeftChoose_34 : decode cX8_letLeftChoose 34 = .ok (.iload_n 2, 1) := by decide +kernel
theorem dX8_letLeftChoose_35 : decode cX8_letLeftChoose 35 = .ok (.iadd, 1) := by decide +kernel
theorem dX8_letLeftChoose_36 : decode cX8_letLeftChoose 36 = .ok (.iaload, 1) := by decide +kernel
theorem dX8_letLeftChoose_37 : decode cX8_letLeftChoose 37 = .ok (.istore_n 3, 1) := by decide +kernel
theorem dX8_letLeftChoose_38 : decode cX8_letLeftChoose 38 = .ok (.iload_n 1, 1) := by decide +kernel
theorem dX8_letLeftChoose_39 : decode cX8_letLeftChoose 39 = .ok (.aload_n 0, 1) := by decide +kernel
theorem dX8_letLeftChoose_40 : decode cX8_letLeftChoose 40 = .ok (.getfield 71, 3) := by decide +kernel
theorem dX8_letLeftChoose_43 : decode cX8_letLeftChoose 43 = .ok (.if_icmp .le 21, 3) := by decide +kernel
theorem dX8_letLeftChoose_46 : decode cX8_letLeftChoose 46 = .ok (.iload_n 3, 1) := by decide +kernel
theorem dX8_letLeftChoose_47 : decode cX8_letLeftChoose 47 = .ok (.aload_n 0, 1) := by decide +kernel
theorem dX8_letLeftChoose_48 : decode cX8_letLeftChoose 48 = .ok (.getfield 28, 3) := by decide +kernel
theorem dX8_letLeftChoose_51 : decode cX8_letLeftChoose 51 = .ok (.bipush 13, 2) := by decide +kernel
theorem dX8_letLeftChoose_53 : decode cX8_letLeftChoose 53 = .ok (.iload_n 1, 1) := by decide +kernel
theorem dX8_letLeftChoose_54 : decode cX8_letLeftChoose 54 = .ok (.iconst 1, 1) := by decide +kernel
theorem dX8_letLeftChoose_55 : decode cX8_letLeftChoose 55 = .ok (.isub, 1) := by decide +kernel
theorem dX8_letLeftChoose_56 : decode cX8_letLeftChoose 56 = .ok (.imul, 1) := by decide +kernel
theorem dX8_letLeftChoose_57 : decode cX8_letLeftChoose 57 = .ok (.iload_n 2, 1) := by decide +kernel
theorem dX8_letLeftChoose_58 : decode cX8_letLeftChoose 58 = .ok (.iadd, 1) := by decide +kernel
theorem dX8_letLeftChoose_59 : decode cX8_letLeftChoose 59 = .ok (.iaload, 1) := by decide +kernel
theorem dX8_letLeftChoose_60 : decode cX8_letLeftChoose 60 = .ok (.invokestatic 125, 3) := by decide +kernel
theorem dX8_letLeftChoose_63 : decode cX8_letLeftChoose 63 = .ok (.istore_n 3, 1) := by decide +kernel
theorem dX8_letLeftChoose_64 : decode cX8_letLeftChoose 64 = .ok (.iload_n 1, 1) := by decide +kernel
theorem dX8_letLeftChoose_65 : decode cX8_letLeftChoose 65 = .ok (.aload_n 0, 1) := by decide +kernel
theorem dX8_letLeftChoose_66 : decode cX8_letLeftChoose 66 = .ok (.getfield 77, 3) := by decide +kernel
theorem dX8_letLeftChoose_69 : decode cX8_letLeftChoose 69 = .ok (.if_icmp .ge 21, 3) := by decide +kernel
theorem dX8_letLeftChoose_72 : decode cX8_letLeftChoose 72 = .ok (.iload_n 3, 1) := by decide +kernel
theorem dX8_letLeftChoose_73 : decode cX8_letLeftChoose 73 = .ok (.aload_n 0, 1) := by decide +kernel
theorem dX8_letLeftChoose_74 : decode cX8_letLeftChoose 74 = .ok (.getfield 28, 3) := by decide +kernel
theorem dX8_letLeftChoose_77 : decode cX8_letLeftChoose 77 = .ok (.bipush 13, 2) := by decide +kernel
theorem dX8_letLeftChoose_79 : decode cX8_letLeftChoose 79 = .ok (.iload_n 1, 1) := by decide +kernel
theorem dX8_letLeftChoose_80 : decode cX8_letLeftChoose 80 = .ok (.iconst 1, 1) := by decide +kernel
theorem dX8_letLeftChoose_81 : decode cX8_letLeftChoose 81 = .ok (.iadd, 1) := by decide +kernel
theorem dX8_letLeftChoose_82 : decode cX8_letLeftChoose 82 = .ok (.imul, 1) := by decide +kernel
theorem dX8_letLeftChoose_83 : decode cX8_letLeftChoose 83 = .ok (.iload_n 2, 1) := by decide +kernel
theorem dX8_letLeftChoose_84 : decode cX8_letLeftChoose 84 = .ok (.iadd, 1) := by decide +kernel
theorem dX8_letLeftChoose_85 : decode cX8_letLeftChoose 85 = .ok (.iaload, 1) := by decide +kernel
theorem dX8_letLeftChoose_86 : decode cX8_letLeftChoose 86 = .ok (.invokestatic 125, 3) := by decide +kernel
theorem dX8_letLeftChoose_89 : decode cX8_letLeftChoose 89 = .ok (.istore_n 3, 1) := by decide +kernel
theorem dX8_letLeftChoose_90 : decode cX8_letLeftChoose 90 = .ok (.aload_n 0, 1) := by decide +kernel
theorem dX8_letLeftChoose_91 : decode cX8_letLeftChoose 91 = .ok (.getfield 22, 3) := by decide +kernel
theorem dX8_letLeftChoose_94 : decode cX8_letLeftChoose 94 = .ok (.bipush 13, 2) := by decide +kernel
theorem dX8_letLeftChoose_96 : decode cX8_letLeftChoose 96 = .ok (.iload_n 1, 1) := by decide +kernel
theorem dX8_letLeftChoose_97 : decode cX8_letLeftChoose 97 = .ok (.imul, 1) := by decide +kernel
theorem dX8_letLeftChoose_98 : decode cX8_letLeftChoose 98 = .ok (.iload_n 2, 1) := by decide +kernel
theorem dX8_letLeftChoose_99 : decode cX8_letLeftChoose 99 = .ok (.iadd, 1) := by decide +kernel
theorem dX8_letLeftChoose_100 : decode cX8_letLeftChoose 100 = .ok (.iload_n 3, 1) := by decide +kernel
theorem dX8_letLeftChoose_101 : decode cX8_letLeftChoose 101 = .ok (.iastore, 1) := by decide +kernel
theorem dX8_letLeftChoose_102 : decode cX8_letLeftChoose 102 = .ok (.iinc 2 1, 3) := by decide +kernel
theorem dX8_letLeftChoose_105 : decode cX8_letLeftChoose 105 = .ok (.goto (-87), 3) := by decide +kernel
theorem dX8_letLeftChoose_108 : decode cX8_letLeftChoose 108 = .ok (.iinc 1 1, 3) := by decide +kernel
theorem dX8_letLeftChoose_111 : decode cX8_letLeftChoose 111 = .ok (.goto (-106), 3) := by decide +kernel
theorem dX8_letLeftChoose_114 : decode cX8_letLeftChoose 114 = .ok (.return_, 1) := by decide +kernel
set_option maxRecDepth 20000 in
theorem ggX8_firstMove_X4_endOn : GoodIn wsX8_firstMove wsX4_endOn := goodIn_r _ [9, 10, 11, 12, 36, 37, 38, 39, 40, 41, 42, 43, 44, 45, 46] (by decide +kernel) (by decide +kernel)
set_option maxRecDepth 20000 in
theorem gX8_firstMove_X4_endOn_n114 : GoodIn wsX8_firstMove (wsX4_endOn) := ggX8_firstMove_X4_endOn
set_option maxRecDepth 20000 in
theorem ggX8_firstMove_X4_daysOf : GoodIn wsX8_firstMove wsX4_daysOf := goodIn_r _ [15, 11, 16, 17, 18, 19, 36, 37, 38, 39, 40, 41, 42, 43, 44, 45, 46] (by decide +kernel) (by decide +kernel)
set_option maxRecDepth 20000 in
theorem gX8_firstMove_X4_daysOf_n86 : GoodIn wsX8_firstMove (wsX4_daysOf) := ggX8_firstMove_X4_daysOf
theorem dX8_firstMove_0 : decode cX8_firstMove 0 = .ok (.aload_n 1, 1) := by decide +kernel
theorem dX8_firstMove_1 : decode cX8_firstMove 1 = .ok (.iconst 0, 1) := by decide +kernel
theorem dX8_firstMove_2 : decode cX8_firstMove 2 = .ok (.invokevirtual 114, 3) := by decide +kernel
theorem dX8_firstMove_5 : decode cX8_firstMove 5 = .ok (.istore_n 3, 1) := by decide +kernel
theorem dX8_firstMove_6 : decode cX8_firstMove 6 = .ok (.aload_n 1, 1) := by decide +kernel
theorem dX8_firstMove_7 : decode cX8_firstMove 7 = .ok (.iconst 1, 1) := by decide +kernel
theorem dX8_firstMove_8 : decode cX8_firstMove 8 = .ok (.invokevirtual 114, 3) := by decide +kernel
theorem dX8_firstMove_11 : decode cX8_firstMove 11 = .ok (.istore 4, 2) := by decide +kernel
theorem dX8_firstMove_13 : decode cX8_firstMove 13 = .ok (.aload_n 1, 1) := by decide +kernel
theorem dX8_firstMove_14 : decode cX8_firstMove 14 = .ok (.iload_n 2, 1) := by decide +kernel
theorem dX8_firstMove_15 : decode cX8_firstMove 15 = .ok (.invokevirtual 86, 3) := by decide +kernel
theorem dX8_firstMove_18 : decode cX8_firstMove 18 = .ok (.iconst 1, 1) := by decide +kernel
theorem dX8_firstMove_19 : decode cX8_firstMove 19 = .ok (.if_icmp .ge 6, 3) := by decide +kernel
theorem dX8_firstMove_22 : decode cX8_firstMove 22 = .ok (.ldc 128, 2) := by decide +kernel
theorem dX8_firstMove_24 : decode cX8_firstMove 24 = .ok (.ireturn, 1) := by decide +kernel
theorem dX8_firstMove_25 : decode cX8_firstMove 25 = .ok (.iconst (-1), 1) := by decide +kernel
theorem dX8_firstMove_26 : decode cX8_firstMove 26 = .ok (.istore 5, 2) := by decide +kernel
theorem dX8_firstMove_28 : decode cX8_firstMove 28 = .ok (.iload 5, 2) := by decide +kernel
theorem dX8_firstMove_30 : decode cX8_firstMove 30 = .ok (.iconst 1, 1) := by decide +kernel
theorem dX8_firstMove_31 : decode cX8_firstMove 31 = .ok (.if_icmp .gt 76, 3) := by decide +kernel
theorem dX8_firstMove_34 : decode cX8_firstMove 34 = .ok (.iload_n 3, 1) := by decide +kernel
theorem dX8_firstMove_35 : decode cX8_firstMove 35 = .ok (.iload 5, 2) := by decide +kernel
theorem dX8_firstMove_37 : decode cX8_firstMove 37 = .ok (.iadd, 1) := by decide +kernel
theorem dX8_firstMove_38 : decode cX8_firstMove 38 = .ok (.aload_n 0, 1) := by decide +kernel
theorem dX8_firstMove_39 : decode cX8_firstMove 39 = .ok (.getfield 71, 3) := by decide +kernel
theorem dX8_firstMove_42 : decode cX8_firstMove 42 = .ok (.if_icmp .lt 18, 3) := by decide +kernel
theorem dX8_firstMove_45 : decode cX8_firstMove 45 = .ok (.iload_n 3, 1) := by decide +kernel
theorem dX8_firstMove_46 : decode cX8_firstMove 46 = .ok (.iload 5, 2) := by decide +kernel
theorem dX8_firstMove_48 : decode cX8_firstMove 48 = .ok (.iadd, 1) := by decide +kernel
theorem dX8_firstMove_49 : decode cX8_firstMove 49 = .ok (.aload_n 0, 1) := by decide +kernel
theorem dX8_firstMove_50 : decode cX8_firstMove 50 = .ok (.getfield 77, 3) := by decide +kernel
theorem dX8_firstMove_53 : decode cX8_firstMove 53 = .ok (.if_icmp .gt 7, 3) := by decide +kernel
theorem dX8_firstMove_56 : decode cX8_firstMove 56 = .ok (.iconst 1, 1) := by decide +kernel
theorem dX8_firstMove_57 : decode cX8_firstMove 57 = .ok (.goto 4, 3) := by decide +kernel
theorem dX8_firstMove_60 : decode cX8_firstMove 60 = .ok (.iconst 0, 1) := by decide +kernel
theorem dX8_firstMove_61 : decode cX8_firstMove 61 = .ok (.istore 6, 2) := by decide +kernel
theorem dX8_firstMove_63 : decode cX8_firstMove 63 = .ok (.iload 6, 2) := by decide +kernel
theorem dX8_firstMove_65 : decode cX8_firstMove 65 = .ok (.ifCond .eq 36, 3) := by decide +kernel
theorem dX8_firstMove_68 : decode cX8_firstMove 68 = .ok (.aload_n 0, 1) := by decide +kernel
theorem dX8_firstMove_69 : decode cX8_firstMove 69 = .ok (.getfield 28, 3) := by decide +kernel
theorem dX8_firstMove_72 : decode cX8_firstMove 72 = .ok (.bipush 13, 2) := by decide +kernel
theorem dX8_firstMove_74 : decode cX8_firstMove 74 = .ok (.iload_n 3, 1) := by decide +kernel
theorem dX8_firstMove_75 : decode cX8_firstMove 75 = .ok (.iload 5, 2) := by decide +kernel
theorem dX8_firstMove_77 : decode cX8_firstMove 77 = .ok (.iadd, 1) := by decide +kernel
theorem dX8_firstMove_78 : decode cX8_firstMove 78 = .ok (.imul, 1) := by decide +kernel
theorem dX8_firstMove_79 : decode cX8_firstMove 79 = .ok (.iload 4, 2) := by decide +kernel
theorem dX8_firstMove_81 : decode cX8_firstMove 81 = .ok (.iadd, 1) := by decide +kernel
theorem dX8_firstMove_82 : decode cX8_firstMove 82 = .ok (.iaload, 1) := by decide +kernel
theorem dX8_firstMove_83 : decode cX8_firstMove 83 = .ok (.aload_n 0, 1) := by decide +kernel
theorem dX8_firstMove_84 : decode cX8_firstMove 84 = .ok (.getfield 22, 3) := by decide +kernel
theorem dX8_firstMove_87 : decode cX8_firstMove 87 = .ok (.bipush 13, 2) := by decide +kernel
theorem dX8_firstMove_89 : decode cX8_firstMove 89 = .ok (.iload_n 3, 1) := by decide +kernel
theorem dX8_firstMove_90 : decode cX8_firstMove 90 = .ok (.imul, 1) := by decide +kernel
theorem dX8_firstMove_91 : decode cX8_firstMove 91 = .ok (.iload 4, 2) := by decide +kernel
theorem dX8_firstMove_93 : decode cX8_firstMove 93 = .ok (.iadd, 1) := by decide +kernel
theorem dX8_firstMove_94 : decode cX8_firstMove 94 = .ok (.iaload, 1) := by decide +kernel
theorem dX8_firstMove_95 : decode cX8_firstMove 95 = .ok (.if_icmp .ne 6, 3) := by decide +kernel
theorem dX8_firstMove_98 : decode cX8_firstMove 98 = .ok (.iload 5, 2) := by decide +kernel
theorem dX8_firstMove_100 : decode cX8_firstMove 100 = .ok (.ireturn, 1) := by decide +kernel
theorem dX8_firstMove_101 : decode cX8_firstMove 101 = .ok (.iinc 5 1, 3) := by decide +kernel
theorem dX8_firstMove_104 : decode cX8_firstMove 104 = .ok (.goto (-76), 3) := by decide +kernel
theorem dX8_firstMove_107 : decode cX8_firstMove 107 = .ok (.ldc 128, 2) := by decide +kernel
theorem dX8_firstMove_109 : decode cX8_firstMove 109 = .ok (.ireturn, 1) := by decide +kernel
set_option maxRecDepth 20000 in
theorem ggX8_restingOf_X4_daysOf : GoodIn wsX8_restingOf wsX4_daysOf := goodIn_r _ [4, 5, 6, 7, 8, 9, 93, 94, 95, 96, 97, 98, 99, 100, 101, 102, 103] (by decide +kernel) (by decide +kernel)
set_option maxRecDepth 20000 in
theorem gX8_restingOf_X4_daysOf_n86 : GoodIn wsX8_restingOf (wsX4_daysOf) := ggX8_restingOf_X4_daysOf
set_option maxRecDepth 20000 in
theorem ggX8_restingOf_X8_gather : GoodIn wsX8_restingOf wsX8_gather := goodIn_r _ [14, 15, 16, 17, 18, 19, 2, 20, 21, 22, 23, 24, 25, 26, 27, 28, 29, 30, 31, 32, 33, 34, 35, 36, 37, 38, 39, 40, 41, 42, 43, 44, 45, 46, 47, 48, 49, 50, 51, 52, 53, 54, 55, 56, 57, 58, 59, 60, 8, 61, 62, 63, 64, 65, 66, 67, 68, 69, 70, 71, 72, 73, 74, 75, 104, 105, 106, 107, 108, 109, 110, 111, 112, 113, 114, 115, 116, 117, 118, 119, 93, 94, 95, 96, 97, 98, 99, 100, 101, 102, 103, 120, 121, 122, 123, 124, 125, 126, 127, 128, 129, 130, 131, 132, 133, 134] (by decide +kernel) (by decide +kernel)
set_option maxRecDepth 20000 in
theorem gX8_restingOf_X8_gather : GoodIn wsX8_restingOf (wsV RX8 102 RX8 yX8_gather wsX8_gather) := goodIn_app (goodIn_of _ (by decide +kernel)) ggX8_restingOf_X8_gather
set_option maxRecDepth 20000 in
theorem ggX8_restingOf_X4_endOn : GoodIn wsX8_restingOf wsX4_endOn := goodIn_r _ [78, 79, 5, 80, 93, 94, 95, 96, 97, 98, 99, 100, 101, 102, 103] (by decide +kernel) (by decide +kernel)
set_option maxRecDepth 20000 in
theorem gX8_restingOf_X4_endOn_n114 : GoodIn wsX8_restingOf (wsX4_endOn) := ggX8_restingOf_X4_endOn
set_option maxRecDepth 20000 in
theorem ggX8_restingOf_X8_leftReaps : GoodIn wsX8_restingOf wsX8_leftReaps := goodIn_r _ [84, 15, 16, 18, 85, 17, 86, 87, 88, 89, 7, 8, 9, 90, 60, 61, 91, 92, 104, 105, 106, 107, 108, 109, 110, 111, 112, 113, 114, 115, 116, 117, 118, 119] (by decide +kernel) (by decide +kernel)
set_option maxRecDepth 20000 in
theorem gX8_restingOf_X8_leftReaps : GoodIn wsX8_restingOf (wsV RX8 117 RX8 yX8_leftReaps wsX8_leftReaps) := goodIn_app (goodIn_of _ (by decide +kernel)) ggX8_restingOf_X8_leftReaps
theorem dX8_restingOf_0 : decode cX8_restingOf 0 = .ok (.iconst 0, 1) := by decide +kernel
theorem dX8_restingOf_1 : decode cX8_restingOf 1 = .ok (.istore_n 3, 1) := by decide +kernel
theorem dX8_restingOf_2 : decode cX8_restingOf 2 = .ok (.aload_n 1, 1) := by decide +kernel
theorem dX8_restingOf_3 : decode cX8_restingOf 3 = .ok (.iload_n 2, 1) := by decide +kernel
theorem dX8_restingOf_4 : decode cX8_restingOf 4 = .ok (.invokevirtual 86, 3) := by decide +kernel
theorem dX8_restingOf_7 : decode cX8_restingOf 7 = .ok (.istore 4, 2) := by decide +kernel
theorem dX8_restingOf_9 : decode cX8_restingOf 9 = .ok (.iconst 0, 1) := by decide +kernel
theorem dX8_restingOf_10 : decode cX8_restingOf 10 = .ok (.istore 5, 2) := by decide +kernel
theorem dX8_restingOf_12 : decode cX8_restingOf 12 = .ok (.iload 5, 2) := by decide +kernel
theorem dX8_restingOf_14 : decode cX8_restingOf 14 = .ok (.iload 4, 2) := by decide +kernel
theorem dX8_restingOf_16 : decode cX8_restingOf 16 = .ok (.if_icmp .ge 38, 3) := by decide +kernel
theorem dX8_restingOf_19 : decode cX8_restingOf 19 = .ok (.aload_n 0, 1) := by decide +kernel
theorem dX8_restingOf_20 : decode cX8_restingOf 20 = .ok (.aload_n 1, 1) := by decide +kernel
theorem dX8_restingOf_21 : decode cX8_restingOf 21 = .ok (.aload_n 1, 1) := by decide +kernel
theorem dX8_restingOf_22 : decode cX8_restingOf 22 = .ok (.getfield 99, 3) := by decide +kernel
theorem dX8_restingOf_25 : decode cX8_restingOf 25 = .ok (.iload 5, 2) := by decide +kernel
theorem dX8_restingOf_27 : decode cX8_restingOf 27 = .ok (.iadd, 1) := by decide +kernel
theorem dX8_restingOf_28 : decode cX8_restingOf 28 = .ok (.invokevirtual 102, 3) := by decide +kernel
theorem dX8_restingOf_31 : decode cX8_restingOf 31 = .ok (.iload_n 3, 1) := by decide +kernel
theorem dX8_restingOf_32 : decode cX8_restingOf 32 = .ok (.aload_n 0, 1) := by decide +kernel
theorem dX8_restingOf_33 : decode cX8_restingOf 33 = .ok (.aload_n 1, 1) := by decide +kernel
theorem dX8_restingOf_34 : decode cX8_restingOf 34 = .ok (.iconst 0, 1) := by decide +kernel
theorem dX8_restingOf_35 : decode cX8_restingOf 35 = .ok (.invokevirtual 114, 3) := by decide +kernel
theorem dX8_restingOf_38 : decode cX8_restingOf 38 = .ok (.aload_n 1, 1) := by decide +kernel
theorem dX8_restingOf_39 : decode cX8_restingOf 39 = .ok (.iconst 1, 1) := by decide +kernel
theorem dX8_restingOf_40 : decode cX8_restingOf 40 = .ok (.invokevirtual 114, 3) := by decide +kernel
theorem dX8_restingOf_43 : decode cX8_restingOf 43 = .ok (.invokevirtual 117, 3) := by decide +kernel
theorem dX8_restingOf_46 : decode cX8_restingOf 46 = .ok (.iadd, 1) := by decide +kernel
theorem dX8_restingOf_47 : decode cX8_restingOf 47 = .ok (.istore_n 3, 1) := by decide +kernel
theorem dX8_restingOf_48 : decode cX8_restingOf 48 = .ok (.iinc 5 1, 3) := by decide +kernel
theorem dX8_restingOf_51 : decode cX8_restingOf 51 = .ok (.goto (-39), 3) := by decide +kernel
theorem dX8_restingOf_54 : decode cX8_restingOf 54 = .ok (.iload_n 3, 1) := by decide +kernel
theorem dX8_restingOf_55 : decode cX8_restingOf 55 = .ok (.ireturn, 1) := by decide +kernel
set_option maxRecDepth 20000 in
theorem ggX8_bestOf_X4_daysOf : GoodIn wsX8_bestOf wsX4_daysOf := goodIn_r _ [10, 11, 12, 13, 14, 15, 151, 152, 153, 154, 155, 156, 157, 158, 159, 160, 161] (by decide +kernel) (by decide +kernel)
set_option maxRecDepth 20000 in
theorem gX8_bestOf_X4_daysOf_n86 : GoodIn wsX8_bestOf (wsX4_daysOf) := ggX8_bestOf_X4_daysOf
set_option maxRecDepth 20000 in
theorem ggX8_bestOf_X8_findReach : GoodIn wsX8_bestOf wsX8_findReach := goodIn_r _ [20, 2, 3, 21, 22, 23, 8, 24, 25, 26, 27, 28, 29, 30, 11, 31, 32, 33, 34, 35, 36, 37, 38, 39, 40, 135, 136, 137, 138, 139, 140, 141, 142, 143, 144, 145, 146, 147, 148, 149, 150, 151, 152, 153, 154, 155, 156, 157, 158, 159, 160, 161] (by decide +kernel) (by decide +kernel)
set_option maxRecDepth 20000 in
theorem gX8_bestOf_X8_findReach : GoodIn wsX8_bestOf (wsV RX8 89 RX8 yX8_findReach wsX8_findReach) := goodIn_app (goodIn_of _ (by decide +kernel)) ggX8_bestOf_X8_findReach
set_option maxRecDepth 20000 in
theorem ggX8_bestOf_X8_followRight : GoodIn wsX8_bestOf wsX8_followRight := goodIn_r _ [44, 5, 27, 8, 28, 29, 30, 11, 31, 33, 34, 35, 36, 37, 135, 136, 137, 138, 139, 140, 141, 142, 143, 144, 145, 146, 147, 148, 149, 150, 151, 152, 153, 154, 155, 156, 157, 158, 159, 160, 161] (by decide +kernel) (by decide +kernel)
set_option maxRecDepth 20000 in
theorem gX8_bestOf_X8_followRight : GoodIn wsX8_bestOf (wsV RX8 129 RX8 yX8_followRight wsX8_followRight) := goodIn_app (goodIn_of _ (by decide +kernel)) ggX8_bestOf_X8_followRight
set_option maxRecDepth 20000 in
theorem ggX8_bestOf_J7_fill_53178 : GoodIn wsX8_bestOf wsJ7_fill_53178 := goodIn_r _ [48] (by decide +kernel) (by decide +kernel)
set_option maxRecDepth 20000 in
theorem gX8_bestOf_J7_fill_53178 : GoodIn wsX8_bestOf (va_wsS RX8 93 yJ7_fill_53178 wsJ7_fill_53178) := goodIn_app (goodIn_of _ (by decide +kernel)) ggX8_bestOf_J7_fill_53178
set_option maxRecDepth 20000 in
theorem ggX8_bestOf_X8_gather : GoodIn wsX8_bestOf wsX8_gather := goodIn_r _ [52, 53, 54, 55, 56, 57, 8, 58, 59, 60, 61, 62, 63, 64, 65, 66, 67, 68, 69, 70, 71, 72, 73, 74, 75, 76, 77, 78, 79, 80, 81, 82, 83, 84, 85, 86, 87, 88, 89, 90, 91, 92, 93, 94, 95, 96, 97, 98, 14, 99, 100, 101, 102, 103, 104, 105, 106, 107, 108, 109, 110, 111, 112, 113, 135, 136, 137, 138, 139, 140, 141, 142, 143, 144, 145, 146, 147, 148, 149, 150, 151, 152, 153, 154, 155, 156, 157, 158, 159, 160, 161, 162, 163, 164, 165, 166, 167, 168, 169, 170, 171, 172, 173, 174, 175, 176] (by decide +kernel) (by decide +kernel)
set_option maxRecDepth 20000 in
theorem gX8_bestOf_X8_gather : GoodIn wsX8_bestOf (wsV RX8 102 RX8 yX8_gather wsX8_gather) := goodIn_app (goodIn_of _ (by decide +kernel)) ggX8_bestOf_X8_gather
set_option maxRecDepth 20000 in
theorem ggX8_bestOf_X8_leftReaps : GoodIn wsX8_bestOf wsX8_leftReaps := goodIn_r _ [117, 53, 54, 56, 118, 55, 119, 120, 121, 122, 13, 14, 15, 123, 98, 99, 124, 125, 135, 136, 137, 138, 139, 140, 141, 142, 143, 144, 145, 146, 147, 148, 149, 150] (by decide +kernel) (by decide +kernel)
set_option maxRecDepth 20000 in
theorem gX8_bestOf_X8_leftReaps : GoodIn wsX8_bestOf (wsV RX8 117 RX8 yX8_leftReaps wsX8_leftReaps) := goodIn_app (goodIn_of _ (by decide +kernel)) ggX8_bestOf_X8_leftReaps
set_option maxRecDepth 20000 in
theorem ggX8_bestOf_X8_moveToMost : GoodIn wsX8_bestOf wsX8_moveToMost := goodIn_r _ [129, 2, 3, 4, 135, 136, 137, 138, 139, 140, 141, 142, 143, 144, 145, 146, 147, 148, 149, 150] (by decide +kernel) (by decide +kernel)
set_option maxRecDepth 20000 in
theorem gX8_bestOf_X8_moveToMost : GoodIn wsX8_bestOf (wsV RX8 133 RX8 yX8_moveToMost wsX8_moveToMost) := goodIn_app (goodIn_of _ (by decide +kernel)) ggX8_bestOf_X8_moveToMost
set_option maxRecDepth 20000 in
theorem ggX8_bestOf_X8_followChoices : GoodIn wsX8_bestOf wsX8_followChoices := goodIn_r _ [133, 134, 6, 27, 8, 28, 29, 30, 11, 31, 135, 136, 137, 138, 139, 140, 141, 142, 143, 144, 145, 146, 147, 148, 149, 150, 151, 152, 153, 154, 155, 156, 157, 158, 159, 160, 161] (by decide +kernel) (by decide +kernel)
set_option maxRecDepth 20000 in
theorem gX8_bestOf_X8_followChoices : GoodIn wsX8_bestOf (wsV RX8 136 RX8 yX8_followChoices wsX8_followChoices) := goodIn_app (goodIn_of _ (by decide +kernel)) ggX8_bestOf_X8_followChoices
set_option maxRecDepth 20000 in
theorem ggX8_bestOf_X4_endOn : GoodIn wsX8_bestOf wsX4_endOn := goodIn_r _ [29, 30, 11, 31, 151, 152, 153, 154, 155, 156, 157, 158, 159, 160, 161] (by decide +kernel) (by decide +kernel)
set_option maxRecDepth 20000 in
theorem gX8_bestOf_X4_endOn_n114 : GoodIn wsX8_bestOf (wsX4_endOn) := ggX8_bestOf_X4_endOn
theorem dX8_bestOf_0 : decode cX8_bestOf 0 = .ok (.aload_n 1, 1) := by decide +kernel
theorem dX8_bestOf_1 : decode cX8_bestOf 1 = .ok (.iload_n 3, 1) := by decide +kernel
theorem dX8_bestOf_2 : decode cX8_bestOf 2 = .ok (.invokevirtual 86, 3) := by decide +kernel
theorem dX8_bestOf_5 : decode cX8_bestOf 5 = .ok (.istore 4, 2) := by decide +kernel
theorem dX8_bestOf_7 : decode cX8_bestOf 7 = .ok (.aload_n 0, 1) := by decide +kernel
theorem dX8_bestOf_8 : decode cX8_bestOf 8 = .ok (.aload_n 1, 1) := by decide +kernel
theorem dX8_bestOf_9 : decode cX8_bestOf 9 = .ok (.iload 4, 2) := by decide +kernel
theorem dX8_bestOf_11 : decode cX8_bestOf 11 = .ok (.invokevirtual 89, 3) := by decide +kernel
theorem dX8_bestOf_14 : decode cX8_bestOf 14 = .ok (.aload_n 0, 1) := by decide +kernel
theorem dX8_bestOf_15 : decode cX8_bestOf 15 = .ok (.aload_n 1, 1) := by decide +kernel
theorem dX8_bestOf_16 : decode cX8_bestOf 16 = .ok (.aload_n 2, 1) := by decide +kernel
theorem dX8_bestOf_17 : decode cX8_bestOf 17 = .ok (.iload 4, 2) := by decide +kernel
theorem dX8_bestOf_19 : decode cX8_bestOf 19 = .ok (.invokevirtual 129, 3) := by decide +kernel
theorem dX8_bestOf_22 : decode cX8_bestOf 22 = .ok (.aload_n 0, 1) := by decide +kernel
theorem dX8_bestOf_23 : decode cX8_bestOf 23 = .ok (.getfield 22, 3) := by decide +kernel
theorem dX8_bestOf_26 : decode cX8_bestOf 26 = .ok (.iconst 0, 1) := by decide +kernel
theorem dX8_bestOf_27 : decode cX8_bestOf 27 = .ok (.invokestatic 93, 3) := by decide +kernel
theorem dX8_bestOf_30 : decode cX8_bestOf 30 = .ok (.iload 4, 2) := by decide +kernel
theorem dX8_bestOf_32 : decode cX8_bestOf 32 = .ok (.iconst 1, 1) := by decide +kernel
theorem dX8_bestOf_33 : decode cX8_bestOf 33 = .ok (.isub, 1) := by decide +kernel
theorem dX8_bestOf_34 : decode cX8_bestOf 34 = .ok (.istore 5, 2) := by decide +kernel
theorem dX8_bestOf_36 : decode cX8_bestOf 36 = .ok (.iload 5, 2) := by decide +kernel
theorem dX8_bestOf_38 : decode cX8_bestOf 38 = .ok (.ifCond .lt 131, 3) := by decide +kernel
theorem dX8_bestOf_41 : decode cX8_bestOf 41 = .ok (.aload_n 0, 1) := by decide +kernel
theorem dX8_bestOf_42 : decode cX8_bestOf 42 = .ok (.aload_n 1, 1) := by decide +kernel
theorem dX8_bestOf_43 : decode cX8_bestOf 43 = .ok (.aload_n 1, 1) := by decide +kernel
theorem dX8_bestOf_44 : decode cX8_bestOf 44 = .ok (.getfield 99, 3) := by decide +kernel
theorem dX8_bestOf_47 : decode cX8_bestOf 47 = .ok (.iload 5, 2) := by decide +kernel
theorem dX8_bestOf_49 : decode cX8_bestOf 49 = .ok (.iadd, 1) := by decide +kernel
theorem dX8_bestOf_50 : decode cX8_bestOf 50 = .ok (.invokevirtual 102, 3) := by decide +kernel
theorem dX8_bestOf_53 : decode cX8_bestOf 53 = .ok (.aload_n 0, 1) := by decide +kernel
theorem dX8_bestOf_54 : decode cX8_bestOf 54 = .ok (.getfield 71, 3) := by decide +kernel
theorem dX8_bestOf_57 : decode cX8_bestOf 57 = .ok (.istore 6, 2) := by decide +kernel
theorem dX8_bestOf_59 : decode cX8_bestOf 59 = .ok (.iload 6, 2) := by decide +kernel
theorem dX8_bestOf_61 : decode cX8_bestOf 61 = .ok (.aload_n 0, 1) := by decide +kernel
theorem dX8_bestOf_62 : decode cX8_bestOf 62 = .ok (.getfield 77, 3) := by decide +kernel
theorem dX8_bestOf_65 : decode cX8_bestOf 65 = .ok (.if_icmp .gt 37, 3) := by decide +kernel
theorem dX8_bestOf_68 : decode cX8_bestOf 68 = .ok (.aload_n 0, 1) := by decide +kernel
theorem dX8_bestOf_69 : decode cX8_bestOf 69 = .ok (.getfield 25, 3) := by decide +kernel
theorem dX8_bestOf_72 : decode cX8_bestOf 72 = .ok (.iload 6, 2) := by decide +kernel
theorem dX8_bestOf_74 : decode cX8_bestOf 74 = .ok (.aload_n 0, 1) := by decide +kernel
theorem dX8_bestOf_75 : decode cX8_bestOf 75 = .ok (.iload 6, 2) := by decide +kernel
theorem dX8_bestOf_77 : decode cX8_bestOf 77 = .ok (.aload_n 0, 1) := by decide +kernel
theorem dX8_bestOf_78 : decode cX8_bestOf 78 = .ok (.getfield 31, 3) := by decide +kernel
theorem dX8_bestOf_81 : decode cX8_bestOf 81 = .ok (.iload 5, 2) := by decide +kernel
theorem dX8_bestOf_83 : decode cX8_bestOf 83 = .ok (.iaload, 1) := by decide +kernel
theorem dX8_bestOf_84 : decode cX8_bestOf 84 = .ok (.invokevirtual 117, 3) := by decide +kernel
theorem dX8_bestOf_87 : decode cX8_bestOf 87 = .ok (.aload_n 0, 1) := by decide +kernel
theorem dX8_bestOf_88 : decode cX8_bestOf 88 = .ok (.getfield 22, 3) := by decide +kernel
theorem dX8_bestOf_91 : decode cX8_bestOf 91 = .ok (.iload 6, 2) := by decide +kernel
theorem dX8_bestOf_93 : decode cX8_bestOf 93 = .ok (.iaload, 1) := by decide +kernel
theorem dX8_bestOf_94 : decode cX8_bestOf 94 = .ok (.iadd, 1) := by decide +kernel
theorem dX8_bestOf_95 : decode cX8_bestOf 95 = .ok (.iastore, 1) := by decide +kernel
theorem dX8_bestOf_96 : decode cX8_bestOf 96 = .ok (.iinc 6 1, 3) := by decide +kernel
theorem dX8_bestOf_99 : decode cX8_bestOf 99 = .ok (.goto (-40), 3) := by decide +kernel
theorem dX8_bestOf_102 : decode cX8_bestOf 102 = .ok (.aload_n 0, 1) := by decide +kernel
theorem dX8_bestOf_103 : decode cX8_bestOf 103 = .ok (.getfield 71, 3) := by decide +kernel
theorem dX8_bestOf_106 : decode cX8_bestOf 106 = .ok (.istore 6, 2) := by decide +kernel
theorem dX8_bestOf_108 : decode cX8_bestOf 108 = .ok (.iload 6, 2) := by decide +kernel
theorem dX8_bestOf_110 : decode cX8_bestOf 110 = .ok (.aload_n 0, 1) := by decide +kernel
theorem dX8_bestOf_111 : decode cX8_bestOf 111 = .ok (.getfield 77, 3) := by decide +kernel
theorem dX8_bestOf_114 : decode cX8_bestOf 114 = .ok (.if_icmp .gt 49, 3) := by decide +kernel
theorem dX8_bestOf_117 : decode cX8_bestOf 117 = .ok (.aload_n 0, 1) := by decide +kernel
theorem dX8_bestOf_118 : decode cX8_bestOf 118 = .ok (.iload 6, 2) := by decide +kernel
theorem dX8_bestOf_120 : decode cX8_bestOf 120 = .ok (.invokevirtual 133, 3) := by decide +kernel
theorem dX8_bestOf_123 : decode cX8_bestOf 123 = .ok (.istore 7, 2) := by decide +kernel
theorem dX8_bestOf_125 : decode cX8_bestOf 125 = .ok (.aload_n 0, 1) := by decide +kernel
theorem dX8_bestOf_126 : decode cX8_bestOf 126 = .ok (.getfield 34, 3) := by decide +kernel
theorem dX8_bestOf_129 : decode cX8_bestOf 129 = .ok (.bipush 13, 2) := by decide +kernel
theorem dX8_bestOf_131 : decode cX8_bestOf 131 = .ok (.iload 5, 2) := by decide +kernel
theorem dX8_bestOf_133 : decode cX8_bestOf 133 = .ok (.imul, 1) := by decide +kernel
theorem dX8_bestOf_134 : decode cX8_bestOf 134 = .ok (.iload 6, 2) := by decide +kernel
theorem dX8_bestOf_136 : decode cX8_bestOf 136 = .ok (.iadd, 1) := by decide +kernel
theorem dX8_bestOf_137 : decode cX8_bestOf 137 = .ok (.iload 7, 2) := by decide +kernel
theorem dX8_bestOf_139 : decode cX8_bestOf 139 = .ok (.iastore, 1) := by decide +kernel
theorem dX8_bestOf_140 : decode cX8_bestOf 140 = .ok (.aload_n 0, 1) := by decide +kernel
theorem dX8_bestOf_141 : decode cX8_bestOf 141 = .ok (.getfield 22, 3) := by decide +kernel
theorem dX8_bestOf_144 : decode cX8_bestOf 144 = .ok (.iload 6, 2) := by decide +kernel
theorem dX8_bestOf_146 : decode cX8_bestOf 146 = .ok (.aload_n 0, 1) := by decide +kernel
theorem dX8_bestOf_147 : decode cX8_bestOf 147 = .ok (.getfield 25, 3) := by decide +kernel
theorem dX8_bestOf_150 : decode cX8_bestOf 150 = .ok (.iload 6, 2) := by decide +kernel
theorem dX8_bestOf_152 : decode cX8_bestOf 152 = .ok (.iload 7, 2) := by decide +kernel
theorem dX8_bestOf_154 : decode cX8_bestOf 154 = .ok (.iadd, 1) := by decide +kernel
theorem dX8_bestOf_155 : decode cX8_bestOf 155 = .ok (.iaload, 1) := by decide +kernel
theorem dX8_bestOf_156 : decode cX8_bestOf 156 = .ok (.iastore, 1) := by decide +kernel
theorem dX8_bestOf_157 : decode cX8_bestOf 157 = .ok (.iinc 6 1, 3) := by decide +kernel
theorem dX8_bestOf_160 : decode cX8_bestOf 160 = .ok (.goto (-52), 3) := by decide +kernel
theorem dX8_bestOf_163 : decode cX8_bestOf 163 = .ok (.iinc 5 (-1), 3) := by decide +kernel
theorem dX8_bestOf_166 : decode cX8_bestOf 166 = .ok (.goto (-130), 3) := by decide +kernel
theorem dX8_bestOf_169 : decode cX8_bestOf 169 = .ok (.aload_n 0, 1) := by decide +kernel
theorem dX8_bestOf_170 : decode cX8_bestOf 170 = .ok (.aload_n 1, 1) := by decide +kernel
theorem dX8_bestOf_171 : decode cX8_bestOf 171 = .ok (.iload 4, 2) := by decide +kernel
theorem dX8_bestOf_173 : decode cX8_bestOf 173 = .ok (.invokevirtual 136, 3) := by decide +kernel
theorem dX8_bestOf_176 : decode cX8_bestOf 176 = .ok (.aload_n 0, 1) := by decide +kernel
theorem dX8_bestOf_177 : decode cX8_bestOf 177 = .ok (.getfield 22, 3) := by decide +kernel
theorem dX8_bestOf_180 : decode cX8_bestOf 180 = .ok (.aload_n 1, 1) := by decide +kernel
theorem dX8_bestOf_181 : decode cX8_bestOf 181 = .ok (.iconst 0, 1) := by decide +kernel
theorem dX8_bestOf_182 : decode cX8_bestOf 182 = .ok (.invokevirtual 114, 3) := by decide +kernel
theorem dX8_bestOf_185 : decode cX8_bestOf 185 = .ok (.iaload, 1) := by decide +kernel
theorem dX8_bestOf_186 : decode cX8_bestOf 186 = .ok (.ireturn, 1) := by decide +kernel
set_option maxRecDepth 20000 in
theorem ggX8_followRight_X4_endOn : GoodIn wsX8_followRight wsX4_endOn := goodIn_r _ [5, 6, 7, 8, 30, 31, 32, 33, 34, 35, 36, 37, 38, 39, 40] (by decide +kernel) (by decide +kernel)
set_option maxRecDepth 20000 in
theorem gX8_followRight_X4_endOn_n114 : GoodIn wsX8_followRight (wsX4_endOn) := ggX8_followRight_X4_endOn
set_option maxRecDepth 20000 in
theorem ggX8_followRight_X4_isOpen : GoodIn wsX8_followRight wsX4_isOpen := goodIn_r _ [11, 12, 13, 30, 31, 32, 33, 34, 35, 36, 37, 38, 39, 40] (by decide +kernel) (by decide +kernel)
set_option maxRecDepth 20000 in
theorem gX8_followRight_X4_isOpen_n139 : GoodIn wsX8_followRight (wsX4_isOpen) := ggX8_followRight_X4_isOpen
theorem dX8_followRight_0 : decode cX8_followRight 0 = .ok (.aload_n 1, 1) := by decide +kernel
theorem dX8_followRight_1 : decode cX8_followRight 1 = .ok (.iconst 1, 1) := by decide +kernel
theorem dX8_followRight_2 : decode cX8_followRight 2 = .ok (.invokevirtual 114, 3) := by decide +kernel
theorem dX8_followRight_5 : decode cX8_followRight 5 = .ok (.istore 4, 2) := by decide +kernel
theorem dX8_followRight_7 : decode cX8_followRight 7 = .ok (.iconst 0, 1) := by decide +kernel
theorem dX8_followRight_8 : decode cX8_followRight 8 = .ok (.istore 5, 2) := by decide +kernel
theorem dX8_followRight_10 : decode cX8_followRight 10 = .ok (.iload 5, 2) := by decide +kernel
theorem dX8_followRight_12 : decode cX8_followRight 12 = .ok (.iload_n 3, 1) := by decide +kernel
theorem dX8_followRight_13 : decode cX8_followRight 13 = .ok (.if_icmp .ge 54, 3) := by decide +kernel
theorem dX8_followRight_16 : decode cX8_followRight 16 = .ok (.iload 5, 2) := by decide +kernel
theorem dX8_followRight_18 : decode cX8_followRight 18 = .ok (.aload_n 2, 1) := by decide +kernel
theorem dX8_followRight_19 : decode cX8_followRight 19 = .ok (.arraylength, 1) := by decide +kernel
theorem dX8_followRight_20 : decode cX8_followRight 20 = .ok (.if_icmp .ge 47, 3) := by decide +kernel
theorem dX8_followRight_23 : decode cX8_followRight 23 = .ok (.aload_n 1, 1) := by decide +kernel
theorem dX8_followRight_24 : decode cX8_followRight 24 = .ok (.iconst 1, 1) := by decide +kernel
theorem dX8_followRight_25 : decode cX8_followRight 25 = .ok (.iload 4, 2) := by decide +kernel
theorem dX8_followRight_27 : decode cX8_followRight 27 = .ok (.aload_n 2, 1) := by decide +kernel
theorem dX8_followRight_28 : decode cX8_followRight 28 = .ok (.iload 5, 2) := by decide +kernel
theorem dX8_followRight_30 : decode cX8_followRight 30 = .ok (.iaload, 1) := by decide +kernel
theorem dX8_followRight_31 : decode cX8_followRight 31 = .ok (.iadd, 1) := by decide +kernel
theorem dX8_followRight_32 : decode cX8_followRight 32 = .ok (.invokevirtual 139, 3) := by decide +kernel
theorem dX8_followRight_35 : decode cX8_followRight 35 = .ok (.ifCond .eq 13, 3) := by decide +kernel
theorem dX8_followRight_38 : decode cX8_followRight 38 = .ok (.iload 4, 2) := by decide +kernel
theorem dX8_followRight_40 : decode cX8_followRight 40 = .ok (.aload_n 2, 1) := by decide +kernel
theorem dX8_followRight_41 : decode cX8_followRight 41 = .ok (.iload 5, 2) := by decide +kernel
theorem dX8_followRight_43 : decode cX8_followRight 43 = .ok (.iaload, 1) := by decide +kernel
theorem dX8_followRight_44 : decode cX8_followRight 44 = .ok (.iadd, 1) := by decide +kernel
theorem dX8_followRight_45 : decode cX8_followRight 45 = .ok (.goto 5, 3) := by decide +kernel
theorem dX8_followRight_48 : decode cX8_followRight 48 = .ok (.iload 4, 2) := by decide +kernel
theorem dX8_followRight_50 : decode cX8_followRight 50 = .ok (.istore 4, 2) := by decide +kernel
theorem dX8_followRight_52 : decode cX8_followRight 52 = .ok (.aload_n 0, 1) := by decide +kernel
theorem dX8_followRight_53 : decode cX8_followRight 53 = .ok (.getfield 31, 3) := by decide +kernel
theorem dX8_followRight_56 : decode cX8_followRight 56 = .ok (.iload 5, 2) := by decide +kernel
theorem dX8_followRight_58 : decode cX8_followRight 58 = .ok (.iload 4, 2) := by decide +kernel
theorem dX8_followRight_60 : decode cX8_followRight 60 = .ok (.iastore, 1) := by decide +kernel
theorem dX8_followRight_61 : decode cX8_followRight 61 = .ok (.iinc 5 1, 3) := by decide +kernel
theorem dX8_followRight_64 : decode cX8_followRight 64 = .ok (.goto (-54), 3) := by decide +kernel
theorem dX8_followRight_67 : decode cX8_followRight 67 = .ok (.return_, 1) := by decide +kernel
theorem dX8_moveToMost_0 : decode cX8_moveToMost 0 = .ok (.iload_n 1, 1) := by decide +kernel
theorem dX8_moveToMost_1 : decode cX8_moveToMost 1 = .ok (.aload_n 0, 1) := by decide +kernel
theorem dX8_moveToMost_2 : decode cX8_moveToMost 2 = .ok (.getfield 71, 3) := by decide +kernel
theorem dX8_moveToMost_5 : decode cX8_moveToMost 5 = .ok (.if_icmp .le 7, 3) := by decide +kernel
theorem dX8_moveToMost_8 : decode cX8_moveToMost 8 = .ok (.iconst (-1), 1) := by decide +kernel
theorem dX8_moveToMost_9 : decode cX8_moveToMost 9 = .ok (.goto 4, 3) := by decide +kernel
theorem dX8_moveToMost_12 : decode cX8_moveToMost 12 = .ok (.iconst 0, 1) := by decide +kernel
theorem dX8_moveToMost_13 : decode cX8_moveToMost 13 = .ok (.istore_n 2, 1) := by decide +kernel
theorem dX8_moveToMost_14 : decode cX8_moveToMost 14 = .ok (.iload_n 2, 1) := by decide +kernel
theorem dX8_moveToMost_15 : decode cX8_moveToMost 15 = .ok (.iconst 1, 1) := by decide +kernel
theorem dX8_moveToMost_16 : decode cX8_moveToMost 16 = .ok (.iadd, 1) := by decide +kernel
theorem dX8_moveToMost_17 : decode cX8_moveToMost 17 = .ok (.istore_n 3, 1) := by decide +kernel
theorem dX8_moveToMost_18 : decode cX8_moveToMost 18 = .ok (.iload_n 3, 1) := by decide +kernel
