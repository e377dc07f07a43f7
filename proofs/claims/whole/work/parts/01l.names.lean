theorem dX12_image_0 : decode cX12_image 0 = .ok (.iload_n 1, 1) := by decide +kernel
theorem dX12_image_1 : decode cX12_image 1 = .ok (.iconst 0, 1) := by decide +kernel
theorem dX12_image_2 : decode cX12_image 2 = .ok (.iconst 1, 1) := by decide +kernel
theorem dX12_image_3 : decode cX12_image 3 = .ok (.invokestatic 63, 3) := by decide +kernel
theorem dX12_image_6 : decode cX12_image 6 = .ok (.ifCond .ne 6, 3) := by decide +kernel
theorem dX12_image_9 : decode cX12_image 9 = .ok (.ldc 71, 2) := by decide +kernel
theorem dX12_image_11 : decode cX12_image 11 = .ok (.ireturn, 1) := by decide +kernel
theorem dX12_image_12 : decode cX12_image 12 = .ok (.aload_n 0, 1) := by decide +kernel
theorem dX12_image_13 : decode cX12_image 13 = .ok (.invokevirtual 196, 3) := by decide +kernel
theorem dX12_image_16 : decode cX12_image 16 = .ok (.ifCond .ne 6, 3) := by decide +kernel
theorem dX12_image_19 : decode cX12_image 19 = .ok (.ldc 200, 2) := by decide +kernel
theorem dX12_image_21 : decode cX12_image 21 = .ok (.ireturn, 1) := by decide +kernel
theorem dX12_image_22 : decode cX12_image 22 = .ok (.iconst 0, 1) := by decide +kernel
theorem dX12_image_23 : decode cX12_image 23 = .ok (.istore_n 2, 1) := by decide +kernel
theorem dX12_image_24 : decode cX12_image 24 = .ok (.iload_n 2, 1) := by decide +kernel
theorem dX12_image_25 : decode cX12_image 25 = .ok (.bipush 78, 2) := by decide +kernel
theorem dX12_image_27 : decode cX12_image 27 = .ok (.if_icmp .ge 26, 3) := by decide +kernel
theorem dX12_image_30 : decode cX12_image 30 = .ok (.aload_n 0, 1) := by decide +kernel
theorem dX12_image_31 : decode cX12_image 31 = .ok (.getfield 13, 3) := by decide +kernel
theorem dX12_image_34 : decode cX12_image 34 = .ok (.bipush 78, 2) := by decide +kernel
theorem dX12_image_36 : decode cX12_image 36 = .ok (.iload_n 1, 1) := by decide +kernel
theorem dX12_image_37 : decode cX12_image 37 = .ok (.imul, 1) := by decide +kernel
theorem dX12_image_38 : decode cX12_image 38 = .ok (.iload_n 2, 1) := by decide +kernel
theorem dX12_image_39 : decode cX12_image 39 = .ok (.iadd, 1) := by decide +kernel
theorem dX12_image_40 : decode cX12_image 40 = .ok (.aload_n 0, 1) := by decide +kernel
theorem dX12_image_41 : decode cX12_image 41 = .ok (.getfield 7, 3) := by decide +kernel
theorem dX12_image_44 : decode cX12_image 44 = .ok (.iload_n 2, 1) := by decide +kernel
theorem dX12_image_45 : decode cX12_image 45 = .ok (.iaload, 1) := by decide +kernel
theorem dX12_image_46 : decode cX12_image 46 = .ok (.iastore, 1) := by decide +kernel
theorem dX12_image_47 : decode cX12_image 47 = .ok (.iinc 2 1, 3) := by decide +kernel
theorem dX12_image_50 : decode cX12_image 50 = .ok (.goto (-26), 3) := by decide +kernel
theorem dX12_image_53 : decode cX12_image 53 = .ok (.aload_n 0, 1) := by decide +kernel
theorem dX12_image_54 : decode cX12_image 54 = .ok (.getfield 16, 3) := by decide +kernel
theorem dX12_image_57 : decode cX12_image 57 = .ok (.iload_n 1, 1) := by decide +kernel
theorem dX12_image_58 : decode cX12_image 58 = .ok (.iconst 1, 1) := by decide +kernel
theorem dX12_image_59 : decode cX12_image 59 = .ok (.bastore, 1) := by decide +kernel
theorem dX12_image_60 : decode cX12_image 60 = .ok (.iconst 1, 1) := by decide +kernel
theorem dX12_image_61 : decode cX12_image 61 = .ok (.ireturn, 1) := by decide +kernel
set_option maxRecDepth 20000 in
theorem ggX12_restore_X12_in : GoodIn wsX12_restore wsX12_in := goodIn_r _ [9] (by decide +kernel) (by decide +kernel)
set_option maxRecDepth 20000 in
theorem gX12_restore_X12_in : GoodIn wsX12_restore (va_wsS RX12 63 yX12_in wsX12_in) := goodIn_app (goodIn_of _ (by decide +kernel)) ggX12_restore_X12_in
theorem dX12_restore_0 : decode cX12_restore 0 = .ok (.iload_n 1, 1) := by decide +kernel
theorem dX12_restore_1 : decode cX12_restore 1 = .ok (.iconst 0, 1) := by decide +kernel
theorem dX12_restore_2 : decode cX12_restore 2 = .ok (.iconst 1, 1) := by decide +kernel
theorem dX12_restore_3 : decode cX12_restore 3 = .ok (.invokestatic 63, 3) := by decide +kernel
theorem dX12_restore_6 : decode cX12_restore 6 = .ok (.ifCond .ne 6, 3) := by decide +kernel
theorem dX12_restore_9 : decode cX12_restore 9 = .ok (.ldc 71, 2) := by decide +kernel
theorem dX12_restore_11 : decode cX12_restore 11 = .ok (.ireturn, 1) := by decide +kernel
theorem dX12_restore_12 : decode cX12_restore 12 = .ok (.aload_n 0, 1) := by decide +kernel
theorem dX12_restore_13 : decode cX12_restore 13 = .ok (.getfield 16, 3) := by decide +kernel
theorem dX12_restore_16 : decode cX12_restore 16 = .ok (.iload_n 1, 1) := by decide +kernel
theorem dX12_restore_17 : decode cX12_restore 17 = .ok (.baload, 1) := by decide +kernel
theorem dX12_restore_18 : decode cX12_restore 18 = .ok (.ifCond .ne 6, 3) := by decide +kernel
theorem dX12_restore_21 : decode cX12_restore 21 = .ok (.ldc 200, 2) := by decide +kernel
theorem dX12_restore_23 : decode cX12_restore 23 = .ok (.ireturn, 1) := by decide +kernel
theorem dX12_restore_24 : decode cX12_restore 24 = .ok (.iconst 0, 1) := by decide +kernel
theorem dX12_restore_25 : decode cX12_restore 25 = .ok (.istore_n 2, 1) := by decide +kernel
theorem dX12_restore_26 : decode cX12_restore 26 = .ok (.iload_n 2, 1) := by decide +kernel
theorem dX12_restore_27 : decode cX12_restore 27 = .ok (.bipush 78, 2) := by decide +kernel
theorem dX12_restore_29 : decode cX12_restore 29 = .ok (.if_icmp .ge 26, 3) := by decide +kernel
theorem dX12_restore_32 : decode cX12_restore 32 = .ok (.aload_n 0, 1) := by decide +kernel
theorem dX12_restore_33 : decode cX12_restore 33 = .ok (.getfield 7, 3) := by decide +kernel
theorem dX12_restore_36 : decode cX12_restore 36 = .ok (.iload_n 2, 1) := by decide +kernel
theorem dX12_restore_37 : decode cX12_restore 37 = .ok (.aload_n 0, 1) := by decide +kernel
theorem dX12_restore_38 : decode cX12_restore 38 = .ok (.getfield 13, 3) := by decide +kernel
theorem dX12_restore_41 : decode cX12_restore 41 = .ok (.bipush 78, 2) := by decide +kernel
theorem dX12_restore_43 : decode cX12_restore 43 = .ok (.iload_n 1, 1) := by decide +kernel
theorem dX12_restore_44 : decode cX12_restore 44 = .ok (.imul, 1) := by decide +kernel
theorem dX12_restore_45 : decode cX12_restore 45 = .ok (.iload_n 2, 1) := by decide +kernel
theorem dX12_restore_46 : decode cX12_restore 46 = .ok (.iadd, 1) := by decide +kernel
theorem dX12_restore_47 : decode cX12_restore 47 = .ok (.iaload, 1) := by decide +kernel
theorem dX12_restore_48 : decode cX12_restore 48 = .ok (.iastore, 1) := by decide +kernel
theorem dX12_restore_49 : decode cX12_restore 49 = .ok (.iinc 2 1, 3) := by decide +kernel
theorem dX12_restore_52 : decode cX12_restore 52 = .ok (.goto (-26), 3) := by decide +kernel
theorem dX12_restore_55 : decode cX12_restore 55 = .ok (.iconst 1, 1) := by decide +kernel
theorem dX12_restore_56 : decode cX12_restore 56 = .ok (.ireturn, 1) := by decide +kernel
set_option maxRecDepth 20000 in
theorem ggX12_kind_X12_isStrip : GoodIn wsX12_kind wsX12_isStrip := goodIn_r _ [6, 7, 8, 9, 5, 10, 15, 16, 17, 18, 19, 20, 21, 22, 23, 24, 25, 26, 27, 28, 29, 30, 31, 32, 33, 34, 35, 36, 37, 38, 39, 40] (by decide +kernel) (by decide +kernel)
set_option maxRecDepth 20000 in
theorem gX12_kind_X12_isStrip : GoodIn wsX12_kind (wsV RX12 185 RX12 yX12_isStrip wsX12_isStrip) := goodIn_app (goodIn_of _ (by decide +kernel)) ggX12_kind_X12_isStrip
set_option maxRecDepth 20000 in
theorem ggX12_kind_X12_sown : GoodIn wsX12_kind wsX12_sown := goodIn_r _ [14, 7, 15, 16, 17, 18, 19, 20, 21, 22, 23, 24, 25, 26, 27, 28, 29, 30, 31, 32, 33, 34, 35, 36, 37, 38, 39, 40] (by decide +kernel) (by decide +kernel)
set_option maxRecDepth 20000 in
theorem gX12_kind_X12_sown : GoodIn wsX12_kind (wsV RX12 165 RX12 yX12_sown wsX12_sown) := goodIn_app (goodIn_of _ (by decide +kernel)) ggX12_kind_X12_sown
theorem dX12_kind_0 : decode cX12_kind 0 = .ok (.aload_n 0, 1) := by decide +kernel
theorem dX12_kind_1 : decode cX12_kind 1 = .ok (.iload_n 1, 1) := by decide +kernel
theorem dX12_kind_2 : decode cX12_kind 2 = .ok (.invokevirtual 185, 3) := by decide +kernel
theorem dX12_kind_5 : decode cX12_kind 5 = .ok (.ifCond .eq 12, 3) := by decide +kernel
theorem dX12_kind_8 : decode cX12_kind 8 = .ok (.aload_n 0, 1) := by decide +kernel
theorem dX12_kind_9 : decode cX12_kind 9 = .ok (.iload_n 1, 1) := by decide +kernel
theorem dX12_kind_10 : decode cX12_kind 10 = .ok (.iconst 0, 1) := by decide +kernel
theorem dX12_kind_11 : decode cX12_kind 11 = .ok (.invokevirtual 165, 3) := by decide +kernel
theorem dX12_kind_14 : decode cX12_kind 14 = .ok (.goto 5, 3) := by decide +kernel
theorem dX12_kind_17 : decode cX12_kind 17 = .ok (.ldc 71, 2) := by decide +kernel
theorem dX12_kind_19 : decode cX12_kind 19 = .ok (.ireturn, 1) := by decide +kernel
set_option maxRecDepth 20000 in
theorem ggX12_isA_X12_in : GoodIn wsX12_isA wsX12_in := goodIn_r _ [4] (by decide +kernel) (by decide +kernel)
set_option maxRecDepth 20000 in
theorem gX12_isA_X12_in : GoodIn wsX12_isA (va_wsS RX12 63 yX12_in wsX12_in) := goodIn_app (goodIn_of _ (by decide +kernel)) ggX12_isA_X12_in
theorem dX12_isA_0 : decode cX12_isA 0 = .ok (.iload_n 1, 1) := by decide +kernel
theorem dX12_isA_1 : decode cX12_isA 1 = .ok (.ifCond .eq 32, 3) := by decide +kernel
theorem dX12_isA_4 : decode cX12_isA 4 = .ok (.iload_n 0, 1) := by decide +kernel
theorem dX12_isA_5 : decode cX12_isA 5 = .ok (.iload_n 1, 1) := by decide +kernel
theorem dX12_isA_6 : decode cX12_isA 6 = .ok (.if_icmp .eq 27, 3) := by decide +kernel
theorem dX12_isA_9 : decode cX12_isA 9 = .ok (.iload_n 1, 1) := by decide +kernel
theorem dX12_isA_10 : decode cX12_isA 10 = .ok (.iconst 1, 1) := by decide +kernel
theorem dX12_isA_11 : decode cX12_isA 11 = .ok (.if_icmp .ne 12, 3) := by decide +kernel
theorem dX12_isA_14 : decode cX12_isA 14 = .ok (.iload_n 0, 1) := by decide +kernel
theorem dX12_isA_15 : decode cX12_isA 15 = .ok (.iconst 2, 1) := by decide +kernel
theorem dX12_isA_16 : decode cX12_isA 16 = .ok (.iconst 3, 1) := by decide +kernel
theorem dX12_isA_17 : decode cX12_isA 17 = .ok (.invokestatic 63, 3) := by decide +kernel
theorem dX12_isA_20 : decode cX12_isA 20 = .ok (.ifCond .ne 13, 3) := by decide +kernel
theorem dX12_isA_23 : decode cX12_isA 23 = .ok (.iload_n 1, 1) := by decide +kernel
theorem dX12_isA_24 : decode cX12_isA 24 = .ok (.iconst 4, 1) := by decide +kernel
theorem dX12_isA_25 : decode cX12_isA 25 = .ok (.if_icmp .ne 12, 3) := by decide +kernel
theorem dX12_isA_28 : decode cX12_isA 28 = .ok (.iload_n 0, 1) := by decide +kernel
theorem dX12_isA_29 : decode cX12_isA 29 = .ok (.iconst 5, 1) := by decide +kernel
theorem dX12_isA_30 : decode cX12_isA 30 = .ok (.if_icmp .ne 7, 3) := by decide +kernel
theorem dX12_isA_33 : decode cX12_isA 33 = .ok (.iconst 1, 1) := by decide +kernel
theorem dX12_isA_34 : decode cX12_isA 34 = .ok (.goto 4, 3) := by decide +kernel
theorem dX12_isA_37 : decode cX12_isA 37 = .ok (.iconst 0, 1) := by decide +kernel
theorem dX12_isA_38 : decode cX12_isA 38 = .ok (.ireturn, 1) := by decide +kernel
set_option maxRecDepth 20000 in
theorem ggX12_as_X12_isStrip : GoodIn wsX12_as wsX12_isStrip := goodIn_r _ [6, 7, 8, 9, 5, 10, 28, 29, 30, 31, 32, 33, 34, 35, 36, 37, 38, 39, 40, 41, 42, 43, 44, 45, 46, 47, 48, 49, 50, 51, 52, 53] (by decide +kernel) (by decide +kernel)
set_option maxRecDepth 20000 in
theorem gX12_as_X12_isStrip : GoodIn wsX12_as (wsV RX12 185 RX12 yX12_isStrip wsX12_isStrip) := goodIn_app (goodIn_of _ (by decide +kernel)) ggX12_as_X12_isStrip
set_option maxRecDepth 20000 in
theorem ggX12_as_X12_in : GoodIn wsX12_as wsX12_in := goodIn_r _ [10] (by decide +kernel) (by decide +kernel)
set_option maxRecDepth 20000 in
theorem gX12_as_X12_in : GoodIn wsX12_as (va_wsS RX12 63 yX12_in wsX12_in) := goodIn_app (goodIn_of _ (by decide +kernel)) ggX12_as_X12_in
set_option maxRecDepth 20000 in
theorem ggX12_as_X12_sown : GoodIn wsX12_as wsX12_sown := goodIn_r _ [14, 7, 28, 29, 30, 31, 32, 33, 34, 35, 36, 37, 38, 39, 40, 41, 42, 43, 44, 45, 46, 47, 48, 49, 50, 51, 52, 53] (by decide +kernel) (by decide +kernel)
set_option maxRecDepth 20000 in
theorem gX12_as_X12_sown : GoodIn wsX12_as (wsV RX12 165 RX12 yX12_sown wsX12_sown) := goodIn_app (goodIn_of _ (by decide +kernel)) ggX12_as_X12_sown
set_option maxRecDepth 20000 in
theorem ggX12_as_X12_isA : GoodIn wsX12_as wsX12_isA := goodIn_r _ [17, 8, 9, 5, 10] (by decide +kernel) (by decide +kernel)
set_option maxRecDepth 20000 in
theorem gX12_as_X12_isA : GoodIn wsX12_as (va_wsS RX12 250 yX12_isA wsX12_isA) := goodIn_app (goodIn_of _ (by decide +kernel)) ggX12_as_X12_isA
set_option maxRecDepth 20000 in
theorem ggX12_as_X12_well : GoodIn wsX12_as wsX12_well := goodIn_r _ [21, 22, 28, 29, 30, 31, 32, 33, 34, 35, 36, 37, 38, 39, 40, 41, 42, 43, 44, 45, 46, 47, 48, 49, 50, 51, 52, 53] (by decide +kernel) (by decide +kernel)
set_option maxRecDepth 20000 in
theorem gX12_as_X12_well : GoodIn wsX12_as (wsV RX12 76 RX12 yX12_well wsX12_well) := goodIn_app (goodIn_of _ (by decide +kernel)) ggX12_as_X12_well
set_option maxRecDepth 20000 in
theorem ggX12_as_X12_found : GoodIn wsX12_as wsX12_found := goodIn_r _ [26, 22, 27, 28, 29, 30, 31, 32, 33, 34, 35, 36, 37, 38, 39, 40, 41, 42, 43, 44, 45, 46, 47, 48, 49, 50, 51, 52, 53] (by decide +kernel) (by decide +kernel)
set_option maxRecDepth 20000 in
theorem gX12_as_X12_found : GoodIn wsX12_as (wsV RX12 72 RX12 yX12_found wsX12_found) := goodIn_app (goodIn_of _ (by decide +kernel)) ggX12_as_X12_found
theorem dX12_as_0 : decode cX12_as 0 = .ok (.aload_n 0, 1) := by decide +kernel
theorem dX12_as_1 : decode cX12_as 1 = .ok (.iload_n 1, 1) := by decide +kernel
theorem dX12_as_2 : decode cX12_as 2 = .ok (.invokevirtual 185, 3) := by decide +kernel
theorem dX12_as_5 : decode cX12_as 5 = .ok (.ifCond .eq 12, 3) := by decide +kernel
theorem dX12_as_8 : decode cX12_as 8 = .ok (.iload_n 2, 1) := by decide +kernel
theorem dX12_as_9 : decode cX12_as 9 = .ok (.iconst 0, 1) := by decide +kernel
theorem dX12_as_10 : decode cX12_as 10 = .ok (.iconst 5, 1) := by decide +kernel
theorem dX12_as_11 : decode cX12_as 11 = .ok (.invokestatic 63, 3) := by decide +kernel
theorem dX12_as_14 : decode cX12_as 14 = .ok (.ifCond .ne 6, 3) := by decide +kernel
theorem dX12_as_17 : decode cX12_as 17 = .ok (.ldc 71, 2) := by decide +kernel
theorem dX12_as_19 : decode cX12_as 19 = .ok (.ireturn, 1) := by decide +kernel
theorem dX12_as_20 : decode cX12_as 20 = .ok (.aload_n 0, 1) := by decide +kernel
theorem dX12_as_21 : decode cX12_as 21 = .ok (.iload_n 1, 1) := by decide +kernel
theorem dX12_as_22 : decode cX12_as 22 = .ok (.iconst 0, 1) := by decide +kernel
theorem dX12_as_23 : decode cX12_as 23 = .ok (.invokevirtual 165, 3) := by decide +kernel
theorem dX12_as_26 : decode cX12_as 26 = .ok (.iload_n 2, 1) := by decide +kernel
theorem dX12_as_27 : decode cX12_as 27 = .ok (.invokestatic 250, 3) := by decide +kernel
theorem dX12_as_30 : decode cX12_as 30 = .ok (.ifCond .eq 11, 3) := by decide +kernel
theorem dX12_as_33 : decode cX12_as 33 = .ok (.aload_n 0, 1) := by decide +kernel
theorem dX12_as_34 : decode cX12_as 34 = .ok (.iload_n 1, 1) := by decide +kernel
theorem dX12_as_35 : decode cX12_as 35 = .ok (.invokevirtual 76, 3) := by decide +kernel
theorem dX12_as_38 : decode cX12_as 38 = .ok (.goto 8, 3) := by decide +kernel
theorem dX12_as_41 : decode cX12_as 41 = .ok (.aload_n 0, 1) := by decide +kernel
theorem dX12_as_42 : decode cX12_as 42 = .ok (.iconst 3, 1) := by decide +kernel
theorem dX12_as_43 : decode cX12_as 43 = .ok (.invokevirtual 72, 3) := by decide +kernel
theorem dX12_as_46 : decode cX12_as 46 = .ok (.ireturn, 1) := by decide +kernel
theorem dX12_begins_0 : decode cX12_begins 0 = .ok (.aload_n 0, 1) := by decide +kernel
theorem dX12_begins_1 : decode cX12_begins 1 = .ok (.getfield 253, 3) := by decide +kernel
theorem dX12_begins_4 : decode cX12_begins 4 = .ok (.bipush 16, 2) := by decide +kernel
theorem dX12_begins_6 : decode cX12_begins 6 = .ok (.if_icmp .ge 23, 3) := by decide +kernel
theorem dX12_begins_9 : decode cX12_begins 9 = .ok (.aload_n 0, 1) := by decide +kernel
theorem dX12_begins_10 : decode cX12_begins 10 = .ok (.getfield 54, 3) := by decide +kernel
theorem dX12_begins_13 : decode cX12_begins 13 = .ok (.aload_n 0, 1) := by decide +kernel
theorem dX12_begins_14 : decode cX12_begins 14 = .ok (.getfield 253, 3) := by decide +kernel
theorem dX12_begins_17 : decode cX12_begins 17 = .ok (.iload_n 1, 1) := by decide +kernel
theorem dX12_begins_18 : decode cX12_begins 18 = .ok (.iastore, 1) := by decide +kernel
theorem dX12_begins_19 : decode cX12_begins 19 = .ok (.aload_n 0, 1) := by decide +kernel
theorem dX12_begins_20 : decode cX12_begins 20 = .ok (.dup, 1) := by decide +kernel
theorem dX12_begins_21 : decode cX12_begins 21 = .ok (.getfield 253, 3) := by decide +kernel
theorem dX12_begins_24 : decode cX12_begins 24 = .ok (.iconst 1, 1) := by decide +kernel
theorem dX12_begins_25 : decode cX12_begins 25 = .ok (.iadd, 1) := by decide +kernel
theorem dX12_begins_26 : decode cX12_begins 26 = .ok (.putfield 253, 3) := by decide +kernel
theorem dX12_begins_29 : decode cX12_begins 29 = .ok (.return_, 1) := by decide +kernel
set_option maxRecDepth 20000 in
theorem ggX12_lentSize_X12_begins : GoodIn wsX12_lentSize wsX12_begins := goodIn_r _ [5, 6, 7, 13, 14, 15, 16, 17, 18, 19, 20, 21, 22, 23, 24, 25, 26, 27, 28, 29, 30, 31, 32, 33, 34, 35, 36, 37, 38] (by decide +kernel) (by decide +kernel)
set_option maxRecDepth 20000 in
theorem gX12_lentSize_X12_begins : GoodIn wsX12_lentSize (wsV RX12 256 RX12 yX12_begins wsX12_begins) := goodIn_app (goodIn_of _ (by decide +kernel)) ggX12_lentSize_X12_begins
set_option maxRecDepth 20000 in
theorem ggX12_lentSize_X12_sown : GoodIn wsX12_lentSize wsX12_sown := goodIn_r _ [11, 12, 13, 14, 15, 16, 17, 18, 19, 20, 21, 22, 23, 24, 25, 26, 27, 28, 29, 30, 31, 32, 33, 34, 35, 36, 37, 38] (by decide +kernel) (by decide +kernel)
set_option maxRecDepth 20000 in
theorem gX12_lentSize_X12_sown : GoodIn wsX12_lentSize (wsV RX12 165 RX12 yX12_sown wsX12_sown) := goodIn_app (goodIn_of _ (by decide +kernel)) ggX12_lentSize_X12_sown
theorem dX12_lentSize_0 : decode cX12_lentSize 0 = .ok (.aload_n 0, 1) := by decide +kernel
theorem dX12_lentSize_1 : decode cX12_lentSize 1 = .ok (.bipush 10, 2) := by decide +kernel
theorem dX12_lentSize_3 : decode cX12_lentSize 3 = .ok (.invokevirtual 256, 3) := by decide +kernel
theorem dX12_lentSize_6 : decode cX12_lentSize 6 = .ok (.aload_n 0, 1) := by decide +kernel
theorem dX12_lentSize_7 : decode cX12_lentSize 7 = .ok (.iload_n 1, 1) := by decide +kernel
theorem dX12_lentSize_8 : decode cX12_lentSize 8 = .ok (.iconst 1, 1) := by decide +kernel
theorem dX12_lentSize_9 : decode cX12_lentSize 9 = .ok (.invokevirtual 165, 3) := by decide +kernel
theorem dX12_lentSize_12 : decode cX12_lentSize 12 = .ok (.ireturn, 1) := by decide +kernel
set_option maxRecDepth 20000 in
theorem ggX12_lentMark_X12_begins : GoodIn wsX12_lentMark wsX12_begins := goodIn_r _ [5, 6, 7, 8, 9, 10, 11, 12, 13, 14, 15, 16, 17, 18, 19, 20, 21, 22, 23, 24, 25, 26, 27, 28, 29, 30, 31, 32, 33] (by decide +kernel) (by decide +kernel)
set_option maxRecDepth 20000 in
theorem gX12_lentMark_X12_begins : GoodIn wsX12_lentMark (wsV RX12 256 RX12 yX12_begins wsX12_begins) := goodIn_app (goodIn_of _ (by decide +kernel)) ggX12_lentMark_X12_begins
theorem dX12_lentMark_0 : decode cX12_lentMark 0 = .ok (.aload_n 0, 1) := by decide +kernel
theorem dX12_lentMark_1 : decode cX12_lentMark 1 = .ok (.bipush 20, 2) := by decide +kernel
theorem dX12_lentMark_3 : decode cX12_lentMark 3 = .ok (.invokevirtual 256, 3) := by decide +kernel
theorem dX12_lentMark_6 : decode cX12_lentMark 6 = .ok (.iload_n 1, 1) := by decide +kernel
theorem dX12_lentMark_7 : decode cX12_lentMark 7 = .ok (.ireturn, 1) := by decide +kernel
set_option maxRecDepth 20000 in
theorem ggX12_beansMark_X12_begins : GoodIn wsX12_beansMark wsX12_begins := goodIn_r _ [5, 6, 7, 17, 18, 19, 20, 21, 22, 23, 24, 25, 26, 27, 28, 29, 30, 31, 32, 33, 34, 35, 36, 37, 38, 39, 40, 41, 42] (by decide +kernel) (by decide +kernel)
set_option maxRecDepth 20000 in
theorem gX12_beansMark_X12_begins : GoodIn wsX12_beansMark (wsV RX12 256 RX12 yX12_begins wsX12_begins) := goodIn_app (goodIn_of _ (by decide +kernel)) ggX12_beansMark_X12_begins
set_option maxRecDepth 20000 in
theorem ggX12_beansMark_X12_lentMark : GoodIn wsX12_beansMark wsX12_lentMark := goodIn_r _ [11, 1, 2, 3, 4, 5, 6, 7, 17, 18, 19, 20, 21, 22, 23, 24, 25, 26, 27, 28, 29, 30, 31, 32, 33, 34, 35, 36, 37, 38, 39, 40, 41, 42] (by decide +kernel) (by decide +kernel)
set_option maxRecDepth 20000 in
theorem gX12_beansMark_X12_lentMark : GoodIn wsX12_beansMark (wsV RX12 259 RX12 yX12_lentMark wsX12_lentMark) := goodIn_app (goodIn_of _ (by decide +kernel)) ggX12_beansMark_X12_lentMark
set_option maxRecDepth 20000 in
theorem ggX12_beansMark_X12_sown : GoodIn wsX12_beansMark wsX12_sown := goodIn_r _ [15, 16, 17, 18, 19, 20, 21, 22, 23, 24, 25, 26, 27, 28, 29, 30, 31, 32, 33, 34, 35, 36, 37, 38, 39, 40, 41, 42] (by decide +kernel) (by decide +kernel)
set_option maxRecDepth 20000 in
theorem gX12_beansMark_X12_sown : GoodIn wsX12_beansMark (wsV RX12 165 RX12 yX12_sown wsX12_sown) := goodIn_app (goodIn_of _ (by decide +kernel)) ggX12_beansMark_X12_sown
theorem dX12_beansMark_0 : decode cX12_beansMark 0 = .ok (.aload_n 0, 1) := by decide +kernel
theorem dX12_beansMark_1 : decode cX12_beansMark 1 = .ok (.bipush 21, 2) := by decide +kernel
theorem dX12_beansMark_3 : decode cX12_beansMark 3 = .ok (.invokevirtual 256, 3) := by decide +kernel
theorem dX12_beansMark_6 : decode cX12_beansMark 6 = .ok (.aload_n 0, 1) := by decide +kernel
theorem dX12_beansMark_7 : decode cX12_beansMark 7 = .ok (.iload_n 1, 1) := by decide +kernel
theorem dX12_beansMark_8 : decode cX12_beansMark 8 = .ok (.invokevirtual 259, 3) := by decide +kernel
theorem dX12_beansMark_11 : decode cX12_beansMark 11 = .ok (.aload_n 0, 1) := by decide +kernel
theorem dX12_beansMark_12 : decode cX12_beansMark 12 = .ok (.iload_n 1, 1) := by decide +kernel
theorem dX12_beansMark_13 : decode cX12_beansMark 13 = .ok (.iconst 2, 1) := by decide +kernel
theorem dX12_beansMark_14 : decode cX12_beansMark 14 = .ok (.invokevirtual 165, 3) := by decide +kernel
theorem dX12_beansMark_17 : decode cX12_beansMark 17 = .ok (.iadd, 1) := by decide +kernel
theorem dX12_beansMark_18 : decode cX12_beansMark 18 = .ok (.ireturn, 1) := by decide +kernel
set_option maxRecDepth 20000 in
theorem ggX12_markOfBeans_X12_sown : GoodIn wsX12_markOfBeans wsX12_sown := goodIn_r _ [5, 6, 21, 22, 23, 24, 25, 26, 27, 28, 29, 30, 31, 32, 33, 34, 35, 36, 37, 38, 39, 40, 41, 42, 43, 44, 45, 46] (by decide +kernel) (by decide +kernel)
set_option maxRecDepth 20000 in
theorem gX12_markOfBeans_X12_sown : GoodIn wsX12_markOfBeans (wsV RX12 165 RX12 yX12_sown wsX12_sown) := goodIn_app (goodIn_of _ (by decide +kernel)) ggX12_markOfBeans_X12_sown
set_option maxRecDepth 20000 in
theorem ggX12_markOfBeans_X12_begins : GoodIn wsX12_markOfBeans wsX12_begins := goodIn_r _ [10, 11, 12, 21, 22, 23, 24, 25, 26, 27, 28, 29, 30, 31, 32, 33, 34, 35, 36, 37, 38, 39, 40, 41, 42, 43, 44, 45, 46] (by decide +kernel) (by decide +kernel)
set_option maxRecDepth 20000 in
theorem gX12_markOfBeans_X12_begins : GoodIn wsX12_markOfBeans (wsV RX12 256 RX12 yX12_begins wsX12_begins) := goodIn_app (goodIn_of _ (by decide +kernel)) ggX12_markOfBeans_X12_begins
set_option maxRecDepth 20000 in
theorem ggX12_markOfBeans_X12_beansMark : GoodIn wsX12_markOfBeans wsX12_beansMark := goodIn_r _ [16, 7, 8, 9, 4, 10, 11, 12, 17, 18, 19, 20, 1, 2, 3, 5, 6, 21, 22, 23, 24, 25, 26, 27, 28, 29, 30, 31, 32, 33, 34, 35, 36, 37, 38, 39, 40, 41, 42, 43, 44, 45, 46] (by decide +kernel) (by decide +kernel)
set_option maxRecDepth 20000 in
theorem gX12_markOfBeans_X12_beansMark : GoodIn wsX12_markOfBeans (wsV RX12 262 RX12 yX12_beansMark wsX12_beansMark) := goodIn_app (goodIn_of _ (by decide +kernel)) ggX12_markOfBeans_X12_beansMark
theorem dX12_markOfBeans_0 : decode cX12_markOfBeans 0 = .ok (.aload_n 0, 1) := by decide +kernel
theorem dX12_markOfBeans_1 : decode cX12_markOfBeans 1 = .ok (.iload_n 1, 1) := by decide +kernel
theorem dX12_markOfBeans_2 : decode cX12_markOfBeans 2 = .ok (.iconst 0, 1) := by decide +kernel
theorem dX12_markOfBeans_3 : decode cX12_markOfBeans 3 = .ok (.invokevirtual 165, 3) := by decide +kernel
theorem dX12_markOfBeans_6 : decode cX12_markOfBeans 6 = .ok (.istore_n 2, 1) := by decide +kernel
theorem dX12_markOfBeans_7 : decode cX12_markOfBeans 7 = .ok (.iload_n 2, 1) := by decide +kernel
theorem dX12_markOfBeans_8 : decode cX12_markOfBeans 8 = .ok (.iconst 2, 1) := by decide +kernel
theorem dX12_markOfBeans_9 : decode cX12_markOfBeans 9 = .ok (.if_icmp .ne 17, 3) := by decide +kernel
theorem dX12_markOfBeans_12 : decode cX12_markOfBeans 12 = .ok (.aload_n 0, 1) := by decide +kernel
theorem dX12_markOfBeans_13 : decode cX12_markOfBeans 13 = .ok (.bipush 24, 2) := by decide +kernel
theorem dX12_markOfBeans_15 : decode cX12_markOfBeans 15 = .ok (.invokevirtual 256, 3) := by decide +kernel
theorem dX12_markOfBeans_18 : decode cX12_markOfBeans 18 = .ok (.iconst 2, 1) := by decide +kernel
theorem dX12_markOfBeans_19 : decode cX12_markOfBeans 19 = .ok (.aload_n 0, 1) := by decide +kernel
theorem dX12_markOfBeans_20 : decode cX12_markOfBeans 20 = .ok (.iload_n 1, 1) := by decide +kernel
theorem dX12_markOfBeans_21 : decode cX12_markOfBeans 21 = .ok (.invokevirtual 262, 3) := by decide +kernel
theorem dX12_markOfBeans_24 : decode cX12_markOfBeans 24 = .ok (.imul, 1) := by decide +kernel
theorem dX12_markOfBeans_25 : decode cX12_markOfBeans 25 = .ok (.ireturn, 1) := by decide +kernel
theorem dX12_markOfBeans_26 : decode cX12_markOfBeans 26 = .ok (.iload_n 2, 1) := by decide +kernel
theorem dX12_markOfBeans_27 : decode cX12_markOfBeans 27 = .ok (.iconst 3, 1) := by decide +kernel
theorem dX12_markOfBeans_28 : decode cX12_markOfBeans 28 = .ok (.if_icmp .ne 19, 3) := by decide +kernel
theorem dX12_markOfBeans_31 : decode cX12_markOfBeans 31 = .ok (.aload_n 0, 1) := by decide +kernel
theorem dX12_markOfBeans_32 : decode cX12_markOfBeans 32 = .ok (.bipush 22, 2) := by decide +kernel
theorem dX12_markOfBeans_34 : decode cX12_markOfBeans 34 = .ok (.invokevirtual 256, 3) := by decide +kernel
theorem dX12_markOfBeans_37 : decode cX12_markOfBeans 37 = .ok (.aload_n 0, 1) := by decide +kernel
theorem dX12_markOfBeans_38 : decode cX12_markOfBeans 38 = .ok (.iload_n 1, 1) := by decide +kernel
theorem dX12_markOfBeans_39 : decode cX12_markOfBeans 39 = .ok (.invokevirtual 262, 3) := by decide +kernel
theorem dX12_markOfBeans_42 : decode cX12_markOfBeans 42 = .ok (.sipush 1000, 3) := by decide +kernel
theorem dX12_markOfBeans_45 : decode cX12_markOfBeans 45 = .ok (.isub, 1) := by decide +kernel
theorem dX12_markOfBeans_46 : decode cX12_markOfBeans 46 = .ok (.ireturn, 1) := by decide +kernel
theorem dX12_markOfBeans_47 : decode cX12_markOfBeans 47 = .ok (.aload_n 0, 1) := by decide +kernel
theorem dX12_markOfBeans_48 : decode cX12_markOfBeans 48 = .ok (.iload_n 1, 1) := by decide +kernel
theorem dX12_markOfBeans_49 : decode cX12_markOfBeans 49 = .ok (.invokevirtual 262, 3) := by decide +kernel
theorem dX12_markOfBeans_52 : decode cX12_markOfBeans 52 = .ok (.ireturn, 1) := by decide +kernel
set_option maxRecDepth 20000 in
theorem ggX12_beansSize_X12_begins : GoodIn wsX12_beansSize wsX12_begins := goodIn_r _ [5, 6, 7, 29, 30, 31, 32, 33, 34, 35, 36, 37, 38, 39, 40, 41, 42, 43, 44, 45, 46, 47, 48, 49, 50, 51, 52, 53, 54] (by decide +kernel) (by decide +kernel)
set_option maxRecDepth 20000 in
theorem gX12_beansSize_X12_begins : GoodIn wsX12_beansSize (wsV RX12 256 RX12 yX12_begins wsX12_begins) := goodIn_app (goodIn_of _ (by decide +kernel)) ggX12_beansSize_X12_begins
set_option maxRecDepth 20000 in
theorem ggX12_beansSize_X12_lentSize : GoodIn wsX12_beansSize wsX12_lentSize := goodIn_r _ [11, 1, 2, 3, 4, 5, 6, 7, 12, 13, 14, 15, 16, 29, 30, 31, 32, 33, 34, 35, 36, 37, 38, 39, 40, 41, 42, 43, 44, 45, 46, 47, 48, 49, 50, 51, 52, 53, 54] (by decide +kernel) (by decide +kernel)
set_option maxRecDepth 20000 in
theorem gX12_beansSize_X12_lentSize : GoodIn wsX12_beansSize (wsV RX12 265 RX12 yX12_lentSize wsX12_lentSize) := goodIn_app (goodIn_of _ (by decide +kernel)) ggX12_beansSize_X12_lentSize
set_option maxRecDepth 20000 in
theorem ggX12_beansSize_X12_markOfBeans : GoodIn wsX12_beansSize wsX12_markOfBeans := goodIn_r _ [20, 12, 13, 14, 4, 15, 16, 1, 2, 3, 5, 6, 7, 21, 22, 23, 24, 25, 26, 27, 28, 29, 30, 31, 32, 33, 34, 35, 36, 37, 38, 39, 40, 41, 42, 43, 44, 45, 46, 47, 48, 49, 50, 51, 52, 53, 54] (by decide +kernel) (by decide +kernel)
set_option maxRecDepth 20000 in
theorem gX12_beansSize_X12_markOfBeans : GoodIn wsX12_beansSize (wsV RX12 268 RX12 yX12_markOfBeans wsX12_markOfBeans) := goodIn_app (goodIn_of _ (by decide +kernel)) ggX12_beansSize_X12_markOfBeans
theorem dX12_beansSize_0 : decode cX12_beansSize 0 = .ok (.aload_n 0, 1) := by decide +kernel
theorem dX12_beansSize_1 : decode cX12_beansSize 1 = .ok (.bipush 11, 2) := by decide +kernel
theorem dX12_beansSize_3 : decode cX12_beansSize 3 = .ok (.invokevirtual 256, 3) := by decide +kernel
theorem dX12_beansSize_6 : decode cX12_beansSize 6 = .ok (.aload_n 0, 1) := by decide +kernel
theorem dX12_beansSize_7 : decode cX12_beansSize 7 = .ok (.iload_n 1, 1) := by decide +kernel
theorem dX12_beansSize_8 : decode cX12_beansSize 8 = .ok (.invokevirtual 265, 3) := by decide +kernel
theorem dX12_beansSize_11 : decode cX12_beansSize 11 = .ok (.istore_n 2, 1) := by decide +kernel
theorem dX12_beansSize_12 : decode cX12_beansSize 12 = .ok (.iload_n 2, 1) := by decide +kernel
theorem dX12_beansSize_13 : decode cX12_beansSize 13 = .ok (.aload_n 0, 1) := by decide +kernel
theorem dX12_beansSize_14 : decode cX12_beansSize 14 = .ok (.iload_n 1, 1) := by decide +kernel
theorem dX12_beansSize_15 : decode cX12_beansSize 15 = .ok (.invokevirtual 268, 3) := by decide +kernel
theorem dX12_beansSize_18 : decode cX12_beansSize 18 = .ok (.iadd, 1) := by decide +kernel
theorem dX12_beansSize_19 : decode cX12_beansSize 19 = .ok (.ireturn, 1) := by decide +kernel
set_option maxRecDepth 20000 in
theorem ggX12_grassSize_X12_begins : GoodIn wsX12_grassSize wsX12_begins := goodIn_r _ [5, 6, 7, 17, 18, 19, 20, 21, 22, 23, 24, 25, 26, 27, 28, 29, 30, 31, 32, 33, 34, 35, 36, 37, 38, 39, 40, 41, 42] (by decide +kernel) (by decide +kernel)
set_option maxRecDepth 20000 in
theorem gX12_grassSize_X12_begins : GoodIn wsX12_grassSize (wsV RX12 256 RX12 yX12_begins wsX12_begins) := goodIn_app (goodIn_of _ (by decide +kernel)) ggX12_grassSize_X12_begins
set_option maxRecDepth 20000 in
theorem ggX12_grassSize_X12_lentSize : GoodIn wsX12_grassSize wsX12_lentSize := goodIn_r _ [11, 1, 2, 3, 4, 5, 6, 7, 12, 13, 14, 15, 16, 17, 18, 19, 20, 21, 22, 23, 24, 25, 26, 27, 28, 29, 30, 31, 32, 33, 34, 35, 36, 37, 38, 39, 40, 41, 42] (by decide +kernel) (by decide +kernel)
set_option maxRecDepth 20000 in
theorem gX12_grassSize_X12_lentSize : GoodIn wsX12_grassSize (wsV RX12 265 RX12 yX12_lentSize wsX12_lentSize) := goodIn_app (goodIn_of _ (by decide +kernel)) ggX12_grassSize_X12_lentSize
theorem dX12_grassSize_0 : decode cX12_grassSize 0 = .ok (.aload_n 0, 1) := by decide +kernel
theorem dX12_grassSize_1 : decode cX12_grassSize 1 = .ok (.bipush 13, 2) := by decide +kernel
theorem dX12_grassSize_3 : decode cX12_grassSize 3 = .ok (.invokevirtual 256, 3) := by decide +kernel
theorem dX12_grassSize_6 : decode cX12_grassSize 6 = .ok (.aload_n 0, 1) := by decide +kernel
theorem dX12_grassSize_7 : decode cX12_grassSize 7 = .ok (.iload_n 1, 1) := by decide +kernel
theorem dX12_grassSize_8 : decode cX12_grassSize 8 = .ok (.invokevirtual 265, 3) := by decide +kernel
theorem dX12_grassSize_11 : decode cX12_grassSize 11 = .ok (.bipush 100, 2) := by decide +kernel
theorem dX12_grassSize_13 : decode cX12_grassSize 13 = .ok (.isub, 1) := by decide +kernel
theorem dX12_grassSize_14 : decode cX12_grassSize 14 = .ok (.ireturn, 1) := by decide +kernel
set_option maxRecDepth 20000 in
theorem ggX12_sizeOfGrass_X12_sown : GoodIn wsX12_sizeOfGrass wsX12_sown := goodIn_r _ [5, 6, 21, 22, 23, 24, 25, 26, 27, 28, 29, 30, 31, 32, 33, 34, 35, 36, 37, 38, 39, 40, 41, 42, 43, 44, 45, 46] (by decide +kernel) (by decide +kernel)
set_option maxRecDepth 20000 in
theorem gX12_sizeOfGrass_X12_sown : GoodIn wsX12_sizeOfGrass (wsV RX12 165 RX12 yX12_sown wsX12_sown) := goodIn_app (goodIn_of _ (by decide +kernel)) ggX12_sizeOfGrass_X12_sown
set_option maxRecDepth 20000 in
theorem ggX12_sizeOfGrass_X12_begins : GoodIn wsX12_sizeOfGrass wsX12_begins := goodIn_r _ [10, 11, 12, 21, 22, 23, 24, 25, 26, 27, 28, 29, 30, 31, 32, 33, 34, 35, 36, 37, 38, 39, 40, 41, 42, 43, 44, 45, 46] (by decide +kernel) (by decide +kernel)
set_option maxRecDepth 20000 in
theorem gX12_sizeOfGrass_X12_begins : GoodIn wsX12_sizeOfGrass (wsV RX12 256 RX12 yX12_begins wsX12_begins) := goodIn_app (goodIn_of _ (by decide +kernel)) ggX12_sizeOfGrass_X12_begins
set_option maxRecDepth 20000 in
theorem ggX12_sizeOfGrass_X12_grassSize : GoodIn wsX12_sizeOfGrass wsX12_grassSize := goodIn_r _ [16, 7, 8, 9, 4, 10, 11, 12, 17, 18, 19, 20, 1, 2, 3, 5, 6, 21, 22, 23, 24, 25, 26, 27, 28, 29, 30, 31, 32, 33, 34, 35, 36, 37, 38, 39, 40, 41, 42, 43, 44, 45, 46] (by decide +kernel) (by decide +kernel)
set_option maxRecDepth 20000 in
theorem gX12_sizeOfGrass_X12_grassSize : GoodIn wsX12_sizeOfGrass (wsV RX12 271 RX12 yX12_grassSize wsX12_grassSize) := goodIn_app (goodIn_of _ (by decide +kernel)) ggX12_sizeOfGrass_X12_grassSize
theorem dX12_sizeOfGrass_0 : decode cX12_sizeOfGrass 0 = .ok (.aload_n 0, 1) := by decide +kernel
theorem dX12_sizeOfGrass_1 : decode cX12_sizeOfGrass 1 = .ok (.iload_n 1, 1) := by decide +kernel
theorem dX12_sizeOfGrass_2 : decode cX12_sizeOfGrass 2 = .ok (.iconst 0, 1) := by decide +kernel
theorem dX12_sizeOfGrass_3 : decode cX12_sizeOfGrass 3 = .ok (.invokevirtual 165, 3) := by decide +kernel
theorem dX12_sizeOfGrass_6 : decode cX12_sizeOfGrass 6 = .ok (.iconst 5, 1) := by decide +kernel
theorem dX12_sizeOfGrass_7 : decode cX12_sizeOfGrass 7 = .ok (.if_icmp .ne 17, 3) := by decide +kernel
theorem dX12_sizeOfGrass_10 : decode cX12_sizeOfGrass 10 = .ok (.aload_n 0, 1) := by decide +kernel
theorem dX12_sizeOfGrass_11 : decode cX12_sizeOfGrass 11 = .ok (.bipush 14, 2) := by decide +kernel
theorem dX12_sizeOfGrass_13 : decode cX12_sizeOfGrass 13 = .ok (.invokevirtual 256, 3) := by decide +kernel
theorem dX12_sizeOfGrass_16 : decode cX12_sizeOfGrass 16 = .ok (.iconst 2, 1) := by decide +kernel
theorem dX12_sizeOfGrass_17 : decode cX12_sizeOfGrass 17 = .ok (.aload_n 0, 1) := by decide +kernel
theorem dX12_sizeOfGrass_18 : decode cX12_sizeOfGrass 18 = .ok (.iload_n 1, 1) := by decide +kernel
theorem dX12_sizeOfGrass_19 : decode cX12_sizeOfGrass 19 = .ok (.invokevirtual 271, 3) := by decide +kernel
theorem dX12_sizeOfGrass_22 : decode cX12_sizeOfGrass 22 = .ok (.imul, 1) := by decide +kernel
theorem dX12_sizeOfGrass_23 : decode cX12_sizeOfGrass 23 = .ok (.ireturn, 1) := by decide +kernel
theorem dX12_sizeOfGrass_24 : decode cX12_sizeOfGrass 24 = .ok (.aload_n 0, 1) := by decide +kernel
theorem dX12_sizeOfGrass_25 : decode cX12_sizeOfGrass 25 = .ok (.iload_n 1, 1) := by decide +kernel
theorem dX12_sizeOfGrass_26 : decode cX12_sizeOfGrass 26 = .ok (.invokevirtual 271, 3) := by decide +kernel
theorem dX12_sizeOfGrass_29 : decode cX12_sizeOfGrass 29 = .ok (.ireturn, 1) := by decide +kernel
set_option maxRecDepth 20000 in
theorem ggX12_sizeOf_X12_sown : GoodIn wsX12_sizeOf wsX12_sown := goodIn_r _ [5, 6, 44, 45, 46, 47, 48, 49, 50, 51, 52, 53, 54, 55, 56, 57, 58, 59, 60, 61, 62, 63, 64, 65, 66, 67, 68, 69] (by decide +kernel) (by decide +kernel)
set_option maxRecDepth 20000 in
theorem gX12_sizeOf_X12_sown : GoodIn wsX12_sizeOf (wsV RX12 165 RX12 yX12_sown wsX12_sown) := goodIn_app (goodIn_of _ (by decide +kernel)) ggX12_sizeOf_X12_sown
set_option maxRecDepth 20000 in
theorem ggX12_sizeOf_X12_in : GoodIn wsX12_sizeOf wsX12_in := goodIn_r _ [9] (by decide +kernel) (by decide +kernel)
set_option maxRecDepth 20000 in
theorem gX12_sizeOf_X12_in : GoodIn wsX12_sizeOf (va_wsS RX12 63 yX12_in wsX12_in) := goodIn_app (goodIn_of _ (by decide +kernel)) ggX12_sizeOf_X12_in
set_option maxRecDepth 20000 in
theorem ggX12_sizeOf_X12_sizeOfGrass : GoodIn wsX12_sizeOf wsX12_sizeOfGrass := goodIn_r _ [13, 1, 2, 3, 4, 5, 6, 14, 15, 16, 17, 18, 19, 20, 21, 22, 23, 24, 25, 26, 27, 44, 45, 46, 47, 48, 49, 50, 51, 52, 53, 54, 55, 56, 57, 58, 59, 60, 61, 62, 63, 64, 65, 66, 67, 68, 69] (by decide +kernel) (by decide +kernel)
set_option maxRecDepth 20000 in
theorem gX12_sizeOf_X12_sizeOfGrass : GoodIn wsX12_sizeOf (wsV RX12 274 RX12 yX12_sizeOfGrass wsX12_sizeOfGrass) := goodIn_app (goodIn_of _ (by decide +kernel)) ggX12_sizeOf_X12_sizeOfGrass
set_option maxRecDepth 20000 in
theorem ggX12_sizeOf_X12_begins : GoodIn wsX12_sizeOf wsX12_begins := goodIn_r _ [17, 18, 19, 44, 45, 46, 47, 48, 49, 50, 51, 52, 53, 54, 55, 56, 57, 58, 59, 60, 61, 62, 63, 64, 65, 66, 67, 68, 69] (by decide +kernel) (by decide +kernel)
set_option maxRecDepth 20000 in
theorem gX12_sizeOf_X12_begins : GoodIn wsX12_sizeOf (wsV RX12 256 RX12 yX12_begins wsX12_begins) := goodIn_app (goodIn_of _ (by decide +kernel)) ggX12_sizeOf_X12_begins
set_option maxRecDepth 20000 in
theorem ggX12_sizeOf_X12_beansSize : GoodIn wsX12_sizeOf wsX12_beansSize := goodIn_r _ [31, 14, 15, 16, 4, 17, 18, 19, 24, 25, 26, 27, 1, 2, 3, 5, 6, 32, 33, 34, 35, 36, 37, 38, 39, 40, 41, 42, 43, 44, 45, 46, 47, 48, 49, 50, 51, 52, 53, 54, 55, 56, 57, 58, 59, 60, 61, 62, 63, 64, 65, 66, 67, 68, 69] (by decide +kernel) (by decide +kernel)
set_option maxRecDepth 20000 in
theorem gX12_sizeOf_X12_beansSize : GoodIn wsX12_sizeOf (wsV RX12 277 RX12 yX12_beansSize wsX12_beansSize) := goodIn_app (goodIn_of _ (by decide +kernel)) ggX12_sizeOf_X12_beansSize
theorem dX12_sizeOf_0 : decode cX12_sizeOf 0 = .ok (.aload_n 0, 1) := by decide +kernel
theorem dX12_sizeOf_1 : decode cX12_sizeOf 1 = .ok (.iload_n 1, 1) := by decide +kernel
theorem dX12_sizeOf_2 : decode cX12_sizeOf 2 = .ok (.iconst 0, 1) := by decide +kernel
theorem dX12_sizeOf_3 : decode cX12_sizeOf 3 = .ok (.invokevirtual 165, 3) := by decide +kernel
theorem dX12_sizeOf_6 : decode cX12_sizeOf 6 = .ok (.iconst 4, 1) := by decide +kernel
theorem dX12_sizeOf_7 : decode cX12_sizeOf 7 = .ok (.iconst 5, 1) := by decide +kernel
theorem dX12_sizeOf_8 : decode cX12_sizeOf 8 = .ok (.invokestatic 63, 3) := by decide +kernel
theorem dX12_sizeOf_11 : decode cX12_sizeOf 11 = .ok (.ifCond .eq 9, 3) := by decide +kernel
theorem dX12_sizeOf_14 : decode cX12_sizeOf 14 = .ok (.aload_n 0, 1) := by decide +kernel
theorem dX12_sizeOf_15 : decode cX12_sizeOf 15 = .ok (.iload_n 1, 1) := by decide +kernel
theorem dX12_sizeOf_16 : decode cX12_sizeOf 16 = .ok (.invokevirtual 274, 3) := by decide +kernel
theorem dX12_sizeOf_19 : decode cX12_sizeOf 19 = .ok (.ireturn, 1) := by decide +kernel
theorem dX12_sizeOf_20 : decode cX12_sizeOf 20 = .ok (.aload_n 0, 1) := by decide +kernel
theorem dX12_sizeOf_21 : decode cX12_sizeOf 21 = .ok (.iload_n 1, 1) := by decide +kernel
theorem dX12_sizeOf_22 : decode cX12_sizeOf 22 = .ok (.iconst 0, 1) := by decide +kernel
theorem dX12_sizeOf_23 : decode cX12_sizeOf 23 = .ok (.invokevirtual 165, 3) := by decide +kernel
theorem dX12_sizeOf_26 : decode cX12_sizeOf 26 = .ok (.iconst 2, 1) := by decide +kernel
theorem dX12_sizeOf_27 : decode cX12_sizeOf 27 = .ok (.if_icmp .ne 16, 3) := by decide +kernel
theorem dX12_sizeOf_30 : decode cX12_sizeOf 30 = .ok (.aload_n 0, 1) := by decide +kernel
theorem dX12_sizeOf_31 : decode cX12_sizeOf 31 = .ok (.bipush 12, 2) := by decide +kernel
theorem dX12_sizeOf_33 : decode cX12_sizeOf 33 = .ok (.invokevirtual 256, 3) := by decide +kernel
theorem dX12_sizeOf_36 : decode cX12_sizeOf 36 = .ok (.aload_n 0, 1) := by decide +kernel
theorem dX12_sizeOf_37 : decode cX12_sizeOf 37 = .ok (.iload_n 1, 1) := by decide +kernel
theorem dX12_sizeOf_38 : decode cX12_sizeOf 38 = .ok (.invokevirtual 277, 3) := by decide +kernel
theorem dX12_sizeOf_41 : decode cX12_sizeOf 41 = .ok (.ineg, 1) := by decide +kernel
theorem dX12_sizeOf_42 : decode cX12_sizeOf 42 = .ok (.ireturn, 1) := by decide +kernel
theorem dX12_sizeOf_43 : decode cX12_sizeOf 43 = .ok (.aload_n 0, 1) := by decide +kernel
theorem dX12_sizeOf_44 : decode cX12_sizeOf 44 = .ok (.iload_n 1, 1) := by decide +kernel
theorem dX12_sizeOf_45 : decode cX12_sizeOf 45 = .ok (.invokevirtual 277, 3) := by decide +kernel
theorem dX12_sizeOf_48 : decode cX12_sizeOf 48 = .ok (.ireturn, 1) := by decide +kernel
set_option maxRecDepth 20000 in
theorem ggX12_markOf_X12_sown : GoodIn wsX12_markOf wsX12_sown := goodIn_r _ [5, 6, 40, 41, 42, 43, 44, 45, 46, 47, 48, 49, 50, 51, 52, 53, 54, 55, 56, 57, 58, 59, 60, 61, 62, 63, 64, 65] (by decide +kernel) (by decide +kernel)
set_option maxRecDepth 20000 in
theorem gX12_markOf_X12_sown : GoodIn wsX12_markOf (wsV RX12 165 RX12 yX12_sown wsX12_sown) := goodIn_app (goodIn_of _ (by decide +kernel)) ggX12_markOf_X12_sown
set_option maxRecDepth 20000 in
theorem ggX12_markOf_X12_in : GoodIn wsX12_markOf wsX12_in := goodIn_r _ [9] (by decide +kernel) (by decide +kernel)
set_option maxRecDepth 20000 in
theorem gX12_markOf_X12_in : GoodIn wsX12_markOf (va_wsS RX12 63 yX12_in wsX12_in) := goodIn_app (goodIn_of _ (by decide +kernel)) ggX12_markOf_X12_in
set_option maxRecDepth 20000 in
theorem ggX12_markOf_X12_markOfBeans : GoodIn wsX12_markOf wsX12_markOfBeans := goodIn_r _ [13, 1, 2, 3, 4, 5, 6, 14, 15, 16, 17, 18, 19, 20, 21, 22, 23, 24, 25, 26, 27, 40, 41, 42, 43, 44, 45, 46, 47, 48, 49, 50, 51, 52, 53, 54, 55, 56, 57, 58, 59, 60, 61, 62, 63, 64, 65] (by decide +kernel) (by decide +kernel)
set_option maxRecDepth 20000 in
theorem gX12_markOf_X12_markOfBeans : GoodIn wsX12_markOf (wsV RX12 268 RX12 yX12_markOfBeans wsX12_markOfBeans) := goodIn_app (goodIn_of _ (by decide +kernel)) ggX12_markOf_X12_markOfBeans
set_option maxRecDepth 20000 in
theorem ggX12_markOf_X12_begins : GoodIn wsX12_markOf wsX12_begins := goodIn_r _ [17, 18, 19, 40, 41, 42, 43, 44, 45, 46, 47, 48, 49, 50, 51, 52, 53, 54, 55, 56, 57, 58, 59, 60, 61, 62, 63, 64, 65] (by decide +kernel) (by decide +kernel)
set_option maxRecDepth 20000 in
theorem gX12_markOf_X12_begins : GoodIn wsX12_markOf (wsV RX12 256 RX12 yX12_begins wsX12_begins) := goodIn_app (goodIn_of _ (by decide +kernel)) ggX12_markOf_X12_begins
set_option maxRecDepth 20000 in
theorem ggX12_markOf_X12_lentMark : GoodIn wsX12_markOf wsX12_lentMark := goodIn_r _ [27, 14, 15, 16, 4, 17, 18, 19, 40, 41, 42, 43, 44, 45, 46, 47, 48, 49, 50, 51, 52, 53, 54, 55, 56, 57, 58, 59, 60, 61, 62, 63, 64, 65] (by decide +kernel) (by decide +kernel)
set_option maxRecDepth 20000 in
theorem gX12_markOf_X12_lentMark : GoodIn wsX12_markOf (wsV RX12 259 RX12 yX12_lentMark wsX12_lentMark) := goodIn_app (goodIn_of _ (by decide +kernel)) ggX12_markOf_X12_lentMark
set_option maxRecDepth 20000 in
theorem ggX12_markOf_X12_sizeOfGrass : GoodIn wsX12_markOf wsX12_sizeOfGrass := goodIn_r _ [31, 1, 2, 3, 4, 5, 6, 14, 15, 16, 17, 18, 19, 32, 33, 34, 35, 36, 37, 38, 39, 40, 41, 42, 43, 44, 45, 46, 47, 48, 49, 50, 51, 52, 53, 54, 55, 56, 57, 58, 59, 60, 61, 62, 63, 64, 65] (by decide +kernel) (by decide +kernel)
set_option maxRecDepth 20000 in
theorem gX12_markOf_X12_sizeOfGrass : GoodIn wsX12_markOf (wsV RX12 274 RX12 yX12_sizeOfGrass wsX12_sizeOfGrass) := goodIn_app (goodIn_of _ (by decide +kernel)) ggX12_markOf_X12_sizeOfGrass
theorem dX12_markOf_0 : decode cX12_markOf 0 = .ok (.aload_n 0, 1) := by decide +kernel
theorem dX12_markOf_1 : decode cX12_markOf 1 = .ok (.iload_n 1, 1) := by decide +kernel
theorem dX12_markOf_2 : decode cX12_markOf 2 = .ok (.iconst 0, 1) := by decide +kernel
theorem dX12_markOf_3 : decode cX12_markOf 3 = .ok (.invokevirtual 165, 3) := by decide +kernel
theorem dX12_markOf_6 : decode cX12_markOf 6 = .ok (.iconst 4, 1) := by decide +kernel
theorem dX12_markOf_7 : decode cX12_markOf 7 = .ok (.iconst 5, 1) := by decide +kernel
theorem dX12_markOf_8 : decode cX12_markOf 8 = .ok (.invokestatic 63, 3) := by decide +kernel
theorem dX12_markOf_11 : decode cX12_markOf 11 = .ok (.ifCond .ne 9, 3) := by decide +kernel
theorem dX12_markOf_14 : decode cX12_markOf 14 = .ok (.aload_n 0, 1) := by decide +kernel
theorem dX12_markOf_15 : decode cX12_markOf 15 = .ok (.iload_n 1, 1) := by decide +kernel
theorem dX12_markOf_16 : decode cX12_markOf 16 = .ok (.invokevirtual 268, 3) := by decide +kernel
theorem dX12_markOf_19 : decode cX12_markOf 19 = .ok (.ireturn, 1) := by decide +kernel
theorem dX12_markOf_20 : decode cX12_markOf 20 = .ok (.aload_n 0, 1) := by decide +kernel
theorem dX12_markOf_21 : decode cX12_markOf 21 = .ok (.bipush 23, 2) := by decide +kernel
theorem dX12_markOf_23 : decode cX12_markOf 23 = .ok (.invokevirtual 256, 3) := by decide +kernel
theorem dX12_markOf_26 : decode cX12_markOf 26 = .ok (.aload_n 0, 1) := by decide +kernel
theorem dX12_markOf_27 : decode cX12_markOf 27 = .ok (.iload_n 1, 1) := by decide +kernel
theorem dX12_markOf_28 : decode cX12_markOf 28 = .ok (.invokevirtual 259, 3) := by decide +kernel
theorem dX12_markOf_31 : decode cX12_markOf 31 = .ok (.istore_n 2, 1) := by decide +kernel
theorem dX12_markOf_32 : decode cX12_markOf 32 = .ok (.iload_n 2, 1) := by decide +kernel
theorem dX12_markOf_33 : decode cX12_markOf 33 = .ok (.aload_n 0, 1) := by decide +kernel
theorem dX12_markOf_34 : decode cX12_markOf 34 = .ok (.iload_n 1, 1) := by decide +kernel
theorem dX12_markOf_35 : decode cX12_markOf 35 = .ok (.invokevirtual 274, 3) := by decide +kernel
theorem dX12_markOf_38 : decode cX12_markOf 38 = .ok (.isub, 1) := by decide +kernel
theorem dX12_markOf_39 : decode cX12_markOf 39 = .ok (.ireturn, 1) := by decide +kernel
set_option maxRecDepth 20000 in
theorem ggX12_ask_X12_isStrip : GoodIn wsX12_ask wsX12_isStrip := goodIn_r _ [7, 8, 9, 10, 6, 11, 57, 58, 59, 60, 61, 62, 63, 64, 65, 66, 67, 68, 69, 70, 71, 72, 73, 74, 75, 76, 77, 78, 79, 80, 81, 82] (by decide +kernel) (by decide +kernel)
set_option maxRecDepth 20000 in
theorem gX12_ask_X12_isStrip : GoodIn wsX12_ask (wsV RX12 185 RX12 yX12_isStrip wsX12_isStrip) := goodIn_app (goodIn_of _ (by decide +kernel)) ggX12_ask_X12_isStrip
set_option maxRecDepth 20000 in
theorem ggX12_ask_X12_in : GoodIn wsX12_ask wsX12_in := goodIn_r _ [11] (by decide +kernel) (by decide +kernel)
set_option maxRecDepth 20000 in
theorem gX12_ask_X12_in : GoodIn wsX12_ask (va_wsS RX12 63 yX12_in wsX12_in) := goodIn_app (goodIn_of _ (by decide +kernel)) ggX12_ask_X12_in
set_option maxRecDepth 20000 in
theorem ggX12_ask_X12_sizeOf : GoodIn wsX12_ask wsX12_sizeOf := goodIn_r _ [15, 16, 17, 18, 6, 19, 8, 9, 10, 11, 20, 21, 22, 23, 24, 25, 26, 27, 2, 28, 29, 30, 31, 32, 33, 34, 35, 36, 37, 38, 39, 40, 41, 42, 43, 44, 45, 46, 47, 48, 49, 50, 51, 52, 57, 58, 59, 60, 61, 62, 63, 64, 65, 66, 67, 68, 69, 70, 71, 72, 73, 74, 75, 76, 77, 78, 79, 80, 81, 82] (by decide +kernel) (by decide +kernel)
set_option maxRecDepth 20000 in
theorem gX12_ask_X12_sizeOf : GoodIn wsX12_ask (wsV RX12 280 RX12 yX12_sizeOf wsX12_sizeOf) := goodIn_app (goodIn_of _ (by decide +kernel)) ggX12_ask_X12_sizeOf
set_option maxRecDepth 20000 in
theorem ggX12_ask_X12_markOf : GoodIn wsX12_ask wsX12_markOf := goodIn_r _ [56, 16, 17, 18, 6, 19, 8, 9, 10, 11, 41, 42, 43, 44, 24, 25, 26, 27, 2, 28, 45, 46, 47, 48, 49, 50, 51, 52, 20, 21, 22, 23, 29, 30, 31, 32, 33, 34, 35, 36, 57, 58, 59, 60, 61, 62, 63, 64, 65, 66, 67, 68, 69, 70, 71, 72, 73, 74, 75, 76, 77, 78, 79, 80, 81, 82] (by decide +kernel) (by decide +kernel)
set_option maxRecDepth 20000 in
theorem gX12_ask_X12_markOf : GoodIn wsX12_ask (wsV RX12 283 RX12 yX12_markOf wsX12_markOf) := goodIn_app (goodIn_of _ (by decide +kernel)) ggX12_ask_X12_markOf
theorem dX12_ask_0 : decode cX12_ask 0 = .ok (.aload_n 0, 1) := by decide +kernel
theorem dX12_ask_1 : decode cX12_ask 1 = .ok (.iload_n 1, 1) := by decide +kernel
theorem dX12_ask_2 : decode cX12_ask 2 = .ok (.invokevirtual 185, 3) := by decide +kernel
theorem dX12_ask_5 : decode cX12_ask 5 = .ok (.ifCond .eq 12, 3) := by decide +kernel
theorem dX12_ask_8 : decode cX12_ask 8 = .ok (.iload_n 2, 1) := by decide +kernel
theorem dX12_ask_9 : decode cX12_ask 9 = .ok (.iconst 0, 1) := by decide +kernel
theorem dX12_ask_10 : decode cX12_ask 10 = .ok (.iconst 1, 1) := by decide +kernel
theorem dX12_ask_11 : decode cX12_ask 11 = .ok (.invokestatic 63, 3) := by decide +kernel
theorem dX12_ask_14 : decode cX12_ask 14 = .ok (.ifCond .ne 6, 3) := by decide +kernel
theorem dX12_ask_17 : decode cX12_ask 17 = .ok (.ldc 71, 2) := by decide +kernel
theorem dX12_ask_19 : decode cX12_ask 19 = .ok (.ireturn, 1) := by decide +kernel
theorem dX12_ask_20 : decode cX12_ask 20 = .ok (.aload_n 0, 1) := by decide +kernel
theorem dX12_ask_21 : decode cX12_ask 21 = .ok (.iconst 0, 1) := by decide +kernel
theorem dX12_ask_22 : decode cX12_ask 22 = .ok (.putfield 253, 3) := by decide +kernel
theorem dX12_ask_25 : decode cX12_ask 25 = .ok (.iload_n 2, 1) := by decide +kernel
theorem dX12_ask_26 : decode cX12_ask 26 = .ok (.ifCond .ne 11, 3) := by decide +kernel
theorem dX12_ask_29 : decode cX12_ask 29 = .ok (.aload_n 0, 1) := by decide +kernel
theorem dX12_ask_30 : decode cX12_ask 30 = .ok (.iload_n 1, 1) := by decide +kernel
theorem dX12_ask_31 : decode cX12_ask 31 = .ok (.invokevirtual 280, 3) := by decide +kernel
theorem dX12_ask_34 : decode cX12_ask 34 = .ok (.goto 8, 3) := by decide +kernel
theorem dX12_ask_37 : decode cX12_ask 37 = .ok (.aload_n 0, 1) := by decide +kernel
theorem dX12_ask_38 : decode cX12_ask 38 = .ok (.iload_n 1, 1) := by decide +kernel
theorem dX12_ask_39 : decode cX12_ask 39 = .ok (.invokevirtual 283, 3) := by decide +kernel
theorem dX12_ask_42 : decode cX12_ask 42 = .ok (.ireturn, 1) := by decide +kernel
set_option maxRecDepth 20000 in
theorem ggX12_trace_X12_in : GoodIn wsX12_trace wsX12_in := goodIn_r _ [7] (by decide +kernel) (by decide +kernel)
set_option maxRecDepth 20000 in
theorem gX12_trace_X12_in : GoodIn wsX12_trace (va_wsS RX12 63 yX12_in wsX12_in) := goodIn_app (goodIn_of _ (by decide +kernel)) ggX12_trace_X12_in
theorem dX12_trace_0 : decode cX12_trace 0 = .ok (.iload_n 1, 1) := by decide +kernel
theorem dX12_trace_1 : decode cX12_trace 1 = .ok (.iconst 0, 1) := by decide +kernel
theorem dX12_trace_2 : decode cX12_trace 2 = .ok (.aload_n 0, 1) := by decide +kernel
theorem dX12_trace_3 : decode cX12_trace 3 = .ok (.getfield 253, 3) := by decide +kernel
theorem dX12_trace_6 : decode cX12_trace 6 = .ok (.iconst 1, 1) := by decide +kernel
theorem dX12_trace_7 : decode cX12_trace 7 = .ok (.isub, 1) := by decide +kernel
theorem dX12_trace_8 : decode cX12_trace 8 = .ok (.invokestatic 63, 3) := by decide +kernel
theorem dX12_trace_11 : decode cX12_trace 11 = .ok (.ifCond .eq 12, 3) := by decide +kernel
theorem dX12_trace_14 : decode cX12_trace 14 = .ok (.aload_n 0, 1) := by decide +kernel
theorem dX12_trace_15 : decode cX12_trace 15 = .ok (.getfield 54, 3) := by decide +kernel
theorem dX12_trace_18 : decode cX12_trace 18 = .ok (.iload_n 1, 1) := by decide +kernel
theorem dX12_trace_19 : decode cX12_trace 19 = .ok (.iaload, 1) := by decide +kernel
theorem dX12_trace_20 : decode cX12_trace 20 = .ok (.goto 5, 3) := by decide +kernel
theorem dX12_trace_23 : decode cX12_trace 23 = .ok (.ldc 57, 2) := by decide +kernel
theorem dX12_trace_25 : decode cX12_trace 25 = .ok (.ireturn, 1) := by decide +kernel
theorem dX12_count_0 : decode cX12_count 0 = .ok (.iconst 0, 1) := by decide +kernel
theorem dX12_count_1 : decode cX12_count 1 = .ok (.istore_n 2, 1) := by decide +kernel
theorem dX12_count_2 : decode cX12_count 2 = .ok (.iconst 0, 1) := by decide +kernel
theorem dX12_count_3 : decode cX12_count 3 = .ok (.istore_n 3, 1) := by decide +kernel
theorem dX12_count_4 : decode cX12_count 4 = .ok (.iload_n 3, 1) := by decide +kernel
theorem dX12_count_5 : decode cX12_count 5 = .ok (.bipush 8, 2) := by decide +kernel
theorem dX12_count_7 : decode cX12_count 7 = .ok (.if_icmp .ge 28, 3) := by decide +kernel
theorem dX12_count_10 : decode cX12_count 10 = .ok (.iload_n 2, 1) := by decide +kernel
theorem dX12_count_11 : decode cX12_count 11 = .ok (.aload_n 0, 1) := by decide +kernel
theorem dX12_count_12 : decode cX12_count 12 = .ok (.getfield 20, 3) := by decide +kernel
theorem dX12_count_15 : decode cX12_count 15 = .ok (.iload_n 3, 1) := by decide +kernel
theorem dX12_count_16 : decode cX12_count 16 = .ok (.iaload, 1) := by decide +kernel
theorem dX12_count_17 : decode cX12_count 17 = .ok (.ldc 57, 2) := by decide +kernel
theorem dX12_count_19 : decode cX12_count 19 = .ok (.if_icmp .ne 7, 3) := by decide +kernel
theorem dX12_count_22 : decode cX12_count 22 = .ok (.iconst 0, 1) := by decide +kernel
theorem dX12_count_23 : decode cX12_count 23 = .ok (.goto 4, 3) := by decide +kernel
theorem dX12_count_26 : decode cX12_count 26 = .ok (.iconst 1, 1) := by decide +kernel
theorem dX12_count_27 : decode cX12_count 27 = .ok (.iadd, 1) := by decide +kernel
theorem dX12_count_28 : decode cX12_count 28 = .ok (.istore_n 2, 1) := by decide +kernel
theorem dX12_count_29 : decode cX12_count 29 = .ok (.iinc 3 1, 3) := by decide +kernel
theorem dX12_count_32 : decode cX12_count 32 = .ok (.goto (-28), 3) := by decide +kernel
theorem dX12_count_35 : decode cX12_count 35 = .ok (.iload_n 1, 1) := by decide +kernel
theorem dX12_count_36 : decode cX12_count 36 = .ok (.tableswitch 86 0 6 #[44, 46, 53, 60, 67, 74, 81], 44) := by decide +kernel
theorem dX12_count_80 : decode cX12_count 80 = .ok (.iload_n 2, 1) := by decide +kernel
theorem dX12_count_81 : decode cX12_count 81 = .ok (.ireturn, 1) := by decide +kernel
theorem dX12_count_82 : decode cX12_count 82 = .ok (.aload_n 0, 1) := by decide +kernel
theorem dX12_count_83 : decode cX12_count 83 = .ok (.getfield 7, 3) := by decide +kernel
theorem dX12_count_86 : decode cX12_count 86 = .ok (.iconst 4, 1) := by decide +kernel
theorem dX12_count_87 : decode cX12_count 87 = .ok (.iaload, 1) := by decide +kernel
theorem dX12_count_88 : decode cX12_count 88 = .ok (.ireturn, 1) := by decide +kernel
theorem dX12_count_89 : decode cX12_count 89 = .ok (.aload_n 0, 1) := by decide +kernel
theorem dX12_count_90 : decode cX12_count 90 = .ok (.getfield 7, 3) := by decide +kernel
theorem dX12_count_93 : decode cX12_count 93 = .ok (.iconst 3, 1) := by decide +kernel
theorem dX12_count_94 : decode cX12_count 94 = .ok (.iaload, 1) := by decide +kernel
theorem dX12_count_95 : decode cX12_count 95 = .ok (.ireturn, 1) := by decide +kernel
theorem dX12_count_96 : decode cX12_count 96 = .ok (.aload_n 0, 1) := by decide +kernel
theorem dX12_count_97 : decode cX12_count 97 = .ok (.getfield 7, 3) := by decide +kernel
theorem dX12_count_100 : decode cX12_count 100 = .ok (.iconst 1, 1) := by decide +kernel
theorem dX12_count_101 : decode cX12_count 101 = .ok (.iaload, 1) := by decide +kernel
theorem dX12_count_102 : decode cX12_count 102 = .ok (.ireturn, 1) := by decide +kernel
theorem dX12_count_103 : decode cX12_count 103 = .ok (.aload_n 0, 1) := by decide +kernel
theorem dX12_count_104 : decode cX12_count 104 = .ok (.getfield 7, 3) := by decide +kernel
theorem dX12_count_107 : decode cX12_count 107 = .ok (.iconst 2, 1) := by decide +kernel
theorem dX12_count_108 : decode cX12_count 108 = .ok (.iaload, 1) := by decide +kernel
theorem dX12_count_109 : decode cX12_count 109 = .ok (.ireturn, 1) := by decide +kernel
theorem dX12_count_110 : decode cX12_count 110 = .ok (.aload_n 0, 1) := by decide +kernel
theorem dX12_count_111 : decode cX12_count 111 = .ok (.getfield 7, 3) := by decide +kernel
theorem dX12_count_114 : decode cX12_count 114 = .ok (.iconst 5, 1) := by decide +kernel
theorem dX12_count_115 : decode cX12_count 115 = .ok (.iaload, 1) := by decide +kernel
theorem dX12_count_116 : decode cX12_count 116 = .ok (.ireturn, 1) := by decide +kernel
theorem dX12_count_117 : decode cX12_count 117 = .ok (.aload_n 0, 1) := by decide +kernel
theorem dX12_count_118 : decode cX12_count 118 = .ok (.getfield 82, 3) := by decide +kernel
theorem dX12_count_121 : decode cX12_count 121 = .ok (.ireturn, 1) := by decide +kernel
theorem dX12_count_122 : decode cX12_count 122 = .ok (.ldc 71, 2) := by decide +kernel
theorem dX12_count_124 : decode cX12_count 124 = .ok (.ireturn, 1) := by decide +kernel
theorem dX12_status_0 : decode cX12_status 0 = .ok (.aload_n 0, 1) := by decide +kernel
theorem dX12_status_1 : decode cX12_status 1 = .ok (.getfield 58, 3) := by decide +kernel
theorem dX12_status_4 : decode cX12_status 4 = .ok (.ireturn, 1) := by decide +kernel
theorem dJ9_abs_0f7a4_0 : decode cJ9_abs_0f7a4 0 = .ok (.iload_n 0, 1) := by decide +kernel
theorem dJ9_abs_0f7a4_1 : decode cJ9_abs_0f7a4 1 = .ok (.ifCond .ge 8, 3) := by decide +kernel
theorem dJ9_abs_0f7a4_4 : decode cJ9_abs_0f7a4 4 = .ok (.iload_n 0, 1) := by decide +kernel
theorem dJ9_abs_0f7a4_5 : decode cJ9_abs_0f7a4 5 = .ok (.ineg, 1) := by decide +kernel
theorem dJ9_abs_0f7a4_6 : decode cJ9_abs_0f7a4 6 = .ok (.goto 4, 3) := by decide +kernel
theorem dJ9_abs_0f7a4_9 : decode cJ9_abs_0f7a4 9 = .ok (.iload_n 0, 1) := by decide +kernel
theorem dJ9_abs_0f7a4_10 : decode cJ9_abs_0f7a4 10 = .ok (.ireturn, 1) := by decide +kernel
theorem dJ9_max_7cf53_0 : decode cJ9_max_7cf53 0 = .ok (.iload_n 0, 1) := by decide +kernel
theorem dJ9_max_7cf53_1 : decode cJ9_max_7cf53 1 = .ok (.iload_n 1, 1) := by decide +kernel
theorem dJ9_max_7cf53_2 : decode cJ9_max_7cf53 2 = .ok (.if_icmp .lt 7, 3) := by decide +kernel
theorem dJ9_max_7cf53_5 : decode cJ9_max_7cf53 5 = .ok (.iload_n 0, 1) := by decide +kernel
theorem dJ9_max_7cf53_6 : decode cJ9_max_7cf53 6 = .ok (.goto 4, 3) := by decide +kernel
theorem dJ9_max_7cf53_9 : decode cJ9_max_7cf53 9 = .ok (.iload_n 1, 1) := by decide +kernel
theorem dJ9_max_7cf53_10 : decode cJ9_max_7cf53 10 = .ok (.ireturn, 1) := by decide +kernel
theorem dJ9_min_7cf53_0 : decode cJ9_min_7cf53 0 = .ok (.iload_n 0, 1) := by decide +kernel
theorem dJ9_min_7cf53_1 : decode cJ9_min_7cf53 1 = .ok (.iload_n 1, 1) := by decide +kernel
theorem dJ9_min_7cf53_2 : decode cJ9_min_7cf53 2 = .ok (.if_icmp .gt 7, 3) := by decide +kernel
theorem dJ9_min_7cf53_5 : decode cJ9_min_7cf53 5 = .ok (.iload_n 0, 1) := by decide +kernel
theorem dJ9_min_7cf53_6 : decode cJ9_min_7cf53 6 = .ok (.goto 4, 3) := by decide +kernel
theorem dJ9_min_7cf53_9 : decode cJ9_min_7cf53 9 = .ok (.iload_n 1, 1) := by decide +kernel
theorem dJ9_min_7cf53_10 : decode cJ9_min_7cf53 10 = .ok (.ireturn, 1) := by decide +kernel
set_option maxRecDepth 20000 in
theorem ggJ0_length_8abf5_J0_coder_7d493 : GoodIn wsJ0_length_8abf5 wsJ0_coder_7d493 := goodIn_r _ [6, 7, 8] (by decide +kernel) (by decide +kernel)
set_option maxRecDepth 20000 in
theorem gJ0_length_8abf5_J0_coder_7d493 : GoodIn wsJ0_length_8abf5 (wsV RJ0 335 RJ0 yJ0_coder_7d493 wsJ0_coder_7d493) := goodIn_app (goodIn_of _ (by decide +kernel)) ggJ0_length_8abf5_J0_coder_7d493
theorem dJ0_length_8abf5_0 : decode cJ0_length_8abf5 0 = .ok (.aload_n 0, 1) := by decide +kernel
theorem dJ0_length_8abf5_1 : decode cJ0_length_8abf5 1 = .ok (.getfield 9, 3) := by decide +kernel
theorem dJ0_length_8abf5_4 : decode cJ0_length_8abf5 4 = .ok (.arraylength, 1) := by decide +kernel
theorem dJ0_length_8abf5_5 : decode cJ0_length_8abf5 5 = .ok (.aload_n 0, 1) := by decide +kernel
theorem dJ0_length_8abf5_6 : decode cJ0_length_8abf5 6 = .ok (.invokevirtual 335, 3) := by decide +kernel
theorem dJ0_length_8abf5_9 : decode cJ0_length_8abf5 9 = .ok (.ishr, 1) := by decide +kernel
theorem dJ0_length_8abf5_10 : decode cJ0_length_8abf5 10 = .ok (.ireturn, 1) := by decide +kernel
set_option maxRecDepth 20000 in
theorem ggJ0_charAt_5068e_J0_isLatin1_aae02 : GoodIn wsJ0_charAt_5068e wsJ0_isLatin1_aae02 := goodIn_r _ [6, 7, 8] (by decide +kernel) (by decide +kernel)
set_option maxRecDepth 20000 in
theorem gJ0_charAt_5068e_J0_isLatin1_aae02 : GoodIn wsJ0_charAt_5068e (wsV RJ0 492 RJ0 yJ0_isLatin1_aae02 wsJ0_isLatin1_aae02) := goodIn_app (goodIn_of _ (by decide +kernel)) ggJ0_charAt_5068e_J0_isLatin1_aae02
set_option maxRecDepth 20000 in
theorem ggJ0_charAt_5068e_J1_charAt_3b067 : GoodIn wsJ0_charAt_5068e wsJ1_charAt_3b067 := goodIn_r _ [12, 13, 14, 5, 15, 16, 17, 18, 19, 20] (by decide +kernel) (by decide +kernel)
set_option maxRecDepth 20000 in
theorem gJ0_charAt_5068e_J1_charAt_3b067 : GoodIn wsJ0_charAt_5068e (va_wsS RJ0 495 yJ1_charAt_3b067 wsJ1_charAt_3b067) := goodIn_app (goodIn_of _ (by decide +kernel)) ggJ0_charAt_5068e_J1_charAt_3b067
set_option maxRecDepth 20000 in
theorem ggJ0_charAt_5068e_J2_charAt_3b067 : GoodIn wsJ0_charAt_5068e wsJ2_charAt_3b067 := goodIn_r _ [24, 25, 26, 23, 27, 28, 29, 30, 31, 14, 5, 15, 16, 17, 18, 19, 20, 32, 33, 34, 35, 36, 37] (by decide +kernel) (by decide +kernel)
set_option maxRecDepth 20000 in
theorem gJ0_charAt_5068e_J2_charAt_3b067 : GoodIn wsJ0_charAt_5068e (va_wsS RJ0 498 yJ2_charAt_3b067 wsJ2_charAt_3b067) := goodIn_app (goodIn_of _ (by decide +kernel)) ggJ0_charAt_5068e_J2_charAt_3b067
theorem dJ0_charAt_5068e_0 : decode cJ0_charAt_5068e 0 = .ok (.aload_n 0, 1) := by decide +kernel
theorem dJ0_charAt_5068e_1 : decode cJ0_charAt_5068e 1 = .ok (.invokevirtual 492, 3) := by decide +kernel
theorem dJ0_charAt_5068e_4 : decode cJ0_charAt_5068e 4 = .ok (.ifCond .eq 12, 3) := by decide +kernel
theorem dJ0_charAt_5068e_7 : decode cJ0_charAt_5068e 7 = .ok (.aload_n 0, 1) := by decide +kernel
theorem dJ0_charAt_5068e_8 : decode cJ0_charAt_5068e 8 = .ok (.getfield 9, 3) := by decide +kernel
theorem dJ0_charAt_5068e_11 : decode cJ0_charAt_5068e 11 = .ok (.iload_n 1, 1) := by decide +kernel
theorem dJ0_charAt_5068e_12 : decode cJ0_charAt_5068e 12 = .ok (.invokestatic 495, 3) := by decide +kernel
theorem dJ0_charAt_5068e_15 : decode cJ0_charAt_5068e 15 = .ok (.ireturn, 1) := by decide +kernel
theorem dJ0_charAt_5068e_16 : decode cJ0_charAt_5068e 16 = .ok (.aload_n 0, 1) := by decide +kernel
theorem dJ0_charAt_5068e_17 : decode cJ0_charAt_5068e 17 = .ok (.getfield 9, 3) := by decide +kernel
theorem dJ0_charAt_5068e_20 : decode cJ0_charAt_5068e 20 = .ok (.iload_n 1, 1) := by decide +kernel
theorem dJ0_charAt_5068e_21 : decode cJ0_charAt_5068e 21 = .ok (.invokestatic 498, 3) := by decide +kernel
theorem dJ0_charAt_5068e_24 : decode cJ0_charAt_5068e 24 = .ok (.ireturn, 1) := by decide +kernel
theorem dJ0_coder_7d493_0 : decode cJ0_coder_7d493 0 = .ok (.getstatic 38, 3) := by decide +kernel
theorem dJ0_coder_7d493_3 : decode cJ0_coder_7d493 3 = .ok (.ifCond .eq 10, 3) := by decide +kernel
theorem dJ0_coder_7d493_6 : decode cJ0_coder_7d493 6 = .ok (.aload_n 0, 1) := by decide +kernel
theorem dJ0_coder_7d493_7 : decode cJ0_coder_7d493 7 = .ok (.getfield 15, 3) := by decide +kernel
theorem dJ0_coder_7d493_10 : decode cJ0_coder_7d493 10 = .ok (.goto 4, 3) := by decide +kernel
theorem dJ0_coder_7d493_13 : decode cJ0_coder_7d493 13 = .ok (.iconst 1, 1) := by decide +kernel
theorem dJ0_coder_7d493_14 : decode cJ0_coder_7d493 14 = .ok (.ireturn, 1) := by decide +kernel
theorem dJ0_isLatin1_aae02_0 : decode cJ0_isLatin1_aae02 0 = .ok (.getstatic 38, 3) := by decide +kernel
theorem dJ0_isLatin1_aae02_3 : decode cJ0_isLatin1_aae02 3 = .ok (.ifCond .eq 14, 3) := by decide +kernel
theorem dJ0_isLatin1_aae02_6 : decode cJ0_isLatin1_aae02 6 = .ok (.aload_n 0, 1) := by decide +kernel
theorem dJ0_isLatin1_aae02_7 : decode cJ0_isLatin1_aae02 7 = .ok (.getfield 15, 3) := by decide +kernel
theorem dJ0_isLatin1_aae02_10 : decode cJ0_isLatin1_aae02 10 = .ok (.ifCond .ne 7, 3) := by decide +kernel
theorem dJ0_isLatin1_aae02_13 : decode cJ0_isLatin1_aae02 13 = .ok (.iconst 1, 1) := by decide +kernel
theorem dJ0_isLatin1_aae02_14 : decode cJ0_isLatin1_aae02 14 = .ok (.goto 4, 3) := by decide +kernel
theorem dJ0_isLatin1_aae02_17 : decode cJ0_isLatin1_aae02 17 = .ok (.iconst 0, 1) := by decide +kernel
theorem dJ0_isLatin1_aae02_18 : decode cJ0_isLatin1_aae02 18 = .ok (.ireturn, 1) := by decide +kernel
set_option maxRecDepth 20000 in
theorem ggJ0_checkIndex_df160_J3_checkIndex_8e157 : GoodIn wsJ0_checkIndex_df160 wsJ3_checkIndex_8e157 := goodIn_r _ [5] (by decide +kernel) (by decide +kernel)
set_option maxRecDepth 20000 in
theorem gJ0_checkIndex_df160_J3_checkIndex_8e157 : GoodIn wsJ0_checkIndex_df160 (va_wsS RJ0 1059 yJ3_checkIndex_8e157 wsJ3_checkIndex_8e157) := goodIn_app (goodIn_of _ (by decide +kernel)) ggJ0_checkIndex_df160_J3_checkIndex_8e157
theorem dJ0_checkIndex_df160_0 : decode cJ0_checkIndex_df160 0 = .ok (.iload_n 0, 1) := by decide +kernel
theorem dJ0_checkIndex_df160_1 : decode cJ0_checkIndex_df160 1 = .ok (.iload_n 1, 1) := by decide +kernel
theorem dJ0_checkIndex_df160_2 : decode cJ0_checkIndex_df160 2 = .ok (.getstatic 1053, 3) := by decide +kernel
theorem dJ0_checkIndex_df160_5 : decode cJ0_checkIndex_df160 5 = .ok (.invokestatic 1059, 3) := by decide +kernel
theorem dJ0_checkIndex_df160_8 : decode cJ0_checkIndex_df160 8 = .ok (.pop, 1) := by decide +kernel
theorem dJ0_checkIndex_df160_9 : decode cJ0_checkIndex_df160 9 = .ok (.return_, 1) := by decide +kernel
set_option maxRecDepth 20000 in
theorem ggJ1_charAt_3b067_J0_checkIndex_df160 : GoodIn wsJ1_charAt_3b067 wsJ0_checkIndex_df160 := goodIn_r _ [4, 5, 6, 7, 8, 9] (by decide +kernel) (by decide +kernel)
set_option maxRecDepth 20000 in
theorem gJ1_charAt_3b067_J0_checkIndex_df160 : GoodIn wsJ1_charAt_3b067 (va_wsS RJ1 9 yJ0_checkIndex_df160 wsJ0_checkIndex_df160) := goodIn_app (goodIn_of _ (by decide +kernel)) ggJ1_charAt_3b067_J0_checkIndex_df160
theorem dJ1_charAt_3b067_0 : decode cJ1_charAt_3b067 0 = .ok (.iload_n 1, 1) := by decide +kernel
theorem dJ1_charAt_3b067_1 : decode cJ1_charAt_3b067 1 = .ok (.aload_n 0, 1) := by decide +kernel
theorem dJ1_charAt_3b067_2 : decode cJ1_charAt_3b067 2 = .ok (.arraylength, 1) := by decide +kernel
theorem dJ1_charAt_3b067_3 : decode cJ1_charAt_3b067 3 = .ok (.invokestatic 9, 3) := by decide +kernel
theorem dJ1_charAt_3b067_6 : decode cJ1_charAt_3b067 6 = .ok (.aload_n 0, 1) := by decide +kernel
theorem dJ1_charAt_3b067_7 : decode cJ1_charAt_3b067 7 = .ok (.iload_n 1, 1) := by decide +kernel
theorem dJ1_charAt_3b067_8 : decode cJ1_charAt_3b067 8 = .ok (.baload, 1) := by decide +kernel
theorem dJ1_charAt_3b067_9 : decode cJ1_charAt_3b067 9 = .ok (.sipush 255, 3) := by decide +kernel
theorem dJ1_charAt_3b067_12 : decode cJ1_charAt_3b067 12 = .ok (.iand, 1) := by decide +kernel
theorem dJ1_charAt_3b067_13 : decode cJ1_charAt_3b067 13 = .ok (.i2c, 1) := by decide +kernel
theorem dJ1_charAt_3b067_14 : decode cJ1_charAt_3b067 14 = .ok (.ireturn, 1) := by decide +kernel
set_option maxRecDepth 20000 in
theorem ggJ2_getChar_3b067_J2_length_9d52b : GoodIn wsJ2_getChar_3b067 wsJ2_length_9d52b := goodIn_r _ [7] (by decide +kernel) (by decide +kernel)
set_option maxRecDepth 20000 in
theorem gJ2_getChar_3b067_J2_length_9d52b : GoodIn wsJ2_getChar_3b067 (va_wsS RJ2 48 yJ2_length_9d52b wsJ2_length_9d52b) := goodIn_app (goodIn_of _ (by decide +kernel)) ggJ2_getChar_3b067_J2_length_9d52b
theorem dJ2_getChar_3b067_0 : decode cJ2_getChar_3b067 0 = .ok (.getstatic 44, 3) := by decide +kernel
theorem dJ2_getChar_3b067_3 : decode cJ2_getChar_3b067 3 = .ok (.ifCond .ne 25, 3) := by decide +kernel
theorem dJ2_getChar_3b067_6 : decode cJ2_getChar_3b067 6 = .ok (.iload_n 1, 1) := by decide +kernel
theorem dJ2_getChar_3b067_7 : decode cJ2_getChar_3b067 7 = .ok (.ifCond .lt 11, 3) := by decide +kernel
theorem dJ2_getChar_3b067_10 : decode cJ2_getChar_3b067 10 = .ok (.iload_n 1, 1) := by decide +kernel
theorem dJ2_getChar_3b067_11 : decode cJ2_getChar_3b067 11 = .ok (.aload_n 0, 1) := by decide +kernel
theorem dJ2_getChar_3b067_12 : decode cJ2_getChar_3b067 12 = .ok (.invokestatic 48, 3) := by decide +kernel
theorem dJ2_getChar_3b067_15 : decode cJ2_getChar_3b067 15 = .ok (.if_icmp .lt 13, 3) := by decide +kernel
theorem dJ2_getChar_3b067_18 : decode cJ2_getChar_3b067 18 = .ok (.new 52, 3) := by decide +kernel
theorem dJ2_getChar_3b067_21 : decode cJ2_getChar_3b067 21 = .ok (.dup, 1) := by decide +kernel
theorem dJ2_getChar_3b067_22 : decode cJ2_getChar_3b067 22 = .ok (.ldc 54, 2) := by decide +kernel
theorem dJ2_getChar_3b067_24 : decode cJ2_getChar_3b067 24 = .ok (.invokespecial 56, 3) := by decide +kernel
theorem dJ2_getChar_3b067_27 : decode cJ2_getChar_3b067 27 = .ok (.athrow, 1) := by decide +kernel
theorem dJ2_getChar_3b067_28 : decode cJ2_getChar_3b067 28 = .ok (.iload_n 1, 1) := by decide +kernel
theorem dJ2_getChar_3b067_29 : decode cJ2_getChar_3b067 29 = .ok (.iconst 1, 1) := by decide +kernel
theorem dJ2_getChar_3b067_30 : decode cJ2_getChar_3b067 30 = .ok (.ishl, 1) := by decide +kernel
theorem dJ2_getChar_3b067_31 : decode cJ2_getChar_3b067 31 = .ok (.istore_n 1, 1) := by decide +kernel
theorem dJ2_getChar_3b067_32 : decode cJ2_getChar_3b067 32 = .ok (.aload_n 0, 1) := by decide +kernel
theorem dJ2_getChar_3b067_33 : decode cJ2_getChar_3b067 33 = .ok (.iload_n 1, 1) := by decide +kernel
theorem dJ2_getChar_3b067_34 : decode cJ2_getChar_3b067 34 = .ok (.iinc 1 1, 3) := by decide +kernel
theorem dJ2_getChar_3b067_37 : decode cJ2_getChar_3b067 37 = .ok (.baload, 1) := by decide +kernel
theorem dJ2_getChar_3b067_38 : decode cJ2_getChar_3b067 38 = .ok (.sipush 255, 3) := by decide +kernel
theorem dJ2_getChar_3b067_41 : decode cJ2_getChar_3b067 41 = .ok (.iand, 1) := by decide +kernel
theorem dJ2_getChar_3b067_42 : decode cJ2_getChar_3b067 42 = .ok (.getstatic 59, 3) := by decide +kernel
theorem dJ2_getChar_3b067_45 : decode cJ2_getChar_3b067 45 = .ok (.ishl, 1) := by decide +kernel
theorem dJ2_getChar_3b067_46 : decode cJ2_getChar_3b067 46 = .ok (.aload_n 0, 1) := by decide +kernel
theorem dJ2_getChar_3b067_47 : decode cJ2_getChar_3b067 47 = .ok (.iload_n 1, 1) := by decide +kernel
theorem dJ2_getChar_3b067_48 : decode cJ2_getChar_3b067 48 = .ok (.baload, 1) := by decide +kernel
theorem dJ2_getChar_3b067_49 : decode cJ2_getChar_3b067 49 = .ok (.sipush 255, 3) := by decide +kernel
theorem dJ2_getChar_3b067_52 : decode cJ2_getChar_3b067 52 = .ok (.iand, 1) := by decide +kernel
theorem dJ2_getChar_3b067_53 : decode cJ2_getChar_3b067 53 = .ok (.getstatic 63, 3) := by decide +kernel
theorem dJ2_getChar_3b067_56 : decode cJ2_getChar_3b067 56 = .ok (.ishl, 1) := by decide +kernel
theorem dJ2_getChar_3b067_57 : decode cJ2_getChar_3b067 57 = .ok (.ior, 1) := by decide +kernel
theorem dJ2_getChar_3b067_58 : decode cJ2_getChar_3b067 58 = .ok (.i2c, 1) := by decide +kernel
theorem dJ2_getChar_3b067_59 : decode cJ2_getChar_3b067 59 = .ok (.ireturn, 1) := by decide +kernel
theorem dJ2_length_9d52b_0 : decode cJ2_length_9d52b 0 = .ok (.aload_n 0, 1) := by decide +kernel
theorem dJ2_length_9d52b_1 : decode cJ2_length_9d52b 1 = .ok (.arraylength, 1) := by decide +kernel
theorem dJ2_length_9d52b_2 : decode cJ2_length_9d52b 2 = .ok (.iconst 1, 1) := by decide +kernel
theorem dJ2_length_9d52b_3 : decode cJ2_length_9d52b 3 = .ok (.ishr, 1) := by decide +kernel
theorem dJ2_length_9d52b_4 : decode cJ2_length_9d52b 4 = .ok (.ireturn, 1) := by decide +kernel
set_option maxRecDepth 20000 in
theorem ggJ2_charAt_3b067_J2_checkIndex_2214a : GoodIn wsJ2_charAt_3b067 wsJ2_checkIndex_2214a := goodIn_r _ [4, 5, 6, 3, 7, 8, 9, 10, 11, 12, 13, 14, 15, 16] (by decide +kernel) (by decide +kernel)
set_option maxRecDepth 20000 in
theorem gJ2_charAt_3b067_J2_checkIndex_2214a : GoodIn wsJ2_charAt_3b067 (va_wsS RJ2 67 yJ2_checkIndex_2214a wsJ2_checkIndex_2214a) := goodIn_app (goodIn_of _ (by decide +kernel)) ggJ2_charAt_3b067_J2_checkIndex_2214a
set_option maxRecDepth 20000 in
theorem ggJ2_charAt_3b067_J2_getChar_3b067 : GoodIn wsJ2_charAt_3b067 wsJ2_getChar_3b067 := goodIn_r _ [19, 20, 21, 22, 5, 6, 3, 7] (by decide +kernel) (by decide +kernel)
set_option maxRecDepth 20000 in
theorem gJ2_charAt_3b067_J2_getChar_3b067 : GoodIn wsJ2_charAt_3b067 (va_wsS RJ2 71 yJ2_getChar_3b067 wsJ2_getChar_3b067) := goodIn_app (goodIn_of _ (by decide +kernel)) ggJ2_charAt_3b067_J2_getChar_3b067
theorem dJ2_charAt_3b067_0 : decode cJ2_charAt_3b067 0 = .ok (.iload_n 1, 1) := by decide +kernel
theorem dJ2_charAt_3b067_1 : decode cJ2_charAt_3b067 1 = .ok (.aload_n 0, 1) := by decide +kernel
theorem dJ2_charAt_3b067_2 : decode cJ2_charAt_3b067 2 = .ok (.invokestatic 67, 3) := by decide +kernel
theorem dJ2_charAt_3b067_5 : decode cJ2_charAt_3b067 5 = .ok (.aload_n 0, 1) := by decide +kernel
theorem dJ2_charAt_3b067_6 : decode cJ2_charAt_3b067 6 = .ok (.iload_n 1, 1) := by decide +kernel
theorem dJ2_charAt_3b067_7 : decode cJ2_charAt_3b067 7 = .ok (.invokestatic 71, 3) := by decide +kernel
theorem dJ2_charAt_3b067_10 : decode cJ2_charAt_3b067 10 = .ok (.ireturn, 1) := by decide +kernel
set_option maxRecDepth 20000 in
theorem ggJ2_checkIndex_2214a_J2_length_9d52b : GoodIn wsJ2_checkIndex_2214a wsJ2_length_9d52b := goodIn_r _ [4] (by decide +kernel) (by decide +kernel)
set_option maxRecDepth 20000 in
theorem gJ2_checkIndex_2214a_J2_length_9d52b : GoodIn wsJ2_checkIndex_2214a (va_wsS RJ2 48 yJ2_length_9d52b wsJ2_length_9d52b) := goodIn_app (goodIn_of _ (by decide +kernel)) ggJ2_checkIndex_2214a_J2_length_9d52b
set_option maxRecDepth 20000 in
theorem ggJ2_checkIndex_2214a_J0_checkIndex_df160 : GoodIn wsJ2_checkIndex_2214a wsJ0_checkIndex_df160 := goodIn_r _ [8, 9, 10, 11, 12, 13] (by decide +kernel) (by decide +kernel)
set_option maxRecDepth 20000 in
theorem gJ2_checkIndex_2214a_J0_checkIndex_df160 : GoodIn wsJ2_checkIndex_2214a (va_wsS RJ2 414 yJ0_checkIndex_df160 wsJ0_checkIndex_df160) := goodIn_app (goodIn_of _ (by decide +kernel)) ggJ2_checkIndex_2214a_J0_checkIndex_df160
theorem dJ2_checkIndex_2214a_0 : decode cJ2_checkIndex_2214a 0 = .ok (.iload_n 0, 1) := by decide +kernel
theorem dJ2_checkIndex_2214a_1 : decode cJ2_checkIndex_2214a 1 = .ok (.aload_n 1, 1) := by decide +kernel
theorem dJ2_checkIndex_2214a_2 : decode cJ2_checkIndex_2214a 2 = .ok (.invokestatic 48, 3) := by decide +kernel
theorem dJ2_checkIndex_2214a_5 : decode cJ2_checkIndex_2214a 5 = .ok (.invokestatic 414, 3) := by decide +kernel
theorem dJ2_checkIndex_2214a_8 : decode cJ2_checkIndex_2214a 8 = .ok (.return_, 1) := by decide +kernel
theorem dJ7_fill_53178_0 : decode cJ7_fill_53178 0 = .ok (.iconst 0, 1) := by decide +kernel
theorem dJ7_fill_53178_1 : decode cJ7_fill_53178 1 = .ok (.istore_n 2, 1) := by decide +kernel
theorem dJ7_fill_53178_2 : decode cJ7_fill_53178 2 = .ok (.aload_n 0, 1) := by decide +kernel
theorem dJ7_fill_53178_3 : decode cJ7_fill_53178 3 = .ok (.arraylength, 1) := by decide +kernel
theorem dJ7_fill_53178_4 : decode cJ7_fill_53178 4 = .ok (.istore_n 3, 1) := by decide +kernel
theorem dJ7_fill_53178_5 : decode cJ7_fill_53178 5 = .ok (.iload_n 2, 1) := by decide +kernel
theorem dJ7_fill_53178_6 : decode cJ7_fill_53178 6 = .ok (.iload_n 3, 1) := by decide +kernel
theorem dJ7_fill_53178_7 : decode cJ7_fill_53178 7 = .ok (.if_icmp .ge 13, 3) := by decide +kernel
theorem dJ7_fill_53178_10 : decode cJ7_fill_53178 10 = .ok (.aload_n 0, 1) := by decide +kernel
theorem dJ7_fill_53178_11 : decode cJ7_fill_53178 11 = .ok (.iload_n 2, 1) := by decide +kernel
theorem dJ7_fill_53178_12 : decode cJ7_fill_53178 12 = .ok (.iload_n 1, 1) := by decide +kernel
theorem dJ7_fill_53178_13 : decode cJ7_fill_53178 13 = .ok (.iastore, 1) := by decide +kernel
theorem dJ7_fill_53178_14 : decode cJ7_fill_53178 14 = .ok (.iinc 2 1, 3) := by decide +kernel
theorem dJ7_fill_53178_17 : decode cJ7_fill_53178 17 = .ok (.goto (-12), 3) := by decide +kernel
theorem dJ7_fill_53178_20 : decode cJ7_fill_53178 20 = .ok (.return_, 1) := by decide +kernel
theorem dJ3_checkIndex_8e157_0 : decode cJ3_checkIndex_8e157 0 = .ok (.iload_n 0, 1) := by decide +kernel
theorem dJ3_checkIndex_8e157_1 : decode cJ3_checkIndex_8e157 1 = .ok (.ifCond .lt 8, 3) := by decide +kernel
theorem dJ3_checkIndex_8e157_4 : decode cJ3_checkIndex_8e157 4 = .ok (.iload_n 0, 1) := by decide +kernel
theorem dJ3_checkIndex_8e157_5 : decode cJ3_checkIndex_8e157 5 = .ok (.iload_n 1, 1) := by decide +kernel
theorem dJ3_checkIndex_8e157_6 : decode cJ3_checkIndex_8e157 6 = .ok (.if_icmp .lt 10, 3) := by decide +kernel
theorem dJ3_checkIndex_8e157_9 : decode cJ3_checkIndex_8e157 9 = .ok (.aload_n 2, 1) := by decide +kernel
theorem dJ3_checkIndex_8e157_10 : decode cJ3_checkIndex_8e157 10 = .ok (.iload_n 0, 1) := by decide +kernel
theorem dJ3_checkIndex_8e157_11 : decode cJ3_checkIndex_8e157 11 = .ok (.iload_n 1, 1) := by decide +kernel
theorem dJ3_checkIndex_8e157_12 : decode cJ3_checkIndex_8e157 12 = .ok (.invokestatic 95, 3) := by decide +kernel
theorem dJ3_checkIndex_8e157_15 : decode cJ3_checkIndex_8e157 15 = .ok (.athrow, 1) := by decide +kernel
theorem dJ3_checkIndex_8e157_16 : decode cJ3_checkIndex_8e157 16 = .ok (.iload_n 0, 1) := by decide +kernel
theorem dJ3_checkIndex_8e157_17 : decode cJ3_checkIndex_8e157 17 = .ok (.ireturn, 1) := by decide +kernel
abbrev vwCl : List vw_C := [(RX0, TX0, 3), (RX1, TX1, 3), (RX2, TX2, 3), (RX3, TX3, 3), (RX4, TX4, 11), (RX5, TX5, 8), (RX6, TX6, 3), (RX7, TX7, 3), (RX8, TX8, 16), (RX10, TX10, 2), (RX11, TX11, 9), (RX12, TX12, 26)]
