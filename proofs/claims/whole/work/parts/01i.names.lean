theorem dX12_next_268 : decode cX12_next 268 = .ok (.putfield 97, 3) := by decide +kernel
theorem dX12_next_271 : decode cX12_next 271 = .ok (.goto 28, 3) := by decide +kernel
theorem dX12_next_274 : decode cX12_next 274 = .ok (.aload_n 0, 1) := by decide +kernel
theorem dX12_next_275 : decode cX12_next 275 = .ok (.iload_n 1, 1) := by decide +kernel
theorem dX12_next_276 : decode cX12_next 276 = .ok (.bipush 59, 2) := by decide +kernel
theorem dX12_next_278 : decode cX12_next 278 = .ok (.if_icmp .ne 7, 3) := by decide +kernel
theorem dX12_next_281 : decode cX12_next 281 = .ok (.iconst 3, 1) := by decide +kernel
theorem dX12_next_282 : decode cX12_next 282 = .ok (.goto 4, 3) := by decide +kernel
theorem dX12_next_285 : decode cX12_next 285 = .ok (.iconst 4, 1) := by decide +kernel
theorem dX12_next_286 : decode cX12_next 286 = .ok (.putfield 97, 3) := by decide +kernel
theorem dX12_next_289 : decode cX12_next 289 = .ok (.aload_n 0, 1) := by decide +kernel
theorem dX12_next_290 : decode cX12_next 290 = .ok (.dup, 1) := by decide +kernel
theorem dX12_next_291 : decode cX12_next 291 = .ok (.getfield 88, 3) := by decide +kernel
theorem dX12_next_294 : decode cX12_next 294 = .ok (.iconst 1, 1) := by decide +kernel
theorem dX12_next_295 : decode cX12_next 295 = .ok (.iadd, 1) := by decide +kernel
theorem dX12_next_296 : decode cX12_next 296 = .ok (.putfield 88, 3) := by decide +kernel
theorem dX12_next_299 : decode cX12_next 299 = .ok (.return_, 1) := by decide +kernel
theorem dX12_isName_0 : decode cX12_isName 0 = .ok (.aload_n 0, 1) := by decide +kernel
theorem dX12_isName_1 : decode cX12_isName 1 = .ok (.getfield 97, 3) := by decide +kernel
theorem dX12_isName_4 : decode cX12_isName 4 = .ok (.iconst 1, 1) := by decide +kernel
theorem dX12_isName_5 : decode cX12_isName 5 = .ok (.if_icmp .ne 16, 3) := by decide +kernel
theorem dX12_isName_8 : decode cX12_isName 8 = .ok (.aload_n 0, 1) := by decide +kernel
theorem dX12_isName_9 : decode cX12_isName 9 = .ok (.getfield 100, 3) := by decide +kernel
theorem dX12_isName_12 : decode cX12_isName 12 = .ok (.lload_n 1, 1) := by decide +kernel
theorem dX12_isName_13 : decode cX12_isName 13 = .ok (.lcmp, 1) := by decide +kernel
theorem dX12_isName_14 : decode cX12_isName 14 = .ok (.ifCond .ne 7, 3) := by decide +kernel
theorem dX12_isName_17 : decode cX12_isName 17 = .ok (.iconst 1, 1) := by decide +kernel
theorem dX12_isName_18 : decode cX12_isName 18 = .ok (.goto 4, 3) := by decide +kernel
theorem dX12_isName_21 : decode cX12_isName 21 = .ok (.iconst 0, 1) := by decide +kernel
theorem dX12_isName_22 : decode cX12_isName 22 = .ok (.ireturn, 1) := by decide +kernel
theorem dX12_must_0 : decode cX12_must 0 = .ok (.aload_n 0, 1) := by decide +kernel
theorem dX12_must_1 : decode cX12_must 1 = .ok (.getfield 107, 3) := by decide +kernel
theorem dX12_must_4 : decode cX12_must 4 = .ok (.ifCond .ne 12, 3) := by decide +kernel
theorem dX12_must_7 : decode cX12_must 7 = .ok (.iload_n 1, 1) := by decide +kernel
theorem dX12_must_8 : decode cX12_must 8 = .ok (.ifCond .ne 8, 3) := by decide +kernel
theorem dX12_must_11 : decode cX12_must 11 = .ok (.aload_n 0, 1) := by decide +kernel
theorem dX12_must_12 : decode cX12_must 12 = .ok (.iload_n 2, 1) := by decide +kernel
theorem dX12_must_13 : decode cX12_must 13 = .ok (.putfield 107, 3) := by decide +kernel
theorem dX12_must_16 : decode cX12_must 16 = .ok (.return_, 1) := by decide +kernel
set_option maxRecDepth 20000 in
theorem ggX12_goesOn_X12_next : GoodIn wsX12_goesOn wsX12_next := goodIn_r _ [6, 7, 8, 9, 10, 11, 12, 13, 14, 5, 15, 16, 17, 18, 19, 20, 21, 22, 23, 24, 25, 26, 27, 28, 29, 30, 31, 32, 33, 34, 35, 36, 37, 38, 39, 40, 41, 42, 43, 44, 45, 46] (by decide +kernel) (by decide +kernel)
set_option maxRecDepth 20000 in
theorem gX12_goesOn_X12_next : GoodIn wsX12_goesOn (wsV RX12 110 RX12 yX12_next wsX12_next) := goodIn_app (goodIn_of _ (by decide +kernel)) ggX12_goesOn_X12_next
theorem dX12_goesOn_0 : decode cX12_goesOn 0 = .ok (.aload_n 0, 1) := by decide +kernel
theorem dX12_goesOn_1 : decode cX12_goesOn 1 = .ok (.getfield 107, 3) := by decide +kernel
theorem dX12_goesOn_4 : decode cX12_goesOn 4 = .ok (.ifCond .ne 7, 3) := by decide +kernel
theorem dX12_goesOn_7 : decode cX12_goesOn 7 = .ok (.aload_n 0, 1) := by decide +kernel
theorem dX12_goesOn_8 : decode cX12_goesOn 8 = .ok (.invokevirtual 110, 3) := by decide +kernel
theorem dX12_goesOn_11 : decode cX12_goesOn 11 = .ok (.return_, 1) := by decide +kernel
set_option maxRecDepth 20000 in
theorem ggX12_readNumber_X12_must : GoodIn wsX12_readNumber wsX12_must := goodIn_r _ [7, 8, 29, 30, 31, 32, 33, 34, 35, 36, 37, 38, 39, 40, 41, 42, 43, 44, 45, 46, 47, 48, 49, 50, 51, 52, 53, 54] (by decide +kernel) (by decide +kernel)
set_option maxRecDepth 20000 in
theorem gX12_readNumber_X12_must : GoodIn wsX12_readNumber (wsV RX12 113 RX12 yX12_must wsX12_must) := goodIn_app (goodIn_of _ (by decide +kernel)) ggX12_readNumber_X12_must
set_option maxRecDepth 20000 in
theorem ggX12_readNumber_X12_in : GoodIn wsX12_readNumber wsX12_in := goodIn_r _ [11] (by decide +kernel) (by decide +kernel)
set_option maxRecDepth 20000 in
theorem gX12_readNumber_X12_in : GoodIn wsX12_readNumber (va_wsS RX12 63 yX12_in wsX12_in) := goodIn_app (goodIn_of _ (by decide +kernel)) ggX12_readNumber_X12_in
set_option maxRecDepth 20000 in
theorem ggX12_readNumber_X12_goesOn : GoodIn wsX12_readNumber wsX12_goesOn := goodIn_r _ [15, 8, 16, 17, 18, 6, 19, 20, 21, 1, 22, 2, 23, 24, 25, 26, 27, 28, 9, 10, 11, 29, 30, 31, 32, 33, 34, 35, 36, 37, 38, 39, 40, 41, 42, 43, 44, 45, 46, 47, 48, 49, 50, 51, 52, 53, 54] (by decide +kernel) (by decide +kernel)
set_option maxRecDepth 20000 in
theorem gX12_readNumber_X12_goesOn : GoodIn wsX12_readNumber (wsV RX12 117 RX12 yX12_goesOn wsX12_goesOn) := goodIn_app (goodIn_of _ (by decide +kernel)) ggX12_readNumber_X12_goesOn
theorem dX12_readNumber_0 : decode cX12_readNumber 0 = .ok (.aload_n 0, 1) := by decide +kernel
theorem dX12_readNumber_1 : decode cX12_readNumber 1 = .ok (.aload_n 0, 1) := by decide +kernel
theorem dX12_readNumber_2 : decode cX12_readNumber 2 = .ok (.getfield 97, 3) := by decide +kernel
theorem dX12_readNumber_5 : decode cX12_readNumber 5 = .ok (.iconst 2, 1) := by decide +kernel
theorem dX12_readNumber_6 : decode cX12_readNumber 6 = .ok (.if_icmp .ne 7, 3) := by decide +kernel
theorem dX12_readNumber_9 : decode cX12_readNumber 9 = .ok (.iconst 1, 1) := by decide +kernel
theorem dX12_readNumber_10 : decode cX12_readNumber 10 = .ok (.goto 4, 3) := by decide +kernel
theorem dX12_readNumber_13 : decode cX12_readNumber 13 = .ok (.iconst 0, 1) := by decide +kernel
theorem dX12_readNumber_14 : decode cX12_readNumber 14 = .ok (.iconst 1, 1) := by decide +kernel
theorem dX12_readNumber_15 : decode cX12_readNumber 15 = .ok (.invokevirtual 113, 3) := by decide +kernel
theorem dX12_readNumber_18 : decode cX12_readNumber 18 = .ok (.aload_n 0, 1) := by decide +kernel
theorem dX12_readNumber_19 : decode cX12_readNumber 19 = .ok (.aload_n 0, 1) := by decide +kernel
theorem dX12_readNumber_20 : decode cX12_readNumber 20 = .ok (.getfield 104, 3) := by decide +kernel
theorem dX12_readNumber_23 : decode cX12_readNumber 23 = .ok (.iconst 0, 1) := by decide +kernel
theorem dX12_readNumber_24 : decode cX12_readNumber 24 = .ok (.iload_n 1, 1) := by decide +kernel
theorem dX12_readNumber_25 : decode cX12_readNumber 25 = .ok (.invokestatic 63, 3) := by decide +kernel
theorem dX12_readNumber_28 : decode cX12_readNumber 28 = .ok (.ifCond .eq 15, 3) := by decide +kernel
theorem dX12_readNumber_31 : decode cX12_readNumber 31 = .ok (.aload_n 0, 1) := by decide +kernel
theorem dX12_readNumber_32 : decode cX12_readNumber 32 = .ok (.getfield 104, 3) := by decide +kernel
theorem dX12_readNumber_35 : decode cX12_readNumber 35 = .ok (.iload_n 2, 1) := by decide +kernel
theorem dX12_readNumber_36 : decode cX12_readNumber 36 = .ok (.if_icmp .eq 7, 3) := by decide +kernel
theorem dX12_readNumber_39 : decode cX12_readNumber 39 = .ok (.iconst 1, 1) := by decide +kernel
theorem dX12_readNumber_40 : decode cX12_readNumber 40 = .ok (.goto 4, 3) := by decide +kernel
theorem dX12_readNumber_43 : decode cX12_readNumber 43 = .ok (.iconst 0, 1) := by decide +kernel
theorem dX12_readNumber_44 : decode cX12_readNumber 44 = .ok (.iconst 2, 1) := by decide +kernel
theorem dX12_readNumber_45 : decode cX12_readNumber 45 = .ok (.invokevirtual 113, 3) := by decide +kernel
theorem dX12_readNumber_48 : decode cX12_readNumber 48 = .ok (.aload_n 0, 1) := by decide +kernel
theorem dX12_readNumber_49 : decode cX12_readNumber 49 = .ok (.getfield 104, 3) := by decide +kernel
theorem dX12_readNumber_52 : decode cX12_readNumber 52 = .ok (.istore_n 3, 1) := by decide +kernel
theorem dX12_readNumber_53 : decode cX12_readNumber 53 = .ok (.aload_n 0, 1) := by decide +kernel
theorem dX12_readNumber_54 : decode cX12_readNumber 54 = .ok (.invokevirtual 117, 3) := by decide +kernel
theorem dX12_readNumber_57 : decode cX12_readNumber 57 = .ok (.iload_n 3, 1) := by decide +kernel
theorem dX12_readNumber_58 : decode cX12_readNumber 58 = .ok (.ireturn, 1) := by decide +kernel
set_option maxRecDepth 20000 in
theorem ggX12_readStop_X12_must : GoodIn wsX12_readStop wsX12_must := goodIn_r _ [6, 7, 29, 30, 31, 32, 33, 34, 35, 36, 37, 38, 39, 40, 41, 42, 43, 44, 45, 46, 47, 48, 49, 50, 51, 52, 53, 54] (by decide +kernel) (by decide +kernel)
set_option maxRecDepth 20000 in
theorem gX12_readStop_X12_must : GoodIn wsX12_readStop (wsV RX12 113 RX12 yX12_must wsX12_must) := goodIn_app (goodIn_of _ (by decide +kernel)) ggX12_readStop_X12_must
set_option maxRecDepth 20000 in
theorem ggX12_readStop_X12_goesOn : GoodIn wsX12_readStop wsX12_goesOn := goodIn_r _ [11, 7, 12, 13, 14, 5, 15, 16, 17, 1, 18, 19, 20, 21, 22, 23, 24, 25, 26, 27, 28, 29, 30, 31, 32, 33, 34, 35, 36, 37, 38, 39, 40, 41, 42, 43, 44, 45, 46, 47, 48, 49, 50, 51, 52, 53, 54] (by decide +kernel) (by decide +kernel)
set_option maxRecDepth 20000 in
theorem gX12_readStop_X12_goesOn : GoodIn wsX12_readStop (wsV RX12 117 RX12 yX12_goesOn wsX12_goesOn) := goodIn_app (goodIn_of _ (by decide +kernel)) ggX12_readStop_X12_goesOn
theorem dX12_readStop_0 : decode cX12_readStop 0 = .ok (.aload_n 0, 1) := by decide +kernel
theorem dX12_readStop_1 : decode cX12_readStop 1 = .ok (.aload_n 0, 1) := by decide +kernel
theorem dX12_readStop_2 : decode cX12_readStop 2 = .ok (.getfield 97, 3) := by decide +kernel
theorem dX12_readStop_5 : decode cX12_readStop 5 = .ok (.iconst 3, 1) := by decide +kernel
theorem dX12_readStop_6 : decode cX12_readStop 6 = .ok (.if_icmp .ne 7, 3) := by decide +kernel
theorem dX12_readStop_9 : decode cX12_readStop 9 = .ok (.iconst 1, 1) := by decide +kernel
theorem dX12_readStop_10 : decode cX12_readStop 10 = .ok (.goto 4, 3) := by decide +kernel
theorem dX12_readStop_13 : decode cX12_readStop 13 = .ok (.iconst 0, 1) := by decide +kernel
theorem dX12_readStop_14 : decode cX12_readStop 14 = .ok (.iconst 1, 1) := by decide +kernel
theorem dX12_readStop_15 : decode cX12_readStop 15 = .ok (.invokevirtual 113, 3) := by decide +kernel
theorem dX12_readStop_18 : decode cX12_readStop 18 = .ok (.aload_n 0, 1) := by decide +kernel
theorem dX12_readStop_19 : decode cX12_readStop 19 = .ok (.invokevirtual 117, 3) := by decide +kernel
theorem dX12_readStop_22 : decode cX12_readStop 22 = .ok (.return_, 1) := by decide +kernel
set_option maxRecDepth 20000 in
theorem ggX12_readFence_X12_isName : GoodIn wsX12_readFence wsX12_isName := goodIn_r _ [8, 9, 10, 44, 45, 46, 47, 48, 49, 50, 51, 52, 53, 54, 55, 56, 57, 58, 59, 60, 61, 62, 63, 64, 65, 66, 67, 68, 69] (by decide +kernel) (by decide +kernel)
set_option maxRecDepth 20000 in
theorem gX12_readFence_X12_isName : GoodIn wsX12_readFence (wsV RX12 122 RX12 yX12_isName wsX12_isName) := goodIn_app (goodIn_of _ (by decide +kernel)) ggX12_readFence_X12_isName
set_option maxRecDepth 20000 in
theorem ggX12_readFence_X12_must : GoodIn wsX12_readFence wsX12_must := goodIn_r _ [14, 15, 44, 45, 46, 47, 48, 49, 50, 51, 52, 53, 54, 55, 56, 57, 58, 59, 60, 61, 62, 63, 64, 65, 66, 67, 68, 69] (by decide +kernel) (by decide +kernel)
set_option maxRecDepth 20000 in
theorem gX12_readFence_X12_must : GoodIn wsX12_readFence (wsV RX12 113 RX12 yX12_must wsX12_must) := goodIn_app (goodIn_of _ (by decide +kernel)) ggX12_readFence_X12_must
set_option maxRecDepth 20000 in
theorem ggX12_readFence_X12_goesOn : GoodIn wsX12_readFence wsX12_goesOn := goodIn_r _ [19, 15, 20, 21, 22, 7, 23, 24, 25, 9, 10, 26, 27, 28, 29, 30, 31, 32, 33, 34, 35, 44, 45, 46, 47, 48, 49, 50, 51, 52, 53, 54, 55, 56, 57, 58, 59, 60, 61, 62, 63, 64, 65, 66, 67, 68, 69] (by decide +kernel) (by decide +kernel)
set_option maxRecDepth 20000 in
theorem gX12_readFence_X12_goesOn : GoodIn wsX12_readFence (wsV RX12 117 RX12 yX12_goesOn wsX12_goesOn) := goodIn_app (goodIn_of _ (by decide +kernel)) ggX12_readFence_X12_goesOn
set_option maxRecDepth 20000 in
theorem ggX12_readFence_X12_readNumber : GoodIn wsX12_readFence wsX12_readNumber := goodIn_r _ [39, 9, 26, 11, 12, 13, 7, 14, 15, 33, 34, 35, 16, 17, 18, 19, 20, 21, 22, 23, 24, 25, 10, 27, 28, 29, 30, 31, 32, 44, 45, 46, 47, 48, 49, 50, 51, 52, 53, 54, 55, 56, 57, 58, 59, 60, 61, 62, 63, 64, 65, 66, 67, 68, 69] (by decide +kernel) (by decide +kernel)
set_option maxRecDepth 20000 in
theorem gX12_readFence_X12_readNumber : GoodIn wsX12_readFence (wsV RX12 126 RX12 yX12_readNumber wsX12_readNumber) := goodIn_app (goodIn_of _ (by decide +kernel)) ggX12_readFence_X12_readNumber
set_option maxRecDepth 20000 in
theorem ggX12_readFence_X12_readStop : GoodIn wsX12_readFence wsX12_readStop := goodIn_r _ [43, 9, 11, 12, 13, 7, 14, 15, 16, 17, 18, 19, 20, 21, 22, 23, 24, 25, 10, 26, 27, 28, 29, 30, 31, 32, 33, 34, 35, 44, 45, 46, 47, 48, 49, 50, 51, 52, 53, 54, 55, 56, 57, 58, 59, 60, 61, 62, 63, 64, 65, 66, 67, 68, 69] (by decide +kernel) (by decide +kernel)
set_option maxRecDepth 20000 in
theorem gX12_readFence_X12_readStop : GoodIn wsX12_readFence (wsV RX12 130 RX12 yX12_readStop wsX12_readStop) := goodIn_app (goodIn_of _ (by decide +kernel)) ggX12_readFence_X12_readStop
theorem dX12_readFence_0 : decode cX12_readFence 0 = .ok (.aload_n 0, 1) := by decide +kernel
theorem dX12_readFence_1 : decode cX12_readFence 1 = .ok (.aload_n 0, 1) := by decide +kernel
theorem dX12_readFence_2 : decode cX12_readFence 2 = .ok (.ldc2_w 120, 3) := by decide +kernel
theorem dX12_readFence_5 : decode cX12_readFence 5 = .ok (.invokevirtual 122, 3) := by decide +kernel
theorem dX12_readFence_8 : decode cX12_readFence 8 = .ok (.iconst 1, 1) := by decide +kernel
theorem dX12_readFence_9 : decode cX12_readFence 9 = .ok (.invokevirtual 113, 3) := by decide +kernel
theorem dX12_readFence_12 : decode cX12_readFence 12 = .ok (.aload_n 0, 1) := by decide +kernel
theorem dX12_readFence_13 : decode cX12_readFence 13 = .ok (.invokevirtual 117, 3) := by decide +kernel
theorem dX12_readFence_16 : decode cX12_readFence 16 = .ok (.aload_n 0, 1) := by decide +kernel
theorem dX12_readFence_17 : decode cX12_readFence 17 = .ok (.getfield 32, 3) := by decide +kernel
theorem dX12_readFence_20 : decode cX12_readFence 20 = .ok (.iconst 1, 1) := by decide +kernel
theorem dX12_readFence_21 : decode cX12_readFence 21 = .ok (.aload_n 0, 1) := by decide +kernel
theorem dX12_readFence_22 : decode cX12_readFence 22 = .ok (.bipush 12, 2) := by decide +kernel
theorem dX12_readFence_24 : decode cX12_readFence 24 = .ok (.ldc 57, 2) := by decide +kernel
theorem dX12_readFence_26 : decode cX12_readFence 26 = .ok (.invokevirtual 126, 3) := by decide +kernel
theorem dX12_readFence_29 : decode cX12_readFence 29 = .ok (.iastore, 1) := by decide +kernel
theorem dX12_readFence_30 : decode cX12_readFence 30 = .ok (.aload_n 0, 1) := by decide +kernel
theorem dX12_readFence_31 : decode cX12_readFence 31 = .ok (.getfield 32, 3) := by decide +kernel
theorem dX12_readFence_34 : decode cX12_readFence 34 = .ok (.iconst 2, 1) := by decide +kernel
theorem dX12_readFence_35 : decode cX12_readFence 35 = .ok (.aload_n 0, 1) := by decide +kernel
theorem dX12_readFence_36 : decode cX12_readFence 36 = .ok (.bipush 12, 2) := by decide +kernel
theorem dX12_readFence_38 : decode cX12_readFence 38 = .ok (.ldc 57, 2) := by decide +kernel
theorem dX12_readFence_40 : decode cX12_readFence 40 = .ok (.invokevirtual 126, 3) := by decide +kernel
theorem dX12_readFence_43 : decode cX12_readFence 43 = .ok (.iastore, 1) := by decide +kernel
theorem dX12_readFence_44 : decode cX12_readFence 44 = .ok (.aload_n 0, 1) := by decide +kernel
theorem dX12_readFence_45 : decode cX12_readFence 45 = .ok (.invokevirtual 130, 3) := by decide +kernel
theorem dX12_readFence_48 : decode cX12_readFence 48 = .ok (.return_, 1) := by decide +kernel
set_option maxRecDepth 20000 in
theorem ggX12_readPond_X12_must : GoodIn wsX12_readPond wsX12_must := goodIn_r _ [8, 3, 39, 40, 41, 42, 43, 44, 45, 46, 47, 48, 49, 50, 51, 52, 53, 54, 55, 56, 57, 58, 59, 60, 61, 62, 63, 64] (by decide +kernel) (by decide +kernel)
set_option maxRecDepth 20000 in
theorem gX12_readPond_X12_must : GoodIn wsX12_readPond (wsV RX12 113 RX12 yX12_must wsX12_must) := goodIn_app (goodIn_of _ (by decide +kernel)) ggX12_readPond_X12_must
set_option maxRecDepth 20000 in
theorem ggX12_readPond_X12_goesOn : GoodIn wsX12_readPond wsX12_goesOn := goodIn_r _ [12, 3, 13, 14, 15, 7, 16, 17, 18, 19, 20, 21, 22, 23, 24, 25, 26, 27, 28, 29, 30, 39, 40, 41, 42, 43, 44, 45, 46, 47, 48, 49, 50, 51, 52, 53, 54, 55, 56, 57, 58, 59, 60, 61, 62, 63, 64] (by decide +kernel) (by decide +kernel)
set_option maxRecDepth 20000 in
theorem gX12_readPond_X12_goesOn : GoodIn wsX12_readPond (wsV RX12 117 RX12 yX12_goesOn wsX12_goesOn) := goodIn_app (goodIn_of _ (by decide +kernel)) ggX12_readPond_X12_goesOn
set_option maxRecDepth 20000 in
theorem ggX12_readPond_X12_readNumber : GoodIn wsX12_readPond wsX12_readNumber := goodIn_r _ [34, 19, 21, 4, 5, 6, 7, 8, 3, 28, 29, 30, 9, 10, 11, 12, 13, 14, 15, 16, 17, 18, 20, 22, 23, 24, 25, 26, 27, 39, 40, 41, 42, 43, 44, 45, 46, 47, 48, 49, 50, 51, 52, 53, 54, 55, 56, 57, 58, 59, 60, 61, 62, 63, 64] (by decide +kernel) (by decide +kernel)
set_option maxRecDepth 20000 in
theorem gX12_readPond_X12_readNumber : GoodIn wsX12_readPond (wsV RX12 126 RX12 yX12_readNumber wsX12_readNumber) := goodIn_app (goodIn_of _ (by decide +kernel)) ggX12_readPond_X12_readNumber
set_option maxRecDepth 20000 in
theorem ggX12_readPond_X12_readStop : GoodIn wsX12_readPond wsX12_readStop := goodIn_r _ [38, 19, 4, 5, 6, 7, 8, 3, 9, 10, 11, 12, 13, 14, 15, 16, 17, 18, 20, 21, 22, 23, 24, 25, 26, 27, 28, 29, 30, 39, 40, 41, 42, 43, 44, 45, 46, 47, 48, 49, 50, 51, 52, 53, 54, 55, 56, 57, 58, 59, 60, 61, 62, 63, 64] (by decide +kernel) (by decide +kernel)
set_option maxRecDepth 20000 in
theorem gX12_readPond_X12_readStop : GoodIn wsX12_readPond (wsV RX12 130 RX12 yX12_readStop wsX12_readStop) := goodIn_app (goodIn_of _ (by decide +kernel)) ggX12_readPond_X12_readStop
theorem dX12_readPond_0 : decode cX12_readPond 0 = .ok (.aload_n 0, 1) := by decide +kernel
theorem dX12_readPond_1 : decode cX12_readPond 1 = .ok (.aload_n 0, 1) := by decide +kernel
theorem dX12_readPond_2 : decode cX12_readPond 2 = .ok (.getfield 32, 3) := by decide +kernel
theorem dX12_readPond_5 : decode cX12_readPond 5 = .ok (.iconst 5, 1) := by decide +kernel
theorem dX12_readPond_6 : decode cX12_readPond 6 = .ok (.iaload, 1) := by decide +kernel
theorem dX12_readPond_7 : decode cX12_readPond 7 = .ok (.bipush 6, 2) := by decide +kernel
theorem dX12_readPond_9 : decode cX12_readPond 9 = .ok (.if_icmp .ge 7, 3) := by decide +kernel
theorem dX12_readPond_12 : decode cX12_readPond 12 = .ok (.iconst 1, 1) := by decide +kernel
theorem dX12_readPond_13 : decode cX12_readPond 13 = .ok (.goto 4, 3) := by decide +kernel
theorem dX12_readPond_16 : decode cX12_readPond 16 = .ok (.iconst 0, 1) := by decide +kernel
theorem dX12_readPond_17 : decode cX12_readPond 17 = .ok (.iconst 3, 1) := by decide +kernel
theorem dX12_readPond_18 : decode cX12_readPond 18 = .ok (.invokevirtual 113, 3) := by decide +kernel
theorem dX12_readPond_21 : decode cX12_readPond 21 = .ok (.aload_n 0, 1) := by decide +kernel
theorem dX12_readPond_22 : decode cX12_readPond 22 = .ok (.invokevirtual 117, 3) := by decide +kernel
theorem dX12_readPond_25 : decode cX12_readPond 25 = .ok (.aload_n 0, 1) := by decide +kernel
theorem dX12_readPond_26 : decode cX12_readPond 26 = .ok (.iconst 1, 1) := by decide +kernel
theorem dX12_readPond_27 : decode cX12_readPond 27 = .ok (.ldc 57, 2) := by decide +kernel
theorem dX12_readPond_29 : decode cX12_readPond 29 = .ok (.invokevirtual 126, 3) := by decide +kernel
theorem dX12_readPond_32 : decode cX12_readPond 32 = .ok (.istore_n 1, 1) := by decide +kernel
theorem dX12_readPond_33 : decode cX12_readPond 33 = .ok (.aload_n 0, 1) := by decide +kernel
theorem dX12_readPond_34 : decode cX12_readPond 34 = .ok (.bipush 12, 2) := by decide +kernel
theorem dX12_readPond_36 : decode cX12_readPond 36 = .ok (.iload_n 1, 1) := by decide +kernel
theorem dX12_readPond_37 : decode cX12_readPond 37 = .ok (.ifCond .ne 12, 3) := by decide +kernel
theorem dX12_readPond_40 : decode cX12_readPond 40 = .ok (.aload_n 0, 1) := by decide +kernel
theorem dX12_readPond_41 : decode cX12_readPond 41 = .ok (.getfield 32, 3) := by decide +kernel
theorem dX12_readPond_44 : decode cX12_readPond 44 = .ok (.iconst 1, 1) := by decide +kernel
theorem dX12_readPond_45 : decode cX12_readPond 45 = .ok (.iaload, 1) := by decide +kernel
theorem dX12_readPond_46 : decode cX12_readPond 46 = .ok (.goto 9, 3) := by decide +kernel
theorem dX12_readPond_49 : decode cX12_readPond 49 = .ok (.aload_n 0, 1) := by decide +kernel
theorem dX12_readPond_50 : decode cX12_readPond 50 = .ok (.getfield 32, 3) := by decide +kernel
theorem dX12_readPond_53 : decode cX12_readPond 53 = .ok (.iconst 2, 1) := by decide +kernel
theorem dX12_readPond_54 : decode cX12_readPond 54 = .ok (.iaload, 1) := by decide +kernel
theorem dX12_readPond_55 : decode cX12_readPond 55 = .ok (.invokevirtual 126, 3) := by decide +kernel
theorem dX12_readPond_58 : decode cX12_readPond 58 = .ok (.istore_n 2, 1) := by decide +kernel
theorem dX12_readPond_59 : decode cX12_readPond 59 = .ok (.aload_n 0, 1) := by decide +kernel
theorem dX12_readPond_60 : decode cX12_readPond 60 = .ok (.invokevirtual 130, 3) := by decide +kernel
theorem dX12_readPond_63 : decode cX12_readPond 63 = .ok (.aload_n 0, 1) := by decide +kernel
theorem dX12_readPond_64 : decode cX12_readPond 64 = .ok (.getfield 107, 3) := by decide +kernel
theorem dX12_readPond_67 : decode cX12_readPond 67 = .ok (.ifCond .ne 49, 3) := by decide +kernel
theorem dX12_readPond_70 : decode cX12_readPond 70 = .ok (.aload_n 0, 1) := by decide +kernel
theorem dX12_readPond_71 : decode cX12_readPond 71 = .ok (.getfield 32, 3) := by decide +kernel
theorem dX12_readPond_74 : decode cX12_readPond 74 = .ok (.bipush 42, 2) := by decide +kernel
theorem dX12_readPond_76 : decode cX12_readPond 76 = .ok (.iconst 2, 1) := by decide +kernel
theorem dX12_readPond_77 : decode cX12_readPond 77 = .ok (.aload_n 0, 1) := by decide +kernel
theorem dX12_readPond_78 : decode cX12_readPond 78 = .ok (.getfield 32, 3) := by decide +kernel
theorem dX12_readPond_81 : decode cX12_readPond 81 = .ok (.iconst 5, 1) := by decide +kernel
theorem dX12_readPond_82 : decode cX12_readPond 82 = .ok (.iaload, 1) := by decide +kernel
theorem dX12_readPond_83 : decode cX12_readPond 83 = .ok (.imul, 1) := by decide +kernel
theorem dX12_readPond_84 : decode cX12_readPond 84 = .ok (.iadd, 1) := by decide +kernel
theorem dX12_readPond_85 : decode cX12_readPond 85 = .ok (.iload_n 1, 1) := by decide +kernel
theorem dX12_readPond_86 : decode cX12_readPond 86 = .ok (.iastore, 1) := by decide +kernel
theorem dX12_readPond_87 : decode cX12_readPond 87 = .ok (.aload_n 0, 1) := by decide +kernel
theorem dX12_readPond_88 : decode cX12_readPond 88 = .ok (.getfield 32, 3) := by decide +kernel
theorem dX12_readPond_91 : decode cX12_readPond 91 = .ok (.bipush 42, 2) := by decide +kernel
theorem dX12_readPond_93 : decode cX12_readPond 93 = .ok (.iconst 2, 1) := by decide +kernel
theorem dX12_readPond_94 : decode cX12_readPond 94 = .ok (.aload_n 0, 1) := by decide +kernel
theorem dX12_readPond_95 : decode cX12_readPond 95 = .ok (.getfield 32, 3) := by decide +kernel
theorem dX12_readPond_98 : decode cX12_readPond 98 = .ok (.iconst 5, 1) := by decide +kernel
theorem dX12_readPond_99 : decode cX12_readPond 99 = .ok (.iaload, 1) := by decide +kernel
theorem dX12_readPond_100 : decode cX12_readPond 100 = .ok (.imul, 1) := by decide +kernel
theorem dX12_readPond_101 : decode cX12_readPond 101 = .ok (.iadd, 1) := by decide +kernel
theorem dX12_readPond_102 : decode cX12_readPond 102 = .ok (.iconst 1, 1) := by decide +kernel
theorem dX12_readPond_103 : decode cX12_readPond 103 = .ok (.iadd, 1) := by decide +kernel
theorem dX12_readPond_104 : decode cX12_readPond 104 = .ok (.iload_n 2, 1) := by decide +kernel
theorem dX12_readPond_105 : decode cX12_readPond 105 = .ok (.iastore, 1) := by decide +kernel
theorem dX12_readPond_106 : decode cX12_readPond 106 = .ok (.aload_n 0, 1) := by decide +kernel
theorem dX12_readPond_107 : decode cX12_readPond 107 = .ok (.getfield 32, 3) := by decide +kernel
theorem dX12_readPond_110 : decode cX12_readPond 110 = .ok (.iconst 5, 1) := by decide +kernel
theorem dX12_readPond_111 : decode cX12_readPond 111 = .ok (.dup2, 1) := by decide +kernel
theorem dX12_readPond_112 : decode cX12_readPond 112 = .ok (.iaload, 1) := by decide +kernel
theorem dX12_readPond_113 : decode cX12_readPond 113 = .ok (.iconst 1, 1) := by decide +kernel
theorem dX12_readPond_114 : decode cX12_readPond 114 = .ok (.iadd, 1) := by decide +kernel
theorem dX12_readPond_115 : decode cX12_readPond 115 = .ok (.iastore, 1) := by decide +kernel
theorem dX12_readPond_116 : decode cX12_readPond 116 = .ok (.return_, 1) := by decide +kernel
set_option maxRecDepth 20000 in
theorem ggX12_sortNow_X12_isName : GoodIn wsX12_sortNow wsX12_isName := goodIn_r _ [11, 12, 13, 14, 15, 16, 17, 18, 19, 20, 21, 22, 23, 24, 25, 26, 27, 28, 29, 30, 31, 32, 33, 34, 35, 36, 37, 38, 39] (by decide +kernel) (by decide +kernel)
set_option maxRecDepth 20000 in
theorem gX12_sortNow_X12_isName : GoodIn wsX12_sortNow (wsV RX12 122 RX12 yX12_isName wsX12_isName) := goodIn_app (goodIn_of _ (by decide +kernel)) ggX12_sortNow_X12_isName
theorem dX12_sortNow_0 : decode cX12_sortNow 0 = .ok (.aload_n 0, 1) := by decide +kernel
theorem dX12_sortNow_1 : decode cX12_sortNow 1 = .ok (.ldc2_w 133, 3) := by decide +kernel
theorem dX12_sortNow_4 : decode cX12_sortNow 4 = .ok (.invokevirtual 122, 3) := by decide +kernel
theorem dX12_sortNow_7 : decode cX12_sortNow 7 = .ok (.ifCond .eq 7, 3) := by decide +kernel
theorem dX12_sortNow_10 : decode cX12_sortNow 10 = .ok (.iconst 1, 1) := by decide +kernel
theorem dX12_sortNow_11 : decode cX12_sortNow 11 = .ok (.goto 61, 3) := by decide +kernel
theorem dX12_sortNow_14 : decode cX12_sortNow 14 = .ok (.aload_n 0, 1) := by decide +kernel
theorem dX12_sortNow_15 : decode cX12_sortNow 15 = .ok (.ldc2_w 135, 3) := by decide +kernel
theorem dX12_sortNow_18 : decode cX12_sortNow 18 = .ok (.invokevirtual 122, 3) := by decide +kernel
theorem dX12_sortNow_21 : decode cX12_sortNow 21 = .ok (.ifCond .eq 7, 3) := by decide +kernel
theorem dX12_sortNow_24 : decode cX12_sortNow 24 = .ok (.iconst 2, 1) := by decide +kernel
theorem dX12_sortNow_25 : decode cX12_sortNow 25 = .ok (.goto 47, 3) := by decide +kernel
theorem dX12_sortNow_28 : decode cX12_sortNow 28 = .ok (.aload_n 0, 1) := by decide +kernel
theorem dX12_sortNow_29 : decode cX12_sortNow 29 = .ok (.ldc2_w 137, 3) := by decide +kernel
theorem dX12_sortNow_32 : decode cX12_sortNow 32 = .ok (.invokevirtual 122, 3) := by decide +kernel
theorem dX12_sortNow_35 : decode cX12_sortNow 35 = .ok (.ifCond .eq 7, 3) := by decide +kernel
theorem dX12_sortNow_38 : decode cX12_sortNow 38 = .ok (.iconst 3, 1) := by decide +kernel
theorem dX12_sortNow_39 : decode cX12_sortNow 39 = .ok (.goto 33, 3) := by decide +kernel
theorem dX12_sortNow_42 : decode cX12_sortNow 42 = .ok (.aload_n 0, 1) := by decide +kernel
theorem dX12_sortNow_43 : decode cX12_sortNow 43 = .ok (.ldc2_w 139, 3) := by decide +kernel
theorem dX12_sortNow_46 : decode cX12_sortNow 46 = .ok (.invokevirtual 122, 3) := by decide +kernel
theorem dX12_sortNow_49 : decode cX12_sortNow 49 = .ok (.ifCond .eq 7, 3) := by decide +kernel
theorem dX12_sortNow_52 : decode cX12_sortNow 52 = .ok (.iconst 4, 1) := by decide +kernel
theorem dX12_sortNow_53 : decode cX12_sortNow 53 = .ok (.goto 19, 3) := by decide +kernel
theorem dX12_sortNow_56 : decode cX12_sortNow 56 = .ok (.aload_n 0, 1) := by decide +kernel
theorem dX12_sortNow_57 : decode cX12_sortNow 57 = .ok (.ldc2_w 141, 3) := by decide +kernel
theorem dX12_sortNow_60 : decode cX12_sortNow 60 = .ok (.invokevirtual 122, 3) := by decide +kernel
theorem dX12_sortNow_63 : decode cX12_sortNow 63 = .ok (.ifCond .eq 7, 3) := by decide +kernel
theorem dX12_sortNow_66 : decode cX12_sortNow 66 = .ok (.iconst 5, 1) := by decide +kernel
theorem dX12_sortNow_67 : decode cX12_sortNow 67 = .ok (.goto 5, 3) := by decide +kernel
theorem dX12_sortNow_70 : decode cX12_sortNow 70 = .ok (.ldc 57, 2) := by decide +kernel
theorem dX12_sortNow_72 : decode cX12_sortNow 72 = .ok (.ireturn, 1) := by decide +kernel
set_option maxRecDepth 20000 in
theorem ggX12_readStrip_X12_must : GoodIn wsX12_readStrip wsX12_must := goodIn_r _ [8, 3, 52, 53, 54, 55, 56, 57, 58, 59, 60, 61, 62, 63, 64, 65, 66, 67, 68, 69, 70, 71, 72, 73, 74, 75, 76, 77] (by decide +kernel) (by decide +kernel)
set_option maxRecDepth 20000 in
theorem gX12_readStrip_X12_must : GoodIn wsX12_readStrip (wsV RX12 113 RX12 yX12_must wsX12_must) := goodIn_app (goodIn_of _ (by decide +kernel)) ggX12_readStrip_X12_must
set_option maxRecDepth 20000 in
theorem ggX12_readStrip_X12_goesOn : GoodIn wsX12_readStrip wsX12_goesOn := goodIn_r _ [12, 3, 13, 14, 15, 7, 16, 17, 18, 19, 20, 21, 22, 23, 24, 25, 26, 27, 28, 29, 30, 52, 53, 54, 55, 56, 57, 58, 59, 60, 61, 62, 63, 64, 65, 66, 67, 68, 69, 70, 71, 72, 73, 74, 75, 76, 77] (by decide +kernel) (by decide +kernel)
set_option maxRecDepth 20000 in
theorem gX12_readStrip_X12_goesOn : GoodIn wsX12_readStrip (wsV RX12 117 RX12 yX12_goesOn wsX12_goesOn) := goodIn_app (goodIn_of _ (by decide +kernel)) ggX12_readStrip_X12_goesOn
set_option maxRecDepth 20000 in
theorem ggX12_readStrip_X12_sortNow : GoodIn wsX12_readStrip wsX12_sortNow := goodIn_r _ [34, 35, 36, 37, 38, 39, 2, 40, 41, 42, 7, 43, 19, 20, 52, 53, 54, 55, 56, 57, 58, 59, 60, 61, 62, 63, 64, 65, 66, 67, 68, 69, 70, 71, 72, 73, 74, 75, 76, 77] (by decide +kernel) (by decide +kernel)
set_option maxRecDepth 20000 in
theorem gX12_readStrip_X12_sortNow : GoodIn wsX12_readStrip (wsV RX12 143 RX12 yX12_sortNow wsX12_sortNow) := goodIn_app (goodIn_of _ (by decide +kernel)) ggX12_readStrip_X12_sortNow
set_option maxRecDepth 20000 in
theorem ggX12_readStrip_X12_readNumber : GoodIn wsX12_readStrip wsX12_readNumber := goodIn_r _ [47, 19, 21, 4, 5, 6, 7, 8, 3, 28, 29, 30, 9, 10, 11, 12, 13, 14, 15, 16, 17, 18, 20, 22, 23, 24, 25, 26, 27, 52, 53, 54, 55, 56, 57, 58, 59, 60, 61, 62, 63, 64, 65, 66, 67, 68, 69, 70, 71, 72, 73, 74, 75, 76, 77] (by decide +kernel) (by decide +kernel)
set_option maxRecDepth 20000 in
theorem gX12_readStrip_X12_readNumber : GoodIn wsX12_readStrip (wsV RX12 126 RX12 yX12_readNumber wsX12_readNumber) := goodIn_app (goodIn_of _ (by decide +kernel)) ggX12_readStrip_X12_readNumber
set_option maxRecDepth 20000 in
theorem ggX12_readStrip_X12_readStop : GoodIn wsX12_readStrip wsX12_readStop := goodIn_r _ [51, 19, 4, 5, 6, 7, 8, 3, 9, 10, 11, 12, 13, 14, 15, 16, 17, 18, 20, 21, 22, 23, 24, 25, 26, 27, 28, 29, 30, 52, 53, 54, 55, 56, 57, 58, 59, 60, 61, 62, 63, 64, 65, 66, 67, 68, 69, 70, 71, 72, 73, 74, 75, 76, 77] (by decide +kernel) (by decide +kernel)
set_option maxRecDepth 20000 in
theorem gX12_readStrip_X12_readStop : GoodIn wsX12_readStrip (wsV RX12 130 RX12 yX12_readStop wsX12_readStop) := goodIn_app (goodIn_of _ (by decide +kernel)) ggX12_readStrip_X12_readStop
theorem dX12_readStrip_0 : decode cX12_readStrip 0 = .ok (.aload_n 0, 1) := by decide +kernel
theorem dX12_readStrip_1 : decode cX12_readStrip 1 = .ok (.aload_n 0, 1) := by decide +kernel
theorem dX12_readStrip_2 : decode cX12_readStrip 2 = .ok (.getfield 32, 3) := by decide +kernel
theorem dX12_readStrip_5 : decode cX12_readStrip 5 = .ok (.iconst 4, 1) := by decide +kernel
theorem dX12_readStrip_6 : decode cX12_readStrip 6 = .ok (.iaload, 1) := by decide +kernel
theorem dX12_readStrip_7 : decode cX12_readStrip 7 = .ok (.bipush 12, 2) := by decide +kernel
theorem dX12_readStrip_9 : decode cX12_readStrip 9 = .ok (.if_icmp .ge 7, 3) := by decide +kernel
theorem dX12_readStrip_12 : decode cX12_readStrip 12 = .ok (.iconst 1, 1) := by decide +kernel
theorem dX12_readStrip_13 : decode cX12_readStrip 13 = .ok (.goto 4, 3) := by decide +kernel
theorem dX12_readStrip_16 : decode cX12_readStrip 16 = .ok (.iconst 0, 1) := by decide +kernel
theorem dX12_readStrip_17 : decode cX12_readStrip 17 = .ok (.iconst 3, 1) := by decide +kernel
theorem dX12_readStrip_18 : decode cX12_readStrip 18 = .ok (.invokevirtual 113, 3) := by decide +kernel
theorem dX12_readStrip_21 : decode cX12_readStrip 21 = .ok (.aload_n 0, 1) := by decide +kernel
theorem dX12_readStrip_22 : decode cX12_readStrip 22 = .ok (.invokevirtual 117, 3) := by decide +kernel
theorem dX12_readStrip_25 : decode cX12_readStrip 25 = .ok (.aload_n 0, 1) := by decide +kernel
theorem dX12_readStrip_26 : decode cX12_readStrip 26 = .ok (.invokevirtual 143, 3) := by decide +kernel
theorem dX12_readStrip_29 : decode cX12_readStrip 29 = .ok (.istore_n 1, 1) := by decide +kernel
theorem dX12_readStrip_30 : decode cX12_readStrip 30 = .ok (.aload_n 0, 1) := by decide +kernel
theorem dX12_readStrip_31 : decode cX12_readStrip 31 = .ok (.iload_n 1, 1) := by decide +kernel
theorem dX12_readStrip_32 : decode cX12_readStrip 32 = .ok (.ldc 57, 2) := by decide +kernel
theorem dX12_readStrip_34 : decode cX12_readStrip 34 = .ok (.if_icmp .eq 7, 3) := by decide +kernel
theorem dX12_readStrip_37 : decode cX12_readStrip 37 = .ok (.iconst 1, 1) := by decide +kernel
theorem dX12_readStrip_38 : decode cX12_readStrip 38 = .ok (.goto 4, 3) := by decide +kernel
theorem dX12_readStrip_41 : decode cX12_readStrip 41 = .ok (.iconst 0, 1) := by decide +kernel
theorem dX12_readStrip_42 : decode cX12_readStrip 42 = .ok (.iconst 1, 1) := by decide +kernel
theorem dX12_readStrip_43 : decode cX12_readStrip 43 = .ok (.invokevirtual 113, 3) := by decide +kernel
theorem dX12_readStrip_46 : decode cX12_readStrip 46 = .ok (.aload_n 0, 1) := by decide +kernel
theorem dX12_readStrip_47 : decode cX12_readStrip 47 = .ok (.invokevirtual 117, 3) := by decide +kernel
theorem dX12_readStrip_50 : decode cX12_readStrip 50 = .ok (.aload_n 0, 1) := by decide +kernel
theorem dX12_readStrip_51 : decode cX12_readStrip 51 = .ok (.bipush 99, 2) := by decide +kernel
theorem dX12_readStrip_53 : decode cX12_readStrip 53 = .ok (.ldc 57, 2) := by decide +kernel
theorem dX12_readStrip_55 : decode cX12_readStrip 55 = .ok (.invokevirtual 126, 3) := by decide +kernel
theorem dX12_readStrip_58 : decode cX12_readStrip 58 = .ok (.istore_n 2, 1) := by decide +kernel
theorem dX12_readStrip_59 : decode cX12_readStrip 59 = .ok (.aload_n 0, 1) := by decide +kernel
theorem dX12_readStrip_60 : decode cX12_readStrip 60 = .ok (.bipush 11, 2) := by decide +kernel
theorem dX12_readStrip_62 : decode cX12_readStrip 62 = .ok (.ldc 57, 2) := by decide +kernel
theorem dX12_readStrip_64 : decode cX12_readStrip 64 = .ok (.invokevirtual 126, 3) := by decide +kernel
theorem dX12_readStrip_67 : decode cX12_readStrip 67 = .ok (.istore_n 3, 1) := by decide +kernel
theorem dX12_readStrip_68 : decode cX12_readStrip 68 = .ok (.aload_n 0, 1) := by decide +kernel
theorem dX12_readStrip_69 : decode cX12_readStrip 69 = .ok (.invokevirtual 130, 3) := by decide +kernel
theorem dX12_readStrip_72 : decode cX12_readStrip 72 = .ok (.aload_n 0, 1) := by decide +kernel
theorem dX12_readStrip_73 : decode cX12_readStrip 73 = .ok (.getfield 107, 3) := by decide +kernel
theorem dX12_readStrip_76 : decode cX12_readStrip 76 = .ok (.ifCond .ne 54, 3) := by decide +kernel
theorem dX12_readStrip_79 : decode cX12_readStrip 79 = .ok (.bipush 6, 2) := by decide +kernel
theorem dX12_readStrip_81 : decode cX12_readStrip 81 = .ok (.iconst 3, 1) := by decide +kernel
theorem dX12_readStrip_82 : decode cX12_readStrip 82 = .ok (.aload_n 0, 1) := by decide +kernel
theorem dX12_readStrip_83 : decode cX12_readStrip 83 = .ok (.getfield 32, 3) := by decide +kernel
theorem dX12_readStrip_86 : decode cX12_readStrip 86 = .ok (.iconst 4, 1) := by decide +kernel
theorem dX12_readStrip_87 : decode cX12_readStrip 87 = .ok (.iaload, 1) := by decide +kernel
theorem dX12_readStrip_88 : decode cX12_readStrip 88 = .ok (.imul, 1) := by decide +kernel
theorem dX12_readStrip_89 : decode cX12_readStrip 89 = .ok (.iadd, 1) := by decide +kernel
theorem dX12_readStrip_90 : decode cX12_readStrip 90 = .ok (.istore 4, 2) := by decide +kernel
theorem dX12_readStrip_92 : decode cX12_readStrip 92 = .ok (.aload_n 0, 1) := by decide +kernel
theorem dX12_readStrip_93 : decode cX12_readStrip 93 = .ok (.getfield 32, 3) := by decide +kernel
theorem dX12_readStrip_96 : decode cX12_readStrip 96 = .ok (.iload 4, 2) := by decide +kernel
theorem dX12_readStrip_98 : decode cX12_readStrip 98 = .ok (.iload_n 1, 1) := by decide +kernel
theorem dX12_readStrip_99 : decode cX12_readStrip 99 = .ok (.iastore, 1) := by decide +kernel
theorem dX12_readStrip_100 : decode cX12_readStrip 100 = .ok (.aload_n 0, 1) := by decide +kernel
theorem dX12_readStrip_101 : decode cX12_readStrip 101 = .ok (.getfield 32, 3) := by decide +kernel
theorem dX12_readStrip_104 : decode cX12_readStrip 104 = .ok (.iload 4, 2) := by decide +kernel
theorem dX12_readStrip_106 : decode cX12_readStrip 106 = .ok (.iconst 1, 1) := by decide +kernel
theorem dX12_readStrip_107 : decode cX12_readStrip 107 = .ok (.iadd, 1) := by decide +kernel
theorem dX12_readStrip_108 : decode cX12_readStrip 108 = .ok (.iload_n 2, 1) := by decide +kernel
theorem dX12_readStrip_109 : decode cX12_readStrip 109 = .ok (.iastore, 1) := by decide +kernel
theorem dX12_readStrip_110 : decode cX12_readStrip 110 = .ok (.aload_n 0, 1) := by decide +kernel
theorem dX12_readStrip_111 : decode cX12_readStrip 111 = .ok (.getfield 32, 3) := by decide +kernel
theorem dX12_readStrip_114 : decode cX12_readStrip 114 = .ok (.iload 4, 2) := by decide +kernel
theorem dX12_readStrip_116 : decode cX12_readStrip 116 = .ok (.iconst 2, 1) := by decide +kernel
theorem dX12_readStrip_117 : decode cX12_readStrip 117 = .ok (.iadd, 1) := by decide +kernel
theorem dX12_readStrip_118 : decode cX12_readStrip 118 = .ok (.iload_n 3, 1) := by decide +kernel
theorem dX12_readStrip_119 : decode cX12_readStrip 119 = .ok (.iastore, 1) := by decide +kernel
theorem dX12_readStrip_120 : decode cX12_readStrip 120 = .ok (.aload_n 0, 1) := by decide +kernel
theorem dX12_readStrip_121 : decode cX12_readStrip 121 = .ok (.getfield 32, 3) := by decide +kernel
theorem dX12_readStrip_124 : decode cX12_readStrip 124 = .ok (.iconst 4, 1) := by decide +kernel
theorem dX12_readStrip_125 : decode cX12_readStrip 125 = .ok (.dup2, 1) := by decide +kernel
theorem dX12_readStrip_126 : decode cX12_readStrip 126 = .ok (.iaload, 1) := by decide +kernel
theorem dX12_readStrip_127 : decode cX12_readStrip 127 = .ok (.iconst 1, 1) := by decide +kernel
theorem dX12_readStrip_128 : decode cX12_readStrip 128 = .ok (.iadd, 1) := by decide +kernel
theorem dX12_readStrip_129 : decode cX12_readStrip 129 = .ok (.iastore, 1) := by decide +kernel
theorem dX12_readStrip_130 : decode cX12_readStrip 130 = .ok (.return_, 1) := by decide +kernel
set_option maxRecDepth 20000 in
theorem ggX12_ground_X12_next : GoodIn wsX12_ground wsX12_next := goodIn_r _ [16, 2, 7, 6, 17, 18, 19, 20, 21, 15, 22, 8, 23, 24, 25, 26, 70, 71, 72, 73, 74, 75, 76, 77, 78, 79, 80, 81, 82, 83, 84, 85, 86, 87, 88, 89, 90, 91, 92, 93, 94, 95] (by decide +kernel) (by decide +kernel)
set_option maxRecDepth 20000 in
theorem gX12_ground_X12_next : GoodIn wsX12_ground (wsV RX12 110 RX12 yX12_next wsX12_next) := goodIn_app (goodIn_of _ (by decide +kernel)) ggX12_ground_X12_next
set_option maxRecDepth 20000 in
theorem ggX12_ground_X12_readFence : GoodIn wsX12_ground wsX12_readFence := goodIn_r _ [30, 31, 1, 32, 33, 34, 35, 15, 36, 6, 17, 37, 38, 39, 40, 3, 41, 42, 43, 44, 12, 13, 14, 16, 2, 7, 18, 19, 20, 21, 22, 8, 23, 24, 25, 26, 45, 46, 47, 48, 49, 50, 51, 52, 70, 71, 72, 73, 74, 75, 76, 77, 78, 79, 80, 81, 82, 83, 84, 85, 86, 87, 88, 89, 90, 91, 92, 93, 94, 95] (by decide +kernel) (by decide +kernel)
set_option maxRecDepth 20000 in
theorem gX12_ground_X12_readFence : GoodIn wsX12_ground (wsV RX12 147 RX12 yX12_readFence wsX12_readFence) := goodIn_app (goodIn_of _ (by decide +kernel)) ggX12_ground_X12_readFence
set_option maxRecDepth 20000 in
theorem ggX12_ground_X12_isName : GoodIn wsX12_ground wsX12_isName := goodIn_r _ [36, 6, 17, 70, 71, 72, 73, 74, 75, 76, 77, 78, 79, 80, 81, 82, 83, 84, 85, 86, 87, 88, 89, 90, 91, 92, 93, 94, 95] (by decide +kernel) (by decide +kernel)
set_option maxRecDepth 20000 in
theorem gX12_ground_X12_isName : GoodIn wsX12_ground (wsV RX12 122 RX12 yX12_isName wsX12_isName) := goodIn_app (goodIn_of _ (by decide +kernel)) ggX12_ground_X12_isName
set_option maxRecDepth 20000 in
theorem ggX12_ground_X12_readPond : GoodIn wsX12_ground wsX12_readPond := goodIn_r _ [56, 1, 32, 3, 37, 38, 39, 15, 40, 41, 42, 43, 44, 12, 13, 14, 16, 2, 7, 6, 17, 18, 19, 20, 21, 22, 8, 23, 24, 25, 26, 45, 46, 47, 48, 49, 50, 51, 52, 70, 71, 72, 73, 74, 75, 76, 77, 78, 79, 80, 81, 82, 83, 84, 85, 86, 87, 88, 89, 90, 91, 92, 93, 94, 95] (by decide +kernel) (by decide +kernel)
set_option maxRecDepth 20000 in
theorem gX12_ground_X12_readPond : GoodIn wsX12_ground (wsV RX12 152 RX12 yX12_readPond wsX12_readPond) := goodIn_app (goodIn_of _ (by decide +kernel)) ggX12_ground_X12_readPond
set_option maxRecDepth 20000 in
theorem ggX12_ground_X12_readStrip : GoodIn wsX12_ground wsX12_readStrip := goodIn_r _ [60, 1, 32, 3, 37, 38, 39, 15, 40, 41, 42, 43, 44, 12, 13, 14, 16, 2, 7, 6, 17, 18, 19, 20, 21, 22, 8, 23, 24, 25, 26, 61, 62, 63, 64, 65, 66, 67, 68, 69, 33, 34, 35, 36, 45, 46, 47, 48, 49, 50, 51, 52, 70, 71, 72, 73, 74, 75, 76, 77, 78, 79, 80, 81, 82, 83, 84, 85, 86, 87, 88, 89, 90, 91, 92, 93, 94, 95] (by decide +kernel) (by decide +kernel)
set_option maxRecDepth 20000 in
theorem gX12_ground_X12_readStrip : GoodIn wsX12_ground (wsV RX12 157 RX12 yX12_readStrip wsX12_readStrip) := goodIn_app (goodIn_of _ (by decide +kernel)) ggX12_ground_X12_readStrip
set_option maxRecDepth 20000 in
theorem ggX12_ground_X12_must : GoodIn wsX12_ground wsX12_must := goodIn_r _ [40, 3, 70, 71, 72, 73, 74, 75, 76, 77, 78, 79, 80, 81, 82, 83, 84, 85, 86, 87, 88, 89, 90, 91, 92, 93, 94, 95] (by decide +kernel) (by decide +kernel)
set_option maxRecDepth 20000 in
theorem gX12_ground_X12_must : GoodIn wsX12_ground (wsV RX12 113 RX12 yX12_must wsX12_must) := goodIn_app (goodIn_of _ (by decide +kernel)) ggX12_ground_X12_must
theorem dX12_ground_0 : decode cX12_ground 0 = .ok (.iconst 0, 1) := by decide +kernel
theorem dX12_ground_1 : decode cX12_ground 1 = .ok (.istore_n 1, 1) := by decide +kernel
theorem dX12_ground_2 : decode cX12_ground 2 = .ok (.iload_n 1, 1) := by decide +kernel
theorem dX12_ground_3 : decode cX12_ground 3 = .ok (.bipush 78, 2) := by decide +kernel
theorem dX12_ground_5 : decode cX12_ground 5 = .ok (.if_icmp .ge 16, 3) := by decide +kernel
theorem dX12_ground_8 : decode cX12_ground 8 = .ok (.aload_n 0, 1) := by decide +kernel
theorem dX12_ground_9 : decode cX12_ground 9 = .ok (.getfield 32, 3) := by decide +kernel
theorem dX12_ground_12 : decode cX12_ground 12 = .ok (.iload_n 1, 1) := by decide +kernel
theorem dX12_ground_13 : decode cX12_ground 13 = .ok (.iconst 0, 1) := by decide +kernel
theorem dX12_ground_14 : decode cX12_ground 14 = .ok (.iastore, 1) := by decide +kernel
theorem dX12_ground_15 : decode cX12_ground 15 = .ok (.iinc 1 1, 3) := by decide +kernel
theorem dX12_ground_18 : decode cX12_ground 18 = .ok (.goto (-16), 3) := by decide +kernel
theorem dX12_ground_21 : decode cX12_ground 21 = .ok (.aload_n 0, 1) := by decide +kernel
theorem dX12_ground_22 : decode cX12_ground 22 = .ok (.iconst 0, 1) := by decide +kernel
theorem dX12_ground_23 : decode cX12_ground 23 = .ok (.putfield 88, 3) := by decide +kernel
theorem dX12_ground_26 : decode cX12_ground 26 = .ok (.aload_n 0, 1) := by decide +kernel
theorem dX12_ground_27 : decode cX12_ground 27 = .ok (.iconst 0, 1) := by decide +kernel
theorem dX12_ground_28 : decode cX12_ground 28 = .ok (.putfield 107, 3) := by decide +kernel
theorem dX12_ground_31 : decode cX12_ground 31 = .ok (.aload_n 0, 1) := by decide +kernel
theorem dX12_ground_32 : decode cX12_ground 32 = .ok (.invokevirtual 110, 3) := by decide +kernel
theorem dX12_ground_35 : decode cX12_ground 35 = .ok (.aload_n 0, 1) := by decide +kernel
theorem dX12_ground_36 : decode cX12_ground 36 = .ok (.invokevirtual 147, 3) := by decide +kernel
theorem dX12_ground_39 : decode cX12_ground 39 = .ok (.aload_n 0, 1) := by decide +kernel
theorem dX12_ground_40 : decode cX12_ground 40 = .ok (.getfield 107, 3) := by decide +kernel
theorem dX12_ground_43 : decode cX12_ground 43 = .ok (.ifCond .ne 20, 3) := by decide +kernel
theorem dX12_ground_46 : decode cX12_ground 46 = .ok (.aload_n 0, 1) := by decide +kernel
theorem dX12_ground_47 : decode cX12_ground 47 = .ok (.ldc2_w 150, 3) := by decide +kernel
theorem dX12_ground_50 : decode cX12_ground 50 = .ok (.invokevirtual 122, 3) := by decide +kernel
theorem dX12_ground_53 : decode cX12_ground 53 = .ok (.ifCond .eq 10, 3) := by decide +kernel
theorem dX12_ground_56 : decode cX12_ground 56 = .ok (.aload_n 0, 1) := by decide +kernel
theorem dX12_ground_57 : decode cX12_ground 57 = .ok (.invokevirtual 152, 3) := by decide +kernel
theorem dX12_ground_60 : decode cX12_ground 60 = .ok (.goto (-21), 3) := by decide +kernel
theorem dX12_ground_63 : decode cX12_ground 63 = .ok (.aload_n 0, 1) := by decide +kernel
theorem dX12_ground_64 : decode cX12_ground 64 = .ok (.getfield 107, 3) := by decide +kernel
theorem dX12_ground_67 : decode cX12_ground 67 = .ok (.ifCond .ne 20, 3) := by decide +kernel
theorem dX12_ground_70 : decode cX12_ground 70 = .ok (.aload_n 0, 1) := by decide +kernel
theorem dX12_ground_71 : decode cX12_ground 71 = .ok (.ldc2_w 155, 3) := by decide +kernel
theorem dX12_ground_74 : decode cX12_ground 74 = .ok (.invokevirtual 122, 3) := by decide +kernel
theorem dX12_ground_77 : decode cX12_ground 77 = .ok (.ifCond .eq 10, 3) := by decide +kernel
theorem dX12_ground_80 : decode cX12_ground 80 = .ok (.aload_n 0, 1) := by decide +kernel
theorem dX12_ground_81 : decode cX12_ground 81 = .ok (.invokevirtual 157, 3) := by decide +kernel
theorem dX12_ground_84 : decode cX12_ground 84 = .ok (.goto (-21), 3) := by decide +kernel
theorem dX12_ground_87 : decode cX12_ground 87 = .ok (.aload_n 0, 1) := by decide +kernel
theorem dX12_ground_88 : decode cX12_ground 88 = .ok (.aload_n 0, 1) := by decide +kernel
theorem dX12_ground_89 : decode cX12_ground 89 = .ok (.getfield 97, 3) := by decide +kernel
theorem dX12_ground_92 : decode cX12_ground 92 = .ok (.ifCond .ne 7, 3) := by decide +kernel
theorem dX12_ground_95 : decode cX12_ground 95 = .ok (.iconst 1, 1) := by decide +kernel
theorem dX12_ground_96 : decode cX12_ground 96 = .ok (.goto 4, 3) := by decide +kernel
theorem dX12_ground_99 : decode cX12_ground 99 = .ok (.iconst 0, 1) := by decide +kernel
theorem dX12_ground_100 : decode cX12_ground 100 = .ok (.iconst 1, 1) := by decide +kernel
theorem dX12_ground_101 : decode cX12_ground 101 = .ok (.invokevirtual 113, 3) := by decide +kernel
theorem dX12_ground_104 : decode cX12_ground 104 = .ok (.aload_n 0, 1) := by decide +kernel
theorem dX12_ground_105 : decode cX12_ground 105 = .ok (.getfield 94, 3) := by decide +kernel
theorem dX12_ground_108 : decode cX12_ground 108 = .ok (.istore_n 1, 1) := by decide +kernel
theorem dX12_ground_109 : decode cX12_ground 109 = .ok (.aload_n 0, 1) := by decide +kernel
theorem dX12_ground_110 : decode cX12_ground 110 = .ok (.iconst 0, 1) := by decide +kernel
theorem dX12_ground_111 : decode cX12_ground 111 = .ok (.putfield 82, 3) := by decide +kernel
theorem dX12_ground_114 : decode cX12_ground 114 = .ok (.aload_n 0, 1) := by decide +kernel
theorem dX12_ground_115 : decode cX12_ground 115 = .ok (.getfield 107, 3) := by decide +kernel
theorem dX12_ground_118 : decode cX12_ground 118 = .ok (.ifCond .le 16, 3) := by decide +kernel
theorem dX12_ground_121 : decode cX12_ground 121 = .ok (.aload_n 0, 1) := by decide +kernel
theorem dX12_ground_122 : decode cX12_ground 122 = .ok (.aload_n 0, 1) := by decide +kernel
theorem dX12_ground_123 : decode cX12_ground 123 = .ok (.getfield 107, 3) := by decide +kernel
theorem dX12_ground_126 : decode cX12_ground 126 = .ok (.putfield 160, 3) := by decide +kernel
theorem dX12_ground_129 : decode cX12_ground 129 = .ok (.ldc 163, 2) := by decide +kernel
theorem dX12_ground_131 : decode cX12_ground 131 = .ok (.iload_n 1, 1) := by decide +kernel
theorem dX12_ground_132 : decode cX12_ground 132 = .ok (.isub, 1) := by decide +kernel
theorem dX12_ground_133 : decode cX12_ground 133 = .ok (.ireturn, 1) := by decide +kernel
theorem dX12_ground_134 : decode cX12_ground 134 = .ok (.iconst 0, 1) := by decide +kernel
theorem dX12_ground_135 : decode cX12_ground 135 = .ok (.istore_n 2, 1) := by decide +kernel
theorem dX12_ground_136 : decode cX12_ground 136 = .ok (.iload_n 2, 1) := by decide +kernel
theorem dX12_ground_137 : decode cX12_ground 137 = .ok (.bipush 78, 2) := by decide +kernel
theorem dX12_ground_139 : decode cX12_ground 139 = .ok (.if_icmp .ge 21, 3) := by decide +kernel
theorem dX12_ground_142 : decode cX12_ground 142 = .ok (.aload_n 0, 1) := by decide +kernel
theorem dX12_ground_143 : decode cX12_ground 143 = .ok (.getfield 7, 3) := by decide +kernel
theorem dX12_ground_146 : decode cX12_ground 146 = .ok (.iload_n 2, 1) := by decide +kernel
theorem dX12_ground_147 : decode cX12_ground 147 = .ok (.aload_n 0, 1) := by decide +kernel
theorem dX12_ground_148 : decode cX12_ground 148 = .ok (.getfield 32, 3) := by decide +kernel
theorem dX12_ground_151 : decode cX12_ground 151 = .ok (.iload_n 2, 1) := by decide +kernel
theorem dX12_ground_152 : decode cX12_ground 152 = .ok (.iaload, 1) := by decide +kernel
theorem dX12_ground_153 : decode cX12_ground 153 = .ok (.iastore, 1) := by decide +kernel
theorem dX12_ground_154 : decode cX12_ground 154 = .ok (.iinc 2 1, 3) := by decide +kernel
theorem dX12_ground_157 : decode cX12_ground 157 = .ok (.goto (-21), 3) := by decide +kernel
theorem dX12_ground_160 : decode cX12_ground 160 = .ok (.aload_n 0, 1) := by decide +kernel
theorem dX12_ground_161 : decode cX12_ground 161 = .ok (.getfield 7, 3) := by decide +kernel
theorem dX12_ground_164 : decode cX12_ground 164 = .ok (.iconst 0, 1) := by decide +kernel
theorem dX12_ground_165 : decode cX12_ground 165 = .ok (.iconst 1, 1) := by decide +kernel
theorem dX12_ground_166 : decode cX12_ground 166 = .ok (.iastore, 1) := by decide +kernel
theorem dX12_ground_167 : decode cX12_ground 167 = .ok (.aload_n 0, 1) := by decide +kernel
theorem dX12_ground_168 : decode cX12_ground 168 = .ok (.getfield 7, 3) := by decide +kernel
theorem dX12_ground_171 : decode cX12_ground 171 = .ok (.iconst 4, 1) := by decide +kernel
theorem dX12_ground_172 : decode cX12_ground 172 = .ok (.iaload, 1) := by decide +kernel
theorem dX12_ground_173 : decode cX12_ground 173 = .ok (.ireturn, 1) := by decide +kernel
theorem dX12_fault_0 : decode cX12_fault 0 = .ok (.aload_n 0, 1) := by decide +kernel
theorem dX12_fault_1 : decode cX12_fault 1 = .ok (.getfield 160, 3) := by decide +kernel
theorem dX12_fault_4 : decode cX12_fault 4 = .ok (.ireturn, 1) := by decide +kernel
theorem dX12_isGround_0 : decode cX12_isGround 0 = .ok (.aload_n 0, 1) := by decide +kernel
theorem dX12_isGround_1 : decode cX12_isGround 1 = .ok (.getfield 7, 3) := by decide +kernel
theorem dX12_isGround_4 : decode cX12_isGround 4 = .ok (.iconst 0, 1) := by decide +kernel
theorem dX12_isGround_5 : decode cX12_isGround 5 = .ok (.iaload, 1) := by decide +kernel
theorem dX12_isGround_6 : decode cX12_isGround 6 = .ok (.iconst 1, 1) := by decide +kernel
theorem dX12_isGround_7 : decode cX12_isGround 7 = .ok (.if_icmp .ne 7, 3) := by decide +kernel
theorem dX12_isGround_10 : decode cX12_isGround 10 = .ok (.iconst 1, 1) := by decide +kernel
theorem dX12_isGround_11 : decode cX12_isGround 11 = .ok (.goto 4, 3) := by decide +kernel
theorem dX12_isGround_14 : decode cX12_isGround 14 = .ok (.iconst 0, 1) := by decide +kernel
theorem dX12_isGround_15 : decode cX12_isGround 15 = .ok (.ireturn, 1) := by decide +kernel
set_option maxRecDepth 20000 in
theorem ggX12_isStrip_X12_in : GoodIn wsX12_isStrip wsX12_in := goodIn_r _ [5] (by decide +kernel) (by decide +kernel)
set_option maxRecDepth 20000 in
theorem gX12_isStrip_X12_in : GoodIn wsX12_isStrip (va_wsS RX12 63 yX12_in wsX12_in) := goodIn_app (goodIn_of _ (by decide +kernel)) ggX12_isStrip_X12_in
theorem dX12_isStrip_0 : decode cX12_isStrip 0 = .ok (.iload_n 1, 1) := by decide +kernel
theorem dX12_isStrip_1 : decode cX12_isStrip 1 = .ok (.iconst 0, 1) := by decide +kernel
theorem dX12_isStrip_2 : decode cX12_isStrip 2 = .ok (.aload_n 0, 1) := by decide +kernel
theorem dX12_isStrip_3 : decode cX12_isStrip 3 = .ok (.getfield 7, 3) := by decide +kernel
theorem dX12_isStrip_6 : decode cX12_isStrip 6 = .ok (.iconst 4, 1) := by decide +kernel
theorem dX12_isStrip_7 : decode cX12_isStrip 7 = .ok (.iaload, 1) := by decide +kernel
theorem dX12_isStrip_8 : decode cX12_isStrip 8 = .ok (.iconst 1, 1) := by decide +kernel
theorem dX12_isStrip_9 : decode cX12_isStrip 9 = .ok (.isub, 1) := by decide +kernel
theorem dX12_isStrip_10 : decode cX12_isStrip 10 = .ok (.invokestatic 63, 3) := by decide +kernel
theorem dX12_isStrip_13 : decode cX12_isStrip 13 = .ok (.ireturn, 1) := by decide +kernel
theorem dX12_shareOf_0 : decode cX12_shareOf 0 = .ok (.iload_n 1, 1) := by decide +kernel
theorem dX12_shareOf_1 : decode cX12_shareOf 1 = .ok (.iload_n 2, 1) := by decide +kernel
theorem dX12_shareOf_2 : decode cX12_shareOf 2 = .ok (.if_icmp .ne 15, 3) := by decide +kernel
theorem dX12_shareOf_5 : decode cX12_shareOf 5 = .ok (.iload_n 1, 1) := by decide +kernel
theorem dX12_shareOf_6 : decode cX12_shareOf 6 = .ok (.iload_n 0, 1) := by decide +kernel
theorem dX12_shareOf_7 : decode cX12_shareOf 7 = .ok (.if_icmp .le 8, 3) := by decide +kernel
theorem dX12_shareOf_10 : decode cX12_shareOf 10 = .ok (.ldc 164, 2) := by decide +kernel
theorem dX12_shareOf_12 : decode cX12_shareOf 12 = .ok (.goto 4, 3) := by decide +kernel
theorem dX12_shareOf_15 : decode cX12_shareOf 15 = .ok (.iconst 0, 1) := by decide +kernel
theorem dX12_shareOf_16 : decode cX12_shareOf 16 = .ok (.ireturn, 1) := by decide +kernel
theorem dX12_shareOf_17 : decode cX12_shareOf 17 = .ok (.iload_n 1, 1) := by decide +kernel
theorem dX12_shareOf_18 : decode cX12_shareOf 18 = .ok (.iload_n 2, 1) := by decide +kernel
theorem dX12_shareOf_19 : decode cX12_shareOf 19 = .ok (.if_icmp .ge 7, 3) := by decide +kernel
theorem dX12_shareOf_22 : decode cX12_shareOf 22 = .ok (.iload_n 1, 1) := by decide +kernel
theorem dX12_shareOf_23 : decode cX12_shareOf 23 = .ok (.goto 4, 3) := by decide +kernel
theorem dX12_shareOf_26 : decode cX12_shareOf 26 = .ok (.iload_n 2, 1) := by decide +kernel
theorem dX12_shareOf_27 : decode cX12_shareOf 27 = .ok (.istore_n 3, 1) := by decide +kernel
theorem dX12_shareOf_28 : decode cX12_shareOf 28 = .ok (.iload_n 1, 1) := by decide +kernel
theorem dX12_shareOf_29 : decode cX12_shareOf 29 = .ok (.iload_n 2, 1) := by decide +kernel
theorem dX12_shareOf_30 : decode cX12_shareOf 30 = .ok (.if_icmp .ge 7, 3) := by decide +kernel
theorem dX12_shareOf_33 : decode cX12_shareOf 33 = .ok (.iload_n 2, 1) := by decide +kernel
theorem dX12_shareOf_34 : decode cX12_shareOf 34 = .ok (.goto 4, 3) := by decide +kernel
theorem dX12_shareOf_37 : decode cX12_shareOf 37 = .ok (.iload_n 1, 1) := by decide +kernel
theorem dX12_shareOf_38 : decode cX12_shareOf 38 = .ok (.istore 4, 2) := by decide +kernel
theorem dX12_shareOf_40 : decode cX12_shareOf 40 = .ok (.iconst 0, 1) := by decide +kernel
theorem dX12_shareOf_41 : decode cX12_shareOf 41 = .ok (.istore 5, 2) := by decide +kernel
theorem dX12_shareOf_43 : decode cX12_shareOf 43 = .ok (.iload_n 3, 1) := by decide +kernel
theorem dX12_shareOf_44 : decode cX12_shareOf 44 = .ok (.istore 6, 2) := by decide +kernel
theorem dX12_shareOf_46 : decode cX12_shareOf 46 = .ok (.iload 6, 2) := by decide +kernel
theorem dX12_shareOf_48 : decode cX12_shareOf 48 = .ok (.iload 4, 2) := by decide +kernel
theorem dX12_shareOf_50 : decode cX12_shareOf 50 = .ok (.if_icmp .ge 35, 3) := by decide +kernel
theorem dX12_shareOf_53 : decode cX12_shareOf 53 = .ok (.iload 5, 2) := by decide +kernel
theorem dX12_shareOf_55 : decode cX12_shareOf 55 = .ok (.iload 6, 2) := by decide +kernel
theorem dX12_shareOf_57 : decode cX12_shareOf 57 = .ok (.iload_n 0, 1) := by decide +kernel
theorem dX12_shareOf_58 : decode cX12_shareOf 58 = .ok (.if_icmp .le 7, 3) := by decide +kernel
theorem dX12_shareOf_61 : decode cX12_shareOf 61 = .ok (.iconst 2, 1) := by decide +kernel
theorem dX12_shareOf_62 : decode cX12_shareOf 62 = .ok (.goto 14, 3) := by decide +kernel
theorem dX12_shareOf_65 : decode cX12_shareOf 65 = .ok (.iload 6, 2) := by decide +kernel
theorem dX12_shareOf_67 : decode cX12_shareOf 67 = .ok (.iload_n 0, 1) := by decide +kernel
theorem dX12_shareOf_68 : decode cX12_shareOf 68 = .ok (.if_icmp .ne 7, 3) := by decide +kernel
theorem dX12_shareOf_71 : decode cX12_shareOf 71 = .ok (.iconst 1, 1) := by decide +kernel
theorem dX12_shareOf_72 : decode cX12_shareOf 72 = .ok (.goto 4, 3) := by decide +kernel
theorem dX12_shareOf_75 : decode cX12_shareOf 75 = .ok (.iconst 0, 1) := by decide +kernel
theorem dX12_shareOf_76 : decode cX12_shareOf 76 = .ok (.iadd, 1) := by decide +kernel
theorem dX12_shareOf_77 : decode cX12_shareOf 77 = .ok (.istore 5, 2) := by decide +kernel
theorem dX12_shareOf_79 : decode cX12_shareOf 79 = .ok (.iinc 6 1, 3) := by decide +kernel
theorem dX12_shareOf_82 : decode cX12_shareOf 82 = .ok (.goto (-36), 3) := by decide +kernel
theorem dX12_shareOf_85 : decode cX12_shareOf 85 = .ok (.iload 5, 2) := by decide +kernel
theorem dX12_shareOf_87 : decode cX12_shareOf 87 = .ok (.ldc 164, 2) := by decide +kernel
theorem dX12_shareOf_89 : decode cX12_shareOf 89 = .ok (.iconst 2, 1) := by decide +kernel
theorem dX12_shareOf_90 : decode cX12_shareOf 90 = .ok (.iload 4, 2) := by decide +kernel
theorem dX12_shareOf_92 : decode cX12_shareOf 92 = .ok (.iload_n 3, 1) := by decide +kernel
theorem dX12_shareOf_93 : decode cX12_shareOf 93 = .ok (.isub, 1) := by decide +kernel
theorem dX12_shareOf_94 : decode cX12_shareOf 94 = .ok (.imul, 1) := by decide +kernel
theorem dX12_shareOf_95 : decode cX12_shareOf 95 = .ok (.idiv, 1) := by decide +kernel
theorem dX12_shareOf_96 : decode cX12_shareOf 96 = .ok (.imul, 1) := by decide +kernel
theorem dX12_shareOf_97 : decode cX12_shareOf 97 = .ok (.ireturn, 1) := by decide +kernel
theorem dX12_cropOf_0 : decode cX12_cropOf 0 = .ok (.iload_n 3, 1) := by decide +kernel
theorem dX12_cropOf_1 : decode cX12_cropOf 1 = .ok (.iload_n 2, 1) := by decide +kernel
theorem dX12_cropOf_2 : decode cX12_cropOf 2 = .ok (.isub, 1) := by decide +kernel
theorem dX12_cropOf_3 : decode cX12_cropOf 3 = .ok (.istore 4, 2) := by decide +kernel
theorem dX12_cropOf_5 : decode cX12_cropOf 5 = .ok (.iload 4, 2) := by decide +kernel
theorem dX12_cropOf_7 : decode cX12_cropOf 7 = .ok (.ifCond .ge 5, 3) := by decide +kernel
theorem dX12_cropOf_10 : decode cX12_cropOf 10 = .ok (.iconst 0, 1) := by decide +kernel
theorem dX12_cropOf_11 : decode cX12_cropOf 11 = .ok (.ireturn, 1) := by decide +kernel
theorem dX12_cropOf_12 : decode cX12_cropOf 12 = .ok (.iload_n 0, 1) := by decide +kernel
theorem dX12_cropOf_13 : decode cX12_cropOf 13 = .ok (.iconst 3, 1) := by decide +kernel
theorem dX12_cropOf_14 : decode cX12_cropOf 14 = .ok (.if_icmp .ne 25, 3) := by decide +kernel
theorem dX12_cropOf_17 : decode cX12_cropOf 17 = .ok (.iload_n 1, 1) := by decide +kernel
theorem dX12_cropOf_18 : decode cX12_cropOf 18 = .ok (.bipush 10, 2) := by decide +kernel
theorem dX12_cropOf_20 : decode cX12_cropOf 20 = .ok (.iload 4, 2) := by decide +kernel
theorem dX12_cropOf_22 : decode cX12_cropOf 22 = .ok (.imul, 1) := by decide +kernel
theorem dX12_cropOf_23 : decode cX12_cropOf 23 = .ok (.isub, 1) := by decide +kernel
theorem dX12_cropOf_24 : decode cX12_cropOf 24 = .ok (.ifCond .ge 7, 3) := by decide +kernel
theorem dX12_cropOf_27 : decode cX12_cropOf 27 = .ok (.iconst 0, 1) := by decide +kernel
theorem dX12_cropOf_28 : decode cX12_cropOf 28 = .ok (.goto 10, 3) := by decide +kernel
theorem dX12_cropOf_31 : decode cX12_cropOf 31 = .ok (.iload_n 1, 1) := by decide +kernel
theorem dX12_cropOf_32 : decode cX12_cropOf 32 = .ok (.bipush 10, 2) := by decide +kernel
theorem dX12_cropOf_34 : decode cX12_cropOf 34 = .ok (.iload 4, 2) := by decide +kernel
theorem dX12_cropOf_36 : decode cX12_cropOf 36 = .ok (.imul, 1) := by decide +kernel
theorem dX12_cropOf_37 : decode cX12_cropOf 37 = .ok (.isub, 1) := by decide +kernel
theorem dX12_cropOf_38 : decode cX12_cropOf 38 = .ok (.ireturn, 1) := by decide +kernel
theorem dX12_cropOf_39 : decode cX12_cropOf 39 = .ok (.iload_n 0, 1) := by decide +kernel
theorem dX12_cropOf_40 : decode cX12_cropOf 40 = .ok (.iconst 4, 1) := by decide +kernel
theorem dX12_cropOf_41 : decode cX12_cropOf 41 = .ok (.if_icmp .ne 18, 3) := by decide +kernel
theorem dX12_cropOf_44 : decode cX12_cropOf 44 = .ok (.iload 4, 2) := by decide +kernel
theorem dX12_cropOf_46 : decode cX12_cropOf 46 = .ok (.iconst 3, 1) := by decide +kernel
theorem dX12_cropOf_47 : decode cX12_cropOf 47 = .ok (.irem, 1) := by decide +kernel
theorem dX12_cropOf_48 : decode cX12_cropOf 48 = .ok (.ifCond .ne 9, 3) := by decide +kernel
theorem dX12_cropOf_51 : decode cX12_cropOf 51 = .ok (.iload_n 1, 1) := by decide +kernel
theorem dX12_cropOf_52 : decode cX12_cropOf 52 = .ok (.iconst 2, 1) := by decide +kernel
theorem dX12_cropOf_53 : decode cX12_cropOf 53 = .ok (.idiv, 1) := by decide +kernel
theorem dX12_cropOf_54 : decode cX12_cropOf 54 = .ok (.goto 4, 3) := by decide +kernel
theorem dX12_cropOf_57 : decode cX12_cropOf 57 = .ok (.iconst 0, 1) := by decide +kernel
theorem dX12_cropOf_58 : decode cX12_cropOf 58 = .ok (.ireturn, 1) := by decide +kernel
theorem dX12_cropOf_59 : decode cX12_cropOf 59 = .ok (.iload 4, 2) := by decide +kernel
theorem dX12_cropOf_61 : decode cX12_cropOf 61 = .ok (.ifCond .eq 14, 3) := by decide +kernel
theorem dX12_cropOf_64 : decode cX12_cropOf 64 = .ok (.iload 4, 2) := by decide +kernel
theorem dX12_cropOf_66 : decode cX12_cropOf 66 = .ok (.iconst 1, 1) := by decide +kernel
theorem dX12_cropOf_67 : decode cX12_cropOf 67 = .ok (.if_icmp .ne 12, 3) := by decide +kernel
theorem dX12_cropOf_70 : decode cX12_cropOf 70 = .ok (.iload_n 0, 1) := by decide +kernel
theorem dX12_cropOf_71 : decode cX12_cropOf 71 = .ok (.iconst 5, 1) := by decide +kernel
theorem dX12_cropOf_72 : decode cX12_cropOf 72 = .ok (.if_icmp .ne 7, 3) := by decide +kernel
theorem dX12_cropOf_75 : decode cX12_cropOf 75 = .ok (.iload_n 1, 1) := by decide +kernel
theorem dX12_cropOf_76 : decode cX12_cropOf 76 = .ok (.goto 4, 3) := by decide +kernel
theorem dX12_cropOf_79 : decode cX12_cropOf 79 = .ok (.iconst 0, 1) := by decide +kernel
theorem dX12_cropOf_80 : decode cX12_cropOf 80 = .ok (.ireturn, 1) := by decide +kernel
theorem dX12_sown_0 : decode cX12_sown 0 = .ok (.aload_n 0, 1) := by decide +kernel
theorem dX12_sown_1 : decode cX12_sown 1 = .ok (.getfield 7, 3) := by decide +kernel
theorem dX12_sown_4 : decode cX12_sown 4 = .ok (.bipush 6, 2) := by decide +kernel
theorem dX12_sown_6 : decode cX12_sown 6 = .ok (.iconst 3, 1) := by decide +kernel
theorem dX12_sown_7 : decode cX12_sown 7 = .ok (.iload_n 1, 1) := by decide +kernel
theorem dX12_sown_8 : decode cX12_sown 8 = .ok (.imul, 1) := by decide +kernel
theorem dX12_sown_9 : decode cX12_sown 9 = .ok (.iadd, 1) := by decide +kernel
theorem dX12_sown_10 : decode cX12_sown 10 = .ok (.iload_n 2, 1) := by decide +kernel
theorem dX12_sown_11 : decode cX12_sown 11 = .ok (.iadd, 1) := by decide +kernel
theorem dX12_sown_12 : decode cX12_sown 12 = .ok (.iaload, 1) := by decide +kernel
theorem dX12_sown_13 : decode cX12_sown 13 = .ok (.ireturn, 1) := by decide +kernel
set_option maxRecDepth 20000 in
theorem ggX12_cropOn_X12_sown : GoodIn wsX12_cropOn wsX12_sown := goodIn_r _ [5, 6, 10, 11, 12, 13, 14, 15, 16, 17, 18, 19, 20, 21, 22, 23, 24, 25, 26, 27, 28, 29, 30, 31, 32, 33, 34, 35] (by decide +kernel) (by decide +kernel)
set_option maxRecDepth 20000 in
theorem gX12_cropOn_X12_sown : GoodIn wsX12_cropOn (wsV RX12 165 RX12 yX12_sown wsX12_sown) := goodIn_app (goodIn_of _ (by decide +kernel)) ggX12_cropOn_X12_sown
set_option maxRecDepth 20000 in
theorem ggX12_cropOn_X12_cropOf : GoodIn wsX12_cropOn wsX12_cropOf := goodIn_r _ [9] (by decide +kernel) (by decide +kernel)
set_option maxRecDepth 20000 in
theorem gX12_cropOn_X12_cropOf : GoodIn wsX12_cropOn (va_wsS RX12 168 yX12_cropOf wsX12_cropOf) := goodIn_app (goodIn_of _ (by decide +kernel)) ggX12_cropOn_X12_cropOf
theorem dX12_cropOn_0 : decode cX12_cropOn 0 = .ok (.aload_n 0, 1) := by decide +kernel
theorem dX12_cropOn_1 : decode cX12_cropOn 1 = .ok (.iload_n 1, 1) := by decide +kernel
theorem dX12_cropOn_2 : decode cX12_cropOn 2 = .ok (.iconst 0, 1) := by decide +kernel
theorem dX12_cropOn_3 : decode cX12_cropOn 3 = .ok (.invokevirtual 165, 3) := by decide +kernel
theorem dX12_cropOn_6 : decode cX12_cropOn 6 = .ok (.aload_n 0, 1) := by decide +kernel
theorem dX12_cropOn_7 : decode cX12_cropOn 7 = .ok (.iload_n 1, 1) := by decide +kernel
theorem dX12_cropOn_8 : decode cX12_cropOn 8 = .ok (.iconst 1, 1) := by decide +kernel
theorem dX12_cropOn_9 : decode cX12_cropOn 9 = .ok (.invokevirtual 165, 3) := by decide +kernel
theorem dX12_cropOn_12 : decode cX12_cropOn 12 = .ok (.aload_n 0, 1) := by decide +kernel
theorem dX12_cropOn_13 : decode cX12_cropOn 13 = .ok (.iload_n 1, 1) := by decide +kernel
theorem dX12_cropOn_14 : decode cX12_cropOn 14 = .ok (.iconst 2, 1) := by decide +kernel
theorem dX12_cropOn_15 : decode cX12_cropOn 15 = .ok (.invokevirtual 165, 3) := by decide +kernel
theorem dX12_cropOn_18 : decode cX12_cropOn 18 = .ok (.iload_n 2, 1) := by decide +kernel
theorem dX12_cropOn_19 : decode cX12_cropOn 19 = .ok (.invokestatic 168, 3) := by decide +kernel
theorem dX12_cropOn_22 : decode cX12_cropOn 22 = .ok (.ireturn, 1) := by decide +kernel
set_option maxRecDepth 20000 in
theorem ggX12_gets_X12_shareOf : GoodIn wsX12_gets wsX12_shareOf := goodIn_r _ [6, 2] (by decide +kernel) (by decide +kernel)
set_option maxRecDepth 20000 in
theorem gX12_gets_X12_shareOf : GoodIn wsX12_gets (va_wsS RX12 172 yX12_shareOf wsX12_shareOf) := goodIn_app (goodIn_of _ (by decide +kernel)) ggX12_gets_X12_shareOf
set_option maxRecDepth 20000 in
theorem ggX12_gets_X12_sown : GoodIn wsX12_gets wsX12_sown := goodIn_r _ [10, 1, 18, 19, 20, 21, 22, 23, 24, 25, 26, 27, 28, 29, 30, 31, 32, 33, 34, 35, 36, 37, 38, 39, 40, 41, 42, 43] (by decide +kernel) (by decide +kernel)
set_option maxRecDepth 20000 in
theorem gX12_gets_X12_sown : GoodIn wsX12_gets (wsV RX12 165 RX12 yX12_sown wsX12_sown) := goodIn_app (goodIn_of _ (by decide +kernel)) ggX12_gets_X12_sown
set_option maxRecDepth 20000 in
theorem ggX12_gets_X12_cropOn : GoodIn wsX12_gets wsX12_cropOn := goodIn_r _ [14, 7, 8, 9, 5, 10, 1, 15, 16, 17, 18, 19, 20, 21, 22, 23, 24, 25, 26, 27, 28, 29, 30, 31, 32, 33, 34, 35, 36, 37, 38, 39, 40, 41, 42, 43] (by decide +kernel) (by decide +kernel)
set_option maxRecDepth 20000 in
theorem gX12_gets_X12_cropOn : GoodIn wsX12_gets (wsV RX12 176 RX12 yX12_cropOn wsX12_cropOn) := goodIn_app (goodIn_of _ (by decide +kernel)) ggX12_gets_X12_cropOn
theorem dX12_gets_0 : decode cX12_gets 0 = .ok (.lconst 0, 1) := by decide +kernel
theorem dX12_gets_1 : decode cX12_gets 1 = .ok (.lstore 4, 2) := by decide +kernel
theorem dX12_gets_3 : decode cX12_gets 3 = .ok (.iconst 0, 1) := by decide +kernel
theorem dX12_gets_4 : decode cX12_gets 4 = .ok (.istore 6, 2) := by decide +kernel
theorem dX12_gets_6 : decode cX12_gets 6 = .ok (.iload 6, 2) := by decide +kernel
theorem dX12_gets_8 : decode cX12_gets 8 = .ok (.aload_n 0, 1) := by decide +kernel
theorem dX12_gets_9 : decode cX12_gets 9 = .ok (.getfield 7, 3) := by decide +kernel
theorem dX12_gets_12 : decode cX12_gets 12 = .ok (.iconst 4, 1) := by decide +kernel
theorem dX12_gets_13 : decode cX12_gets 13 = .ok (.iaload, 1) := by decide +kernel
theorem dX12_gets_14 : decode cX12_gets 14 = .ok (.if_icmp .ge 63, 3) := by decide +kernel
theorem dX12_gets_17 : decode cX12_gets 17 = .ok (.iload 6, 2) := by decide +kernel
theorem dX12_gets_19 : decode cX12_gets 19 = .ok (.iload_n 2, 1) := by decide +kernel
theorem dX12_gets_20 : decode cX12_gets 20 = .ok (.iload_n 3, 1) := by decide +kernel
theorem dX12_gets_21 : decode cX12_gets 21 = .ok (.invokestatic 172, 3) := by decide +kernel
theorem dX12_gets_24 : decode cX12_gets 24 = .ok (.istore 7, 2) := by decide +kernel
theorem dX12_gets_26 : decode cX12_gets 26 = .ok (.aload_n 0, 1) := by decide +kernel
theorem dX12_gets_27 : decode cX12_gets 27 = .ok (.iload 6, 2) := by decide +kernel
theorem dX12_gets_29 : decode cX12_gets 29 = .ok (.iconst 0, 1) := by decide +kernel
theorem dX12_gets_30 : decode cX12_gets 30 = .ok (.invokevirtual 165, 3) := by decide +kernel
theorem dX12_gets_33 : decode cX12_gets 33 = .ok (.iconst 2, 1) := by decide +kernel
theorem dX12_gets_34 : decode cX12_gets 34 = .ok (.if_icmp .ne 20, 3) := by decide +kernel
theorem dX12_gets_37 : decode cX12_gets 37 = .ok (.iconst 2, 1) := by decide +kernel
theorem dX12_gets_38 : decode cX12_gets 38 = .ok (.iload 7, 2) := by decide +kernel
theorem dX12_gets_40 : decode cX12_gets 40 = .ok (.imul, 1) := by decide +kernel
theorem dX12_gets_41 : decode cX12_gets 41 = .ok (.ldc 164, 2) := by decide +kernel
theorem dX12_gets_43 : decode cX12_gets 43 = .ok (.if_icmp .le 8, 3) := by decide +kernel
theorem dX12_gets_46 : decode cX12_gets 46 = .ok (.ldc 164, 2) := by decide +kernel
theorem dX12_gets_48 : decode cX12_gets 48 = .ok (.goto 4, 3) := by decide +kernel
theorem dX12_gets_51 : decode cX12_gets 51 = .ok (.iconst 0, 1) := by decide +kernel
theorem dX12_gets_52 : decode cX12_gets 52 = .ok (.istore 7, 2) := by decide +kernel
theorem dX12_gets_54 : decode cX12_gets 54 = .ok (.lload 4, 2) := by decide +kernel
theorem dX12_gets_56 : decode cX12_gets 56 = .ok (.aload_n 0, 1) := by decide +kernel
theorem dX12_gets_57 : decode cX12_gets 57 = .ok (.iload 6, 2) := by decide +kernel
theorem dX12_gets_59 : decode cX12_gets 59 = .ok (.iload_n 1, 1) := by decide +kernel
theorem dX12_gets_60 : decode cX12_gets 60 = .ok (.invokevirtual 176, 3) := by decide +kernel
theorem dX12_gets_63 : decode cX12_gets 63 = .ok (.i2l, 1) := by decide +kernel
theorem dX12_gets_64 : decode cX12_gets 64 = .ok (.iload 7, 2) := by decide +kernel
theorem dX12_gets_66 : decode cX12_gets 66 = .ok (.i2l, 1) := by decide +kernel
theorem dX12_gets_67 : decode cX12_gets 67 = .ok (.lmul, 1) := by decide +kernel
theorem dX12_gets_68 : decode cX12_gets 68 = .ok (.ladd, 1) := by decide +kernel
theorem dX12_gets_69 : decode cX12_gets 69 = .ok (.lstore 4, 2) := by decide +kernel
theorem dX12_gets_71 : decode cX12_gets 71 = .ok (.iinc 6 1, 3) := by decide +kernel
theorem dX12_gets_74 : decode cX12_gets 74 = .ok (.goto (-68), 3) := by decide +kernel
theorem dX12_gets_77 : decode cX12_gets 77 = .ok (.lload 4, 2) := by decide +kernel
theorem dX12_gets_79 : decode cX12_gets 79 = .ok (.lreturn, 1) := by decide +kernel
theorem dX12_part_0 : decode cX12_part 0 = .ok (.lload_n 0, 1) := by decide +kernel
theorem dX12_part_1 : decode cX12_part 1 = .ok (.lconst 0, 1) := by decide +kernel
theorem dX12_part_2 : decode cX12_part 2 = .ok (.lcmp, 1) := by decide +kernel
theorem dX12_part_3 : decode cX12_part 3 = .ok (.ifCond .ge 8, 3) := by decide +kernel
theorem dX12_part_6 : decode cX12_part 6 = .ok (.lload_n 0, 1) := by decide +kernel
theorem dX12_part_7 : decode cX12_part 7 = .ok (.lneg, 1) := by decide +kernel
theorem dX12_part_8 : decode cX12_part 8 = .ok (.goto 4, 3) := by decide +kernel
theorem dX12_part_11 : decode cX12_part 11 = .ok (.lload_n 0, 1) := by decide +kernel
theorem dX12_part_12 : decode cX12_part 12 = .ok (.lstore 5, 2) := by decide +kernel
theorem dX12_part_14 : decode cX12_part 14 = .ok (.lload_n 2, 1) := by decide +kernel
theorem dX12_part_15 : decode cX12_part 15 = .ok (.lstore 7, 2) := by decide +kernel
theorem dX12_part_17 : decode cX12_part 17 = .ok (.lload 7, 2) := by decide +kernel
theorem dX12_part_19 : decode cX12_part 19 = .ok (.lconst 0, 1) := by decide +kernel
theorem dX12_part_20 : decode cX12_part 20 = .ok (.lcmp, 1) := by decide +kernel
theorem dX12_part_21 : decode cX12_part 21 = .ok (.ifCond .eq 21, 3) := by decide +kernel
theorem dX12_part_24 : decode cX12_part 24 = .ok (.lload 5, 2) := by decide +kernel
theorem dX12_part_26 : decode cX12_part 26 = .ok (.lload 7, 2) := by decide +kernel
theorem dX12_part_28 : decode cX12_part 28 = .ok (.lrem, 1) := by decide +kernel
theorem dX12_part_29 : decode cX12_part 29 = .ok (.lstore 9, 2) := by decide +kernel
theorem dX12_part_31 : decode cX12_part 31 = .ok (.lload 7, 2) := by decide +kernel
theorem dX12_part_33 : decode cX12_part 33 = .ok (.lstore 5, 2) := by decide +kernel
theorem dX12_part_35 : decode cX12_part 35 = .ok (.lload 9, 2) := by decide +kernel
theorem dX12_part_37 : decode cX12_part 37 = .ok (.lstore 7, 2) := by decide +kernel
theorem dX12_part_39 : decode cX12_part 39 = .ok (.goto (-22), 3) := by decide +kernel
theorem dX12_part_42 : decode cX12_part 42 = .ok (.iload 4, 2) := by decide +kernel
theorem dX12_part_44 : decode cX12_part 44 = .ok (.ifCond .ne 10, 3) := by decide +kernel
theorem dX12_part_47 : decode cX12_part 47 = .ok (.lload_n 0, 1) := by decide +kernel
theorem dX12_part_48 : decode cX12_part 48 = .ok (.lload 5, 2) := by decide +kernel
theorem dX12_part_50 : decode cX12_part 50 = .ok (.ldiv, 1) := by decide +kernel
theorem dX12_part_51 : decode cX12_part 51 = .ok (.goto 7, 3) := by decide +kernel
theorem dX12_part_54 : decode cX12_part 54 = .ok (.lload_n 2, 1) := by decide +kernel
theorem dX12_part_55 : decode cX12_part 55 = .ok (.lload 5, 2) := by decide +kernel
theorem dX12_part_57 : decode cX12_part 57 = .ok (.ldiv, 1) := by decide +kernel
theorem dX12_part_58 : decode cX12_part 58 = .ok (.lreturn, 1) := by decide +kernel
set_option maxRecDepth 20000 in
theorem ggX12_told_X12_part : GoodIn wsX12_told wsX12_part := goodIn_r _ [5] (by decide +kernel) (by decide +kernel)
set_option maxRecDepth 20000 in
theorem gX12_told_X12_part : GoodIn wsX12_told (va_wsS RX12 181 yX12_part wsX12_part) := goodIn_app (goodIn_of _ (by decide +kernel)) ggX12_told_X12_part
theorem dX12_told_0 : decode cX12_told 0 = .ok (.lload_n 0, 1) := by decide +kernel
theorem dX12_told_1 : decode cX12_told 1 = .ok (.ldc2_w 179, 3) := by decide +kernel
theorem dX12_told_4 : decode cX12_told 4 = .ok (.iload_n 2, 1) := by decide +kernel
theorem dX12_told_5 : decode cX12_told 5 = .ok (.invokestatic 181, 3) := by decide +kernel
theorem dX12_told_8 : decode cX12_told 8 = .ok (.l2i, 1) := by decide +kernel
theorem dX12_told_9 : decode cX12_told 9 = .ok (.ireturn, 1) := by decide +kernel
set_option maxRecDepth 20000 in
theorem ggX12_strip_X12_isStrip : GoodIn wsX12_strip wsX12_isStrip := goodIn_r _ [7, 2, 8, 9, 6, 10, 26, 27, 28, 29, 30, 31, 32, 33, 34, 35, 36, 37, 38, 39, 40, 41, 42, 43, 44, 45, 46, 47, 48, 49, 50, 51] (by decide +kernel) (by decide +kernel)
set_option maxRecDepth 20000 in
theorem gX12_strip_X12_isStrip : GoodIn wsX12_strip (wsV RX12 185 RX12 yX12_isStrip wsX12_isStrip) := goodIn_app (goodIn_of _ (by decide +kernel)) ggX12_strip_X12_isStrip
set_option maxRecDepth 20000 in
theorem ggX12_strip_X12_in : GoodIn wsX12_strip wsX12_in := goodIn_r _ [10] (by decide +kernel) (by decide +kernel)
set_option maxRecDepth 20000 in
theorem gX12_strip_X12_in : GoodIn wsX12_strip (va_wsS RX12 63 yX12_in wsX12_in) := goodIn_app (goodIn_of _ (by decide +kernel)) ggX12_strip_X12_in
set_option maxRecDepth 20000 in
theorem ggX12_strip_X12_sown : GoodIn wsX12_strip wsX12_sown := goodIn_r _ [14, 2, 26, 27, 28, 29, 30, 31, 32, 33, 34, 35, 36, 37, 38, 39, 40, 41, 42, 43, 44, 45, 46, 47, 48, 49, 50, 51] (by decide +kernel) (by decide +kernel)
set_option maxRecDepth 20000 in
theorem gX12_strip_X12_sown : GoodIn wsX12_strip (wsV RX12 165 RX12 yX12_sown wsX12_sown) := goodIn_app (goodIn_of _ (by decide +kernel)) ggX12_strip_X12_sown
set_option maxRecDepth 20000 in
theorem ggX12_strip_X12_shareOf : GoodIn wsX12_strip wsX12_shareOf := goodIn_r _ [17, 18] (by decide +kernel) (by decide +kernel)
set_option maxRecDepth 20000 in
theorem gX12_strip_X12_shareOf : GoodIn wsX12_strip (va_wsS RX12 172 yX12_shareOf wsX12_shareOf) := goodIn_app (goodIn_of _ (by decide +kernel)) ggX12_strip_X12_shareOf
set_option maxRecDepth 20000 in
theorem ggX12_strip_X12_told : GoodIn wsX12_strip wsX12_told := goodIn_r _ [21, 22, 23, 24, 6, 25] (by decide +kernel) (by decide +kernel)
set_option maxRecDepth 20000 in
theorem gX12_strip_X12_told : GoodIn wsX12_strip (va_wsS RX12 188 yX12_told wsX12_told) := goodIn_app (goodIn_of _ (by decide +kernel)) ggX12_strip_X12_told
theorem dX12_strip_0 : decode cX12_strip 0 = .ok (.aload_n 0, 1) := by decide +kernel
theorem dX12_strip_1 : decode cX12_strip 1 = .ok (.iload_n 1, 1) := by decide +kernel
theorem dX12_strip_2 : decode cX12_strip 2 = .ok (.invokevirtual 185, 3) := by decide +kernel
theorem dX12_strip_5 : decode cX12_strip 5 = .ok (.ifCond .eq 12, 3) := by decide +kernel
theorem dX12_strip_8 : decode cX12_strip 8 = .ok (.iload_n 2, 1) := by decide +kernel
theorem dX12_strip_9 : decode cX12_strip 9 = .ok (.iconst 0, 1) := by decide +kernel
