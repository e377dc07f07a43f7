def wsL_law_r38 : List Cond := [Cond.static yX11_isOfKind, Cond.code yX11_isOfKind cX11_isOfKind 2 (some .boolean), Cond.classLink RX11 293 "FenceYards$Bean", Cond.classLink RX11 297 "FenceYards$Apple", Cond.classLink RX11 300 "FenceYards$Rye", Cond.classLink RX11 303 "FenceYards$Grass", Cond.classLink RX11 306 "FenceYards$Clover", Cond.methodLink RL 109 yX12_as, Cond.instanceMethod yX12_as, Cond.selects RX12 yX12_as yX12_as, Cond.code yX12_as cX12_as 3 (some .int), Cond.methodLink RX12 250 yX12_isA, Cond.static yX12_isA, Cond.code yX12_isA cX12_isA 2 (some .boolean), Cond.methodLink RL 110 yX11_ask, Cond.instanceMethod yX11_ask, Cond.selects RX11 yX11_ask yX11_ask, Cond.code yX11_ask cX11_ask 4 (some .int), Cond.methodLink RX11 256 ⟨"FenceYards$Strip", "askSize", "(LFenceYards$Trace;)I"⟩, Cond.sameMethod "FenceYards$Strip" "FenceYards$Strip" "askSize" "(LFenceYards$Trace;)I", Cond.instanceMethod ⟨"FenceYards$Strip", "askSize", "(LFenceYards$Trace;)I"⟩, Cond.selects RX0 ⟨"FenceYards$Strip", "askSize", "(LFenceYards$Trace;)I"⟩ yX0_askSize, Cond.instanceMethod yX0_askSize, Cond.code yX0_askSize cX0_askSize 2 (some .int)]
def wsL_law_r39 : List Cond := [Cond.instanceMethod yX10_leave, Cond.selects RX10 yX10_leave yX10_leave, Cond.code yX10_leave cX10_leave 2 none, Cond.fieldLink RX10 15 "FenceYards$Trace" "size" "I", Cond.methodLink RX0 13 yX1_askSize, Cond.sameMethod "FenceYards$Bean" "FenceYards$Bean" "askSize" "(LFenceYards$Trace;)I", Cond.superclass RX0 RX1, Cond.instanceMethod yX1_askSize, Cond.code yX1_askSize cX1_askSize 3 (some .int), Cond.methodLink RX1 22 yX9_askSize, Cond.superclass RX1 RX9, Cond.instanceMethod yX9_askSize, Cond.code yX9_askSize cX9_askSize 2 (some .int), Cond.methodLink RX1 26 ⟨"FenceYards$Bean", "askMark", "(LFenceYards$Trace;)I"⟩, Cond.sameMethod "FenceYards$Bean" "FenceYards$Bean" "askMark" "(LFenceYards$Trace;)I", Cond.instanceMethod ⟨"FenceYards$Bean", "askMark", "(LFenceYards$Trace;)I"⟩, Cond.selects RX0 ⟨"FenceYards$Bean", "askMark", "(LFenceYards$Trace;)I"⟩ yX0_askMark, Cond.instanceMethod yX0_askMark, Cond.code yX0_askMark cX0_askMark 2 (some .int), Cond.methodLink RX0 17 yX1_askMark, Cond.instanceMethod yX1_askMark, Cond.code yX1_askMark cX1_askMark 2 (some .int), Cond.methodLink RX1 29 yX9_askMark, Cond.sameMethod "FenceYards$Strip" "FenceYards$Strip" "askMark" "(LFenceYards$Trace;)I"]
def wsL_law_r40 : List Cond := [Cond.instanceMethod yX9_askMark, Cond.code yX9_askMark cX9_askMark 2 (some .int), Cond.methodLink RX1 26 yX1_askMark, Cond.selects RX1 yX1_askMark yX1_askMark, Cond.selects RX7 ⟨"FenceYards$Bean", "askMark", "(LFenceYards$Trace;)I"⟩ yX7_askMark, Cond.instanceMethod yX7_askMark, Cond.code yX7_askMark cX7_askMark 2 (some .int), Cond.methodLink RX7 28 yX1_askMark, Cond.superclass RX7 RX1, Cond.selects RX1 ⟨"FenceYards$Strip", "askSize", "(LFenceYards$Trace;)I"⟩ yX1_askSize, Cond.selects RX2 ⟨"FenceYards$Strip", "askSize", "(LFenceYards$Trace;)I"⟩ yX2_askSize, Cond.instanceMethod yX2_askSize, Cond.code yX2_askSize cX2_askSize 2 (some .int), Cond.methodLink RX2 22 yX3_askSize, Cond.sameMethod "FenceYards$Grass" "FenceYards$Grass" "askSize" "(LFenceYards$Trace;)I", Cond.superclass RX2 RX3, Cond.instanceMethod yX3_askSize, Cond.code yX3_askSize cX3_askSize 2 (some .int), Cond.methodLink RX3 22 yX9_askSize, Cond.superclass RX3 RX9, Cond.selects RX3 ⟨"FenceYards$Strip", "askSize", "(LFenceYards$Trace;)I"⟩ yX3_askSize, Cond.selects RX7 ⟨"FenceYards$Strip", "askSize", "(LFenceYards$Trace;)I"⟩ yX1_askSize, Cond.methodLink RX11 260 ⟨"FenceYards$Strip", "askMark", "(LFenceYards$Trace;)I"⟩, Cond.instanceMethod ⟨"FenceYards$Strip", "askMark", "(LFenceYards$Trace;)I"⟩]
def wsL_law_r41 : List Cond := [Cond.selects RX0 ⟨"FenceYards$Strip", "askMark", "(LFenceYards$Trace;)I"⟩ yX0_askMark, Cond.selects RX1 ⟨"FenceYards$Strip", "askMark", "(LFenceYards$Trace;)I"⟩ yX1_askMark, Cond.selects RX2 ⟨"FenceYards$Strip", "askMark", "(LFenceYards$Trace;)I"⟩ yX3_askMark, Cond.instanceMethod yX3_askMark, Cond.code yX3_askMark cX3_askMark 3 (some .int), Cond.methodLink RX3 26 yX9_askMark, Cond.methodLink RX3 29 ⟨"FenceYards$Grass", "askSize", "(LFenceYards$Trace;)I"⟩, Cond.instanceMethod ⟨"FenceYards$Grass", "askSize", "(LFenceYards$Trace;)I"⟩, Cond.selects RX2 ⟨"FenceYards$Grass", "askSize", "(LFenceYards$Trace;)I"⟩ yX2_askSize, Cond.methodLink RX3 29 yX3_askSize, Cond.selects RX3 yX3_askSize yX3_askSize, Cond.selects RX3 ⟨"FenceYards$Strip", "askMark", "(LFenceYards$Trace;)I"⟩ yX3_askMark, Cond.selects RX7 ⟨"FenceYards$Strip", "askMark", "(LFenceYards$Trace;)I"⟩ yX7_askMark, Cond.methodLink RL 113 yX12_ask, Cond.instanceMethod yX12_ask, Cond.selects RX12 yX12_ask yX12_ask, Cond.code yX12_ask cX12_ask 3 (some .int), Cond.fieldLink RX12 253 "FenceYardsModel" "traced" "I", Cond.methodLink RX12 280 yX12_sizeOf, Cond.instanceMethod yX12_sizeOf, Cond.selects RX12 yX12_sizeOf yX12_sizeOf, Cond.code yX12_sizeOf cX12_sizeOf 2 (some .int), Cond.methodLink RX12 274 yX12_sizeOfGrass, Cond.instanceMethod yX12_sizeOfGrass]
def wsL_law_r42 : List Cond := [Cond.selects RX12 yX12_sizeOfGrass yX12_sizeOfGrass, Cond.code yX12_sizeOfGrass cX12_sizeOfGrass 2 (some .int), Cond.methodLink RX12 256 yX12_begins, Cond.instanceMethod yX12_begins, Cond.selects RX12 yX12_begins yX12_begins, Cond.code yX12_begins cX12_begins 2 none, Cond.methodLink RX12 271 yX12_grassSize, Cond.instanceMethod yX12_grassSize, Cond.selects RX12 yX12_grassSize yX12_grassSize, Cond.code yX12_grassSize cX12_grassSize 2 (some .int), Cond.methodLink RX12 265 yX12_lentSize, Cond.instanceMethod yX12_lentSize, Cond.selects RX12 yX12_lentSize yX12_lentSize, Cond.code yX12_lentSize cX12_lentSize 2 (some .int), Cond.methodLink RX12 277 yX12_beansSize, Cond.instanceMethod yX12_beansSize, Cond.selects RX12 yX12_beansSize yX12_beansSize, Cond.code yX12_beansSize cX12_beansSize 3 (some .int), Cond.methodLink RX12 268 yX12_markOfBeans, Cond.instanceMethod yX12_markOfBeans, Cond.selects RX12 yX12_markOfBeans yX12_markOfBeans, Cond.code yX12_markOfBeans cX12_markOfBeans 3 (some .int), Cond.methodLink RX12 262 yX12_beansMark, Cond.instanceMethod yX12_beansMark]
def wsL_law_r43 : List Cond := [Cond.selects RX12 yX12_beansMark yX12_beansMark, Cond.code yX12_beansMark cX12_beansMark 2 (some .int), Cond.methodLink RX12 259 yX12_lentMark, Cond.instanceMethod yX12_lentMark, Cond.selects RX12 yX12_lentMark yX12_lentMark, Cond.code yX12_lentMark cX12_lentMark 2 (some .int), Cond.methodLink RX12 283 yX12_markOf, Cond.instanceMethod yX12_markOf, Cond.selects RX12 yX12_markOf yX12_markOf, Cond.code yX12_markOf cX12_markOf 3 (some .int), Cond.methodLink RL 114 yX11_trace, Cond.instanceMethod yX11_trace, Cond.selects RX11 yX11_trace yX11_trace, Cond.code yX11_trace cX11_trace 2 (some .int), Cond.instanceMethod yX10_numberAt, Cond.selects RX10 yX10_numberAt yX10_numberAt, Cond.code yX10_numberAt cX10_numberAt 2 (some .int), Cond.constant RX10 19 (-1000000), Cond.methodLink RL 117 yX12_trace, Cond.instanceMethod yX12_trace, Cond.selects RX12 yX12_trace yX12_trace, Cond.code yX12_trace cX12_trace 2 (some .int), Cond.methodLink RL 118 yX11_count, Cond.instanceMethod yX11_count]
def wsL_law_r44 : List Cond := [Cond.selects RX11 yX11_count yX11_count, Cond.code yX11_count cX11_count 2 (some .int), Cond.instanceMethod yX6_present, Cond.selects RX6 yX6_present yX6_present, Cond.code yX6_present cX6_present 3 (some .int), Cond.methodLink RX6 29 yX6_isMissing, Cond.methodLink RL 121 yX12_count, Cond.instanceMethod yX12_count, Cond.selects RX12 yX12_count yX12_count, Cond.code yX12_count cX12_count 4 (some .int), Cond.methodLink RL 122 yX11_status, Cond.instanceMethod yX11_status, Cond.selects RX11 yX11_status yX11_status, Cond.code yX11_status cX11_status 1 (some .int), Cond.methodLink RL 125 yX12_status, Cond.instanceMethod yX12_status, Cond.selects RX12 yX12_status yX12_status, Cond.code yX12_status cX12_status 1 (some .int)]
def wsL_law : List Cond := (wsL_law_r1 ++ (wsL_law_r2 ++ (wsL_law_r3 ++ (wsL_law_r4 ++ (wsL_law_r5 ++ (wsL_law_r6 ++ (wsL_law_r7 ++ (wsL_law_r8 ++ (wsL_law_r9 ++ (wsL_law_r10 ++ (wsL_law_r11 ++ (wsL_law_r12 ++ (wsL_law_r13 ++ (wsL_law_r14 ++ (wsL_law_r15 ++ (wsL_law_r16 ++ (wsL_law_r17 ++ (wsL_law_r18 ++ (wsL_law_r19 ++ (wsL_law_r20 ++ (wsL_law_r21 ++ (wsL_law_r22 ++ (wsL_law_r23 ++ (wsL_law_r24 ++ (wsL_law_r25 ++ (wsL_law_r26 ++ (wsL_law_r27 ++ (wsL_law_r28 ++ (wsL_law_r29 ++ (wsL_law_r30 ++ (wsL_law_r31 ++ (wsL_law_r32 ++ (wsL_law_r33 ++ (wsL_law_r34 ++ (wsL_law_r35 ++ (wsL_law_r36 ++ (wsL_law_r37 ++ (wsL_law_r38 ++ (wsL_law_r39 ++ (wsL_law_r40 ++ (wsL_law_r41 ++ (wsL_law_r42 ++ (wsL_law_r43 ++ wsL_law_r44))))))))))))))))))))))))))))))))))))))))))) ++ wsX110 ++ wsX120 ++ wsX60 ++ wsX50 ++ wsX80 ++ wsX100 ++ wsX40 ++ wsX10 ++ wsX00 ++ wsX70 ++ wsX30 ++ wsX20 ++ ([] : List Cond)
theorem inlX0 : ∀ w ∈ wsX00, w ∈ wsL_law := fun _ h => List.mem_append_left _ (List.mem_append_left _ (List.mem_append_left _ (List.mem_append_left _ (List.mem_append_right _ h))))
theorem inlX1 : ∀ w ∈ wsX10, w ∈ wsL_law := fun _ h => List.mem_append_left _ (List.mem_append_left _ (List.mem_append_left _ (List.mem_append_left _ (List.mem_append_left _ (List.mem_append_right _ h)))))
theorem inlX2 : ∀ w ∈ wsX20, w ∈ wsL_law := fun _ h => List.mem_append_left _ (List.mem_append_right _ h)
theorem inlX3 : ∀ w ∈ wsX30, w ∈ wsL_law := fun _ h => List.mem_append_left _ (List.mem_append_left _ (List.mem_append_right _ h))
theorem inlX4 : ∀ w ∈ wsX40, w ∈ wsL_law := fun _ h => List.mem_append_left _ (List.mem_append_left _ (List.mem_append_left _ (List.mem_append_left _ (List.mem_append_left _ (List.mem_append_left _ (List.mem_append_right _ h))))))
theorem inlX5 : ∀ w ∈ wsX50, w ∈ wsL_law := fun _ h => List.mem_append_left _ (List.mem_append_left _ (List.mem_append_left _ (List.mem_append_left _ (List.mem_append_left _ (List.mem_append_left _ (List.mem_append_left _ (List.mem_append_left _ (List.mem_append_left _ (List.mem_append_right _ h)))))))))
theorem inlX6 : ∀ w ∈ wsX60, w ∈ wsL_law := fun _ h => List.mem_append_left _ (List.mem_append_left _ (List.mem_append_left _ (List.mem_append_left _ (List.mem_append_left _ (List.mem_append_left _ (List.mem_append_left _ (List.mem_append_left _ (List.mem_append_left _ (List.mem_append_left _ (List.mem_append_right _ h))))))))))
theorem inlX7 : ∀ w ∈ wsX70, w ∈ wsL_law := fun _ h => List.mem_append_left _ (List.mem_append_left _ (List.mem_append_left _ (List.mem_append_right _ h)))
theorem inlX8 : ∀ w ∈ wsX80, w ∈ wsL_law := fun _ h => List.mem_append_left _ (List.mem_append_left _ (List.mem_append_left _ (List.mem_append_left _ (List.mem_append_left _ (List.mem_append_left _ (List.mem_append_left _ (List.mem_append_left _ (List.mem_append_right _ h))))))))
theorem inX9 : ∀ w ∈ wsX90, w ∈ lw_tbl := by decide +kernel
theorem inlX10 : ∀ w ∈ wsX100, w ∈ wsL_law := fun _ h => List.mem_append_left _ (List.mem_append_left _ (List.mem_append_left _ (List.mem_append_left _ (List.mem_append_left _ (List.mem_append_left _ (List.mem_append_left _ (List.mem_append_right _ h)))))))
theorem inlX11 : ∀ w ∈ wsX110, w ∈ wsL_law := fun _ h => List.mem_append_left _ (List.mem_append_left _ (List.mem_append_left _ (List.mem_append_left _ (List.mem_append_left _ (List.mem_append_left _ (List.mem_append_left _ (List.mem_append_left _ (List.mem_append_left _ (List.mem_append_left _ (List.mem_append_left _ (List.mem_append_left _ (List.mem_append_right _ h))))))))))))
theorem inlX12 : ∀ w ∈ wsX120, w ∈ wsL_law := fun _ h => List.mem_append_left _ (List.mem_append_left _ (List.mem_append_left _ (List.mem_append_left _ (List.mem_append_left _ (List.mem_append_left _ (List.mem_append_left _ (List.mem_append_left _ (List.mem_append_left _ (List.mem_append_left _ (List.mem_append_left _ (List.mem_append_right _ h)))))))))))
theorem inJx145de : ∀ w ∈ wsJx145de0, w ∈ lw_tbl := by decide +kernel
theorem inJx9f9b0 : ∀ w ∈ wsJx9f9b00, w ∈ lw_tbl := by decide +kernel
theorem inJxb160c : ∀ w ∈ wsJxb160c0, w ∈ lw_tbl := by decide +kernel
theorem inJ9 : ∀ w ∈ wsJ90, w ∈ lw_tbl := by decide +kernel
theorem inJ0 : ∀ w ∈ wsJ00, w ∈ lw_tbl := by decide +kernel
theorem inJ1 : ∀ w ∈ wsJ10, w ∈ lw_tbl := by decide +kernel
theorem inJ2 : ∀ w ∈ wsJ20, w ∈ lw_tbl := by decide +kernel
theorem inJ10 : ∀ w ∈ wsJ100, w ∈ lw_tbl := by decide +kernel
theorem inJxfd54e : ∀ w ∈ wsJxfd54e0, w ∈ lw_tbl := by decide +kernel
theorem inJx3cf43 : ∀ w ∈ wsJx3cf430, w ∈ lw_tbl := by decide +kernel
theorem inJ7 : ∀ w ∈ wsJ70, w ∈ lw_tbl := by decide +kernel
theorem inJ3 : ∀ w ∈ wsJ30, w ∈ lw_tbl := by decide +kernel
set_option maxRecDepth 20000 in
theorem ggX0_init_X1_init : GoodIn wsX0_init wsX1_init := goodIn_r _ [4, 5, 6, 7, 8, 9, 10, 11, 12, 13, 14, 15, 16, 17, 18, 19, 20, 21, 22, 23, 24, 25, 26, 27, 28, 29] (by decide +kernel) (by decide +kernel)
set_option maxRecDepth 20000 in
theorem gX0_init_X1_init : GoodIn wsX0_init (wsX1_init) := ggX0_init_X1_init
theorem dX0_init_0 : decode cX0_init 0 = .ok (.aload_n 0, 1) := by decide +kernel
theorem dX0_init_1 : decode cX0_init 1 = .ok (.iload_n 1, 1) := by decide +kernel
theorem dX0_init_2 : decode cX0_init 2 = .ok (.iload_n 2, 1) := by decide +kernel
theorem dX0_init_3 : decode cX0_init 3 = .ok (.iload_n 3, 1) := by decide +kernel
theorem dX0_init_4 : decode cX0_init 4 = .ok (.invokespecial 1, 3) := by decide +kernel
theorem dX0_init_7 : decode cX0_init 7 = .ok (.return_, 1) := by decide +kernel
theorem dX0_kindNumber_0 : decode cX0_kindNumber 0 = .ok (.iconst 2, 1) := by decide +kernel
theorem dX0_kindNumber_1 : decode cX0_kindNumber 1 = .ok (.ireturn, 1) := by decide +kernel
theorem dX0_fallsWhole_0 : decode cX0_fallsWhole 0 = .ok (.iconst 1, 1) := by decide +kernel
theorem dX0_fallsWhole_1 : decode cX0_fallsWhole 1 = .ok (.ireturn, 1) := by decide +kernel
set_option maxRecDepth 20000 in
theorem ggX0_askSize_X10_leave : GoodIn wsX0_askSize wsX10_leave := goodIn_r _ [4, 5, 6, 45, 46] (by decide +kernel) (by decide +kernel)
set_option maxRecDepth 20000 in
theorem gX0_askSize_X10_leave_n7 : GoodIn wsX0_askSize (wsX10_leave) := ggX0_askSize_X10_leave
set_option maxRecDepth 20000 in
theorem ggX0_askSize_X1_askSize : GoodIn wsX0_askSize wsX1_askSize := goodIn_r _ [12, 1, 2, 3, 4, 5, 6, 13, 14, 15, 16, 17, 18, 19, 20, 21, 22, 23, 24, 25, 26, 27, 9, 28, 11, 29, 30, 31, 32, 33, 34, 35, 36, 37, 38, 39, 40, 41, 42, 43, 44, 45, 46, 47, 48, 49, 50, 51, 52, 53, 54, 55, 56, 57, 58, 59, 60, 61] (by decide +kernel) (by decide +kernel)
set_option maxRecDepth 20000 in
theorem gX0_askSize_X1_askSize_s13 : GoodIn wsX0_askSize (va_wsSU RX0 13 yX1_askSize wsX1_askSize) := goodIn_app (goodIn_of _ (by decide +kernel)) ggX0_askSize_X1_askSize
theorem dX0_askSize_0 : decode cX0_askSize 0 = .ok (.aload_n 1, 1) := by decide +kernel
theorem dX0_askSize_1 : decode cX0_askSize 1 = .ok (.bipush 12, 2) := by decide +kernel
theorem dX0_askSize_3 : decode cX0_askSize 3 = .ok (.invokevirtual 7, 3) := by decide +kernel
theorem dX0_askSize_6 : decode cX0_askSize 6 = .ok (.aload_n 0, 1) := by decide +kernel
theorem dX0_askSize_7 : decode cX0_askSize 7 = .ok (.aload_n 1, 1) := by decide +kernel
theorem dX0_askSize_8 : decode cX0_askSize 8 = .ok (.invokespecial 13, 3) := by decide +kernel
theorem dX0_askSize_11 : decode cX0_askSize 11 = .ok (.ineg, 1) := by decide +kernel
theorem dX0_askSize_12 : decode cX0_askSize 12 = .ok (.ireturn, 1) := by decide +kernel
set_option maxRecDepth 20000 in
theorem ggX0_askMark_X10_leave : GoodIn wsX0_askMark wsX10_leave := goodIn_r _ [4, 5, 6, 22, 23] (by decide +kernel) (by decide +kernel)
set_option maxRecDepth 20000 in
theorem gX0_askMark_X10_leave_n7 : GoodIn wsX0_askMark (wsX10_leave) := ggX0_askMark_X10_leave
set_option maxRecDepth 20000 in
theorem ggX0_askMark_X1_askMark : GoodIn wsX0_askMark wsX1_askMark := goodIn_r _ [12, 13, 14, 1, 2, 3, 4, 5, 6, 15, 16, 17, 18, 19, 20, 21, 24, 25, 26, 27, 28, 29, 30, 31, 32, 33, 34, 35, 36, 37, 38, 22, 23] (by decide +kernel) (by decide +kernel)
set_option maxRecDepth 20000 in
theorem gX0_askMark_X1_askMark_s17 : GoodIn wsX0_askMark (va_wsSU RX0 17 yX1_askMark wsX1_askMark) := goodIn_app (goodIn_of _ (by decide +kernel)) ggX0_askMark_X1_askMark
theorem dX0_askMark_0 : decode cX0_askMark 0 = .ok (.aload_n 1, 1) := by decide +kernel
theorem dX0_askMark_1 : decode cX0_askMark 1 = .ok (.bipush 24, 2) := by decide +kernel
theorem dX0_askMark_3 : decode cX0_askMark 3 = .ok (.invokevirtual 7, 3) := by decide +kernel
theorem dX0_askMark_6 : decode cX0_askMark 6 = .ok (.iconst 2, 1) := by decide +kernel
theorem dX0_askMark_7 : decode cX0_askMark 7 = .ok (.aload_n 0, 1) := by decide +kernel
theorem dX0_askMark_8 : decode cX0_askMark 8 = .ok (.aload_n 1, 1) := by decide +kernel
theorem dX0_askMark_9 : decode cX0_askMark 9 = .ok (.invokespecial 17, 3) := by decide +kernel
theorem dX0_askMark_12 : decode cX0_askMark 12 = .ok (.imul, 1) := by decide +kernel
theorem dX0_askMark_13 : decode cX0_askMark 13 = .ok (.ireturn, 1) := by decide +kernel
set_option maxRecDepth 20000 in
theorem ggX1_init_X9_init : GoodIn wsX1_init wsX9_init := goodIn_r _ [4, 5, 6, 7, 8, 9, 10, 11, 12, 13, 14, 15, 16, 17, 18, 19, 20, 21, 22, 23, 24, 25] (by decide +kernel) (by decide +kernel)
set_option maxRecDepth 20000 in
theorem gX1_init_X9_init : GoodIn wsX1_init (wsX9_init) := ggX1_init_X9_init
theorem dX1_init_0 : decode cX1_init 0 = .ok (.aload_n 0, 1) := by decide +kernel
theorem dX1_init_1 : decode cX1_init 1 = .ok (.iload_n 1, 1) := by decide +kernel
theorem dX1_init_2 : decode cX1_init 2 = .ok (.iload_n 2, 1) := by decide +kernel
theorem dX1_init_3 : decode cX1_init 3 = .ok (.iload_n 3, 1) := by decide +kernel
theorem dX1_init_4 : decode cX1_init 4 = .ok (.invokespecial 1, 3) := by decide +kernel
theorem dX1_init_7 : decode cX1_init 7 = .ok (.return_, 1) := by decide +kernel
theorem dX1_kindNumber_0 : decode cX1_kindNumber 0 = .ok (.iconst 1, 1) := by decide +kernel
theorem dX1_kindNumber_1 : decode cX1_kindNumber 1 = .ok (.ireturn, 1) := by decide +kernel
theorem dX1_cropOn_0 : decode cX1_cropOn 0 = .ok (.iload_n 1, 1) := by decide +kernel
theorem dX1_cropOn_1 : decode cX1_cropOn 1 = .ok (.aload_n 0, 1) := by decide +kernel
theorem dX1_cropOn_2 : decode cX1_cropOn 2 = .ok (.getfield 7, 3) := by decide +kernel
theorem dX1_cropOn_5 : decode cX1_cropOn 5 = .ok (.if_icmp .ne 10, 3) := by decide +kernel
theorem dX1_cropOn_8 : decode cX1_cropOn 8 = .ok (.aload_n 0, 1) := by decide +kernel
theorem dX1_cropOn_9 : decode cX1_cropOn 9 = .ok (.getfield 13, 3) := by decide +kernel
theorem dX1_cropOn_12 : decode cX1_cropOn 12 = .ok (.goto 4, 3) := by decide +kernel
theorem dX1_cropOn_15 : decode cX1_cropOn 15 = .ok (.iconst 0, 1) := by decide +kernel
theorem dX1_cropOn_16 : decode cX1_cropOn 16 = .ok (.ireturn, 1) := by decide +kernel
set_option maxRecDepth 20000 in
theorem ggX1_askSize_X10_leave : GoodIn wsX1_askSize wsX10_leave := goodIn_r _ [4, 5, 6, 41, 42] (by decide +kernel) (by decide +kernel)
set_option maxRecDepth 20000 in
theorem gX1_askSize_X10_leave_n16 : GoodIn wsX1_askSize (wsX10_leave) := ggX1_askSize_X10_leave
set_option maxRecDepth 20000 in
theorem ggX1_askSize_X9_askSize : GoodIn wsX1_askSize wsX9_askSize := goodIn_r _ [12, 13, 1, 2, 3, 4, 5, 6, 43, 44, 45, 46, 47, 48, 49, 50, 51, 52, 53, 54, 55, 56, 57, 41, 42] (by decide +kernel) (by decide +kernel)
set_option maxRecDepth 20000 in
theorem gX1_askSize_X9_askSize_s22 : GoodIn wsX1_askSize (va_wsSU RX1 22 yX9_askSize wsX9_askSize) := goodIn_app (goodIn_of _ (by decide +kernel)) ggX1_askSize_X9_askSize
set_option maxRecDepth 20000 in
theorem ggX1_askSize_X0_askMark : GoodIn wsX1_askSize wsX0_askMark := goodIn_r _ [20, 1, 2, 3, 4, 5, 6, 21, 15, 22, 23, 24, 25, 26, 27, 28, 29, 9, 30, 11, 31, 32, 41, 42, 43, 44, 45, 46, 47, 48, 49, 50, 51, 52, 53, 54, 55, 56, 57] (by decide +kernel) (by decide +kernel)
set_option maxRecDepth 20000 in
theorem gX1_askSize_X0_askMark_u26X0 : GoodIn wsX1_askSize (va_wsO RX1 26 RX0 "FenceYards$Bean" ⟨"FenceYards$Bean", "askMark", "(LFenceYards$Trace;)I"⟩ yX0_askMark wsX0_askMark) := goodIn_app (goodIn_of _ (by decide +kernel)) ggX1_askSize_X0_askMark
set_option maxRecDepth 20000 in
theorem ggX1_askSize_X1_askMark : GoodIn wsX1_askSize wsX1_askMark := goodIn_r _ [25, 26, 27, 1, 2, 3, 4, 5, 6, 28, 29, 9, 30, 11, 31, 32, 43, 44, 45, 46, 47, 48, 49, 50, 51, 52, 53, 54, 55, 56, 57, 41, 42] (by decide +kernel) (by decide +kernel)
set_option maxRecDepth 20000 in
theorem gX1_askSize_X1_askMark : GoodIn wsX1_askSize (wsV RX1 26 RX1 yX1_askMark wsX1_askMark) := goodIn_app (goodIn_of _ (by decide +kernel)) ggX1_askSize_X1_askMark
set_option maxRecDepth 20000 in
theorem ggX1_askSize_X7_askMark : GoodIn wsX1_askSize wsX7_askMark := goodIn_r _ [38, 1, 2, 3, 4, 5, 6, 39, 15, 40, 23, 24, 25, 26, 27, 28, 29, 9, 30, 11, 31, 32, 41, 42, 43, 44, 45, 46, 47, 48, 49, 50, 51, 52, 53, 54, 55, 56, 57] (by decide +kernel) (by decide +kernel)
set_option maxRecDepth 20000 in
theorem gX1_askSize_X7_askMark_u26X7 : GoodIn wsX1_askSize (va_wsO RX1 26 RX7 "FenceYards$Bean" ⟨"FenceYards$Bean", "askMark", "(LFenceYards$Trace;)I"⟩ yX7_askMark wsX7_askMark) := goodIn_app (goodIn_of _ (by decide +kernel)) ggX1_askSize_X7_askMark
theorem dX1_askSize_0 : decode cX1_askSize 0 = .ok (.aload_n 1, 1) := by decide +kernel
theorem dX1_askSize_1 : decode cX1_askSize 1 = .ok (.bipush 11, 2) := by decide +kernel
theorem dX1_askSize_3 : decode cX1_askSize 3 = .ok (.invokevirtual 16, 3) := by decide +kernel
theorem dX1_askSize_6 : decode cX1_askSize 6 = .ok (.aload_n 0, 1) := by decide +kernel
theorem dX1_askSize_7 : decode cX1_askSize 7 = .ok (.aload_n 1, 1) := by decide +kernel
theorem dX1_askSize_8 : decode cX1_askSize 8 = .ok (.invokespecial 22, 3) := by decide +kernel
theorem dX1_askSize_11 : decode cX1_askSize 11 = .ok (.istore_n 2, 1) := by decide +kernel
theorem dX1_askSize_12 : decode cX1_askSize 12 = .ok (.iload_n 2, 1) := by decide +kernel
theorem dX1_askSize_13 : decode cX1_askSize 13 = .ok (.aload_n 0, 1) := by decide +kernel
theorem dX1_askSize_14 : decode cX1_askSize 14 = .ok (.aload_n 1, 1) := by decide +kernel
theorem dX1_askSize_15 : decode cX1_askSize 15 = .ok (.invokevirtual 26, 3) := by decide +kernel
theorem dX1_askSize_18 : decode cX1_askSize 18 = .ok (.iadd, 1) := by decide +kernel
theorem dX1_askSize_19 : decode cX1_askSize 19 = .ok (.ireturn, 1) := by decide +kernel
set_option maxRecDepth 20000 in
theorem ggX1_askMark_X10_leave : GoodIn wsX1_askMark wsX10_leave := goodIn_r _ [6, 7, 8, 31, 32] (by decide +kernel) (by decide +kernel)
set_option maxRecDepth 20000 in
theorem gX1_askMark_X10_leave_n16 : GoodIn wsX1_askMark (wsX10_leave) := ggX1_askMark_X10_leave
set_option maxRecDepth 20000 in
theorem ggX1_askMark_X9_askMark : GoodIn wsX1_askMark wsX9_askMark := goodIn_r _ [14, 15, 3, 4, 5, 6, 7, 8, 16, 17, 18, 19, 20, 21, 22, 23, 24, 25, 26, 27, 28, 29, 30, 31, 32] (by decide +kernel) (by decide +kernel)
set_option maxRecDepth 20000 in
theorem gX1_askMark_X9_askMark_s29 : GoodIn wsX1_askMark (va_wsSU RX1 29 yX9_askMark wsX9_askMark) := goodIn_app (goodIn_of _ (by decide +kernel)) ggX1_askMark_X9_askMark
theorem dX1_askMark_0 : decode cX1_askMark 0 = .ok (.aload_n 1, 1) := by decide +kernel
theorem dX1_askMark_1 : decode cX1_askMark 1 = .ok (.bipush 21, 2) := by decide +kernel
theorem dX1_askMark_3 : decode cX1_askMark 3 = .ok (.invokevirtual 16, 3) := by decide +kernel
theorem dX1_askMark_6 : decode cX1_askMark 6 = .ok (.aload_n 0, 1) := by decide +kernel
theorem dX1_askMark_7 : decode cX1_askMark 7 = .ok (.aload_n 1, 1) := by decide +kernel
theorem dX1_askMark_8 : decode cX1_askMark 8 = .ok (.invokespecial 29, 3) := by decide +kernel
theorem dX1_askMark_11 : decode cX1_askMark 11 = .ok (.aload_n 0, 1) := by decide +kernel
theorem dX1_askMark_12 : decode cX1_askMark 12 = .ok (.getfield 7, 3) := by decide +kernel
theorem dX1_askMark_15 : decode cX1_askMark 15 = .ok (.iadd, 1) := by decide +kernel
theorem dX1_askMark_16 : decode cX1_askMark 16 = .ok (.ireturn, 1) := by decide +kernel
set_option maxRecDepth 20000 in
theorem ggX2_init_X3_init : GoodIn wsX2_init wsX3_init := goodIn_r _ [4, 5, 6, 7, 8, 9, 10, 11, 12, 13, 14, 15, 16, 17, 18, 19, 20, 21, 22, 23, 24, 25, 26, 27, 28, 29] (by decide +kernel) (by decide +kernel)
set_option maxRecDepth 20000 in
theorem gX2_init_X3_init : GoodIn wsX2_init (wsX3_init) := ggX2_init_X3_init
theorem dX2_init_0 : decode cX2_init 0 = .ok (.aload_n 0, 1) := by decide +kernel
theorem dX2_init_1 : decode cX2_init 1 = .ok (.iload_n 1, 1) := by decide +kernel
theorem dX2_init_2 : decode cX2_init 2 = .ok (.iload_n 2, 1) := by decide +kernel
theorem dX2_init_3 : decode cX2_init 3 = .ok (.iload_n 3, 1) := by decide +kernel
theorem dX2_init_4 : decode cX2_init 4 = .ok (.invokespecial 1, 3) := by decide +kernel
theorem dX2_init_7 : decode cX2_init 7 = .ok (.return_, 1) := by decide +kernel
theorem dX2_kindNumber_0 : decode cX2_kindNumber 0 = .ok (.iconst 5, 1) := by decide +kernel
theorem dX2_kindNumber_1 : decode cX2_kindNumber 1 = .ok (.ireturn, 1) := by decide +kernel
theorem dX2_cropOn_0 : decode cX2_cropOn 0 = .ok (.iload_n 1, 1) := by decide +kernel
theorem dX2_cropOn_1 : decode cX2_cropOn 1 = .ok (.aload_n 0, 1) := by decide +kernel
theorem dX2_cropOn_2 : decode cX2_cropOn 2 = .ok (.getfield 7, 3) := by decide +kernel
theorem dX2_cropOn_5 : decode cX2_cropOn 5 = .ok (.if_icmp .eq 13, 3) := by decide +kernel
theorem dX2_cropOn_8 : decode cX2_cropOn 8 = .ok (.iload_n 1, 1) := by decide +kernel
theorem dX2_cropOn_9 : decode cX2_cropOn 9 = .ok (.aload_n 0, 1) := by decide +kernel
theorem dX2_cropOn_10 : decode cX2_cropOn 10 = .ok (.getfield 7, 3) := by decide +kernel
theorem dX2_cropOn_13 : decode cX2_cropOn 13 = .ok (.iconst 1, 1) := by decide +kernel
theorem dX2_cropOn_14 : decode cX2_cropOn 14 = .ok (.iadd, 1) := by decide +kernel
theorem dX2_cropOn_15 : decode cX2_cropOn 15 = .ok (.if_icmp .ne 10, 3) := by decide +kernel
theorem dX2_cropOn_18 : decode cX2_cropOn 18 = .ok (.aload_n 0, 1) := by decide +kernel
theorem dX2_cropOn_19 : decode cX2_cropOn 19 = .ok (.getfield 13, 3) := by decide +kernel
theorem dX2_cropOn_22 : decode cX2_cropOn 22 = .ok (.goto 4, 3) := by decide +kernel
theorem dX2_cropOn_25 : decode cX2_cropOn 25 = .ok (.iconst 0, 1) := by decide +kernel
theorem dX2_cropOn_26 : decode cX2_cropOn 26 = .ok (.ireturn, 1) := by decide +kernel
set_option maxRecDepth 20000 in
theorem ggX2_askSize_X10_leave : GoodIn wsX2_askSize wsX10_leave := goodIn_r _ [4, 5, 6, 20, 21] (by decide +kernel) (by decide +kernel)
set_option maxRecDepth 20000 in
theorem gX2_askSize_X10_leave_n16 : GoodIn wsX2_askSize (wsX10_leave) := ggX2_askSize_X10_leave
set_option maxRecDepth 20000 in
theorem ggX2_askSize_X3_askSize : GoodIn wsX2_askSize wsX3_askSize := goodIn_r _ [12, 1, 2, 3, 4, 5, 6, 13, 14, 15, 16, 17, 18, 19, 20, 21, 22, 23, 24, 25, 26, 27, 28, 29, 30, 31, 32, 33, 34, 35, 36] (by decide +kernel) (by decide +kernel)
set_option maxRecDepth 20000 in
theorem gX2_askSize_X3_askSize_s22 : GoodIn wsX2_askSize (va_wsSU RX2 22 yX3_askSize wsX3_askSize) := goodIn_app (goodIn_of _ (by decide +kernel)) ggX2_askSize_X3_askSize
theorem dX2_askSize_0 : decode cX2_askSize 0 = .ok (.aload_n 1, 1) := by decide +kernel
theorem dX2_askSize_1 : decode cX2_askSize 1 = .ok (.bipush 14, 2) := by decide +kernel
theorem dX2_askSize_3 : decode cX2_askSize 3 = .ok (.invokevirtual 16, 3) := by decide +kernel
theorem dX2_askSize_6 : decode cX2_askSize 6 = .ok (.iconst 2, 1) := by decide +kernel
theorem dX2_askSize_7 : decode cX2_askSize 7 = .ok (.aload_n 0, 1) := by decide +kernel
theorem dX2_askSize_8 : decode cX2_askSize 8 = .ok (.aload_n 1, 1) := by decide +kernel
theorem dX2_askSize_9 : decode cX2_askSize 9 = .ok (.invokespecial 22, 3) := by decide +kernel
theorem dX2_askSize_12 : decode cX2_askSize 12 = .ok (.imul, 1) := by decide +kernel
theorem dX2_askSize_13 : decode cX2_askSize 13 = .ok (.ireturn, 1) := by decide +kernel
set_option maxRecDepth 20000 in
theorem ggX3_init_X9_init : GoodIn wsX3_init wsX9_init := goodIn_r _ [4, 5, 6, 7, 8, 9, 10, 11, 12, 13, 14, 15, 16, 17, 18, 19, 20, 21, 22, 23, 24, 25] (by decide +kernel) (by decide +kernel)
set_option maxRecDepth 20000 in
theorem gX3_init_X9_init : GoodIn wsX3_init (wsX9_init) := ggX3_init_X9_init
theorem dX3_init_0 : decode cX3_init 0 = .ok (.aload_n 0, 1) := by decide +kernel
theorem dX3_init_1 : decode cX3_init 1 = .ok (.iload_n 1, 1) := by decide +kernel
theorem dX3_init_2 : decode cX3_init 2 = .ok (.iload_n 2, 1) := by decide +kernel
theorem dX3_init_3 : decode cX3_init 3 = .ok (.iload_n 3, 1) := by decide +kernel
theorem dX3_init_4 : decode cX3_init 4 = .ok (.invokespecial 1, 3) := by decide +kernel
theorem dX3_init_7 : decode cX3_init 7 = .ok (.return_, 1) := by decide +kernel
theorem dX3_kindNumber_0 : decode cX3_kindNumber 0 = .ok (.iconst 4, 1) := by decide +kernel
theorem dX3_kindNumber_1 : decode cX3_kindNumber 1 = .ok (.ireturn, 1) := by decide +kernel
theorem dX3_cropOn_0 : decode cX3_cropOn 0 = .ok (.iload_n 1, 1) := by decide +kernel
theorem dX3_cropOn_1 : decode cX3_cropOn 1 = .ok (.aload_n 0, 1) := by decide +kernel
theorem dX3_cropOn_2 : decode cX3_cropOn 2 = .ok (.getfield 7, 3) := by decide +kernel
theorem dX3_cropOn_5 : decode cX3_cropOn 5 = .ok (.if_icmp .lt 23, 3) := by decide +kernel
theorem dX3_cropOn_8 : decode cX3_cropOn 8 = .ok (.iload_n 1, 1) := by decide +kernel
theorem dX3_cropOn_9 : decode cX3_cropOn 9 = .ok (.aload_n 0, 1) := by decide +kernel
theorem dX3_cropOn_10 : decode cX3_cropOn 10 = .ok (.getfield 7, 3) := by decide +kernel
theorem dX3_cropOn_13 : decode cX3_cropOn 13 = .ok (.isub, 1) := by decide +kernel
theorem dX3_cropOn_14 : decode cX3_cropOn 14 = .ok (.iconst 3, 1) := by decide +kernel
theorem dX3_cropOn_15 : decode cX3_cropOn 15 = .ok (.irem, 1) := by decide +kernel
theorem dX3_cropOn_16 : decode cX3_cropOn 16 = .ok (.ifCond .ne 12, 3) := by decide +kernel
theorem dX3_cropOn_19 : decode cX3_cropOn 19 = .ok (.aload_n 0, 1) := by decide +kernel
theorem dX3_cropOn_20 : decode cX3_cropOn 20 = .ok (.getfield 13, 3) := by decide +kernel
theorem dX3_cropOn_23 : decode cX3_cropOn 23 = .ok (.iconst 2, 1) := by decide +kernel
theorem dX3_cropOn_24 : decode cX3_cropOn 24 = .ok (.idiv, 1) := by decide +kernel
theorem dX3_cropOn_25 : decode cX3_cropOn 25 = .ok (.goto 4, 3) := by decide +kernel
theorem dX3_cropOn_28 : decode cX3_cropOn 28 = .ok (.iconst 0, 1) := by decide +kernel
theorem dX3_cropOn_29 : decode cX3_cropOn 29 = .ok (.ireturn, 1) := by decide +kernel
set_option maxRecDepth 20000 in
theorem ggX3_askSize_X10_leave : GoodIn wsX3_askSize wsX10_leave := goodIn_r _ [4, 5, 6, 14, 15] (by decide +kernel) (by decide +kernel)
set_option maxRecDepth 20000 in
theorem gX3_askSize_X10_leave_n16 : GoodIn wsX3_askSize (wsX10_leave) := ggX3_askSize_X10_leave
set_option maxRecDepth 20000 in
theorem ggX3_askSize_X9_askSize : GoodIn wsX3_askSize wsX9_askSize := goodIn_r _ [12, 13, 1, 2, 3, 4, 5, 6, 16, 17, 18, 19, 20, 21, 22, 23, 24, 25, 26, 27, 28, 29, 30, 14, 15] (by decide +kernel) (by decide +kernel)
set_option maxRecDepth 20000 in
theorem gX3_askSize_X9_askSize_s22 : GoodIn wsX3_askSize (va_wsSU RX3 22 yX9_askSize wsX9_askSize) := goodIn_app (goodIn_of _ (by decide +kernel)) ggX3_askSize_X9_askSize
theorem dX3_askSize_0 : decode cX3_askSize 0 = .ok (.aload_n 1, 1) := by decide +kernel
theorem dX3_askSize_1 : decode cX3_askSize 1 = .ok (.bipush 13, 2) := by decide +kernel
theorem dX3_askSize_3 : decode cX3_askSize 3 = .ok (.invokevirtual 16, 3) := by decide +kernel
theorem dX3_askSize_6 : decode cX3_askSize 6 = .ok (.aload_n 0, 1) := by decide +kernel
theorem dX3_askSize_7 : decode cX3_askSize 7 = .ok (.aload_n 1, 1) := by decide +kernel
theorem dX3_askSize_8 : decode cX3_askSize 8 = .ok (.invokespecial 22, 3) := by decide +kernel
theorem dX3_askSize_11 : decode cX3_askSize 11 = .ok (.bipush 100, 2) := by decide +kernel
theorem dX3_askSize_13 : decode cX3_askSize 13 = .ok (.isub, 1) := by decide +kernel
theorem dX3_askSize_14 : decode cX3_askSize 14 = .ok (.ireturn, 1) := by decide +kernel
set_option maxRecDepth 20000 in
theorem ggX3_askMark_X10_leave : GoodIn wsX3_askMark wsX10_leave := goodIn_r _ [4, 5, 6, 33, 34] (by decide +kernel) (by decide +kernel)
set_option maxRecDepth 20000 in
theorem gX3_askMark_X10_leave_n16 : GoodIn wsX3_askMark (wsX10_leave) := ggX3_askMark_X10_leave
set_option maxRecDepth 20000 in
theorem ggX3_askMark_X9_askMark : GoodIn wsX3_askMark wsX9_askMark := goodIn_r _ [12, 13, 1, 2, 3, 4, 5, 6, 35, 36, 37, 38, 39, 40, 41, 42, 43, 44, 45, 46, 47, 48, 49, 33, 34] (by decide +kernel) (by decide +kernel)
set_option maxRecDepth 20000 in
theorem gX3_askMark_X9_askMark_s26 : GoodIn wsX3_askMark (va_wsSU RX3 26 yX9_askMark wsX9_askMark) := goodIn_app (goodIn_of _ (by decide +kernel)) ggX3_askMark_X9_askMark
set_option maxRecDepth 20000 in
theorem ggX3_askMark_X2_askSize : GoodIn wsX3_askMark wsX2_askSize := goodIn_r _ [20, 1, 2, 3, 4, 5, 6, 21, 15, 22, 23, 24, 25, 26, 27, 9, 28, 11, 29, 30, 33, 34, 35, 36, 37, 38, 39, 40, 41, 42, 43, 44, 45, 46, 47, 48, 49] (by decide +kernel) (by decide +kernel)
set_option maxRecDepth 20000 in
theorem gX3_askMark_X2_askSize_u29X2 : GoodIn wsX3_askMark (va_wsO RX3 29 RX2 "FenceYards$Grass" ⟨"FenceYards$Grass", "askSize", "(LFenceYards$Trace;)I"⟩ yX2_askSize wsX2_askSize) := goodIn_app (goodIn_of _ (by decide +kernel)) ggX3_askMark_X2_askSize
set_option maxRecDepth 20000 in
theorem ggX3_askMark_X3_askSize : GoodIn wsX3_askMark wsX3_askSize := goodIn_r _ [25, 1, 2, 3, 4, 5, 6, 26, 27, 9, 28, 11, 29, 30, 33, 34, 35, 36, 37, 38, 39, 40, 41, 42, 43, 44, 45, 46, 47, 48, 49] (by decide +kernel) (by decide +kernel)
set_option maxRecDepth 20000 in
theorem gX3_askMark_X3_askSize : GoodIn wsX3_askMark (wsV RX3 29 RX3 yX3_askSize wsX3_askSize) := goodIn_app (goodIn_of _ (by decide +kernel)) ggX3_askMark_X3_askSize
theorem dX3_askMark_0 : decode cX3_askMark 0 = .ok (.aload_n 1, 1) := by decide +kernel
theorem dX3_askMark_1 : decode cX3_askMark 1 = .ok (.bipush 23, 2) := by decide +kernel
theorem dX3_askMark_3 : decode cX3_askMark 3 = .ok (.invokevirtual 16, 3) := by decide +kernel
theorem dX3_askMark_6 : decode cX3_askMark 6 = .ok (.aload_n 0, 1) := by decide +kernel
theorem dX3_askMark_7 : decode cX3_askMark 7 = .ok (.aload_n 1, 1) := by decide +kernel
theorem dX3_askMark_8 : decode cX3_askMark 8 = .ok (.invokespecial 26, 3) := by decide +kernel
theorem dX3_askMark_11 : decode cX3_askMark 11 = .ok (.istore_n 2, 1) := by decide +kernel
theorem dX3_askMark_12 : decode cX3_askMark 12 = .ok (.iload_n 2, 1) := by decide +kernel
theorem dX3_askMark_13 : decode cX3_askMark 13 = .ok (.aload_n 0, 1) := by decide +kernel
theorem dX3_askMark_14 : decode cX3_askMark 14 = .ok (.aload_n 1, 1) := by decide +kernel
theorem dX3_askMark_15 : decode cX3_askMark 15 = .ok (.invokevirtual 29, 3) := by decide +kernel
theorem dX3_askMark_18 : decode cX3_askMark 18 = .ok (.isub, 1) := by decide +kernel
theorem dX3_askMark_19 : decode cX3_askMark 19 = .ok (.ireturn, 1) := by decide +kernel
theorem dX4_init_0 : decode cX4_init 0 = .ok (.aload_n 0, 1) := by decide +kernel
theorem dX4_init_1 : decode cX4_init 1 = .ok (.invokespecial 3, 3) := by decide +kernel
theorem dX4_init_4 : decode cX4_init 4 = .ok (.aload_n 0, 1) := by decide +kernel
theorem dX4_init_5 : decode cX4_init 5 = .ok (.bipush 12, 2) := by decide +kernel
theorem dX4_init_7 : decode cX4_init 7 = .ok (.anewarray 9, 3) := by decide +kernel
theorem dX4_init_10 : decode cX4_init 10 = .ok (.putfield 11, 3) := by decide +kernel
theorem dX4_init_13 : decode cX4_init 13 = .ok (.aload_n 0, 1) := by decide +kernel
theorem dX4_init_14 : decode cX4_init 14 = .ok (.bipush 13, 2) := by decide +kernel
theorem dX4_init_16 : decode cX4_init 16 = .ok (.newarray .int, 2) := by decide +kernel
theorem dX4_init_18 : decode cX4_init 18 = .ok (.putfield 17, 3) := by decide +kernel
theorem dX4_init_21 : decode cX4_init 21 = .ok (.aload_n 0, 1) := by decide +kernel
theorem dX4_init_22 : decode cX4_init 22 = .ok (.bipush 13, 2) := by decide +kernel
theorem dX4_init_24 : decode cX4_init 24 = .ok (.newarray .int, 2) := by decide +kernel
theorem dX4_init_26 : decode cX4_init 26 = .ok (.putfield 21, 3) := by decide +kernel
theorem dX4_init_29 : decode cX4_init 29 = .ok (.aload_n 0, 1) := by decide +kernel
theorem dX4_init_30 : decode cX4_init 30 = .ok (.bipush 13, 2) := by decide +kernel
theorem dX4_init_32 : decode cX4_init 32 = .ok (.newarray .int, 2) := by decide +kernel
theorem dX4_init_34 : decode cX4_init 34 = .ok (.putfield 24, 3) := by decide +kernel
theorem dX4_init_37 : decode cX4_init 37 = .ok (.aload_n 0, 1) := by decide +kernel
theorem dX4_init_38 : decode cX4_init 38 = .ok (.bipush 13, 2) := by decide +kernel
theorem dX4_init_40 : decode cX4_init 40 = .ok (.newarray .int, 2) := by decide +kernel
theorem dX4_init_42 : decode cX4_init 42 = .ok (.putfield 27, 3) := by decide +kernel
theorem dX4_init_45 : decode cX4_init 45 = .ok (.return_, 1) := by decide +kernel
theorem dX4_begin_0 : decode cX4_begin 0 = .ok (.aload_n 0, 1) := by decide +kernel
theorem dX4_begin_1 : decode cX4_begin 1 = .ok (.iconst 0, 1) := by decide +kernel
theorem dX4_begin_2 : decode cX4_begin 2 = .ok (.putfield 30, 3) := by decide +kernel
theorem dX4_begin_5 : decode cX4_begin 5 = .ok (.aload_n 0, 1) := by decide +kernel
theorem dX4_begin_6 : decode cX4_begin 6 = .ok (.iconst 0, 1) := by decide +kernel
theorem dX4_begin_7 : decode cX4_begin 7 = .ok (.putfield 34, 3) := by decide +kernel
theorem dX4_begin_10 : decode cX4_begin 10 = .ok (.aload_n 0, 1) := by decide +kernel
theorem dX4_begin_11 : decode cX4_begin 11 = .ok (.iconst 0, 1) := by decide +kernel
theorem dX4_begin_12 : decode cX4_begin 12 = .ok (.putfield 38, 3) := by decide +kernel
theorem dX4_begin_15 : decode cX4_begin 15 = .ok (.aload_n 0, 1) := by decide +kernel
theorem dX4_begin_16 : decode cX4_begin 16 = .ok (.sipush 8191, 3) := by decide +kernel
theorem dX4_begin_19 : decode cX4_begin 19 = .ok (.putfield 41, 3) := by decide +kernel
theorem dX4_begin_22 : decode cX4_begin 22 = .ok (.aload_n 0, 1) := by decide +kernel
theorem dX4_begin_23 : decode cX4_begin 23 = .ok (.sipush 8191, 3) := by decide +kernel
theorem dX4_begin_26 : decode cX4_begin 26 = .ok (.putfield 44, 3) := by decide +kernel
theorem dX4_begin_29 : decode cX4_begin 29 = .ok (.aload_n 0, 1) := by decide +kernel
theorem dX4_begin_30 : decode cX4_begin 30 = .ok (.iconst 0, 1) := by decide +kernel
theorem dX4_begin_31 : decode cX4_begin 31 = .ok (.putfield 47, 3) := by decide +kernel
theorem dX4_begin_34 : decode cX4_begin 34 = .ok (.aload_n 0, 1) := by decide +kernel
theorem dX4_begin_35 : decode cX4_begin 35 = .ok (.getfield 17, 3) := by decide +kernel
theorem dX4_begin_38 : decode cX4_begin 38 = .ok (.iconst 0, 1) := by decide +kernel
theorem dX4_begin_39 : decode cX4_begin 39 = .ok (.iconst 0, 1) := by decide +kernel
theorem dX4_begin_40 : decode cX4_begin 40 = .ok (.iastore, 1) := by decide +kernel
theorem dX4_begin_41 : decode cX4_begin 41 = .ok (.aload_n 0, 1) := by decide +kernel
theorem dX4_begin_42 : decode cX4_begin 42 = .ok (.getfield 21, 3) := by decide +kernel
theorem dX4_begin_45 : decode cX4_begin 45 = .ok (.iconst 0, 1) := by decide +kernel
theorem dX4_begin_46 : decode cX4_begin 46 = .ok (.iconst 0, 1) := by decide +kernel
theorem dX4_begin_47 : decode cX4_begin 47 = .ok (.iastore, 1) := by decide +kernel
theorem dX4_begin_48 : decode cX4_begin 48 = .ok (.aload_n 0, 1) := by decide +kernel
theorem dX4_begin_49 : decode cX4_begin 49 = .ok (.getfield 24, 3) := by decide +kernel
theorem dX4_begin_52 : decode cX4_begin 52 = .ok (.iconst 0, 1) := by decide +kernel
theorem dX4_begin_53 : decode cX4_begin 53 = .ok (.iconst 0, 1) := by decide +kernel
theorem dX4_begin_54 : decode cX4_begin 54 = .ok (.iastore, 1) := by decide +kernel
theorem dX4_begin_55 : decode cX4_begin 55 = .ok (.aload_n 0, 1) := by decide +kernel
theorem dX4_begin_56 : decode cX4_begin 56 = .ok (.getfield 27, 3) := by decide +kernel
theorem dX4_begin_59 : decode cX4_begin 59 = .ok (.iconst 0, 1) := by decide +kernel
theorem dX4_begin_60 : decode cX4_begin 60 = .ok (.iconst 0, 1) := by decide +kernel
theorem dX4_begin_61 : decode cX4_begin 61 = .ok (.iastore, 1) := by decide +kernel
theorem dX4_begin_62 : decode cX4_begin 62 = .ok (.return_, 1) := by decide +kernel
theorem dX4_become_0 : decode cX4_become 0 = .ok (.iconst 0, 1) := by decide +kernel
theorem dX4_become_1 : decode cX4_become 1 = .ok (.istore_n 2, 1) := by decide +kernel
theorem dX4_become_2 : decode cX4_become 2 = .ok (.iload_n 2, 1) := by decide +kernel
theorem dX4_become_3 : decode cX4_become 3 = .ok (.bipush 12, 2) := by decide +kernel
theorem dX4_become_5 : decode cX4_become 5 = .ok (.if_icmp .ge 21, 3) := by decide +kernel
theorem dX4_become_8 : decode cX4_become 8 = .ok (.aload_n 0, 1) := by decide +kernel
theorem dX4_become_9 : decode cX4_become 9 = .ok (.getfield 11, 3) := by decide +kernel
theorem dX4_become_12 : decode cX4_become 12 = .ok (.iload_n 2, 1) := by decide +kernel
theorem dX4_become_13 : decode cX4_become 13 = .ok (.aload_n 1, 1) := by decide +kernel
theorem dX4_become_14 : decode cX4_become 14 = .ok (.getfield 11, 3) := by decide +kernel
theorem dX4_become_17 : decode cX4_become 17 = .ok (.iload_n 2, 1) := by decide +kernel
theorem dX4_become_18 : decode cX4_become 18 = .ok (.aaload, 1) := by decide +kernel
theorem dX4_become_19 : decode cX4_become 19 = .ok (.aastore, 1) := by decide +kernel
theorem dX4_become_20 : decode cX4_become 20 = .ok (.iinc 2 1, 3) := by decide +kernel
theorem dX4_become_23 : decode cX4_become 23 = .ok (.goto (-21), 3) := by decide +kernel
theorem dX4_become_26 : decode cX4_become 26 = .ok (.aload_n 1, 1) := by decide +kernel
theorem dX4_become_27 : decode cX4_become 27 = .ok (.getfield 17, 3) := by decide +kernel
theorem dX4_become_30 : decode cX4_become 30 = .ok (.iconst 0, 1) := by decide +kernel
theorem dX4_become_31 : decode cX4_become 31 = .ok (.aload_n 0, 1) := by decide +kernel
theorem dX4_become_32 : decode cX4_become 32 = .ok (.getfield 17, 3) := by decide +kernel
theorem dX4_become_35 : decode cX4_become 35 = .ok (.iconst 0, 1) := by decide +kernel
theorem dX4_become_36 : decode cX4_become 36 = .ok (.bipush 13, 2) := by decide +kernel
theorem dX4_become_38 : decode cX4_become 38 = .ok (.invokestatic 50, 3) := by decide +kernel
theorem dX4_become_41 : decode cX4_become 41 = .ok (.aload_n 1, 1) := by decide +kernel
theorem dX4_become_42 : decode cX4_become 42 = .ok (.getfield 21, 3) := by decide +kernel
theorem dX4_become_45 : decode cX4_become 45 = .ok (.iconst 0, 1) := by decide +kernel
theorem dX4_become_46 : decode cX4_become 46 = .ok (.aload_n 0, 1) := by decide +kernel
theorem dX4_become_47 : decode cX4_become 47 = .ok (.getfield 21, 3) := by decide +kernel
theorem dX4_become_50 : decode cX4_become 50 = .ok (.iconst 0, 1) := by decide +kernel
theorem dX4_become_51 : decode cX4_become 51 = .ok (.bipush 13, 2) := by decide +kernel
theorem dX4_become_53 : decode cX4_become 53 = .ok (.invokestatic 50, 3) := by decide +kernel
theorem dX4_become_56 : decode cX4_become 56 = .ok (.aload_n 1, 1) := by decide +kernel
theorem dX4_become_57 : decode cX4_become 57 = .ok (.getfield 24, 3) := by decide +kernel
theorem dX4_become_60 : decode cX4_become 60 = .ok (.iconst 0, 1) := by decide +kernel
theorem dX4_become_61 : decode cX4_become 61 = .ok (.aload_n 0, 1) := by decide +kernel
theorem dX4_become_62 : decode cX4_become 62 = .ok (.getfield 24, 3) := by decide +kernel
theorem dX4_become_65 : decode cX4_become 65 = .ok (.iconst 0, 1) := by decide +kernel
theorem dX4_become_66 : decode cX4_become 66 = .ok (.bipush 13, 2) := by decide +kernel
theorem dX4_become_68 : decode cX4_become 68 = .ok (.invokestatic 50, 3) := by decide +kernel
theorem dX4_become_71 : decode cX4_become 71 = .ok (.aload_n 1, 1) := by decide +kernel
theorem dX4_become_72 : decode cX4_become 72 = .ok (.getfield 27, 3) := by decide +kernel
theorem dX4_become_75 : decode cX4_become 75 = .ok (.iconst 0, 1) := by decide +kernel
theorem dX4_become_76 : decode cX4_become 76 = .ok (.aload_n 0, 1) := by decide +kernel
theorem dX4_become_77 : decode cX4_become 77 = .ok (.getfield 27, 3) := by decide +kernel
theorem dX4_become_80 : decode cX4_become 80 = .ok (.iconst 0, 1) := by decide +kernel
theorem dX4_become_81 : decode cX4_become 81 = .ok (.bipush 13, 2) := by decide +kernel
theorem dX4_become_83 : decode cX4_become 83 = .ok (.invokestatic 50, 3) := by decide +kernel
theorem dX4_become_86 : decode cX4_become 86 = .ok (.aload_n 0, 1) := by decide +kernel
theorem dX4_become_87 : decode cX4_become 87 = .ok (.aload_n 1, 1) := by decide +kernel
theorem dX4_become_88 : decode cX4_become 88 = .ok (.getfield 30, 3) := by decide +kernel
theorem dX4_become_91 : decode cX4_become 91 = .ok (.putfield 30, 3) := by decide +kernel
theorem dX4_become_94 : decode cX4_become 94 = .ok (.aload_n 0, 1) := by decide +kernel
theorem dX4_become_95 : decode cX4_become 95 = .ok (.aload_n 1, 1) := by decide +kernel
theorem dX4_become_96 : decode cX4_become 96 = .ok (.getfield 34, 3) := by decide +kernel
theorem dX4_become_99 : decode cX4_become 99 = .ok (.putfield 34, 3) := by decide +kernel
theorem dX4_become_102 : decode cX4_become 102 = .ok (.aload_n 0, 1) := by decide +kernel
theorem dX4_become_103 : decode cX4_become 103 = .ok (.aload_n 1, 1) := by decide +kernel
theorem dX4_become_104 : decode cX4_become 104 = .ok (.getfield 38, 3) := by decide +kernel
theorem dX4_become_107 : decode cX4_become 107 = .ok (.putfield 38, 3) := by decide +kernel
theorem dX4_become_110 : decode cX4_become 110 = .ok (.aload_n 0, 1) := by decide +kernel
theorem dX4_become_111 : decode cX4_become 111 = .ok (.aload_n 1, 1) := by decide +kernel
theorem dX4_become_112 : decode cX4_become 112 = .ok (.getfield 41, 3) := by decide +kernel
theorem dX4_become_115 : decode cX4_become 115 = .ok (.putfield 41, 3) := by decide +kernel
theorem dX4_become_118 : decode cX4_become 118 = .ok (.aload_n 0, 1) := by decide +kernel
theorem dX4_become_119 : decode cX4_become 119 = .ok (.aload_n 1, 1) := by decide +kernel
theorem dX4_become_120 : decode cX4_become 120 = .ok (.getfield 44, 3) := by decide +kernel
theorem dX4_become_123 : decode cX4_become 123 = .ok (.putfield 44, 3) := by decide +kernel
theorem dX4_become_126 : decode cX4_become 126 = .ok (.aload_n 0, 1) := by decide +kernel
theorem dX4_become_127 : decode cX4_become 127 = .ok (.aload_n 1, 1) := by decide +kernel
theorem dX4_become_128 : decode cX4_become 128 = .ok (.getfield 47, 3) := by decide +kernel
theorem dX4_become_131 : decode cX4_become 131 = .ok (.putfield 47, 3) := by decide +kernel
theorem dX4_become_134 : decode cX4_become 134 = .ok (.return_, 1) := by decide +kernel
theorem dX4_putFence_0 : decode cX4_putFence 0 = .ok (.aload_n 0, 1) := by decide +kernel
theorem dX4_putFence_1 : decode cX4_putFence 1 = .ok (.getfield 17, 3) := by decide +kernel
theorem dX4_putFence_4 : decode cX4_putFence 4 = .ok (.iconst 0, 1) := by decide +kernel
theorem dX4_putFence_5 : decode cX4_putFence 5 = .ok (.iload_n 1, 1) := by decide +kernel
theorem dX4_putFence_6 : decode cX4_putFence 6 = .ok (.iastore, 1) := by decide +kernel
theorem dX4_putFence_7 : decode cX4_putFence 7 = .ok (.aload_n 0, 1) := by decide +kernel
theorem dX4_putFence_8 : decode cX4_putFence 8 = .ok (.getfield 21, 3) := by decide +kernel
theorem dX4_putFence_11 : decode cX4_putFence 11 = .ok (.iconst 0, 1) := by decide +kernel
theorem dX4_putFence_12 : decode cX4_putFence 12 = .ok (.iload_n 2, 1) := by decide +kernel
theorem dX4_putFence_13 : decode cX4_putFence 13 = .ok (.iastore, 1) := by decide +kernel
theorem dX4_putFence_14 : decode cX4_putFence 14 = .ok (.return_, 1) := by decide +kernel
theorem dX4_addPond_0 : decode cX4_addPond 0 = .ok (.iload_n 1, 1) := by decide +kernel
theorem dX4_addPond_1 : decode cX4_addPond 1 = .ok (.ifCond .ne 20, 3) := by decide +kernel
theorem dX4_addPond_4 : decode cX4_addPond 4 = .ok (.aload_n 0, 1) := by decide +kernel
theorem dX4_addPond_5 : decode cX4_addPond 5 = .ok (.dup, 1) := by decide +kernel
theorem dX4_addPond_6 : decode cX4_addPond 6 = .ok (.getfield 41, 3) := by decide +kernel
theorem dX4_addPond_9 : decode cX4_addPond 9 = .ok (.iconst 1, 1) := by decide +kernel
theorem dX4_addPond_10 : decode cX4_addPond 10 = .ok (.iload_n 2, 1) := by decide +kernel
theorem dX4_addPond_11 : decode cX4_addPond 11 = .ok (.ishl, 1) := by decide +kernel
theorem dX4_addPond_12 : decode cX4_addPond 12 = .ok (.iconst (-1), 1) := by decide +kernel
theorem dX4_addPond_13 : decode cX4_addPond 13 = .ok (.ixor, 1) := by decide +kernel
theorem dX4_addPond_14 : decode cX4_addPond 14 = .ok (.iand, 1) := by decide +kernel
theorem dX4_addPond_15 : decode cX4_addPond 15 = .ok (.putfield 41, 3) := by decide +kernel
theorem dX4_addPond_18 : decode cX4_addPond 18 = .ok (.goto 17, 3) := by decide +kernel
theorem dX4_addPond_21 : decode cX4_addPond 21 = .ok (.aload_n 0, 1) := by decide +kernel
theorem dX4_addPond_22 : decode cX4_addPond 22 = .ok (.dup, 1) := by decide +kernel
theorem dX4_addPond_23 : decode cX4_addPond 23 = .ok (.getfield 44, 3) := by decide +kernel
theorem dX4_addPond_26 : decode cX4_addPond 26 = .ok (.iconst 1, 1) := by decide +kernel
theorem dX4_addPond_27 : decode cX4_addPond 27 = .ok (.iload_n 2, 1) := by decide +kernel
theorem dX4_addPond_28 : decode cX4_addPond 28 = .ok (.ishl, 1) := by decide +kernel
theorem dX4_addPond_29 : decode cX4_addPond 29 = .ok (.iconst (-1), 1) := by decide +kernel
theorem dX4_addPond_30 : decode cX4_addPond 30 = .ok (.ixor, 1) := by decide +kernel
theorem dX4_addPond_31 : decode cX4_addPond 31 = .ok (.iand, 1) := by decide +kernel
theorem dX4_addPond_32 : decode cX4_addPond 32 = .ok (.putfield 44, 3) := by decide +kernel
theorem dX4_addPond_35 : decode cX4_addPond 35 = .ok (.aload_n 0, 1) := by decide +kernel
theorem dX4_addPond_36 : decode cX4_addPond 36 = .ok (.dup, 1) := by decide +kernel
theorem dX4_addPond_37 : decode cX4_addPond 37 = .ok (.getfield 38, 3) := by decide +kernel
theorem dX4_addPond_40 : decode cX4_addPond 40 = .ok (.iconst 1, 1) := by decide +kernel
theorem dX4_addPond_41 : decode cX4_addPond 41 = .ok (.iadd, 1) := by decide +kernel
theorem dX4_addPond_42 : decode cX4_addPond 42 = .ok (.putfield 38, 3) := by decide +kernel
theorem dX4_addPond_45 : decode cX4_addPond 45 = .ok (.return_, 1) := by decide +kernel
theorem dX4_addStrip_0 : decode cX4_addStrip 0 = .ok (.aload_n 0, 1) := by decide +kernel
theorem dX4_addStrip_1 : decode cX4_addStrip 1 = .ok (.getfield 34, 3) := by decide +kernel
theorem dX4_addStrip_4 : decode cX4_addStrip 4 = .ok (.bipush 12, 2) := by decide +kernel
theorem dX4_addStrip_6 : decode cX4_addStrip 6 = .ok (.if_icmp .ge 23, 3) := by decide +kernel
theorem dX4_addStrip_9 : decode cX4_addStrip 9 = .ok (.aload_n 0, 1) := by decide +kernel
theorem dX4_addStrip_10 : decode cX4_addStrip 10 = .ok (.getfield 11, 3) := by decide +kernel
theorem dX4_addStrip_13 : decode cX4_addStrip 13 = .ok (.aload_n 0, 1) := by decide +kernel
theorem dX4_addStrip_14 : decode cX4_addStrip 14 = .ok (.getfield 34, 3) := by decide +kernel
theorem dX4_addStrip_17 : decode cX4_addStrip 17 = .ok (.aload_n 1, 1) := by decide +kernel
theorem dX4_addStrip_18 : decode cX4_addStrip 18 = .ok (.aastore, 1) := by decide +kernel
theorem dX4_addStrip_19 : decode cX4_addStrip 19 = .ok (.aload_n 0, 1) := by decide +kernel
theorem dX4_addStrip_20 : decode cX4_addStrip 20 = .ok (.dup, 1) := by decide +kernel
theorem dX4_addStrip_21 : decode cX4_addStrip 21 = .ok (.getfield 34, 3) := by decide +kernel
theorem dX4_addStrip_24 : decode cX4_addStrip 24 = .ok (.iconst 1, 1) := by decide +kernel
theorem dX4_addStrip_25 : decode cX4_addStrip 25 = .ok (.iadd, 1) := by decide +kernel
theorem dX4_addStrip_26 : decode cX4_addStrip 26 = .ok (.putfield 34, 3) := by decide +kernel
theorem dX4_addStrip_29 : decode cX4_addStrip 29 = .ok (.return_, 1) := by decide +kernel
theorem dX4_putStrip_0 : decode cX4_putStrip 0 = .ok (.iload_n 1, 1) := by decide +kernel
theorem dX4_putStrip_1 : decode cX4_putStrip 1 = .ok (.ifCond .lt 18, 3) := by decide +kernel
theorem dX4_putStrip_4 : decode cX4_putStrip 4 = .ok (.iload_n 1, 1) := by decide +kernel
theorem dX4_putStrip_5 : decode cX4_putStrip 5 = .ok (.aload_n 0, 1) := by decide +kernel
theorem dX4_putStrip_6 : decode cX4_putStrip 6 = .ok (.getfield 34, 3) := by decide +kernel
theorem dX4_putStrip_9 : decode cX4_putStrip 9 = .ok (.if_icmp .ge 10, 3) := by decide +kernel
theorem dX4_putStrip_12 : decode cX4_putStrip 12 = .ok (.aload_n 0, 1) := by decide +kernel
theorem dX4_putStrip_13 : decode cX4_putStrip 13 = .ok (.getfield 11, 3) := by decide +kernel
theorem dX4_putStrip_16 : decode cX4_putStrip 16 = .ok (.iload_n 1, 1) := by decide +kernel
theorem dX4_putStrip_17 : decode cX4_putStrip 17 = .ok (.aload_n 2, 1) := by decide +kernel
theorem dX4_putStrip_18 : decode cX4_putStrip 18 = .ok (.aastore, 1) := by decide +kernel
theorem dX4_putStrip_19 : decode cX4_putStrip 19 = .ok (.return_, 1) := by decide +kernel
theorem dX4_toldStrip_0 : decode cX4_toldStrip 0 = .ok (.iload_n 1, 1) := by decide +kernel
theorem dX4_toldStrip_1 : decode cX4_toldStrip 1 = .ok (.ifCond .lt 26, 3) := by decide +kernel
theorem dX4_toldStrip_4 : decode cX4_toldStrip 4 = .ok (.iload_n 1, 1) := by decide +kernel
theorem dX4_toldStrip_5 : decode cX4_toldStrip 5 = .ok (.aload_n 0, 1) := by decide +kernel
theorem dX4_toldStrip_6 : decode cX4_toldStrip 6 = .ok (.getfield 34, 3) := by decide +kernel
theorem dX4_toldStrip_9 : decode cX4_toldStrip 9 = .ok (.if_icmp .ge 18, 3) := by decide +kernel
theorem dX4_toldStrip_12 : decode cX4_toldStrip 12 = .ok (.iload_n 1, 1) := by decide +kernel
theorem dX4_toldStrip_13 : decode cX4_toldStrip 13 = .ok (.bipush 12, 2) := by decide +kernel
theorem dX4_toldStrip_15 : decode cX4_toldStrip 15 = .ok (.if_icmp .ge 12, 3) := by decide +kernel
theorem dX4_toldStrip_18 : decode cX4_toldStrip 18 = .ok (.aload_n 0, 1) := by decide +kernel
theorem dX4_toldStrip_19 : decode cX4_toldStrip 19 = .ok (.getfield 11, 3) := by decide +kernel
theorem dX4_toldStrip_22 : decode cX4_toldStrip 22 = .ok (.iload_n 1, 1) := by decide +kernel
theorem dX4_toldStrip_23 : decode cX4_toldStrip 23 = .ok (.aaload, 1) := by decide +kernel
theorem dX4_toldStrip_24 : decode cX4_toldStrip 24 = .ok (.goto 4, 3) := by decide +kernel
theorem dX4_toldStrip_27 : decode cX4_toldStrip 27 = .ok (.aconst_null, 1) := by decide +kernel
theorem dX4_toldStrip_28 : decode cX4_toldStrip 28 = .ok (.areturn, 1) := by decide +kernel
theorem dX4_endOn_0 : decode cX4_endOn 0 = .ok (.iload_n 1, 1) := by decide +kernel
theorem dX4_endOn_1 : decode cX4_endOn 1 = .ok (.ifCond .ne 15, 3) := by decide +kernel
theorem dX4_endOn_4 : decode cX4_endOn 4 = .ok (.aload_n 0, 1) := by decide +kernel
theorem dX4_endOn_5 : decode cX4_endOn 5 = .ok (.getfield 17, 3) := by decide +kernel
theorem dX4_endOn_8 : decode cX4_endOn 8 = .ok (.aload_n 0, 1) := by decide +kernel
theorem dX4_endOn_9 : decode cX4_endOn 9 = .ok (.getfield 47, 3) := by decide +kernel
theorem dX4_endOn_12 : decode cX4_endOn 12 = .ok (.iaload, 1) := by decide +kernel
theorem dX4_endOn_13 : decode cX4_endOn 13 = .ok (.goto 12, 3) := by decide +kernel
theorem dX4_endOn_16 : decode cX4_endOn 16 = .ok (.aload_n 0, 1) := by decide +kernel
theorem dX4_endOn_17 : decode cX4_endOn 17 = .ok (.getfield 21, 3) := by decide +kernel
theorem dX4_endOn_20 : decode cX4_endOn 20 = .ok (.aload_n 0, 1) := by decide +kernel
theorem dX4_endOn_21 : decode cX4_endOn 21 = .ok (.getfield 47, 3) := by decide +kernel
theorem dX4_endOn_24 : decode cX4_endOn 24 = .ok (.iaload, 1) := by decide +kernel
theorem dX4_endOn_25 : decode cX4_endOn 25 = .ok (.ireturn, 1) := by decide +kernel
theorem dX4_isOpen_0 : decode cX4_isOpen 0 = .ok (.iload_n 1, 1) := by decide +kernel
theorem dX4_isOpen_1 : decode cX4_isOpen 1 = .ok (.ifCond .ne 10, 3) := by decide +kernel
theorem dX4_isOpen_4 : decode cX4_isOpen 4 = .ok (.aload_n 0, 1) := by decide +kernel
theorem dX4_isOpen_5 : decode cX4_isOpen 5 = .ok (.getfield 41, 3) := by decide +kernel
theorem dX4_isOpen_8 : decode cX4_isOpen 8 = .ok (.goto 7, 3) := by decide +kernel
theorem dX4_isOpen_11 : decode cX4_isOpen 11 = .ok (.aload_n 0, 1) := by decide +kernel
theorem dX4_isOpen_12 : decode cX4_isOpen 12 = .ok (.getfield 44, 3) := by decide +kernel
theorem dX4_isOpen_15 : decode cX4_isOpen 15 = .ok (.istore_n 3, 1) := by decide +kernel
theorem dX4_isOpen_16 : decode cX4_isOpen 16 = .ok (.iload_n 2, 1) := by decide +kernel
theorem dX4_isOpen_17 : decode cX4_isOpen 17 = .ok (.ifCond .lt 22, 3) := by decide +kernel
theorem dX4_isOpen_20 : decode cX4_isOpen 20 = .ok (.iload_n 2, 1) := by decide +kernel
theorem dX4_isOpen_21 : decode cX4_isOpen 21 = .ok (.bipush 13, 2) := by decide +kernel
theorem dX4_isOpen_23 : decode cX4_isOpen 23 = .ok (.if_icmp .ge 16, 3) := by decide +kernel
theorem dX4_isOpen_26 : decode cX4_isOpen 26 = .ok (.iload_n 3, 1) := by decide +kernel
theorem dX4_isOpen_27 : decode cX4_isOpen 27 = .ok (.iload_n 2, 1) := by decide +kernel
theorem dX4_isOpen_28 : decode cX4_isOpen 28 = .ok (.ishr, 1) := by decide +kernel
theorem dX4_isOpen_29 : decode cX4_isOpen 29 = .ok (.iconst 1, 1) := by decide +kernel
theorem dX4_isOpen_30 : decode cX4_isOpen 30 = .ok (.iand, 1) := by decide +kernel
theorem dX4_isOpen_31 : decode cX4_isOpen 31 = .ok (.iconst 1, 1) := by decide +kernel
theorem dX4_isOpen_32 : decode cX4_isOpen 32 = .ok (.if_icmp .ne 7, 3) := by decide +kernel
theorem dX4_isOpen_35 : decode cX4_isOpen 35 = .ok (.iconst 1, 1) := by decide +kernel
theorem dX4_isOpen_36 : decode cX4_isOpen 36 = .ok (.goto 4, 3) := by decide +kernel
theorem dX4_isOpen_39 : decode cX4_isOpen 39 = .ok (.iconst 0, 1) := by decide +kernel
theorem dX4_isOpen_40 : decode cX4_isOpen 40 = .ok (.ireturn, 1) := by decide +kernel
theorem dX4_leftSoFar_0 : decode cX4_leftSoFar 0 = .ok (.aload_n 0, 1) := by decide +kernel
theorem dX4_leftSoFar_1 : decode cX4_leftSoFar 1 = .ok (.getfield 24, 3) := by decide +kernel
theorem dX4_leftSoFar_4 : decode cX4_leftSoFar 4 = .ok (.aload_n 0, 1) := by decide +kernel
theorem dX4_leftSoFar_5 : decode cX4_leftSoFar 5 = .ok (.getfield 47, 3) := by decide +kernel
theorem dX4_leftSoFar_8 : decode cX4_leftSoFar 8 = .ok (.iaload, 1) := by decide +kernel
theorem dX4_leftSoFar_9 : decode cX4_leftSoFar 9 = .ok (.ireturn, 1) := by decide +kernel
theorem dX4_rightSoFar_0 : decode cX4_rightSoFar 0 = .ok (.aload_n 0, 1) := by decide +kernel
theorem dX4_rightSoFar_1 : decode cX4_rightSoFar 1 = .ok (.getfield 27, 3) := by decide +kernel
theorem dX4_rightSoFar_4 : decode cX4_rightSoFar 4 = .ok (.aload_n 0, 1) := by decide +kernel
theorem dX4_rightSoFar_5 : decode cX4_rightSoFar 5 = .ok (.getfield 47, 3) := by decide +kernel
theorem dX4_rightSoFar_8 : decode cX4_rightSoFar 8 = .ok (.iaload, 1) := by decide +kernel
theorem dX4_rightSoFar_9 : decode cX4_rightSoFar 9 = .ok (.ireturn, 1) := by decide +kernel
theorem dX4_passDay_0 : decode cX4_passDay 0 = .ok (.aload_n 0, 1) := by decide +kernel
theorem dX4_passDay_1 : decode cX4_passDay 1 = .ok (.getfield 47, 3) := by decide +kernel
theorem dX4_passDay_4 : decode cX4_passDay 4 = .ok (.bipush 12, 2) := by decide +kernel
theorem dX4_passDay_6 : decode cX4_passDay 6 = .ok (.if_icmp .ge 82, 3) := by decide +kernel
theorem dX4_passDay_9 : decode cX4_passDay 9 = .ok (.aload_n 0, 1) := by decide +kernel
theorem dX4_passDay_10 : decode cX4_passDay 10 = .ok (.getfield 17, 3) := by decide +kernel
theorem dX4_passDay_13 : decode cX4_passDay 13 = .ok (.aload_n 0, 1) := by decide +kernel
theorem dX4_passDay_14 : decode cX4_passDay 14 = .ok (.getfield 47, 3) := by decide +kernel
theorem dX4_passDay_17 : decode cX4_passDay 17 = .ok (.iconst 1, 1) := by decide +kernel
theorem dX4_passDay_18 : decode cX4_passDay 18 = .ok (.iadd, 1) := by decide +kernel
theorem dX4_passDay_19 : decode cX4_passDay 19 = .ok (.iload_n 1, 1) := by decide +kernel
theorem dX4_passDay_20 : decode cX4_passDay 20 = .ok (.iastore, 1) := by decide +kernel
theorem dX4_passDay_21 : decode cX4_passDay 21 = .ok (.aload_n 0, 1) := by decide +kernel
theorem dX4_passDay_22 : decode cX4_passDay 22 = .ok (.getfield 21, 3) := by decide +kernel
theorem dX4_passDay_25 : decode cX4_passDay 25 = .ok (.aload_n 0, 1) := by decide +kernel
theorem dX4_passDay_26 : decode cX4_passDay 26 = .ok (.getfield 47, 3) := by decide +kernel
theorem dX4_passDay_29 : decode cX4_passDay 29 = .ok (.iconst 1, 1) := by decide +kernel
theorem dX4_passDay_30 : decode cX4_passDay 30 = .ok (.iadd, 1) := by decide +kernel
theorem dX4_passDay_31 : decode cX4_passDay 31 = .ok (.iload_n 2, 1) := by decide +kernel
theorem dX4_passDay_32 : decode cX4_passDay 32 = .ok (.iastore, 1) := by decide +kernel
theorem dX4_passDay_33 : decode cX4_passDay 33 = .ok (.aload_n 0, 1) := by decide +kernel
theorem dX4_passDay_34 : decode cX4_passDay 34 = .ok (.getfield 24, 3) := by decide +kernel
theorem dX4_passDay_37 : decode cX4_passDay 37 = .ok (.aload_n 0, 1) := by decide +kernel
theorem dX4_passDay_38 : decode cX4_passDay 38 = .ok (.getfield 47, 3) := by decide +kernel
theorem dX4_passDay_41 : decode cX4_passDay 41 = .ok (.iconst 1, 1) := by decide +kernel
theorem dX4_passDay_42 : decode cX4_passDay 42 = .ok (.iadd, 1) := by decide +kernel
theorem dX4_passDay_43 : decode cX4_passDay 43 = .ok (.aload_n 0, 1) := by decide +kernel
theorem dX4_passDay_44 : decode cX4_passDay 44 = .ok (.getfield 24, 3) := by decide +kernel
theorem dX4_passDay_47 : decode cX4_passDay 47 = .ok (.aload_n 0, 1) := by decide +kernel
theorem dX4_passDay_48 : decode cX4_passDay 48 = .ok (.getfield 47, 3) := by decide +kernel
theorem dX4_passDay_51 : decode cX4_passDay 51 = .ok (.iaload, 1) := by decide +kernel
theorem dX4_passDay_52 : decode cX4_passDay 52 = .ok (.iload_n 3, 1) := by decide +kernel
theorem dX4_passDay_53 : decode cX4_passDay 53 = .ok (.iadd, 1) := by decide +kernel
theorem dX4_passDay_54 : decode cX4_passDay 54 = .ok (.iastore, 1) := by decide +kernel
theorem dX4_passDay_55 : decode cX4_passDay 55 = .ok (.aload_n 0, 1) := by decide +kernel
theorem dX4_passDay_56 : decode cX4_passDay 56 = .ok (.getfield 27, 3) := by decide +kernel
theorem dX4_passDay_59 : decode cX4_passDay 59 = .ok (.aload_n 0, 1) := by decide +kernel
theorem dX4_passDay_60 : decode cX4_passDay 60 = .ok (.getfield 47, 3) := by decide +kernel
theorem dX4_passDay_63 : decode cX4_passDay 63 = .ok (.iconst 1, 1) := by decide +kernel
theorem dX4_passDay_64 : decode cX4_passDay 64 = .ok (.iadd, 1) := by decide +kernel
theorem dX4_passDay_65 : decode cX4_passDay 65 = .ok (.aload_n 0, 1) := by decide +kernel
theorem dX4_passDay_66 : decode cX4_passDay 66 = .ok (.getfield 27, 3) := by decide +kernel
theorem dX4_passDay_69 : decode cX4_passDay 69 = .ok (.aload_n 0, 1) := by decide +kernel
theorem dX4_passDay_70 : decode cX4_passDay 70 = .ok (.getfield 47, 3) := by decide +kernel
theorem dX4_passDay_73 : decode cX4_passDay 73 = .ok (.iaload, 1) := by decide +kernel
theorem dX4_passDay_74 : decode cX4_passDay 74 = .ok (.iload 4, 2) := by decide +kernel
theorem dX4_passDay_76 : decode cX4_passDay 76 = .ok (.iadd, 1) := by decide +kernel
theorem dX4_passDay_77 : decode cX4_passDay 77 = .ok (.iastore, 1) := by decide +kernel
theorem dX4_passDay_78 : decode cX4_passDay 78 = .ok (.aload_n 0, 1) := by decide +kernel
theorem dX4_passDay_79 : decode cX4_passDay 79 = .ok (.dup, 1) := by decide +kernel
theorem dX4_passDay_80 : decode cX4_passDay 80 = .ok (.getfield 47, 3) := by decide +kernel
theorem dX4_passDay_83 : decode cX4_passDay 83 = .ok (.iconst 1, 1) := by decide +kernel
theorem dX4_passDay_84 : decode cX4_passDay 84 = .ok (.iadd, 1) := by decide +kernel
theorem dX4_passDay_85 : decode cX4_passDay 85 = .ok (.putfield 47, 3) := by decide +kernel
theorem dX4_passDay_88 : decode cX4_passDay 88 = .ok (.return_, 1) := by decide +kernel
theorem dX4_daysOf_0 : decode cX4_daysOf 0 = .ok (.iload_n 1, 1) := by decide +kernel
theorem dX4_daysOf_1 : decode cX4_daysOf 1 = .ok (.bipush 12, 2) := by decide +kernel
theorem dX4_daysOf_3 : decode cX4_daysOf 3 = .ok (.aload_n 0, 1) := by decide +kernel
theorem dX4_daysOf_4 : decode cX4_daysOf 4 = .ok (.getfield 47, 3) := by decide +kernel
theorem dX4_daysOf_7 : decode cX4_daysOf 7 = .ok (.isub, 1) := by decide +kernel
theorem dX4_daysOf_8 : decode cX4_daysOf 8 = .ok (.invokestatic 56, 3) := by decide +kernel
theorem dX4_daysOf_11 : decode cX4_daysOf 11 = .ok (.ireturn, 1) := by decide +kernel
set_option maxRecDepth 20000 in
theorem ggX4_lowestOn_X4_endOn : GoodIn wsX4_lowestOn wsX4_endOn := goodIn_r _ [5, 6, 7, 8, 15, 16, 17, 18, 19, 20, 21, 22, 23, 24, 25] (by decide +kernel) (by decide +kernel)
set_option maxRecDepth 20000 in
theorem gX4_lowestOn_X4_endOn : GoodIn wsX4_lowestOn (wsV RX4 62 RX4 yX4_endOn wsX4_endOn) := goodIn_app (goodIn_of _ (by decide +kernel)) ggX4_lowestOn_X4_endOn
set_option maxRecDepth 20000 in
theorem ggX4_lowestOn_X4_isOpen : GoodIn wsX4_lowestOn wsX4_isOpen := goodIn_r _ [12, 13, 14, 15, 16, 17, 18, 19, 20, 21, 22, 23, 24, 25] (by decide +kernel) (by decide +kernel)
set_option maxRecDepth 20000 in
theorem gX4_lowestOn_X4_isOpen : GoodIn wsX4_lowestOn (wsV RX4 66 RX4 yX4_isOpen wsX4_isOpen) := goodIn_app (goodIn_of _ (by decide +kernel)) ggX4_lowestOn_X4_isOpen
theorem dX4_lowestOn_0 : decode cX4_lowestOn 0 = .ok (.aload_n 0, 1) := by decide +kernel
theorem dX4_lowestOn_1 : decode cX4_lowestOn 1 = .ok (.iload_n 1, 1) := by decide +kernel
theorem dX4_lowestOn_2 : decode cX4_lowestOn 2 = .ok (.invokevirtual 62, 3) := by decide +kernel
theorem dX4_lowestOn_5 : decode cX4_lowestOn 5 = .ok (.istore_n 3, 1) := by decide +kernel
theorem dX4_lowestOn_6 : decode cX4_lowestOn 6 = .ok (.iconst 0, 1) := by decide +kernel
theorem dX4_lowestOn_7 : decode cX4_lowestOn 7 = .ok (.istore 4, 2) := by decide +kernel
theorem dX4_lowestOn_9 : decode cX4_lowestOn 9 = .ok (.iload 4, 2) := by decide +kernel
theorem dX4_lowestOn_11 : decode cX4_lowestOn 11 = .ok (.iload_n 2, 1) := by decide +kernel
theorem dX4_lowestOn_12 : decode cX4_lowestOn 12 = .ok (.if_icmp .ge 23, 3) := by decide +kernel
theorem dX4_lowestOn_15 : decode cX4_lowestOn 15 = .ok (.aload_n 0, 1) := by decide +kernel
theorem dX4_lowestOn_16 : decode cX4_lowestOn 16 = .ok (.iload_n 1, 1) := by decide +kernel
theorem dX4_lowestOn_17 : decode cX4_lowestOn 17 = .ok (.iload_n 3, 1) := by decide +kernel
theorem dX4_lowestOn_18 : decode cX4_lowestOn 18 = .ok (.iconst 1, 1) := by decide +kernel
theorem dX4_lowestOn_19 : decode cX4_lowestOn 19 = .ok (.isub, 1) := by decide +kernel
theorem dX4_lowestOn_20 : decode cX4_lowestOn 20 = .ok (.invokevirtual 66, 3) := by decide +kernel
theorem dX4_lowestOn_23 : decode cX4_lowestOn 23 = .ok (.ifCond .eq 12, 3) := by decide +kernel
theorem dX4_lowestOn_26 : decode cX4_lowestOn 26 = .ok (.iinc 3 (-1), 3) := by decide +kernel
theorem dX4_lowestOn_29 : decode cX4_lowestOn 29 = .ok (.iinc 4 1, 3) := by decide +kernel
theorem dX4_lowestOn_32 : decode cX4_lowestOn 32 = .ok (.goto (-23), 3) := by decide +kernel
theorem dX4_lowestOn_35 : decode cX4_lowestOn 35 = .ok (.iload_n 3, 1) := by decide +kernel
theorem dX4_lowestOn_36 : decode cX4_lowestOn 36 = .ok (.ireturn, 1) := by decide +kernel
set_option maxRecDepth 20000 in
theorem ggX4_highestOn_X4_endOn : GoodIn wsX4_highestOn wsX4_endOn := goodIn_r _ [5, 6, 7, 8, 15, 16, 17, 18, 19, 20, 21, 22, 23, 24, 25] (by decide +kernel) (by decide +kernel)
set_option maxRecDepth 20000 in
theorem gX4_highestOn_X4_endOn : GoodIn wsX4_highestOn (wsV RX4 62 RX4 yX4_endOn wsX4_endOn) := goodIn_app (goodIn_of _ (by decide +kernel)) ggX4_highestOn_X4_endOn
set_option maxRecDepth 20000 in
theorem ggX4_highestOn_X4_isOpen : GoodIn wsX4_highestOn wsX4_isOpen := goodIn_r _ [12, 13, 14, 15, 16, 17, 18, 19, 20, 21, 22, 23, 24, 25] (by decide +kernel) (by decide +kernel)
set_option maxRecDepth 20000 in
theorem gX4_highestOn_X4_isOpen : GoodIn wsX4_highestOn (wsV RX4 66 RX4 yX4_isOpen wsX4_isOpen) := goodIn_app (goodIn_of _ (by decide +kernel)) ggX4_highestOn_X4_isOpen
theorem dX4_highestOn_0 : decode cX4_highestOn 0 = .ok (.aload_n 0, 1) := by decide +kernel
theorem dX4_highestOn_1 : decode cX4_highestOn 1 = .ok (.iload_n 1, 1) := by decide +kernel
theorem dX4_highestOn_2 : decode cX4_highestOn 2 = .ok (.invokevirtual 62, 3) := by decide +kernel
theorem dX4_highestOn_5 : decode cX4_highestOn 5 = .ok (.istore_n 3, 1) := by decide +kernel
theorem dX4_highestOn_6 : decode cX4_highestOn 6 = .ok (.iconst 0, 1) := by decide +kernel
theorem dX4_highestOn_7 : decode cX4_highestOn 7 = .ok (.istore 4, 2) := by decide +kernel
theorem dX4_highestOn_9 : decode cX4_highestOn 9 = .ok (.iload 4, 2) := by decide +kernel
theorem dX4_highestOn_11 : decode cX4_highestOn 11 = .ok (.iload_n 2, 1) := by decide +kernel
theorem dX4_highestOn_12 : decode cX4_highestOn 12 = .ok (.if_icmp .ge 23, 3) := by decide +kernel
theorem dX4_highestOn_15 : decode cX4_highestOn 15 = .ok (.aload_n 0, 1) := by decide +kernel
theorem dX4_highestOn_16 : decode cX4_highestOn 16 = .ok (.iload_n 1, 1) := by decide +kernel
theorem dX4_highestOn_17 : decode cX4_highestOn 17 = .ok (.iload_n 3, 1) := by decide +kernel
theorem dX4_highestOn_18 : decode cX4_highestOn 18 = .ok (.iconst 1, 1) := by decide +kernel
theorem dX4_highestOn_19 : decode cX4_highestOn 19 = .ok (.iadd, 1) := by decide +kernel
theorem dX4_highestOn_20 : decode cX4_highestOn 20 = .ok (.invokevirtual 66, 3) := by decide +kernel
theorem dX4_highestOn_23 : decode cX4_highestOn 23 = .ok (.ifCond .eq 12, 3) := by decide +kernel
theorem dX4_highestOn_26 : decode cX4_highestOn 26 = .ok (.iinc 3 1, 3) := by decide +kernel
theorem dX4_highestOn_29 : decode cX4_highestOn 29 = .ok (.iinc 4 1, 3) := by decide +kernel
theorem dX4_highestOn_32 : decode cX4_highestOn 32 = .ok (.goto (-23), 3) := by decide +kernel
theorem dX4_highestOn_35 : decode cX4_highestOn 35 = .ok (.iload_n 3, 1) := by decide +kernel
theorem dX4_highestOn_36 : decode cX4_highestOn 36 = .ok (.ireturn, 1) := by decide +kernel
theorem dX5_init_0 : decode cX5_init 0 = .ok (.aload_n 0, 1) := by decide +kernel
theorem dX5_init_1 : decode cX5_init 1 = .ok (.invokespecial 3, 3) := by decide +kernel
theorem dX5_init_4 : decode cX5_init 4 = .ok (.aload_n 0, 1) := by decide +kernel
theorem dX5_init_5 : decode cX5_init 5 = .ok (.sipush 400, 3) := by decide +kernel
theorem dX5_init_8 : decode cX5_init 8 = .ok (.newarray .byte, 2) := by decide +kernel
theorem dX5_init_10 : decode cX5_init 10 = .ok (.putfield 9, 3) := by decide +kernel
theorem dX5_init_13 : decode cX5_init 13 = .ok (.return_, 1) := by decide +kernel
theorem dX5_append_0 : decode cX5_append 0 = .ok (.iload_n 3, 1) := by decide +kernel
theorem dX5_append_1 : decode cX5_append 1 = .ok (.iconst 1, 1) := by decide +kernel
theorem dX5_append_2 : decode cX5_append 2 = .ok (.isub, 1) := by decide +kernel
theorem dX5_append_3 : decode cX5_append 3 = .ok (.istore 4, 2) := by decide +kernel
theorem dX5_append_5 : decode cX5_append 5 = .ok (.iload 4, 2) := by decide +kernel
theorem dX5_append_7 : decode cX5_append 7 = .ok (.ifCond .lt 47, 3) := by decide +kernel
theorem dX5_append_10 : decode cX5_append 10 = .ok (.aload_n 0, 1) := by decide +kernel
theorem dX5_append_11 : decode cX5_append 11 = .ok (.getfield 15, 3) := by decide +kernel
theorem dX5_append_14 : decode cX5_append 14 = .ok (.sipush 400, 3) := by decide +kernel
theorem dX5_append_17 : decode cX5_append 17 = .ok (.if_icmp .ge 37, 3) := by decide +kernel
theorem dX5_append_20 : decode cX5_append 20 = .ok (.aload_n 0, 1) := by decide +kernel
theorem dX5_append_21 : decode cX5_append 21 = .ok (.getfield 9, 3) := by decide +kernel
theorem dX5_append_24 : decode cX5_append 24 = .ok (.aload_n 0, 1) := by decide +kernel
theorem dX5_append_25 : decode cX5_append 25 = .ok (.getfield 15, 3) := by decide +kernel
theorem dX5_append_28 : decode cX5_append 28 = .ok (.lload_n 1, 1) := by decide +kernel
theorem dX5_append_29 : decode cX5_append 29 = .ok (.bipush 8, 2) := by decide +kernel
theorem dX5_append_31 : decode cX5_append 31 = .ok (.iload 4, 2) := by decide +kernel
theorem dX5_append_33 : decode cX5_append 33 = .ok (.imul, 1) := by decide +kernel
theorem dX5_append_34 : decode cX5_append 34 = .ok (.lushr, 1) := by decide +kernel
theorem dX5_append_35 : decode cX5_append 35 = .ok (.l2i, 1) := by decide +kernel
theorem dX5_append_36 : decode cX5_append 36 = .ok (.i2b, 1) := by decide +kernel
theorem dX5_append_37 : decode cX5_append 37 = .ok (.bastore, 1) := by decide +kernel
theorem dX5_append_38 : decode cX5_append 38 = .ok (.aload_n 0, 1) := by decide +kernel
theorem dX5_append_39 : decode cX5_append 39 = .ok (.dup, 1) := by decide +kernel
theorem dX5_append_40 : decode cX5_append 40 = .ok (.getfield 15, 3) := by decide +kernel
theorem dX5_append_43 : decode cX5_append 43 = .ok (.iconst 1, 1) := by decide +kernel
theorem dX5_append_44 : decode cX5_append 44 = .ok (.iadd, 1) := by decide +kernel
theorem dX5_append_45 : decode cX5_append 45 = .ok (.putfield 15, 3) := by decide +kernel
theorem dX5_append_48 : decode cX5_append 48 = .ok (.iinc 4 (-1), 3) := by decide +kernel
theorem dX5_append_51 : decode cX5_append 51 = .ok (.goto (-46), 3) := by decide +kernel
theorem dX5_append_54 : decode cX5_append 54 = .ok (.return_, 1) := by decide +kernel
set_option maxRecDepth 20000 in
theorem ggX5_readsInto_X4_begin : GoodIn wsX5_readsInto wsX4_begin := goodIn_r _ [7, 8, 9, 10, 11, 12, 13, 14, 15, 16, 17, 195, 196, 197, 198, 199, 200, 201, 202, 203, 204, 205] (by decide +kernel) (by decide +kernel)
set_option maxRecDepth 20000 in
theorem gX5_readsInto_X4_begin_n22 : GoodIn wsX5_readsInto (wsX4_begin) := ggX5_readsInto_X4_begin
set_option maxRecDepth 20000 in
theorem ggX5_readsInto_X5_readFence : GoodIn wsX5_readsInto wsX5_readFence := goodIn_r _ [22, 23, 24, 25, 26, 21, 27, 1, 28, 3, 2, 29, 30, 31, 32, 33, 34, 35, 36, 37, 38, 39, 40, 41, 42, 43, 44, 45, 46, 47, 48, 49, 50, 51, 52, 53, 54, 55, 56, 57, 58, 59, 60, 61, 62, 63, 64, 65, 66, 67, 68, 69, 70, 71, 72, 73, 74, 75, 76, 77, 78, 79, 80, 81, 82, 83, 84, 85, 86, 87, 88, 89, 90, 91, 92, 93, 94, 95, 96, 97, 98, 99, 100, 101, 102, 103, 104, 105, 106, 107, 108, 109, 110, 111, 5, 112, 113, 14, 15, 114, 115, 116, 117, 187, 188, 189, 190, 191, 192, 193, 194, 195, 196, 197, 198, 199, 200, 201, 202, 203, 204, 205] (by decide +kernel) (by decide +kernel)
set_option maxRecDepth 20000 in
theorem gX5_readsInto_X5_readFence : GoodIn wsX5_readsInto (wsV RX5 27 RX5 yX5_readFence wsX5_readFence) := goodIn_app (goodIn_of _ (by decide +kernel)) ggX5_readsInto_X5_readFence
set_option maxRecDepth 20000 in
theorem ggX5_readsInto_X5_nextToken : GoodIn wsX5_readsInto wsX5_nextToken := goodIn_r _ [27, 1, 28, 3, 2, 29, 30, 31, 32, 21, 33, 34, 35, 36, 37, 38, 39, 40, 41, 42, 43, 44, 45, 46, 47, 23, 187, 188, 189, 190, 191, 192, 193, 194] (by decide +kernel) (by decide +kernel)
set_option maxRecDepth 20000 in
theorem gX5_readsInto_X5_nextToken : GoodIn wsX5_readsInto (wsV RX5 35 RX5 yX5_nextToken wsX5_nextToken) := goodIn_app (goodIn_of _ (by decide +kernel)) ggX5_readsInto_X5_nextToken
set_option maxRecDepth 20000 in
theorem ggX5_readsInto_X5_isWord : GoodIn wsX5_readsInto wsX5_isWord := goodIn_r _ [51, 2, 1, 28, 29, 52, 53, 54, 55, 56, 57, 58, 59, 60, 61, 62, 63, 64, 65, 66, 67, 68, 69, 70, 71, 72, 73, 74, 75, 76, 77, 78, 79, 80, 81, 82, 83, 84, 85, 86, 87, 88, 89, 90, 91, 92, 93, 94, 95, 96, 97, 98, 99, 100, 187, 188, 189, 190, 191, 192, 193, 194] (by decide +kernel) (by decide +kernel)
set_option maxRecDepth 20000 in
theorem gX5_readsInto_X5_isWord : GoodIn wsX5_readsInto (wsV RX5 43 RX5 yX5_isWord wsX5_isWord) := goodIn_app (goodIn_of _ (by decide +kernel)) ggX5_readsInto_X5_isWord
set_option maxRecDepth 20000 in
theorem ggX5_readsInto_X5_readPond : GoodIn wsX5_readsInto wsX5_readPond := goodIn_r _ [121, 23, 101, 102, 103, 21, 104, 105, 28, 106, 107, 108, 109, 110, 2, 24, 25, 26, 27, 1, 3, 29, 30, 31, 32, 33, 34, 35, 36, 37, 38, 39, 40, 41, 42, 43, 44, 45, 46, 47, 122, 5, 123, 124, 14, 13, 15, 125, 126, 127, 11, 12, 10, 114, 115, 116, 117, 195, 196, 197, 198, 199, 200, 201, 202, 203, 204, 205, 187, 188, 189, 190, 191, 192, 193, 194] (by decide +kernel) (by decide +kernel)
set_option maxRecDepth 20000 in
theorem gX5_readsInto_X5_readPond : GoodIn wsX5_readsInto (wsV RX5 50 RX5 yX5_readPond wsX5_readPond) := goodIn_app (goodIn_of _ (by decide +kernel)) ggX5_readsInto_X5_readPond
set_option maxRecDepth 20000 in
theorem ggX5_readsInto_X5_readStrip : GoodIn wsX5_readsInto wsX5_readStrip := goodIn_r _ [131, 23, 101, 102, 103, 21, 104, 105, 28, 106, 24, 25, 26, 27, 1, 3, 2, 29, 30, 31, 32, 33, 34, 35, 36, 37, 38, 39, 40, 41, 42, 43, 44, 45, 46, 47, 132, 133, 134, 135, 48, 49, 50, 51, 52, 53, 54, 55, 56, 57, 58, 59, 60, 61, 62, 63, 64, 65, 66, 67, 68, 69, 70, 71, 72, 73, 74, 75, 76, 77, 78, 79, 80, 81, 82, 83, 84, 85, 86, 87, 88, 89, 90, 91, 92, 93, 94, 95, 96, 97, 98, 99, 100, 107, 108, 109, 110, 136, 137, 138, 139, 140, 141, 142, 143, 144, 145, 146, 147, 148, 149, 150, 151, 152, 153, 154, 155, 156, 157, 158, 159, 160, 161, 162, 163, 164, 165, 166, 167, 168, 169, 170, 171, 172, 173, 174, 175, 176, 177, 178, 179, 180, 181, 182, 183, 5, 184, 185, 9, 186, 114, 115, 116, 117, 195, 196, 197, 198, 199, 200, 201, 202, 203, 204, 205, 187, 188, 189, 190, 191, 192, 193, 194, 206, 207, 208, 209, 210, 211, 212, 213, 214, 215, 216, 217, 218, 219, 220] (by decide +kernel) (by decide +kernel)
set_option maxRecDepth 20000 in
theorem gX5_readsInto_X5_readStrip : GoodIn wsX5_readsInto (wsV RX5 55 RX5 yX5_readStrip wsX5_readStrip) := goodIn_app (goodIn_of _ (by decide +kernel)) ggX5_readsInto_X5_readStrip
set_option maxRecDepth 20000 in
theorem ggX5_readsInto_X5_fail : GoodIn wsX5_readsInto wsX5_fail := goodIn_r _ [104, 105, 28, 106, 187, 188, 189, 190, 191, 192, 193, 194] (by decide +kernel) (by decide +kernel)
set_option maxRecDepth 20000 in
theorem gX5_readsInto_X5_fail : GoodIn wsX5_readsInto (wsV RX5 58 RX5 yX5_fail wsX5_fail) := goodIn_app (goodIn_of _ (by decide +kernel)) ggX5_readsInto_X5_fail
theorem dX5_readsInto_0 : decode cX5_readsInto 0 = .ok (.aload_n 0, 1) := by decide +kernel
theorem dX5_readsInto_1 : decode cX5_readsInto 1 = .ok (.iconst 0, 1) := by decide +kernel
theorem dX5_readsInto_2 : decode cX5_readsInto 2 = .ok (.putfield 19, 3) := by decide +kernel
theorem dX5_readsInto_5 : decode cX5_readsInto 5 = .ok (.aload_n 1, 1) := by decide +kernel
theorem dX5_readsInto_6 : decode cX5_readsInto 6 = .ok (.invokevirtual 22, 3) := by decide +kernel
theorem dX5_readsInto_9 : decode cX5_readsInto 9 = .ok (.aload_n 0, 1) := by decide +kernel
theorem dX5_readsInto_10 : decode cX5_readsInto 10 = .ok (.aload_n 1, 1) := by decide +kernel
theorem dX5_readsInto_11 : decode cX5_readsInto 11 = .ok (.invokevirtual 27, 3) := by decide +kernel
theorem dX5_readsInto_14 : decode cX5_readsInto 14 = .ok (.istore_n 2, 1) := by decide +kernel
theorem dX5_readsInto_15 : decode cX5_readsInto 15 = .ok (.iconst 0, 1) := by decide +kernel
theorem dX5_readsInto_16 : decode cX5_readsInto 16 = .ok (.istore_n 3, 1) := by decide +kernel
theorem dX5_readsInto_17 : decode cX5_readsInto 17 = .ok (.iload_n 3, 1) := by decide +kernel
theorem dX5_readsInto_18 : decode cX5_readsInto 18 = .ok (.sipush 400, 3) := by decide +kernel
theorem dX5_readsInto_21 : decode cX5_readsInto 21 = .ok (.if_icmp .ge 87, 3) := by decide +kernel
theorem dX5_readsInto_24 : decode cX5_readsInto 24 = .ok (.iload_n 2, 1) := by decide +kernel
theorem dX5_readsInto_25 : decode cX5_readsInto 25 = .ok (.ifCond .eq 83, 3) := by decide +kernel
theorem dX5_readsInto_28 : decode cX5_readsInto 28 = .ok (.aload_n 1, 1) := by decide +kernel
theorem dX5_readsInto_29 : decode cX5_readsInto 29 = .ok (.getfield 31, 3) := by decide +kernel
theorem dX5_readsInto_32 : decode cX5_readsInto 32 = .ok (.ifCond .ne 76, 3) := by decide +kernel
theorem dX5_readsInto_35 : decode cX5_readsInto 35 = .ok (.aload_n 0, 1) := by decide +kernel
theorem dX5_readsInto_36 : decode cX5_readsInto 36 = .ok (.invokevirtual 35, 3) := by decide +kernel
theorem dX5_readsInto_39 : decode cX5_readsInto 39 = .ok (.aload_n 0, 1) := by decide +kernel
theorem dX5_readsInto_40 : decode cX5_readsInto 40 = .ok (.getfield 38, 3) := by decide +kernel
theorem dX5_readsInto_43 : decode cX5_readsInto 43 = .ok (.ifCond .ne 11, 3) := by decide +kernel
theorem dX5_readsInto_46 : decode cX5_readsInto 46 = .ok (.aload_n 1, 1) := by decide +kernel
theorem dX5_readsInto_47 : decode cX5_readsInto 47 = .ok (.iconst 1, 1) := by decide +kernel
theorem dX5_readsInto_48 : decode cX5_readsInto 48 = .ok (.putfield 31, 3) := by decide +kernel
theorem dX5_readsInto_51 : decode cX5_readsInto 51 = .ok (.goto 51, 3) := by decide +kernel
theorem dX5_readsInto_54 : decode cX5_readsInto 54 = .ok (.aload_n 0, 1) := by decide +kernel
theorem dX5_readsInto_55 : decode cX5_readsInto 55 = .ok (.ldc 41, 2) := by decide +kernel
theorem dX5_readsInto_57 : decode cX5_readsInto 57 = .ok (.invokevirtual 43, 3) := by decide +kernel
theorem dX5_readsInto_60 : decode cX5_readsInto 60 = .ok (.ifCond .eq 19, 3) := by decide +kernel
theorem dX5_readsInto_63 : decode cX5_readsInto 63 = .ok (.aload_n 1, 1) := by decide +kernel
theorem dX5_readsInto_64 : decode cX5_readsInto 64 = .ok (.getfield 47, 3) := by decide +kernel
theorem dX5_readsInto_67 : decode cX5_readsInto 67 = .ok (.ifCond .ne 12, 3) := by decide +kernel
theorem dX5_readsInto_70 : decode cX5_readsInto 70 = .ok (.aload_n 0, 1) := by decide +kernel
theorem dX5_readsInto_71 : decode cX5_readsInto 71 = .ok (.aload_n 1, 1) := by decide +kernel
theorem dX5_readsInto_72 : decode cX5_readsInto 72 = .ok (.invokevirtual 50, 3) := by decide +kernel
theorem dX5_readsInto_75 : decode cX5_readsInto 75 = .ok (.istore_n 2, 1) := by decide +kernel
theorem dX5_readsInto_76 : decode cX5_readsInto 76 = .ok (.goto 26, 3) := by decide +kernel
theorem dX5_readsInto_79 : decode cX5_readsInto 79 = .ok (.aload_n 0, 1) := by decide +kernel
theorem dX5_readsInto_80 : decode cX5_readsInto 80 = .ok (.ldc 53, 2) := by decide +kernel
theorem dX5_readsInto_82 : decode cX5_readsInto 82 = .ok (.invokevirtual 43, 3) := by decide +kernel
theorem dX5_readsInto_85 : decode cX5_readsInto 85 = .ok (.ifCond .eq 11, 3) := by decide +kernel
theorem dX5_readsInto_88 : decode cX5_readsInto 88 = .ok (.aload_n 0, 1) := by decide +kernel
theorem dX5_readsInto_89 : decode cX5_readsInto 89 = .ok (.aload_n 1, 1) := by decide +kernel
theorem dX5_readsInto_90 : decode cX5_readsInto 90 = .ok (.invokevirtual 55, 3) := by decide +kernel
theorem dX5_readsInto_93 : decode cX5_readsInto 93 = .ok (.goto 8, 3) := by decide +kernel
theorem dX5_readsInto_96 : decode cX5_readsInto 96 = .ok (.aload_n 0, 1) := by decide +kernel
theorem dX5_readsInto_97 : decode cX5_readsInto 97 = .ok (.iconst 1, 1) := by decide +kernel
theorem dX5_readsInto_98 : decode cX5_readsInto 98 = .ok (.invokevirtual 58, 3) := by decide +kernel
theorem dX5_readsInto_101 : decode cX5_readsInto 101 = .ok (.istore_n 2, 1) := by decide +kernel
theorem dX5_readsInto_102 : decode cX5_readsInto 102 = .ok (.iinc 3 1, 3) := by decide +kernel
theorem dX5_readsInto_105 : decode cX5_readsInto 105 = .ok (.goto (-88), 3) := by decide +kernel
theorem dX5_readsInto_108 : decode cX5_readsInto 108 = .ok (.aload_n 0, 1) := by decide +kernel
theorem dX5_readsInto_109 : decode cX5_readsInto 109 = .ok (.iconst 0, 1) := by decide +kernel
theorem dX5_readsInto_110 : decode cX5_readsInto 110 = .ok (.putfield 15, 3) := by decide +kernel
theorem dX5_readsInto_113 : decode cX5_readsInto 113 = .ok (.aload_n 1, 1) := by decide +kernel
theorem dX5_readsInto_114 : decode cX5_readsInto 114 = .ok (.getfield 31, 3) := by decide +kernel
theorem dX5_readsInto_117 : decode cX5_readsInto 117 = .ok (.ireturn, 1) := by decide +kernel
