/-! ===== the JDK's own methods: Arrays.fill of ints, length and charAt of the eight texts ===== -/
def f_fill_5 (q ln : Nat) (x1 : Int32) : Nat → Hp → Int32 → Option Hp
  | 0, _, _ => none
  | n + 1, σ, x2 => if Int32.ofNat ln ≤ x2 then some σ else chk (inb x2 ln) <| f_fill_5 q ln x1 n (sI σ q x2.toNatClampNeg x1) (x2 + 1)
def f_fill (σ : Hp) (q ln : Nat) (x1 : Int32) : Option Hp := f_fill_5 q ln x1 fu σ 0
set_option maxRecDepth 100000 in
theorem w_fill_5 {G : GT} {p : Program} {l : Launch} {e : Env} {s : State} {m : MethodId} {args : Array Value} {below : List Frame} {meth : Method} {c : Code} {q ln : Nat} {σ' : Hp} {x1 : Int32} (C0 : Cx G cJ7_fill_53178 RJ7 wsJ7_fill_53178 4 none p s m args meth c) :
    ∀ (n : Nat) (σ : Hp) (x2 : Int32), f_fill_5 q ln x1 n σ x2 = some σ' → kd σ q = (13, ln) → ∀ (H : Heap) (locs : List Loc), Inv G s σ H locs → ∀ ls : Array Slot, lv_has ls 4 [(0, .ref (G.1 + q)), (1, .int x1), (2, .int x2), (3, .int (Int32.ofNat ln))] → W p l e (rmk 0 0) s m args below meth c H locs 0 0 (MQ below (QV G σ') args s (rmk 0 0).cells (rmk 0 0).slots (gA G)) (F0 m 5 ls []) := by
  obtain ⟨hx, hb, hr, hml, hown, hts, hlk, hK, hG⟩ := id C0
  intro n
  induction n with
  | zero =>
    intro σ x2 hf
    cases hf
  | succ n ih =>
    intro σ x2 hf hk H locs hI ls hl
    rw [f_fill_5] at hf
    refine lv_iload_n hx hb dJ7_fill_53178_5 rfl (lv_at hl 2 rfl) ?_
    refine lv_iload_n hx hb dJ7_fill_53178_6 rfl (lv_at hl 3 rfl) ?_
    refine lv_icmp_ge (tgt := 20) hx hb dJ7_fill_53178_7 (by decide) (fun c1 => ?_) (fun c1 => ?_)
    · have hf := ok_t c1 hf
      cases hf
      exact z_vret hx hb hr hlk hK hG hI dJ7_fill_53178_20
    · have hf := ok_f c1 hf
      refine lv_aload_n hx hb dJ7_fill_53178_10 rfl (lv_at hl 0 rfl) ?_
      refine lv_iload_n hx hb dJ7_fill_53178_11 rfl (lv_at hl 2 rfl) ?_
      refine lv_iload_n hx hb dJ7_fill_53178_12 rfl (lv_at hl 1 rfl) ?_
      obtain ⟨h1, hf⟩ := ok_c hf
      refine z_iast hx hb hK hI q (k := x2.toNatClampNeg) hk h1 rfl dJ7_fill_53178_13 (fun H locs hI => ?_)
      refine lv_iinc (v := x2 + 1) (lv' := [(2, .int (x2 + 1)), (0, .ref (G.1 + q)), (1, .int x1), (3, .int (Int32.ofNat ln))]) hx hb dJ7_fill_53178_14 hl (k := 2) rfl rfl (by decide) rfl (fun ls hl => ?_)
      refine lv_goto (tgt := 5) hx hb dJ7_fill_53178_17 (by decide) ?_
      exact ih _ _ hf hk _ _ hI _ (lv_sub hl [1, 2, 0, 3] rfl)
set_option maxRecDepth 100000 in
theorem m_fill (G : GT) (l : Launch) {σ σ' : Hp} {q ln : Nat} {x1 : Int32} (hk : kd σ q = (13, ln)) (hf : f_fill σ q ln x1 = some σ') : MetG G l yJ7_fill_53178 wsJ7_fill_53178 (rmk 0 0) σ [.ref (G.1 + q), .int x1] (QV G σ') := by
  refine met_of (cc := cJ7_fill_53178) (nL := 4) (ret := none) (by decide) rfl (Nat.le_of_ble_eq_true rfl) ?_
  intro p e s m below meth c C0 hnm hI ls hl
  obtain ⟨hx, hb, hr, hml, hown, hts, hlk, hK, hG⟩ := id C0
  have hl : lv_has ls 4 [(0, .ref (G.1 + q)), (1, .int x1)] := hl
  unfold f_fill at hf
  refine lv_iconst (v := 0) hx hb dJ7_fill_53178_0 (by decide) ?_
  refine lv_istore_n (lv' := [(2, .int 0), (0, .ref (G.1 + q)), (1, .int x1)]) hx hb dJ7_fill_53178_1 rfl hl (by decide) rfl (fun ls hl => ?_)
  refine lv_aload_n hx hb dJ7_fill_53178_2 rfl (lv_at hl 1 rfl) ?_
  refine z_alen hx hb hK hI q hk (v := Int32.ofNat ln) rfl dJ7_fill_53178_3 ?_
  refine lv_istore_n (lv' := [(3, .int (Int32.ofNat ln)), (2, .int 0), (0, .ref (G.1 + q)), (1, .int x1)]) hx hb dJ7_fill_53178_4 rfl hl (by decide) rfl (fun ls hl => ?_)
  exact w_fill_5 C0 _ _ _ hf hk _ _ hI _ (lv_sub hl [2, 3, 1, 0] rfl)
/-! texts -/
def sLen (w : Nat) : Int32 := Int32.ofNat (sLn.getD w 0)
def sChar (w k : Nat) : Int32 := (sBy.getD w []).getD k 0 &&& 255
theorem z_nret {G : GT} {p : Program} {l : Launch} {e : Env} {R : Room} {s : State} {m : MethodId} {args : Array Value} {below : List Frame} {meth : Method} {c : Code} {H : Heap} {locs : List Loc} {cells slots : Nat} {cc : ByteArray} {pc : Nat} {ls : Array Slot} {σ : Hp} {r : Int32} {ty : FieldType} (hx : p.tables.exec = Jvm.exec) (hb : c.code = cc) (hr : meth.sig.returnType = some ty) (hn : narrow ty (.int r) = .int r) (hlk : meth.locks = false) (hK : va_K G.2.1 vwCl (tys G.2.2.1) s) (hG : Gl G s) (hI : Inv G s σ H locs) (hdg : decode cc pc = .ok (.ireturn, 1)) : W p l e R s m args below meth c H locs cells slots (MQ below (QI G σ r) args s cells slots (gA G)) (F0 m pc ls [.int r]) :=
  W.zret hx hb hr hn (fun t ht hW => ⟨⟨r, (), rfl, rfl, cpre_of hK hG hI ht hW⟩, hI.2.2.1.F ht⟩) hI.2.2.1.2.2 hdg hlk
set_option maxRecDepth 100000 in
theorem m_coder (G : GT) (l : Launch) {σ : Hp} {w : Nat} (hw : w < 8) : MetG G l yJ0_coder_7d493 wsJ0_coder_7d493 (rmk 0 0) σ [.ref (G.2.2.2.1 w)] (QI G σ 0) := by
  refine met_of (cc := cJ0_coder_7d493) (nL := 1) (ret := (some .byte)) (by decide) rfl (Nat.le_of_ble_eq_true rfl) ?_
  intro p e s m below meth c C0 hnm hI ls hl
  obtain ⟨hx, hb, hr, hml, hown, hts, hlk, hK, hG⟩ := id C0
  have hl : lv_has ls 1 [(0, .ref (G.2.2.2.1 w))] := hl
  have hZ := hG.2.2.2.2.2.1
  have hT := hG.2.2.2.2.1.1 w hw
  refine va_gets hx hb hZ hI.2.2.1 hown (hts (.fieldLink RJ0 38 "java/lang/String" "COMPACT_STRINGS" "Z") (by decide +kernel)) (fun _ h9 => h9) dJ0_coder_7d493_0 ?_
  refine lv_if_eq (tgt := 13) hx hb dJ0_coder_7d493_3 (by decide) (fun c1 => absurd c1 (by decide)) (fun c1 => ?_)
  refine lv_aload_n hx hb dJ0_coder_7d493_6 rfl (lv_at hl 0 rfl) ?_
  refine vk_getf hx hb hT.2.1 hI.2.2.1 hown (hts (.fieldLink RJ0 15 "java/lang/String" "coder" "B") (by decide +kernel)) (fun _ h9 => h9) dJ0_coder_7d493_7 ?_
  refine lv_goto (tgt := 14) hx hb dJ0_coder_7d493_10 (by decide) ?_
  exact z_nret hx hb hr rfl hlk hK hG hI dJ0_coder_7d493_14
set_option maxRecDepth 100000 in
theorem m_isLatin (G : GT) (l : Launch) {σ : Hp} {w : Nat} (hw : w < 8) : MetG G l yJ0_isLatin1_aae02 wsJ0_isLatin1_aae02 (rmk 0 0) σ [.ref (G.2.2.2.1 w)] (QI G σ 1) := by
  refine met_of (cc := cJ0_isLatin1_aae02) (nL := 1) (ret := (some .boolean)) (by decide) rfl (Nat.le_of_ble_eq_true rfl) ?_
  intro p e s m below meth c C0 hnm hI ls hl
  obtain ⟨hx, hb, hr, hml, hown, hts, hlk, hK, hG⟩ := id C0
  have hl : lv_has ls 1 [(0, .ref (G.2.2.2.1 w))] := hl
  have hZ := hG.2.2.2.2.2.1
  have hT := hG.2.2.2.2.1.1 w hw
  refine va_gets hx hb hZ hI.2.2.1 hown (hts (.fieldLink RJ0 38 "java/lang/String" "COMPACT_STRINGS" "Z") (by decide +kernel)) (fun _ h9 => h9) dJ0_isLatin1_aae02_0 ?_
  refine lv_if_eq (tgt := 17) hx hb dJ0_isLatin1_aae02_3 (by decide) (fun c1 => absurd c1 (by decide)) (fun c1 => ?_)
  refine lv_aload_n hx hb dJ0_isLatin1_aae02_6 rfl (lv_at hl 0 rfl) ?_
  refine vk_getf hx hb hT.2.1 hI.2.2.1 hown (hts (.fieldLink RJ0 15 "java/lang/String" "coder" "B") (by decide +kernel)) (fun _ h9 => h9) dJ0_isLatin1_aae02_7 ?_
  refine lv_if_ne (tgt := 17) hx hb dJ0_isLatin1_aae02_10 (by decide) (fun c2 => absurd rfl c2) (fun c2 => ?_)
  refine lv_iconst (v := 1) hx hb dJ0_isLatin1_aae02_13 (by decide) ?_
  refine lv_goto (tgt := 18) hx hb dJ0_isLatin1_aae02_14 (by decide) ?_
  exact z_nret hx hb hr rfl hlk hK hG hI dJ0_isLatin1_aae02_18
set_option maxRecDepth 100000 in
theorem m_slen (G : GT) (l : Launch) {σ : Hp} {w : Nat} (hw : w < 8) : MetG G l yJ0_length_8abf5 wsJ0_length_8abf5 (rmk 1 20) σ [.ref (G.2.2.2.1 w)] (QI G σ (sLen w)) := by
  refine met_of (cc := cJ0_length_8abf5) (nL := 1) (ret := (some .int)) (by decide) rfl (Nat.le_of_ble_eq_true rfl) ?_
  intro p e s m below meth c C0 hnm hI ls hl
  obtain ⟨hx, hb, hr, hml, hown, hts, hlk, hK, hG⟩ := id C0
  have hl : lv_has ls 1 [(0, .ref (G.2.2.2.1 w))] := hl
  have hT := hG.2.2.2.2.1.1 w hw
  refine lv_aload_n hx hb dJ0_length_8abf5_0 rfl (lv_at hl 0 rfl) ?_
  refine vk_getf hx hb hT.2.2.1 hI.2.2.1 hown (hts (.fieldLink RJ0 9 "java/lang/String" "value" "[B") (by decide +kernel)) (fun _ h9 => h9) dJ0_length_8abf5_1 ?_
  refine va_tlen hx hb hT.2.2.2 hI.2.2.1 (v := sLen w) rfl dJ0_length_8abf5_4 ?_
  refine lv_aload_n hx hb dJ0_length_8abf5_5 rfl (lv_at hl 0 rfl) ?_
  refine z_calli0 rfl rfl hI (va_runV (As := []) (rest := [.int (sLen w)]) ⟨hx, hb, hml, hown, hts⟩ (m_coder G l hw) (cwV 0 hts gJ0_length_8abf5_J0_coder_7d493 rfl rfl rfl (by decide +kernel) ⟨Nat.le_of_ble_eq_true rfl, Nat.le_of_ble_eq_true rfl⟩) (z_preV hK hG hI (vk_recv hG.2.2.2.2.1 hw hI.2.2.1)) rfl rfl hl.1 rfl (lv_room (Nat.le_of_ble_eq_true rfl)) dJ0_length_8abf5_6 ⟨Nat.zero_le _, Nat.zero_le _⟩) (fun H locs hI => ?_)
  refine lv_ishr hx hb dJ0_length_8abf5_9 ?_
  rw [sb_shr0]
  exact z_iret hx hb hr hlk hK hG hI dJ0_length_8abf5_10
set_option maxRecDepth 100000 in
theorem m_ckP (G : GT) (l : Launch) {σ : Hp} {x0 x1 : Int32} {v : Value} (hv : v.category = 1) (h1 : ¬ x0 < 0) (h2 : x0 < x1) : MetG G l yJ3_checkIndex_8e157 wsJ3_checkIndex_8e157 (rmk 0 0) σ [.int x0, .int x1, v] (QI G σ x0) := by
  refine met_of (cc := cJ3_checkIndex_8e157) (nL := 3) (ret := (some .int)) (by decide) rfl ?_ ?_
  · cases v <;> first | exact Nat.le_of_ble_eq_true rfl | cases hv
  intro p e s m below meth c C0 hnm hI ls hl
  obtain ⟨hx, hb, hr, hml, hown, hts, hlk, hK, hG⟩ := id C0
  have hl : lv_has ls 3 [(0, .int x0), (1, .int x1)] := lv_sub hl [0, 1] rfl
  refine lv_iload_n hx hb dJ3_checkIndex_8e157_0 rfl (lv_at hl 0 rfl) ?_
  refine lv_if_lt (tgt := 9) hx hb dJ3_checkIndex_8e157_1 (by decide) (fun c1 => absurd c1 h1) (fun c1 => ?_)
  refine lv_iload_n hx hb dJ3_checkIndex_8e157_4 rfl (lv_at hl 0 rfl) ?_
  refine lv_iload_n hx hb dJ3_checkIndex_8e157_5 rfl (lv_at hl 1 rfl) ?_
  refine lv_icmp_lt (tgt := 16) hx hb dJ3_checkIndex_8e157_6 (by decide) (fun c2 => ?_) (fun c2 => absurd h2 c2)
  refine lv_iload_n hx hb dJ3_checkIndex_8e157_16 rfl (lv_at hl 0 rfl) ?_
  exact z_iret hx hb hr hlk hK hG hI dJ3_checkIndex_8e157_17
set_option maxRecDepth 100000 in
theorem m_ckS (G : GT) (l : Launch) {σ : Hp} {x0 x1 : Int32} (h1 : ¬ x0 < 0) (h2 : x0 < x1) : MetG G l yJ0_checkIndex_df160 wsJ0_checkIndex_df160 (rmk 1 22) σ [.int x0, .int x1] (QV G σ) := by
  refine met_of (cc := cJ0_checkIndex_df160) (nL := 2) (ret := none) (by decide) rfl (Nat.le_of_ble_eq_true rfl) ?_
  intro p e s m below meth c C0 hnm hI ls hl
  obtain ⟨hx, hb, hr, hml, hown, hts, hlk, hK, hG⟩ := id C0
  have hl : lv_has ls 2 [(0, .int x0), (1, .int x1)] := hl
  refine lv_iload_n hx hb dJ0_checkIndex_df160_0 rfl (lv_at hl 0 rfl) ?_
  refine lv_iload_n hx hb dJ0_checkIndex_df160_1 rfl (lv_at hl 1 rfl) ?_
  have go : ∀ v : Value, v.category = 1 → va_Z "jdk/internal/util/Preconditions" "SIOOBE_FORMATTER" "Ljava/util/function/BiFunction;" v (gA G) s s.heap → W p l e (rmk 1 22) s m ([.int x0, .int x1] : List Value).toArray below meth c s.heap [] 0 0 (MQ below (QV G σ) ([.int x0, .int x1] : List Value).toArray s (rmk 1 22).cells (rmk 1 22).slots (gA G)) (F0 m 2 ls [.int x1, .int x0]) := by
    intro v hv hZ
    refine va_gets hx hb hZ hI.2.2.1 hown (hts (.fieldLink RJ0 1053 "jdk/internal/util/Preconditions" "SIOOBE_FORMATTER" "Ljava/util/function/BiFunction;") (by decide +kernel)) (fun _ h9 => h9) dJ0_checkIndex_df160_2 ?_
    refine z_calli0 rfl rfl hI (va_runS (As := [.int x0, .int x1, v]) (rest := []) ⟨hx, hb, hml, hown, hts⟩ (m_ckP G l hv h1 h2) (va_cwS 3 hts gJ0_checkIndex_df160_J3_checkIndex_8e157 rfl rfl rfl (by decide +kernel) ⟨Nat.le_of_ble_eq_true rfl, Nat.le_of_ble_eq_true rfl⟩) (z_pre hK hG hI) rfl rfl hl.1 rfl (lv_room (Nat.le_of_ble_eq_true rfl)) dJ0_checkIndex_df160_5 ⟨Nat.zero_le _, Nat.zero_le _⟩) (fun H locs hI => ?_)
    refine lv_pop hx hb dJ0_checkIndex_df160_8 rfl ?_
    exact z_vret hx hb hr hlk hK hG hI dJ0_checkIndex_df160_9
  rcases hG.2.2.2.2.2.2 with h | ⟨t, h⟩
  · exact go _ rfl h
  · exact go _ rfl h
set_option maxRecDepth 100000 in
theorem m_scharL (G : GT) (l : Launch) {σ : Hp} {w : Nat} (hw : w < 8) {x1 : Int32} (h : inb x1 (sLn.getD w 0)) : MetG G l yJ1_charAt_3b067 wsJ1_charAt_3b067 (rmk 2 43) σ [.ref (G.2.2.2.2.1 w), .int x1] (QI G σ (sChar w x1.toNatClampNeg)) := by
  refine met_of (cc := cJ1_charAt_3b067) (nL := 2) (ret := (some .char)) (by decide) rfl (Nat.le_of_ble_eq_true rfl) ?_
  intro p e s m below meth c C0 hnm hI ls hl
  obtain ⟨hx, hb, hr, hml, hown, hts, hlk, hK, hG⟩ := id C0
  have hl : lv_has ls 2 [(0, .ref (G.2.2.2.2.1 w)), (1, .int x1)] := hl
  have hT := (hG.2.2.2.2.1.1 w hw).2.2.2
  have hs8 : sLn.getD w 0 < 8 := by
    rcases (show w = 0 ∨ w = 1 ∨ w = 2 ∨ w = 3 ∨ w = 4 ∨ w = 5 ∨ w = 6 ∨ w = 7 by omega) with rfl | rfl | rfl | rfl | rfl | rfl | rfl | rfl <;> decide
  have n1 : ¬ x1 < 0 := fun q => (inb_in h) (Or.inl q)
  have n2 : x1 < sLen w := by
    rw [Int32.lt_iff_toInt_lt]
    show x1.toInt < (nI (sLn.getD w 0)).toInt
    rw [nI_toInt (by omega)]
    exact h.2
  refine lv_iload_n hx hb dJ1_charAt_3b067_0 rfl (lv_at hl 1 rfl) ?_
  refine lv_aload_n hx hb dJ1_charAt_3b067_1 rfl (lv_at hl 0 rfl) ?_
  refine va_tlen hx hb hT hI.2.2.1 (v := sLen w) rfl dJ1_charAt_3b067_2 ?_
  refine z_callv0 rfl rfl hI (va_runS (As := [.int x1, .int (sLen w)]) (rest := []) ⟨hx, hb, hml, hown, hts⟩ (m_ckS G l n1 n2) (va_cwS 2 hts gJ1_charAt_3b067_J0_checkIndex_df160 rfl rfl rfl (by decide +kernel) ⟨Nat.le_of_ble_eq_true rfl, Nat.le_of_ble_eq_true rfl⟩) (z_pre hK hG hI) rfl rfl hl.1 rfl (lv_room (Nat.le_of_ble_eq_true rfl)) dJ1_charAt_3b067_3 ⟨Nat.zero_le _, Nat.zero_le _⟩) (fun H locs hI => ?_)
  refine lv_aload_n hx hb dJ1_charAt_3b067_6 rfl (lv_at hl 0 rfl) ?_
  refine lv_iload_n hx hb dJ1_charAt_3b067_7 rfl (lv_at hl 1 rfl) ?_
  refine va_tb (v := .int ((sBy.getD w []).getD x1.toNatClampNeg 0)) hx hb hT hI.2.2.1 (inb_in h) rfl dJ1_charAt_3b067_8 ?_
  refine lv_sipush (v := 255) hx hb dJ1_charAt_3b067_9 (by decide) ?_
  refine lv_iand hx hb dJ1_charAt_3b067_12 ?_
  refine lv_i2c (v := sChar w x1.toNatClampNeg) hx hb dJ1_charAt_3b067_13 (sc_c2 _) ?_
  exact z_nret hx hb hr (sc_nar _) hlk hK hG hI dJ1_charAt_3b067_14
set_option maxRecDepth 100000 in
theorem m_schar (G : GT) (l : Launch) {σ : Hp} {w : Nat} (hw : w < 8) {x1 : Int32} (h : inb x1 (sLn.getD w 0)) : MetG G l yJ0_charAt_5068e wsJ0_charAt_5068e (rmk 4 130) σ [.ref (G.2.2.2.1 w), .int x1] (QI G σ (sChar w x1.toNatClampNeg)) := by
  refine met_of (cc := cJ0_charAt_5068e) (nL := 2) (ret := (some .char)) (by decide) rfl (Nat.le_of_ble_eq_true rfl) ?_
  intro p e s m below meth c C0 hnm hI ls hl
  obtain ⟨hx, hb, hr, hml, hown, hts, hlk, hK, hG⟩ := id C0
  have hl : lv_has ls 2 [(0, .ref (G.2.2.2.1 w)), (1, .int x1)] := hl
  have hT := hG.2.2.2.2.1.1 w hw
  refine lv_aload_n hx hb dJ0_charAt_5068e_0 rfl (lv_at hl 0 rfl) ?_
  refine z_calli0 rfl rfl hI (va_runV (As := []) (rest := []) ⟨hx, hb, hml, hown, hts⟩ (m_isLatin G l hw) (cwV 0 hts gJ0_charAt_5068e_J0_isLatin1_aae02 rfl rfl rfl (by decide +kernel) ⟨Nat.le_of_ble_eq_true rfl, Nat.le_of_ble_eq_true rfl⟩) (z_preV hK hG hI (vk_recv hG.2.2.2.2.1 hw hI.2.2.1)) rfl rfl hl.1 rfl (lv_room (Nat.le_of_ble_eq_true rfl)) dJ0_charAt_5068e_1 ⟨Nat.zero_le _, Nat.zero_le _⟩) (fun H locs hI => ?_)
  refine lv_if_eq (tgt := 16) hx hb dJ0_charAt_5068e_4 (by decide) (fun c1 => absurd c1 (by decide)) (fun c1 => ?_)
  refine lv_aload_n hx hb dJ0_charAt_5068e_7 rfl (lv_at hl 0 rfl) ?_
  refine vk_getf hx hb hT.2.2.1 hI.2.2.1 hown (hts (.fieldLink RJ0 9 "java/lang/String" "value" "[B") (by decide +kernel)) (fun _ h9 => h9) dJ0_charAt_5068e_8 ?_
  refine lv_iload_n hx hb dJ0_charAt_5068e_11 rfl (lv_at hl 1 rfl) ?_
  refine z_calli0 rfl rfl hI (va_runS (As := [.ref (G.2.2.2.2.1 w), .int x1]) (rest := []) ⟨hx, hb, hml, hown, hts⟩ (m_scharL G l hw h) (va_cwS 2 hts gJ0_charAt_5068e_J1_charAt_3b067 rfl rfl rfl (by decide +kernel) ⟨Nat.le_of_ble_eq_true rfl, Nat.le_of_ble_eq_true rfl⟩) (z_pre hK hG hI) rfl rfl hl.1 rfl (lv_room (Nat.le_of_ble_eq_true rfl)) dJ0_charAt_5068e_12 ⟨Nat.zero_le _, Nat.zero_le _⟩) (fun H locs hI => ?_)
  exact z_nret hx hb hr (sc_nar _) hlk hK hG hI dJ0_charAt_5068e_15
