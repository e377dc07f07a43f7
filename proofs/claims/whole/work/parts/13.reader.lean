-- ===== FenceYards$Reader.append(JI)V
set_option maxRecDepth 100000 in
theorem i_X5_append_5 : ∀ w ∈ u_ws RX5 TX5 8, w ∈ wsX5_append := by decide +kernel
def f_X5_append_5    (y1 : Int64) : Nat → Hp → Int32 → Option (Hp)
  | 0, _, _ => none
  | n + 1, σ, x4 =>
    if x4 < 0 then (some σ) else (if 400 ≤ (gI σ 13 1) then (some σ) else (chk (inb (gI σ 13 1) 400) <| bnd (sI σ 14 ((gI σ 13 1).toNatClampNeg) (vp_nar .byte ((((y1.toUInt64 >>> ((8 * x4).toInt64.toUInt64 &&& Int64.toUInt64 63)).toInt64).toInt32).toInt8.toInt32))) fun s1 => f_X5_append_5 y1 n (sI s1 13 1 ((gI s1 13 1) + 1)) (x4 + (-1))))
def f_X5_append (σ : Hp) (y1 : Int64) (x3 : Int32) : Option (Hp) :=
  bnd (x3 - 1) fun v1 => f_X5_append_5 y1 fu σ v1
set_option maxRecDepth 100000 in
set_option maxHeartbeats 4000000 in
theorem w_X5_append_5 {G : GT} {p : Program} {l : Launch} {e : Env} {s : State} {m : MethodId} {args : Array Value} {below : List Frame} {meth : Method} {c : Code}  {σ' : Hp}   {y1 : Int64}  (C0 : Cx G cX5_append RX5 wsX5_append 5 none p s m args meth c)  :
    ∀ (n : Nat) (σ : Hp) (x4 : Int32), f_X5_append_5 y1 n σ x4 = some σ' → ∀ (H : Heap) (locs : List Loc), Inv G s σ H locs → ∀ ls : Array Slot, lv_has ls 5 [(0, .ref (G.1 + 13)), (1, .long y1), (4, .int x4)] → W p l e (rmk 0 0) s m args below meth c H locs 0 0 (MQ below (QV G σ') args s (rmk 0 0).cells (rmk 0 0).slots (gA G)) (F0 m 5 ls []) := by
  obtain ⟨hx, hb, hr, hml, hown, hts, hlk, hK, hG⟩ := id C0
  intro n
  induction n with
  | zero =>
    intro σ x4 hf
    cases hf
  | succ n ih =>
    intro σ x4 hf H locs hI ls hl
    rw [f_X5_append_5] at hf
    refine lv_iload hx hb dX5_append_5 (lv_at hl 2 rfl) ?_
    refine lv_if_lt (tgt := 54) hx hb dX5_append_7 (by decide) (fun c1 => ?_) (fun c1 => ?_)
    · have hf := ok_t c1 hf
      cases hf
      exact z_vret hx hb hr hlk hK hG hI dX5_append_54
    · have hf := ok_f c1 hf
      refine lv_aload_n hx hb dX5_append_10 rfl (lv_at hl 0 rfl) ?_
      refine z_get (C := RX5) (T := TX5) (N := 8) (ci := 5) (v := .int (gI σ 13 1)) hx hb hts i_X5_append_5 hown hK hI 13 rfl (by decide) rfl 1 (by decide) (hts (.fieldLink RX5 15 "FenceYards$Reader" "size" "I") (by decide +kernel)) (fun _ h9 => h9) rfl dX5_append_11 ?_
      refine lv_sipush (v := 400) hx hb dX5_append_14 (by decide) ?_
      refine lv_icmp_ge (tgt := 54) hx hb dX5_append_17 (by decide) (fun c2 => ?_) (fun c2 => ?_)
      · have hf := ok_t c2 hf
        cases hf
        exact z_vret hx hb hr hlk hK hG hI dX5_append_54
      · have hf := ok_f c2 hf
        refine lv_aload_n hx hb dX5_append_20 rfl (lv_at hl 0 rfl) ?_
        refine z_get (C := RX5) (T := TX5) (N := 8) (ci := 5) (v := .ref (G.1 + 14)) hx hb hts i_X5_append_5 hown hK hI 13 rfl (by decide) rfl 0 (by decide) (hts (.fieldLink RX5 9 "FenceYards$Reader" "tape" "[B") (by decide +kernel)) (fun _ h9 => h9) rfl dX5_append_21 ?_
        refine lv_aload_n hx hb dX5_append_24 rfl (lv_at hl 0 rfl) ?_
        refine z_get (C := RX5) (T := TX5) (N := 8) (ci := 5) (v := .int (gI σ 13 1)) hx hb hts i_X5_append_5 hown hK hI 13 rfl (by decide) rfl 1 (by decide) (hts (.fieldLink RX5 15 "FenceYards$Reader" "size" "I") (by decide +kernel)) (fun _ h9 => h9) rfl dX5_append_25 ?_
        refine lv_lload_n hx hb dX5_append_28 rfl (lv_at hl 1 rfl) ?_
        refine lv_bipush (v := 8) hx hb dX5_append_29 (by decide) ?_
        refine lv_iload hx hb dX5_append_31 (lv_at hl 2 rfl) ?_
        refine lv_imul hx hb dX5_append_33 ?_
        refine lv_lushr hx hb dX5_append_34 rfl ?_
        refine lv_l2i hx hb dX5_append_35 rfl ?_
        refine lv_i2b hx hb dX5_append_36 rfl ?_
        obtain ⟨h1, hf⟩ := ok_c hf
        refine z_bast hx hb hK hI 14 (k := (gI σ 13 1).toNatClampNeg) rfl h1 rfl dX5_append_37 (fun H locs hI => ?_)
        obtain ⟨s1, es1⟩ : ∃ z, z = sI σ 14 ((gI σ 13 1).toNatClampNeg) (vp_nar .byte ((((y1.toUInt64 >>> ((8 * x4).toInt64.toUInt64 &&& Int64.toUInt64 63)).toInt64).toInt32).toInt8.toInt32)) := ⟨_, rfl⟩
        have hI : Inv G s s1 H locs := by rw [es1]; exact hI
        have hf := ok_n hf es1
        refine lv_aload_n hx hb dX5_append_38 rfl (lv_at hl 0 rfl) ?_
        refine lv_dup hx hb dX5_append_39 rfl ?_
        refine z_get (C := RX5) (T := TX5) (N := 8) (ci := 5) (v := .int (gI s1 13 1)) hx hb hts i_X5_append_5 hown hK hI 13 rfl (by decide) rfl 1 (by decide) (hts (.fieldLink RX5 15 "FenceYards$Reader" "size" "I") (by decide +kernel)) (fun _ h9 => h9) rfl dX5_append_40 ?_
        refine lv_iconst (v := 1) hx hb dX5_append_43 (by decide) ?_
        refine lv_iadd hx hb dX5_append_44 ?_
        refine z_put (C := RX5) (T := TX5) (N := 8) (ci := 5) (ty := .int) (v := .int ((gI s1 13 1) + 1)) hx hb hts i_X5_append_5 tyX5 tyX5_ok nmX5 hown hK hI 13 rfl (by decide) rfl 1 (by decide) (hts (.fieldLink RX5 15 "FenceYards$Reader" "size" "I") (by decide +kernel)) (fun _ h9 => h9) rfl (by decide +kernel) rfl rfl (Nat.le_of_ble_eq_true rfl) (set_I hI.2.2.2 rfl (by decide) rfl) rfl hI.2.2.2 dX5_append_45 (fun H locs hI => ?_)
        refine lv_iinc (v := x4 + (-1)) (lv' := [(4, .int (x4 + (-1))), (0, .ref (G.1 + 13)), (1, .long y1)]) hx hb dX5_append_48 hl (k := 2) rfl rfl (by decide) rfl (fun ls hl => ?_)
        refine lv_goto (tgt := 5) hx hb dX5_append_51 (by decide) ?_
        exact ih _ _ hf _ _ hI _ (lv_sub hl [1, 2, 0] rfl)

set_option maxRecDepth 100000 in
set_option maxHeartbeats 4000000 in
theorem m_X5_append (G : GT) (l : Launch) {σ : Hp} {y1 : Int64} {x3 : Int32} {σ' : Hp}  (hf : f_X5_append σ y1 x3 = some σ') : MetG G l yX5_append wsX5_append (rmk 0 0) σ [.ref (G.1 + 13), .long y1, .int x3] (QV G σ') := by
  refine met_of (cc := cX5_append) (nL := 5) (ret := none) (by decide) rfl (Nat.le_of_ble_eq_true rfl) ?_
  intro p e s m below meth c C0 hnm hI ls hl
  obtain ⟨hx, hb, hr, hml, hown, hts, hlk, hK, hG⟩ := id C0
  have hl : lv_has ls 5 [(0, .ref (G.1 + 13)), (1, .long y1), (3, .int x3)] := hl
  unfold f_X5_append at hf
  refine lv_iload_n hx hb dX5_append_0 rfl (lv_at hl 2 rfl) ?_
  refine lv_iconst (v := 1) hx hb dX5_append_1 (by decide) ?_
  refine lv_isub hx hb dX5_append_2 ?_
  refine lv_topi (fun v1 ev1 => ?_)
  have hf := ok_n hf ev1
  refine lv_istore (lv' := [(4, .int v1), (0, .ref (G.1 + 13)), (1, .long y1), (3, .int x3)]) hx hb dX5_append_3 hl (by decide) rfl (fun ls hl => ?_)
  exact w_X5_append_5  C0  _ _ _ hf _ _ hI _ (lv_sub hl [1, 2, 0] rfl)

-- ===== FenceYards$Reader.skipBlanks()V
set_option maxRecDepth 100000 in
theorem i_X5_skipBlanks_5 : ∀ w ∈ u_ws RX5 TX5 8, w ∈ wsX5_skipBlanks := by decide +kernel
def f_X5_skipBlanks_0     : Nat → Hp → Option (Hp)
  | 0, _ => none
  | n + 1, σ =>
    if (gI σ 13 1) ≤ (gI σ 13 2) then (some σ) else (chk (inb (gI σ 13 2) 400) <| if (gI σ 14 ((gI σ 13 2).toNatClampNeg)) = 32 then (f_X5_skipBlanks_0 n (sI σ 13 2 ((gI σ 13 2) + 1))) else (chk (inb (gI σ 13 2) 400) <| if (gI σ 14 ((gI σ 13 2).toNatClampNeg)) = 10 then (f_X5_skipBlanks_0 n (sI σ 13 2 ((gI σ 13 2) + 1))) else (some σ)))
def f_X5_skipBlanks (σ : Hp)  : Option (Hp) :=
  if (gI σ 13 1) ≤ (gI σ 13 2) then (some σ) else (chk (inb (gI σ 13 2) 400) <| if (gI σ 14 ((gI σ 13 2).toNatClampNeg)) = 32 then (f_X5_skipBlanks_0 fu (sI σ 13 2 ((gI σ 13 2) + 1))) else (chk (inb (gI σ 13 2) 400) <| if (gI σ 14 ((gI σ 13 2).toNatClampNeg)) = 10 then (f_X5_skipBlanks_0 fu (sI σ 13 2 ((gI σ 13 2) + 1))) else (some σ)))
set_option maxRecDepth 100000 in
set_option maxHeartbeats 4000000 in
theorem w_X5_skipBlanks_0 {G : GT} {p : Program} {l : Launch} {e : Env} {s : State} {m : MethodId} {args : Array Value} {below : List Frame} {meth : Method} {c : Code}  {σ' : Hp}     (C0 : Cx G cX5_skipBlanks RX5 wsX5_skipBlanks 1 none p s m args meth c)  :
    ∀ (n : Nat) (σ : Hp), f_X5_skipBlanks_0 n σ = some σ' → ∀ (H : Heap) (locs : List Loc), Inv G s σ H locs → ∀ ls : Array Slot, lv_has ls 1 [(0, .ref (G.1 + 13))] → W p l e (rmk 0 0) s m args below meth c H locs 0 0 (MQ below (QV G σ') args s (rmk 0 0).cells (rmk 0 0).slots (gA G)) (F0 m 0 ls []) := by
  obtain ⟨hx, hb, hr, hml, hown, hts, hlk, hK, hG⟩ := id C0
  intro n
  induction n with
  | zero =>
    intro σ hf
    cases hf
  | succ n ih =>
    intro σ hf H locs hI ls hl
    rw [f_X5_skipBlanks_0] at hf
    refine lv_aload_n hx hb dX5_skipBlanks_0 rfl (lv_at hl 0 rfl) ?_
    refine z_get (C := RX5) (T := TX5) (N := 8) (ci := 5) (v := .int (gI σ 13 2)) hx hb hts i_X5_skipBlanks_5 hown hK hI 13 rfl (by decide) rfl 2 (by decide) (hts (.fieldLink RX5 19 "FenceYards$Reader" "at" "I") (by decide +kernel)) (fun _ h9 => h9) rfl dX5_skipBlanks_1 ?_
    refine lv_aload_n hx hb dX5_skipBlanks_4 rfl (lv_at hl 0 rfl) ?_
    refine z_get (C := RX5) (T := TX5) (N := 8) (ci := 5) (v := .int (gI σ 13 1)) hx hb hts i_X5_skipBlanks_5 hown hK hI 13 rfl (by decide) rfl 1 (by decide) (hts (.fieldLink RX5 15 "FenceYards$Reader" "size" "I") (by decide +kernel)) (fun _ h9 => h9) rfl dX5_skipBlanks_5 ?_
    refine lv_icmp_ge (tgt := 52) hx hb dX5_skipBlanks_8 (by decide) (fun c1 => ?_) (fun c1 => ?_)
    · have hf := ok_t c1 hf
      cases hf
      exact z_vret hx hb hr hlk hK hG hI dX5_skipBlanks_52
    · have hf := ok_f c1 hf
      refine lv_aload_n hx hb dX5_skipBlanks_11 rfl (lv_at hl 0 rfl) ?_
      refine z_get (C := RX5) (T := TX5) (N := 8) (ci := 5) (v := .ref (G.1 + 14)) hx hb hts i_X5_skipBlanks_5 hown hK hI 13 rfl (by decide) rfl 0 (by decide) (hts (.fieldLink RX5 9 "FenceYards$Reader" "tape" "[B") (by decide +kernel)) (fun _ h9 => h9) rfl dX5_skipBlanks_12 ?_
      refine lv_aload_n hx hb dX5_skipBlanks_15 rfl (lv_at hl 0 rfl) ?_
      refine z_get (C := RX5) (T := TX5) (N := 8) (ci := 5) (v := .int (gI σ 13 2)) hx hb hts i_X5_skipBlanks_5 hown hK hI 13 rfl (by decide) rfl 2 (by decide) (hts (.fieldLink RX5 19 "FenceYards$Reader" "at" "I") (by decide +kernel)) (fun _ h9 => h9) rfl dX5_skipBlanks_16 ?_
      obtain ⟨h1, hf⟩ := ok_c hf
      refine z_bald hx hb hK hI 14 (k := (gI σ 13 2).toNatClampNeg) rfl h1 rfl dX5_skipBlanks_19 ?_
      refine lv_bipush (v := 32) hx hb dX5_skipBlanks_20 (by decide) ?_
      refine lv_icmp_eq (tgt := 39) hx hb dX5_skipBlanks_22 (by decide) (fun c2 => ?_) (fun c2 => ?_)
      · have hf := ok_t c2 hf
        refine lv_aload_n hx hb dX5_skipBlanks_39 rfl (lv_at hl 0 rfl) ?_
        refine lv_dup hx hb dX5_skipBlanks_40 rfl ?_
        refine z_get (C := RX5) (T := TX5) (N := 8) (ci := 5) (v := .int (gI σ 13 2)) hx hb hts i_X5_skipBlanks_5 hown hK hI 13 rfl (by decide) rfl 2 (by decide) (hts (.fieldLink RX5 19 "FenceYards$Reader" "at" "I") (by decide +kernel)) (fun _ h9 => h9) rfl dX5_skipBlanks_41 ?_
        refine lv_iconst (v := 1) hx hb dX5_skipBlanks_44 (by decide) ?_
        refine lv_iadd hx hb dX5_skipBlanks_45 ?_
        refine z_put (C := RX5) (T := TX5) (N := 8) (ci := 5) (ty := .int) (v := .int ((gI σ 13 2) + 1)) hx hb hts i_X5_skipBlanks_5 tyX5 tyX5_ok nmX5 hown hK hI 13 rfl (by decide) rfl 2 (by decide) (hts (.fieldLink RX5 19 "FenceYards$Reader" "at" "I") (by decide +kernel)) (fun _ h9 => h9) rfl (by decide +kernel) rfl rfl (Nat.le_of_ble_eq_true rfl) (set_I hI.2.2.2 rfl (by decide) rfl) rfl hI.2.2.2 dX5_skipBlanks_46 (fun H locs hI => ?_)
        refine lv_goto (tgt := 0) hx hb dX5_skipBlanks_49 (by decide) ?_
        exact ih _ hf _ _ hI _ (lv_sub hl [0] rfl)
      · have hf := ok_f c2 hf
        refine lv_aload_n hx hb dX5_skipBlanks_25 rfl (lv_at hl 0 rfl) ?_
        refine z_get (C := RX5) (T := TX5) (N := 8) (ci := 5) (v := .ref (G.1 + 14)) hx hb hts i_X5_skipBlanks_5 hown hK hI 13 rfl (by decide) rfl 0 (by decide) (hts (.fieldLink RX5 9 "FenceYards$Reader" "tape" "[B") (by decide +kernel)) (fun _ h9 => h9) rfl dX5_skipBlanks_26 ?_
        refine lv_aload_n hx hb dX5_skipBlanks_29 rfl (lv_at hl 0 rfl) ?_
        refine z_get (C := RX5) (T := TX5) (N := 8) (ci := 5) (v := .int (gI σ 13 2)) hx hb hts i_X5_skipBlanks_5 hown hK hI 13 rfl (by decide) rfl 2 (by decide) (hts (.fieldLink RX5 19 "FenceYards$Reader" "at" "I") (by decide +kernel)) (fun _ h9 => h9) rfl dX5_skipBlanks_30 ?_
        obtain ⟨h2, hf⟩ := ok_c hf
        refine z_bald hx hb hK hI 14 (k := (gI σ 13 2).toNatClampNeg) rfl h2 rfl dX5_skipBlanks_33 ?_
        refine lv_bipush (v := 10) hx hb dX5_skipBlanks_34 (by decide) ?_
        refine lv_icmp_ne (tgt := 52) hx hb dX5_skipBlanks_36 (by decide) (fun c3 => ?_) (fun c3 => ?_)
        · have hf := ok_f c3 hf
          cases hf
          exact z_vret hx hb hr hlk hK hG hI dX5_skipBlanks_52
        · have hf := ok_t c3 hf
          refine lv_aload_n hx hb dX5_skipBlanks_39 rfl (lv_at hl 0 rfl) ?_
          refine lv_dup hx hb dX5_skipBlanks_40 rfl ?_
          refine z_get (C := RX5) (T := TX5) (N := 8) (ci := 5) (v := .int (gI σ 13 2)) hx hb hts i_X5_skipBlanks_5 hown hK hI 13 rfl (by decide) rfl 2 (by decide) (hts (.fieldLink RX5 19 "FenceYards$Reader" "at" "I") (by decide +kernel)) (fun _ h9 => h9) rfl dX5_skipBlanks_41 ?_
          refine lv_iconst (v := 1) hx hb dX5_skipBlanks_44 (by decide) ?_
          refine lv_iadd hx hb dX5_skipBlanks_45 ?_
          refine z_put (C := RX5) (T := TX5) (N := 8) (ci := 5) (ty := .int) (v := .int ((gI σ 13 2) + 1)) hx hb hts i_X5_skipBlanks_5 tyX5 tyX5_ok nmX5 hown hK hI 13 rfl (by decide) rfl 2 (by decide) (hts (.fieldLink RX5 19 "FenceYards$Reader" "at" "I") (by decide +kernel)) (fun _ h9 => h9) rfl (by decide +kernel) rfl rfl (Nat.le_of_ble_eq_true rfl) (set_I hI.2.2.2 rfl (by decide) rfl) rfl hI.2.2.2 dX5_skipBlanks_46 (fun H locs hI => ?_)
          refine lv_goto (tgt := 0) hx hb dX5_skipBlanks_49 (by decide) ?_
          exact ih _ hf _ _ hI _ (lv_sub hl [0] rfl)

set_option maxRecDepth 100000 in
set_option maxHeartbeats 4000000 in
theorem m_X5_skipBlanks (G : GT) (l : Launch) {σ : Hp}  {σ' : Hp}  (hf : f_X5_skipBlanks σ = some σ') : MetG G l yX5_skipBlanks wsX5_skipBlanks (rmk 0 0) σ [.ref (G.1 + 13)] (QV G σ') := by
  refine met_of (cc := cX5_skipBlanks) (nL := 1) (ret := none) (by decide) rfl (Nat.le_of_ble_eq_true rfl) ?_
  intro p e s m below meth c C0 hnm hI ls hl
  obtain ⟨hx, hb, hr, hml, hown, hts, hlk, hK, hG⟩ := id C0
  have hl : lv_has ls 1 [(0, .ref (G.1 + 13))] := hl
  unfold f_X5_skipBlanks at hf
  refine lv_aload_n hx hb dX5_skipBlanks_0 rfl (lv_at hl 0 rfl) ?_
  refine z_get (C := RX5) (T := TX5) (N := 8) (ci := 5) (v := .int (gI σ 13 2)) hx hb hts i_X5_skipBlanks_5 hown hK hI 13 rfl (by decide) rfl 2 (by decide) (hts (.fieldLink RX5 19 "FenceYards$Reader" "at" "I") (by decide +kernel)) (fun _ h9 => h9) rfl dX5_skipBlanks_1 ?_
  refine lv_aload_n hx hb dX5_skipBlanks_4 rfl (lv_at hl 0 rfl) ?_
  refine z_get (C := RX5) (T := TX5) (N := 8) (ci := 5) (v := .int (gI σ 13 1)) hx hb hts i_X5_skipBlanks_5 hown hK hI 13 rfl (by decide) rfl 1 (by decide) (hts (.fieldLink RX5 15 "FenceYards$Reader" "size" "I") (by decide +kernel)) (fun _ h9 => h9) rfl dX5_skipBlanks_5 ?_
  refine lv_icmp_ge (tgt := 52) hx hb dX5_skipBlanks_8 (by decide) (fun c1 => ?_) (fun c1 => ?_)
  · have hf := ok_t c1 hf
    cases hf
    exact z_vret hx hb hr hlk hK hG hI dX5_skipBlanks_52
  · have hf := ok_f c1 hf
    refine lv_aload_n hx hb dX5_skipBlanks_11 rfl (lv_at hl 0 rfl) ?_
    refine z_get (C := RX5) (T := TX5) (N := 8) (ci := 5) (v := .ref (G.1 + 14)) hx hb hts i_X5_skipBlanks_5 hown hK hI 13 rfl (by decide) rfl 0 (by decide) (hts (.fieldLink RX5 9 "FenceYards$Reader" "tape" "[B") (by decide +kernel)) (fun _ h9 => h9) rfl dX5_skipBlanks_12 ?_
    refine lv_aload_n hx hb dX5_skipBlanks_15 rfl (lv_at hl 0 rfl) ?_
    refine z_get (C := RX5) (T := TX5) (N := 8) (ci := 5) (v := .int (gI σ 13 2)) hx hb hts i_X5_skipBlanks_5 hown hK hI 13 rfl (by decide) rfl 2 (by decide) (hts (.fieldLink RX5 19 "FenceYards$Reader" "at" "I") (by decide +kernel)) (fun _ h9 => h9) rfl dX5_skipBlanks_16 ?_
    obtain ⟨h1, hf⟩ := ok_c hf
    refine z_bald hx hb hK hI 14 (k := (gI σ 13 2).toNatClampNeg) rfl h1 rfl dX5_skipBlanks_19 ?_
    refine lv_bipush (v := 32) hx hb dX5_skipBlanks_20 (by decide) ?_
    refine lv_icmp_eq (tgt := 39) hx hb dX5_skipBlanks_22 (by decide) (fun c2 => ?_) (fun c2 => ?_)
    · have hf := ok_t c2 hf
      refine lv_aload_n hx hb dX5_skipBlanks_39 rfl (lv_at hl 0 rfl) ?_
      refine lv_dup hx hb dX5_skipBlanks_40 rfl ?_
      refine z_get (C := RX5) (T := TX5) (N := 8) (ci := 5) (v := .int (gI σ 13 2)) hx hb hts i_X5_skipBlanks_5 hown hK hI 13 rfl (by decide) rfl 2 (by decide) (hts (.fieldLink RX5 19 "FenceYards$Reader" "at" "I") (by decide +kernel)) (fun _ h9 => h9) rfl dX5_skipBlanks_41 ?_
      refine lv_iconst (v := 1) hx hb dX5_skipBlanks_44 (by decide) ?_
      refine lv_iadd hx hb dX5_skipBlanks_45 ?_
      refine z_put (C := RX5) (T := TX5) (N := 8) (ci := 5) (ty := .int) (v := .int ((gI σ 13 2) + 1)) hx hb hts i_X5_skipBlanks_5 tyX5 tyX5_ok nmX5 hown hK hI 13 rfl (by decide) rfl 2 (by decide) (hts (.fieldLink RX5 19 "FenceYards$Reader" "at" "I") (by decide +kernel)) (fun _ h9 => h9) rfl (by decide +kernel) rfl rfl (Nat.le_of_ble_eq_true rfl) (set_I hI.2.2.2 rfl (by decide) rfl) rfl hI.2.2.2 dX5_skipBlanks_46 (fun H locs hI => ?_)
      refine lv_goto (tgt := 0) hx hb dX5_skipBlanks_49 (by decide) ?_
      exact w_X5_skipBlanks_0  C0  _ _ hf _ _ hI _ (lv_sub hl [0] rfl)
    · have hf := ok_f c2 hf
      refine lv_aload_n hx hb dX5_skipBlanks_25 rfl (lv_at hl 0 rfl) ?_
      refine z_get (C := RX5) (T := TX5) (N := 8) (ci := 5) (v := .ref (G.1 + 14)) hx hb hts i_X5_skipBlanks_5 hown hK hI 13 rfl (by decide) rfl 0 (by decide) (hts (.fieldLink RX5 9 "FenceYards$Reader" "tape" "[B") (by decide +kernel)) (fun _ h9 => h9) rfl dX5_skipBlanks_26 ?_
      refine lv_aload_n hx hb dX5_skipBlanks_29 rfl (lv_at hl 0 rfl) ?_
      refine z_get (C := RX5) (T := TX5) (N := 8) (ci := 5) (v := .int (gI σ 13 2)) hx hb hts i_X5_skipBlanks_5 hown hK hI 13 rfl (by decide) rfl 2 (by decide) (hts (.fieldLink RX5 19 "FenceYards$Reader" "at" "I") (by decide +kernel)) (fun _ h9 => h9) rfl dX5_skipBlanks_30 ?_
      obtain ⟨h2, hf⟩ := ok_c hf
      refine z_bald hx hb hK hI 14 (k := (gI σ 13 2).toNatClampNeg) rfl h2 rfl dX5_skipBlanks_33 ?_
      refine lv_bipush (v := 10) hx hb dX5_skipBlanks_34 (by decide) ?_
      refine lv_icmp_ne (tgt := 52) hx hb dX5_skipBlanks_36 (by decide) (fun c3 => ?_) (fun c3 => ?_)
      · have hf := ok_f c3 hf
        cases hf
        exact z_vret hx hb hr hlk hK hG hI dX5_skipBlanks_52
      · have hf := ok_t c3 hf
        refine lv_aload_n hx hb dX5_skipBlanks_39 rfl (lv_at hl 0 rfl) ?_
        refine lv_dup hx hb dX5_skipBlanks_40 rfl ?_
        refine z_get (C := RX5) (T := TX5) (N := 8) (ci := 5) (v := .int (gI σ 13 2)) hx hb hts i_X5_skipBlanks_5 hown hK hI 13 rfl (by decide) rfl 2 (by decide) (hts (.fieldLink RX5 19 "FenceYards$Reader" "at" "I") (by decide +kernel)) (fun _ h9 => h9) rfl dX5_skipBlanks_41 ?_
        refine lv_iconst (v := 1) hx hb dX5_skipBlanks_44 (by decide) ?_
        refine lv_iadd hx hb dX5_skipBlanks_45 ?_
        refine z_put (C := RX5) (T := TX5) (N := 8) (ci := 5) (ty := .int) (v := .int ((gI σ 13 2) + 1)) hx hb hts i_X5_skipBlanks_5 tyX5 tyX5_ok nmX5 hown hK hI 13 rfl (by decide) rfl 2 (by decide) (hts (.fieldLink RX5 19 "FenceYards$Reader" "at" "I") (by decide +kernel)) (fun _ h9 => h9) rfl (by decide +kernel) rfl rfl (Nat.le_of_ble_eq_true rfl) (set_I hI.2.2.2 rfl (by decide) rfl) rfl hI.2.2.2 dX5_skipBlanks_46 (fun H locs hI => ?_)
        refine lv_goto (tgt := 0) hx hb dX5_skipBlanks_49 (by decide) ?_
        exact w_X5_skipBlanks_0  C0  _ _ hf _ _ hI _ (lv_sub hl [0] rfl)

-- ===== FenceYards$Reader.isLetter(I)Z
def f_X5_isLetter (σ : Hp) (x0 : Int32) : Option (Int32) :=
  if x0 < 97 then (some 0) else (if 122 < x0 then (some 0) else (some 1))
set_option maxRecDepth 100000 in
set_option maxHeartbeats 4000000 in
theorem m_X5_isLetter (G : GT) (l : Launch) {σ : Hp} {x0 : Int32} {r : Int32}  (hf : f_X5_isLetter σ x0 = some r) : MetG G l yX5_isLetter wsX5_isLetter (rmk 0 0) σ [.int x0] (QI G σ r) := by
  refine met_of (cc := cX5_isLetter) (nL := 1) (ret := (some .boolean)) (by decide) rfl (Nat.le_of_ble_eq_true rfl) ?_
  intro p e s m below meth c C0 hnm hI ls hl
  obtain ⟨hx, hb, hr, hml, hown, hts, hlk, hK, hG⟩ := id C0
  have hl : lv_has ls 1 [(0, .int x0)] := hl
  unfold f_X5_isLetter at hf
  refine lv_iload_n hx hb dX5_isLetter_0 rfl (lv_at hl 0 rfl) ?_
  refine lv_bipush (v := 97) hx hb dX5_isLetter_1 (by decide) ?_
  refine lv_icmp_lt (tgt := 16) hx hb dX5_isLetter_3 (by decide) (fun c1 => ?_) (fun c1 => ?_)
  · have hf := ok_t c1 hf
    refine lv_iconst (v := 0) hx hb dX5_isLetter_16 (by decide) ?_
    cases hf
    exact z_zret hx hb hr hlk hK hG hI (Or.inl rfl) dX5_isLetter_17
  · have hf := ok_f c1 hf
    refine lv_iload_n hx hb dX5_isLetter_6 rfl (lv_at hl 0 rfl) ?_
    refine lv_bipush (v := 122) hx hb dX5_isLetter_7 (by decide) ?_
    refine lv_icmp_gt (tgt := 16) hx hb dX5_isLetter_9 (by decide) (fun c2 => ?_) (fun c2 => ?_)
    · have hf := ok_t c2 hf
      refine lv_iconst (v := 0) hx hb dX5_isLetter_16 (by decide) ?_
      cases hf
      exact z_zret hx hb hr hlk hK hG hI (Or.inl rfl) dX5_isLetter_17
    · have hf := ok_f c2 hf
      refine lv_iconst (v := 1) hx hb dX5_isLetter_12 (by decide) ?_
      refine lv_goto (tgt := 17) hx hb dX5_isLetter_13 (by decide) ?_
      cases hf
      exact z_zret hx hb hr hlk hK hG hI (Or.inr rfl) dX5_isLetter_17

-- ===== FenceYards$Reader.takeName()V
set_option maxRecDepth 100000 in
theorem i_X5_takeName_5 : ∀ w ∈ u_ws RX5 TX5 8, w ∈ wsX5_takeName := by decide +kernel
def f_X5_takeName_0     : Nat → Hp → Option (Hp)
  | 0, _ => none
  | n + 1, σ =>
    if (gI σ 13 1) ≤ (gI σ 13 2) then (some (sI σ 13 3 1)) else (chk (inb (gI σ 13 2) 400) <| bd1 (f_X5_isLetter σ (gI σ 14 ((gI σ 13 2).toNatClampNeg))) fun r1 => if r1 = 0 then (some (sI σ 13 3 1)) else (f_X5_takeName_0 n (sI σ 13 2 ((gI σ 13 2) + 1))))
def f_X5_takeName (σ : Hp)  : Option (Hp) :=
  if (gI σ 13 1) ≤ (gI σ 13 2) then (some (sI σ 13 3 1)) else (chk (inb (gI σ 13 2) 400) <| bd1 (f_X5_isLetter σ (gI σ 14 ((gI σ 13 2).toNatClampNeg))) fun r1 => if r1 = 0 then (some (sI σ 13 3 1)) else (f_X5_takeName_0 fu (sI σ 13 2 ((gI σ 13 2) + 1))))
set_option maxRecDepth 100000 in
set_option maxHeartbeats 4000000 in
theorem w_X5_takeName_0 {G : GT} {p : Program} {l : Launch} {e : Env} {s : State} {m : MethodId} {args : Array Value} {below : List Frame} {meth : Method} {c : Code}  {σ' : Hp}     (C0 : Cx G cX5_takeName RX5 wsX5_takeName 1 none p s m args meth c)  :
    ∀ (n : Nat) (σ : Hp), f_X5_takeName_0 n σ = some σ' → ∀ (H : Heap) (locs : List Loc), Inv G s σ H locs → ∀ ls : Array Slot, lv_has ls 1 [(0, .ref (G.1 + 13))] → W p l e (rmk 1 20) s m args below meth c H locs 0 0 (MQ below (QV G σ') args s (rmk 1 20).cells (rmk 1 20).slots (gA G)) (F0 m 0 ls []) := by
  obtain ⟨hx, hb, hr, hml, hown, hts, hlk, hK, hG⟩ := id C0
  intro n
  induction n with
  | zero =>
    intro σ hf
    cases hf
  | succ n ih =>
    intro σ hf H locs hI ls hl
    rw [f_X5_takeName_0] at hf
    refine lv_aload_n hx hb dX5_takeName_0 rfl (lv_at hl 0 rfl) ?_
    refine z_get (C := RX5) (T := TX5) (N := 8) (ci := 5) (v := .int (gI σ 13 2)) hx hb hts i_X5_takeName_5 hown hK hI 13 rfl (by decide) rfl 2 (by decide) (hts (.fieldLink RX5 19 "FenceYards$Reader" "at" "I") (by decide +kernel)) (fun _ h9 => h9) rfl dX5_takeName_1 ?_
    refine lv_aload_n hx hb dX5_takeName_4 rfl (lv_at hl 0 rfl) ?_
    refine z_get (C := RX5) (T := TX5) (N := 8) (ci := 5) (v := .int (gI σ 13 1)) hx hb hts i_X5_takeName_5 hown hK hI 13 rfl (by decide) rfl 1 (by decide) (hts (.fieldLink RX5 15 "FenceYards$Reader" "size" "I") (by decide +kernel)) (fun _ h9 => h9) rfl dX5_takeName_5 ?_
    refine lv_icmp_ge (tgt := 39) hx hb dX5_takeName_8 (by decide) (fun c1 => ?_) (fun c1 => ?_)
    · have hf := ok_t c1 hf
      refine lv_aload_n hx hb dX5_takeName_39 rfl (lv_at hl 0 rfl) ?_
      refine lv_iconst (v := 1) hx hb dX5_takeName_40 (by decide) ?_
      refine z_put (C := RX5) (T := TX5) (N := 8) (ci := 5) (ty := .int) (v := .int 1) hx hb hts i_X5_takeName_5 tyX5 tyX5_ok nmX5 hown hK hI 13 rfl (by decide) rfl 3 (by decide) (hts (.fieldLink RX5 38 "FenceYards$Reader" "token" "I") (by decide +kernel)) (fun _ h9 => h9) rfl (by decide +kernel) rfl rfl (Nat.le_of_ble_eq_true rfl) (set_I hI.2.2.2 rfl (by decide) rfl) rfl hI.2.2.2 dX5_takeName_41 (fun H locs hI => ?_)
      cases hf
      exact z_vret hx hb hr hlk hK hG hI dX5_takeName_44
    · have hf := ok_f c1 hf
      refine lv_aload_n hx hb dX5_takeName_11 rfl (lv_at hl 0 rfl) ?_
      refine z_get (C := RX5) (T := TX5) (N := 8) (ci := 5) (v := .ref (G.1 + 14)) hx hb hts i_X5_takeName_5 hown hK hI 13 rfl (by decide) rfl 0 (by decide) (hts (.fieldLink RX5 9 "FenceYards$Reader" "tape" "[B") (by decide +kernel)) (fun _ h9 => h9) rfl dX5_takeName_12 ?_
      refine lv_aload_n hx hb dX5_takeName_15 rfl (lv_at hl 0 rfl) ?_
      refine z_get (C := RX5) (T := TX5) (N := 8) (ci := 5) (v := .int (gI σ 13 2)) hx hb hts i_X5_takeName_5 hown hK hI 13 rfl (by decide) rfl 2 (by decide) (hts (.fieldLink RX5 19 "FenceYards$Reader" "at" "I") (by decide +kernel)) (fun _ h9 => h9) rfl dX5_takeName_16 ?_
      obtain ⟨h1, hf⟩ := ok_c hf
      refine z_bald hx hb hK hI 14 (k := (gI σ 13 2).toNatClampNeg) rfl h1 rfl dX5_takeName_19 ?_
      obtain ⟨r1, hc1, hf⟩ := ok_1 hf
      refine z_calli0 rfl rfl hI (va_runS (As := [.int (gI σ 14 ((gI σ 13 2).toNatClampNeg))]) (rest := []) ⟨hx, hb, hml, hown, hts⟩ (m_X5_isLetter G l  hc1) (va_cwS 1 hts gX5_takeName_X5_isLetter rfl rfl rfl (by decide +kernel) ⟨Nat.le_of_ble_eq_true rfl, Nat.le_of_ble_eq_true rfl⟩) (z_pre hK hG hI) rfl rfl hl.1 rfl (lv_room (Nat.le_of_ble_eq_true rfl)) dX5_takeName_20 ⟨Nat.zero_le _, Nat.zero_le _⟩) (fun H locs hI => ?_)
      refine lv_if_eq (tgt := 39) hx hb dX5_takeName_23 (by decide) (fun c2 => ?_) (fun c2 => ?_)
      · have hf := ok_t c2 hf
        refine lv_aload_n hx hb dX5_takeName_39 rfl (lv_at hl 0 rfl) ?_
        refine lv_iconst (v := 1) hx hb dX5_takeName_40 (by decide) ?_
        refine z_put (C := RX5) (T := TX5) (N := 8) (ci := 5) (ty := .int) (v := .int 1) hx hb hts i_X5_takeName_5 tyX5 tyX5_ok nmX5 hown hK hI 13 rfl (by decide) rfl 3 (by decide) (hts (.fieldLink RX5 38 "FenceYards$Reader" "token" "I") (by decide +kernel)) (fun _ h9 => h9) rfl (by decide +kernel) rfl rfl (Nat.le_of_ble_eq_true rfl) (set_I hI.2.2.2 rfl (by decide) rfl) rfl hI.2.2.2 dX5_takeName_41 (fun H locs hI => ?_)
        cases hf
        exact z_vret hx hb hr hlk hK hG hI dX5_takeName_44
      · have hf := ok_f c2 hf
        refine lv_aload_n hx hb dX5_takeName_26 rfl (lv_at hl 0 rfl) ?_
        refine lv_dup hx hb dX5_takeName_27 rfl ?_
        refine z_get (C := RX5) (T := TX5) (N := 8) (ci := 5) (v := .int (gI σ 13 2)) hx hb hts i_X5_takeName_5 hown hK hI 13 rfl (by decide) rfl 2 (by decide) (hts (.fieldLink RX5 19 "FenceYards$Reader" "at" "I") (by decide +kernel)) (fun _ h9 => h9) rfl dX5_takeName_28 ?_
        refine lv_iconst (v := 1) hx hb dX5_takeName_31 (by decide) ?_
        refine lv_iadd hx hb dX5_takeName_32 ?_
        refine z_put (C := RX5) (T := TX5) (N := 8) (ci := 5) (ty := .int) (v := .int ((gI σ 13 2) + 1)) hx hb hts i_X5_takeName_5 tyX5 tyX5_ok nmX5 hown hK hI 13 rfl (by decide) rfl 2 (by decide) (hts (.fieldLink RX5 19 "FenceYards$Reader" "at" "I") (by decide +kernel)) (fun _ h9 => h9) rfl (by decide +kernel) rfl rfl (Nat.le_of_ble_eq_true rfl) (set_I hI.2.2.2 rfl (by decide) rfl) rfl hI.2.2.2 dX5_takeName_33 (fun H locs hI => ?_)
        refine lv_goto (tgt := 0) hx hb dX5_takeName_36 (by decide) ?_
        exact ih _ hf _ _ hI _ (lv_sub hl [0] rfl)

set_option maxRecDepth 100000 in
set_option maxHeartbeats 4000000 in
theorem m_X5_takeName (G : GT) (l : Launch) {σ : Hp}  {σ' : Hp}  (hf : f_X5_takeName σ = some σ') : MetG G l yX5_takeName wsX5_takeName (rmk 1 20) σ [.ref (G.1 + 13)] (QV G σ') := by
  refine met_of (cc := cX5_takeName) (nL := 1) (ret := none) (by decide) rfl (Nat.le_of_ble_eq_true rfl) ?_
  intro p e s m below meth c C0 hnm hI ls hl
  obtain ⟨hx, hb, hr, hml, hown, hts, hlk, hK, hG⟩ := id C0
  have hl : lv_has ls 1 [(0, .ref (G.1 + 13))] := hl
  unfold f_X5_takeName at hf
  refine lv_aload_n hx hb dX5_takeName_0 rfl (lv_at hl 0 rfl) ?_
  refine z_get (C := RX5) (T := TX5) (N := 8) (ci := 5) (v := .int (gI σ 13 2)) hx hb hts i_X5_takeName_5 hown hK hI 13 rfl (by decide) rfl 2 (by decide) (hts (.fieldLink RX5 19 "FenceYards$Reader" "at" "I") (by decide +kernel)) (fun _ h9 => h9) rfl dX5_takeName_1 ?_
  refine lv_aload_n hx hb dX5_takeName_4 rfl (lv_at hl 0 rfl) ?_
  refine z_get (C := RX5) (T := TX5) (N := 8) (ci := 5) (v := .int (gI σ 13 1)) hx hb hts i_X5_takeName_5 hown hK hI 13 rfl (by decide) rfl 1 (by decide) (hts (.fieldLink RX5 15 "FenceYards$Reader" "size" "I") (by decide +kernel)) (fun _ h9 => h9) rfl dX5_takeName_5 ?_
  refine lv_icmp_ge (tgt := 39) hx hb dX5_takeName_8 (by decide) (fun c1 => ?_) (fun c1 => ?_)
  · have hf := ok_t c1 hf
    refine lv_aload_n hx hb dX5_takeName_39 rfl (lv_at hl 0 rfl) ?_
    refine lv_iconst (v := 1) hx hb dX5_takeName_40 (by decide) ?_
    refine z_put (C := RX5) (T := TX5) (N := 8) (ci := 5) (ty := .int) (v := .int 1) hx hb hts i_X5_takeName_5 tyX5 tyX5_ok nmX5 hown hK hI 13 rfl (by decide) rfl 3 (by decide) (hts (.fieldLink RX5 38 "FenceYards$Reader" "token" "I") (by decide +kernel)) (fun _ h9 => h9) rfl (by decide +kernel) rfl rfl (Nat.le_of_ble_eq_true rfl) (set_I hI.2.2.2 rfl (by decide) rfl) rfl hI.2.2.2 dX5_takeName_41 (fun H locs hI => ?_)
    cases hf
    exact z_vret hx hb hr hlk hK hG hI dX5_takeName_44
  · have hf := ok_f c1 hf
    refine lv_aload_n hx hb dX5_takeName_11 rfl (lv_at hl 0 rfl) ?_
    refine z_get (C := RX5) (T := TX5) (N := 8) (ci := 5) (v := .ref (G.1 + 14)) hx hb hts i_X5_takeName_5 hown hK hI 13 rfl (by decide) rfl 0 (by decide) (hts (.fieldLink RX5 9 "FenceYards$Reader" "tape" "[B") (by decide +kernel)) (fun _ h9 => h9) rfl dX5_takeName_12 ?_
    refine lv_aload_n hx hb dX5_takeName_15 rfl (lv_at hl 0 rfl) ?_
    refine z_get (C := RX5) (T := TX5) (N := 8) (ci := 5) (v := .int (gI σ 13 2)) hx hb hts i_X5_takeName_5 hown hK hI 13 rfl (by decide) rfl 2 (by decide) (hts (.fieldLink RX5 19 "FenceYards$Reader" "at" "I") (by decide +kernel)) (fun _ h9 => h9) rfl dX5_takeName_16 ?_
    obtain ⟨h1, hf⟩ := ok_c hf
    refine z_bald hx hb hK hI 14 (k := (gI σ 13 2).toNatClampNeg) rfl h1 rfl dX5_takeName_19 ?_
    obtain ⟨r1, hc1, hf⟩ := ok_1 hf
    refine z_calli0 rfl rfl hI (va_runS (As := [.int (gI σ 14 ((gI σ 13 2).toNatClampNeg))]) (rest := []) ⟨hx, hb, hml, hown, hts⟩ (m_X5_isLetter G l  hc1) (va_cwS 1 hts gX5_takeName_X5_isLetter rfl rfl rfl (by decide +kernel) ⟨Nat.le_of_ble_eq_true rfl, Nat.le_of_ble_eq_true rfl⟩) (z_pre hK hG hI) rfl rfl hl.1 rfl (lv_room (Nat.le_of_ble_eq_true rfl)) dX5_takeName_20 ⟨Nat.zero_le _, Nat.zero_le _⟩) (fun H locs hI => ?_)
    refine lv_if_eq (tgt := 39) hx hb dX5_takeName_23 (by decide) (fun c2 => ?_) (fun c2 => ?_)
    · have hf := ok_t c2 hf
      refine lv_aload_n hx hb dX5_takeName_39 rfl (lv_at hl 0 rfl) ?_
      refine lv_iconst (v := 1) hx hb dX5_takeName_40 (by decide) ?_
      refine z_put (C := RX5) (T := TX5) (N := 8) (ci := 5) (ty := .int) (v := .int 1) hx hb hts i_X5_takeName_5 tyX5 tyX5_ok nmX5 hown hK hI 13 rfl (by decide) rfl 3 (by decide) (hts (.fieldLink RX5 38 "FenceYards$Reader" "token" "I") (by decide +kernel)) (fun _ h9 => h9) rfl (by decide +kernel) rfl rfl (Nat.le_of_ble_eq_true rfl) (set_I hI.2.2.2 rfl (by decide) rfl) rfl hI.2.2.2 dX5_takeName_41 (fun H locs hI => ?_)
      cases hf
      exact z_vret hx hb hr hlk hK hG hI dX5_takeName_44
    · have hf := ok_f c2 hf
      refine lv_aload_n hx hb dX5_takeName_26 rfl (lv_at hl 0 rfl) ?_
      refine lv_dup hx hb dX5_takeName_27 rfl ?_
      refine z_get (C := RX5) (T := TX5) (N := 8) (ci := 5) (v := .int (gI σ 13 2)) hx hb hts i_X5_takeName_5 hown hK hI 13 rfl (by decide) rfl 2 (by decide) (hts (.fieldLink RX5 19 "FenceYards$Reader" "at" "I") (by decide +kernel)) (fun _ h9 => h9) rfl dX5_takeName_28 ?_
      refine lv_iconst (v := 1) hx hb dX5_takeName_31 (by decide) ?_
      refine lv_iadd hx hb dX5_takeName_32 ?_
      refine z_put (C := RX5) (T := TX5) (N := 8) (ci := 5) (ty := .int) (v := .int ((gI σ 13 2) + 1)) hx hb hts i_X5_takeName_5 tyX5 tyX5_ok nmX5 hown hK hI 13 rfl (by decide) rfl 2 (by decide) (hts (.fieldLink RX5 19 "FenceYards$Reader" "at" "I") (by decide +kernel)) (fun _ h9 => h9) rfl (by decide +kernel) rfl rfl (Nat.le_of_ble_eq_true rfl) (set_I hI.2.2.2 rfl (by decide) rfl) rfl hI.2.2.2 dX5_takeName_33 (fun H locs hI => ?_)
      refine lv_goto (tgt := 0) hx hb dX5_takeName_36 (by decide) ?_
      exact w_X5_takeName_0  C0  _ _ hf _ _ hI _ (lv_sub hl [0] rfl)

-- ===== FenceYards$Reader.isFigure(I)Z
def f_X5_isFigure (σ : Hp) (x0 : Int32) : Option (Int32) :=
  if x0 < 48 then (some 0) else (if 57 < x0 then (some 0) else (some 1))
set_option maxRecDepth 100000 in
set_option maxHeartbeats 4000000 in
theorem m_X5_isFigure (G : GT) (l : Launch) {σ : Hp} {x0 : Int32} {r : Int32}  (hf : f_X5_isFigure σ x0 = some r) : MetG G l yX5_isFigure wsX5_isFigure (rmk 0 0) σ [.int x0] (QI G σ r) := by
  refine met_of (cc := cX5_isFigure) (nL := 1) (ret := (some .boolean)) (by decide) rfl (Nat.le_of_ble_eq_true rfl) ?_
  intro p e s m below meth c C0 hnm hI ls hl
  obtain ⟨hx, hb, hr, hml, hown, hts, hlk, hK, hG⟩ := id C0
  have hl : lv_has ls 1 [(0, .int x0)] := hl
  unfold f_X5_isFigure at hf
  refine lv_iload_n hx hb dX5_isFigure_0 rfl (lv_at hl 0 rfl) ?_
  refine lv_bipush (v := 48) hx hb dX5_isFigure_1 (by decide) ?_
  refine lv_icmp_lt (tgt := 16) hx hb dX5_isFigure_3 (by decide) (fun c1 => ?_) (fun c1 => ?_)
  · have hf := ok_t c1 hf
    refine lv_iconst (v := 0) hx hb dX5_isFigure_16 (by decide) ?_
    cases hf
    exact z_zret hx hb hr hlk hK hG hI (Or.inl rfl) dX5_isFigure_17
  · have hf := ok_f c1 hf
    refine lv_iload_n hx hb dX5_isFigure_6 rfl (lv_at hl 0 rfl) ?_
    refine lv_bipush (v := 57) hx hb dX5_isFigure_7 (by decide) ?_
    refine lv_icmp_gt (tgt := 16) hx hb dX5_isFigure_9 (by decide) (fun c2 => ?_) (fun c2 => ?_)
    · have hf := ok_t c2 hf
      refine lv_iconst (v := 0) hx hb dX5_isFigure_16 (by decide) ?_
      cases hf
      exact z_zret hx hb hr hlk hK hG hI (Or.inl rfl) dX5_isFigure_17
    · have hf := ok_f c2 hf
      refine lv_iconst (v := 1) hx hb dX5_isFigure_12 (by decide) ?_
      refine lv_goto (tgt := 17) hx hb dX5_isFigure_13 (by decide) ?_
      cases hf
      exact z_zret hx hb hr hlk hK hG hI (Or.inr rfl) dX5_isFigure_17

-- ===== FenceYards$Reader.takeNumber()V
set_option maxRecDepth 100000 in
theorem i_X5_takeNumber_5 : ∀ w ∈ u_ws RX5 TX5 8, w ∈ wsX5_takeNumber := by decide +kernel
def f_X5_takeNumber_88   (σ : Hp)  : Option (Hp) :=
  if ((gI σ 13 2) - (gI σ 13 4)) ≤ 3 then (some (sI σ 13 3 2)) else (some (sI σ 13 3 4))
def f_X5_takeNumber_5     : Nat → Hp → Option (Hp)
  | 0, _ => none
  | n + 1, σ =>
    if (gI σ 13 1) ≤ (gI σ 13 2) then (f_X5_takeNumber_88 σ) else (chk (inb (gI σ 13 2) 400) <| bd1 (f_X5_isFigure σ (gI σ 14 ((gI σ 13 2).toNatClampNeg))) fun r1 => if r1 = 0 then (f_X5_takeNumber_88 σ) else (if 3 ≤ ((gI σ 13 2) - (gI σ 13 4)) then (bnd (sI (sI σ 13 5 (gI σ 13 5)) 13 2 ((gI (sI σ 13 5 (gI σ 13 5)) 13 2) + 1)) fun s1 => f_X5_takeNumber_5 n s1) else (chk (inb (gI σ 13 2) 400) <| bnd (sI σ 13 5 (((10 * (gI σ 13 5)) + (gI σ 14 ((gI σ 13 2).toNatClampNeg))) - 48)) fun s2 => f_X5_takeNumber_5 n (sI s2 13 2 ((gI s2 13 2) + 1)))))
def f_X5_takeNumber (σ : Hp)  : Option (Hp) :=
  f_X5_takeNumber_5 fu (sI σ 13 5 0)
set_option maxRecDepth 100000 in
set_option maxHeartbeats 4000000 in
theorem w_X5_takeNumber_88 {G : GT} {p : Program} {l : Launch} {e : Env} {s : State} {m : MethodId} {args : Array Value} {below : List Frame} {meth : Method} {c : Code}  {σ' : Hp}  {σ : Hp}   (C0 : Cx G cX5_takeNumber RX5 wsX5_takeNumber 1 none p s m args meth c)  (hf : f_X5_takeNumber_88 σ = some σ') {H : Heap} {locs : List Loc} (hI : Inv G s σ H locs) {ls : Array Slot} (hl : lv_has ls 1 [(0, .ref (G.1 + 13))]) : W p l e (rmk 1 20) s m args below meth c H locs 0 0 (MQ below (QV G σ') args s (rmk 1 20).cells (rmk 1 20).slots (gA G)) (F0 m 88 ls []) := by
  obtain ⟨hx, hb, hr, hml, hown, hts, hlk, hK, hG⟩ := id C0
  unfold f_X5_takeNumber_88 at hf
  refine lv_aload_n hx hb dX5_takeNumber_88 rfl (lv_at hl 0 rfl) ?_
  refine lv_aload_n hx hb dX5_takeNumber_89 rfl (lv_at hl 0 rfl) ?_
  refine z_get (C := RX5) (T := TX5) (N := 8) (ci := 5) (v := .int (gI σ 13 2)) hx hb hts i_X5_takeNumber_5 hown hK hI 13 rfl (by decide) rfl 2 (by decide) (hts (.fieldLink RX5 19 "FenceYards$Reader" "at" "I") (by decide +kernel)) (fun _ h9 => h9) rfl dX5_takeNumber_90 ?_
  refine lv_aload_n hx hb dX5_takeNumber_93 rfl (lv_at hl 0 rfl) ?_
  refine z_get (C := RX5) (T := TX5) (N := 8) (ci := 5) (v := .int (gI σ 13 4)) hx hb hts i_X5_takeNumber_5 hown hK hI 13 rfl (by decide) rfl 4 (by decide) (hts (.fieldLink RX5 113 "FenceYards$Reader" "start" "I") (by decide +kernel)) (fun _ h9 => h9) rfl dX5_takeNumber_94 ?_
  refine lv_isub hx hb dX5_takeNumber_97 ?_
  refine lv_iconst (v := 3) hx hb dX5_takeNumber_98 (by decide) ?_
  refine lv_icmp_le (tgt := 106) hx hb dX5_takeNumber_99 (by decide) (fun c1 => ?_) (fun c1 => ?_)
  · have hf := ok_t c1 hf
    refine lv_iconst (v := 2) hx hb dX5_takeNumber_106 (by decide) ?_
    refine z_put (C := RX5) (T := TX5) (N := 8) (ci := 5) (ty := .int) (v := .int 2) hx hb hts i_X5_takeNumber_5 tyX5 tyX5_ok nmX5 hown hK hI 13 rfl (by decide) rfl 3 (by decide) (hts (.fieldLink RX5 38 "FenceYards$Reader" "token" "I") (by decide +kernel)) (fun _ h9 => h9) rfl (by decide +kernel) rfl rfl (Nat.le_of_ble_eq_true rfl) (set_I hI.2.2.2 rfl (by decide) rfl) rfl hI.2.2.2 dX5_takeNumber_107 (fun H locs hI => ?_)
    cases hf
    exact z_vret hx hb hr hlk hK hG hI dX5_takeNumber_110
  · have hf := ok_f c1 hf
    refine lv_iconst (v := 4) hx hb dX5_takeNumber_102 (by decide) ?_
    refine lv_goto (tgt := 107) hx hb dX5_takeNumber_103 (by decide) ?_
    refine z_put (C := RX5) (T := TX5) (N := 8) (ci := 5) (ty := .int) (v := .int 4) hx hb hts i_X5_takeNumber_5 tyX5 tyX5_ok nmX5 hown hK hI 13 rfl (by decide) rfl 3 (by decide) (hts (.fieldLink RX5 38 "FenceYards$Reader" "token" "I") (by decide +kernel)) (fun _ h9 => h9) rfl (by decide +kernel) rfl rfl (Nat.le_of_ble_eq_true rfl) (set_I hI.2.2.2 rfl (by decide) rfl) rfl hI.2.2.2 dX5_takeNumber_107 (fun H locs hI => ?_)
    cases hf
    exact z_vret hx hb hr hlk hK hG hI dX5_takeNumber_110

set_option maxRecDepth 100000 in
set_option maxHeartbeats 4000000 in
theorem w_X5_takeNumber_5 {G : GT} {p : Program} {l : Launch} {e : Env} {s : State} {m : MethodId} {args : Array Value} {below : List Frame} {meth : Method} {c : Code}  {σ' : Hp}     (C0 : Cx G cX5_takeNumber RX5 wsX5_takeNumber 1 none p s m args meth c)  :
    ∀ (n : Nat) (σ : Hp), f_X5_takeNumber_5 n σ = some σ' → ∀ (H : Heap) (locs : List Loc), Inv G s σ H locs → ∀ ls : Array Slot, lv_has ls 1 [(0, .ref (G.1 + 13))] → W p l e (rmk 1 20) s m args below meth c H locs 0 0 (MQ below (QV G σ') args s (rmk 1 20).cells (rmk 1 20).slots (gA G)) (F0 m 5 ls []) := by
  obtain ⟨hx, hb, hr, hml, hown, hts, hlk, hK, hG⟩ := id C0
  intro n
  induction n with
  | zero =>
    intro σ hf
    cases hf
  | succ n ih =>
    intro σ hf H locs hI ls hl
    rw [f_X5_takeNumber_5] at hf
    refine lv_aload_n hx hb dX5_takeNumber_5 rfl (lv_at hl 0 rfl) ?_
    refine z_get (C := RX5) (T := TX5) (N := 8) (ci := 5) (v := .int (gI σ 13 2)) hx hb hts i_X5_takeNumber_5 hown hK hI 13 rfl (by decide) rfl 2 (by decide) (hts (.fieldLink RX5 19 "FenceYards$Reader" "at" "I") (by decide +kernel)) (fun _ h9 => h9) rfl dX5_takeNumber_6 ?_
    refine lv_aload_n hx hb dX5_takeNumber_9 rfl (lv_at hl 0 rfl) ?_
    refine z_get (C := RX5) (T := TX5) (N := 8) (ci := 5) (v := .int (gI σ 13 1)) hx hb hts i_X5_takeNumber_5 hown hK hI 13 rfl (by decide) rfl 1 (by decide) (hts (.fieldLink RX5 15 "FenceYards$Reader" "size" "I") (by decide +kernel)) (fun _ h9 => h9) rfl dX5_takeNumber_10 ?_
    refine lv_icmp_ge (tgt := 88) hx hb dX5_takeNumber_13 (by decide) (fun c1 => ?_) (fun c1 => ?_)
    · have hf := ok_t c1 hf
      exact w_X5_takeNumber_88  C0  hf hI (lv_sub hl [0] rfl)
    · have hf := ok_f c1 hf
      refine lv_aload_n hx hb dX5_takeNumber_16 rfl (lv_at hl 0 rfl) ?_
      refine z_get (C := RX5) (T := TX5) (N := 8) (ci := 5) (v := .ref (G.1 + 14)) hx hb hts i_X5_takeNumber_5 hown hK hI 13 rfl (by decide) rfl 0 (by decide) (hts (.fieldLink RX5 9 "FenceYards$Reader" "tape" "[B") (by decide +kernel)) (fun _ h9 => h9) rfl dX5_takeNumber_17 ?_
      refine lv_aload_n hx hb dX5_takeNumber_20 rfl (lv_at hl 0 rfl) ?_
      refine z_get (C := RX5) (T := TX5) (N := 8) (ci := 5) (v := .int (gI σ 13 2)) hx hb hts i_X5_takeNumber_5 hown hK hI 13 rfl (by decide) rfl 2 (by decide) (hts (.fieldLink RX5 19 "FenceYards$Reader" "at" "I") (by decide +kernel)) (fun _ h9 => h9) rfl dX5_takeNumber_21 ?_
      obtain ⟨h1, hf⟩ := ok_c hf
      refine z_bald hx hb hK hI 14 (k := (gI σ 13 2).toNatClampNeg) rfl h1 rfl dX5_takeNumber_24 ?_
      obtain ⟨r1, hc1, hf⟩ := ok_1 hf
      refine z_calli0 rfl rfl hI (va_runS (As := [.int (gI σ 14 ((gI σ 13 2).toNatClampNeg))]) (rest := []) ⟨hx, hb, hml, hown, hts⟩ (m_X5_isFigure G l  hc1) (va_cwS 1 hts gX5_takeNumber_X5_isFigure rfl rfl rfl (by decide +kernel) ⟨Nat.le_of_ble_eq_true rfl, Nat.le_of_ble_eq_true rfl⟩) (z_pre hK hG hI) rfl rfl hl.1 rfl (lv_room (Nat.le_of_ble_eq_true rfl)) dX5_takeNumber_25 ⟨Nat.zero_le _, Nat.zero_le _⟩) (fun H locs hI => ?_)
      refine lv_if_eq (tgt := 88) hx hb dX5_takeNumber_28 (by decide) (fun c2 => ?_) (fun c2 => ?_)
      · have hf := ok_t c2 hf
        exact w_X5_takeNumber_88  C0  hf hI (lv_sub hl [0] rfl)
      · have hf := ok_f c2 hf
        refine lv_aload_n hx hb dX5_takeNumber_31 rfl (lv_at hl 0 rfl) ?_
        refine lv_aload_n hx hb dX5_takeNumber_32 rfl (lv_at hl 0 rfl) ?_
        refine z_get (C := RX5) (T := TX5) (N := 8) (ci := 5) (v := .int (gI σ 13 2)) hx hb hts i_X5_takeNumber_5 hown hK hI 13 rfl (by decide) rfl 2 (by decide) (hts (.fieldLink RX5 19 "FenceYards$Reader" "at" "I") (by decide +kernel)) (fun _ h9 => h9) rfl dX5_takeNumber_33 ?_
        refine lv_aload_n hx hb dX5_takeNumber_36 rfl (lv_at hl 0 rfl) ?_
        refine z_get (C := RX5) (T := TX5) (N := 8) (ci := 5) (v := .int (gI σ 13 4)) hx hb hts i_X5_takeNumber_5 hown hK hI 13 rfl (by decide) rfl 4 (by decide) (hts (.fieldLink RX5 113 "FenceYards$Reader" "start" "I") (by decide +kernel)) (fun _ h9 => h9) rfl dX5_takeNumber_37 ?_
        refine lv_isub hx hb dX5_takeNumber_40 ?_
        refine lv_iconst (v := 3) hx hb dX5_takeNumber_41 (by decide) ?_
        refine lv_icmp_ge (tgt := 68) hx hb dX5_takeNumber_42 (by decide) (fun c3 => ?_) (fun c3 => ?_)
        · have hf := ok_t c3 hf
          refine lv_aload_n hx hb dX5_takeNumber_68 rfl (lv_at hl 0 rfl) ?_
          refine z_get (C := RX5) (T := TX5) (N := 8) (ci := 5) (v := .int (gI σ 13 5)) hx hb hts i_X5_takeNumber_5 hown hK hI 13 rfl (by decide) rfl 5 (by decide) (hts (.fieldLink RX5 67 "FenceYards$Reader" "value" "I") (by decide +kernel)) (fun _ h9 => h9) rfl dX5_takeNumber_69 ?_
          refine z_put (C := RX5) (T := TX5) (N := 8) (ci := 5) (ty := .int) (v := .int (gI σ 13 5)) hx hb hts i_X5_takeNumber_5 tyX5 tyX5_ok nmX5 hown hK hI 13 rfl (by decide) rfl 5 (by decide) (hts (.fieldLink RX5 67 "FenceYards$Reader" "value" "I") (by decide +kernel)) (fun _ h9 => h9) rfl (by decide +kernel) rfl rfl (Nat.le_of_ble_eq_true rfl) (set_I hI.2.2.2 rfl (by decide) rfl) rfl hI.2.2.2 dX5_takeNumber_72 (fun H locs hI => ?_)
          refine lv_aload_n hx hb dX5_takeNumber_75 rfl (lv_at hl 0 rfl) ?_
          refine lv_dup hx hb dX5_takeNumber_76 rfl ?_
          refine z_get (C := RX5) (T := TX5) (N := 8) (ci := 5) (v := .int (gI (sI σ 13 5 (gI σ 13 5)) 13 2)) hx hb hts i_X5_takeNumber_5 hown hK hI 13 rfl (by decide) rfl 2 (by decide) (hts (.fieldLink RX5 19 "FenceYards$Reader" "at" "I") (by decide +kernel)) (fun _ h9 => h9) rfl dX5_takeNumber_77 ?_
          refine lv_iconst (v := 1) hx hb dX5_takeNumber_80 (by decide) ?_
          refine lv_iadd hx hb dX5_takeNumber_81 ?_
          refine z_put (C := RX5) (T := TX5) (N := 8) (ci := 5) (ty := .int) (v := .int ((gI (sI σ 13 5 (gI σ 13 5)) 13 2) + 1)) hx hb hts i_X5_takeNumber_5 tyX5 tyX5_ok nmX5 hown hK hI 13 rfl (by decide) rfl 2 (by decide) (hts (.fieldLink RX5 19 "FenceYards$Reader" "at" "I") (by decide +kernel)) (fun _ h9 => h9) rfl (by decide +kernel) rfl rfl (Nat.le_of_ble_eq_true rfl) (set_I hI.2.2.2 rfl (by decide) rfl) rfl hI.2.2.2 dX5_takeNumber_82 (fun H locs hI => ?_)
          obtain ⟨s1, es1⟩ : ∃ z, z = sI (sI σ 13 5 (gI σ 13 5)) 13 2 ((gI (sI σ 13 5 (gI σ 13 5)) 13 2) + 1) := ⟨_, rfl⟩
          have hI : Inv G s s1 H locs := by rw [es1]; exact hI
          have hf := ok_n hf es1
          refine lv_goto (tgt := 5) hx hb dX5_takeNumber_85 (by decide) ?_
          exact ih _ hf _ _ hI _ (lv_sub hl [0] rfl)
        · have hf := ok_f c3 hf
          refine lv_bipush (v := 10) hx hb dX5_takeNumber_45 (by decide) ?_
          refine lv_aload_n hx hb dX5_takeNumber_47 rfl (lv_at hl 0 rfl) ?_
          refine z_get (C := RX5) (T := TX5) (N := 8) (ci := 5) (v := .int (gI σ 13 5)) hx hb hts i_X5_takeNumber_5 hown hK hI 13 rfl (by decide) rfl 5 (by decide) (hts (.fieldLink RX5 67 "FenceYards$Reader" "value" "I") (by decide +kernel)) (fun _ h9 => h9) rfl dX5_takeNumber_48 ?_
          refine lv_imul hx hb dX5_takeNumber_51 ?_
          refine lv_aload_n hx hb dX5_takeNumber_52 rfl (lv_at hl 0 rfl) ?_
          refine z_get (C := RX5) (T := TX5) (N := 8) (ci := 5) (v := .ref (G.1 + 14)) hx hb hts i_X5_takeNumber_5 hown hK hI 13 rfl (by decide) rfl 0 (by decide) (hts (.fieldLink RX5 9 "FenceYards$Reader" "tape" "[B") (by decide +kernel)) (fun _ h9 => h9) rfl dX5_takeNumber_53 ?_
          refine lv_aload_n hx hb dX5_takeNumber_56 rfl (lv_at hl 0 rfl) ?_
          refine z_get (C := RX5) (T := TX5) (N := 8) (ci := 5) (v := .int (gI σ 13 2)) hx hb hts i_X5_takeNumber_5 hown hK hI 13 rfl (by decide) rfl 2 (by decide) (hts (.fieldLink RX5 19 "FenceYards$Reader" "at" "I") (by decide +kernel)) (fun _ h9 => h9) rfl dX5_takeNumber_57 ?_
          obtain ⟨h2, hf⟩ := ok_c hf
          refine z_bald hx hb hK hI 14 (k := (gI σ 13 2).toNatClampNeg) rfl h2 rfl dX5_takeNumber_60 ?_
          refine lv_iadd hx hb dX5_takeNumber_61 ?_
          refine lv_bipush (v := 48) hx hb dX5_takeNumber_62 (by decide) ?_
          refine lv_isub hx hb dX5_takeNumber_64 ?_
          refine lv_goto (tgt := 72) hx hb dX5_takeNumber_65 (by decide) ?_
          refine z_put (C := RX5) (T := TX5) (N := 8) (ci := 5) (ty := .int) (v := .int (((10 * (gI σ 13 5)) + (gI σ 14 ((gI σ 13 2).toNatClampNeg))) - 48)) hx hb hts i_X5_takeNumber_5 tyX5 tyX5_ok nmX5 hown hK hI 13 rfl (by decide) rfl 5 (by decide) (hts (.fieldLink RX5 67 "FenceYards$Reader" "value" "I") (by decide +kernel)) (fun _ h9 => h9) rfl (by decide +kernel) rfl rfl (Nat.le_of_ble_eq_true rfl) (set_I hI.2.2.2 rfl (by decide) rfl) rfl hI.2.2.2 dX5_takeNumber_72 (fun H locs hI => ?_)
          obtain ⟨s2, es2⟩ : ∃ z, z = sI σ 13 5 (((10 * (gI σ 13 5)) + (gI σ 14 ((gI σ 13 2).toNatClampNeg))) - 48) := ⟨_, rfl⟩
          have hI : Inv G s s2 H locs := by rw [es2]; exact hI
          have hf := ok_n hf es2
          refine lv_aload_n hx hb dX5_takeNumber_75 rfl (lv_at hl 0 rfl) ?_
          refine lv_dup hx hb dX5_takeNumber_76 rfl ?_
          refine z_get (C := RX5) (T := TX5) (N := 8) (ci := 5) (v := .int (gI s2 13 2)) hx hb hts i_X5_takeNumber_5 hown hK hI 13 rfl (by decide) rfl 2 (by decide) (hts (.fieldLink RX5 19 "FenceYards$Reader" "at" "I") (by decide +kernel)) (fun _ h9 => h9) rfl dX5_takeNumber_77 ?_
          refine lv_iconst (v := 1) hx hb dX5_takeNumber_80 (by decide) ?_
          refine lv_iadd hx hb dX5_takeNumber_81 ?_
          refine z_put (C := RX5) (T := TX5) (N := 8) (ci := 5) (ty := .int) (v := .int ((gI s2 13 2) + 1)) hx hb hts i_X5_takeNumber_5 tyX5 tyX5_ok nmX5 hown hK hI 13 rfl (by decide) rfl 2 (by decide) (hts (.fieldLink RX5 19 "FenceYards$Reader" "at" "I") (by decide +kernel)) (fun _ h9 => h9) rfl (by decide +kernel) rfl rfl (Nat.le_of_ble_eq_true rfl) (set_I hI.2.2.2 rfl (by decide) rfl) rfl hI.2.2.2 dX5_takeNumber_82 (fun H locs hI => ?_)
          refine lv_goto (tgt := 5) hx hb dX5_takeNumber_85 (by decide) ?_
          exact ih _ hf _ _ hI _ (lv_sub hl [0] rfl)

set_option maxRecDepth 100000 in
set_option maxHeartbeats 4000000 in
theorem m_X5_takeNumber (G : GT) (l : Launch) {σ : Hp}  {σ' : Hp}  (hf : f_X5_takeNumber σ = some σ') : MetG G l yX5_takeNumber wsX5_takeNumber (rmk 1 20) σ [.ref (G.1 + 13)] (QV G σ') := by
  refine met_of (cc := cX5_takeNumber) (nL := 1) (ret := none) (by decide) rfl (Nat.le_of_ble_eq_true rfl) ?_
  intro p e s m below meth c C0 hnm hI ls hl
  obtain ⟨hx, hb, hr, hml, hown, hts, hlk, hK, hG⟩ := id C0
  have hl : lv_has ls 1 [(0, .ref (G.1 + 13))] := hl
  unfold f_X5_takeNumber at hf
  refine lv_aload_n hx hb dX5_takeNumber_0 rfl (lv_at hl 0 rfl) ?_
  refine lv_iconst (v := 0) hx hb dX5_takeNumber_1 (by decide) ?_
  refine z_put (C := RX5) (T := TX5) (N := 8) (ci := 5) (ty := .int) (v := .int 0) hx hb hts i_X5_takeNumber_5 tyX5 tyX5_ok nmX5 hown hK hI 13 rfl (by decide) rfl 5 (by decide) (hts (.fieldLink RX5 67 "FenceYards$Reader" "value" "I") (by decide +kernel)) (fun _ h9 => h9) rfl (by decide +kernel) rfl rfl (Nat.le_of_ble_eq_true rfl) (set_I hI.2.2.2 rfl (by decide) rfl) rfl hI.2.2.2 dX5_takeNumber_2 (fun H locs hI => ?_)
  exact w_X5_takeNumber_5  C0  _ _ hf _ _ hI _ (lv_sub hl [0] rfl)

-- ===== FenceYards$Reader.nextToken()V
set_option maxRecDepth 100000 in
theorem i_X5_nextToken_5 : ∀ w ∈ u_ws RX5 TX5 8, w ∈ wsX5_nextToken := by decide +kernel
def f_X5_nextToken (σ : Hp)  : Option (Hp) :=
  bd1 (f_X5_skipBlanks σ) fun s1 => if (gI (sI s1 13 4 (gI s1 13 2)) 13 2) < (gI (sI s1 13 4 (gI s1 13 2)) 13 1) then (chk (inb (gI (sI s1 13 4 (gI s1 13 2)) 13 2) 400) <| bd1 (f_X5_isLetter (sI s1 13 4 (gI s1 13 2)) (gI (sI s1 13 4 (gI s1 13 2)) 14 ((gI (sI s1 13 4 (gI s1 13 2)) 13 2).toNatClampNeg))) fun r1 => if r1 = 0 then (chk (inb (gI (sI s1 13 4 (gI s1 13 2)) 13 2) 400) <| bd1 (f_X5_isFigure (sI s1 13 4 (gI s1 13 2)) (gI (sI s1 13 4 (gI s1 13 2)) 14 ((gI (sI s1 13 4 (gI s1 13 2)) 13 2).toNatClampNeg))) fun r2 => if r2 = 0 then (chk (inb (gI (sI s1 13 4 (gI s1 13 2)) 13 2) 400) <| if (gI (sI s1 13 4 (gI s1 13 2)) 14 ((gI (sI s1 13 4 (gI s1 13 2)) 13 2).toNatClampNeg)) = 59 then (bnd (sI (sI (sI s1 13 4 (gI s1 13 2)) 13 3 3) 13 2 ((gI (sI (sI s1 13 4 (gI s1 13 2)) 13 3 3) 13 2) + 1)) fun s3 => some s3) else (bnd (sI (sI (sI s1 13 4 (gI s1 13 2)) 13 3 4) 13 2 ((gI (sI (sI s1 13 4 (gI s1 13 2)) 13 3 4) 13 2) + 1)) fun s2 => some s2)) else (bd1 (f_X5_takeNumber (sI s1 13 4 (gI s1 13 2))) fun s4 => some s4)) else (bd1 (f_X5_takeName (sI s1 13 4 (gI s1 13 2))) fun s5 => some s5)) else (some (sI (sI s1 13 4 (gI s1 13 2)) 13 3 0))
set_option maxRecDepth 100000 in
set_option maxHeartbeats 4000000 in
theorem m_X5_nextToken (G : GT) (l : Launch) {σ : Hp}  {σ' : Hp}  (hf : f_X5_nextToken σ = some σ') : MetG G l yX5_nextToken wsX5_nextToken (rmk 2 40) σ [.ref (G.1 + 13)] (QV G σ') := by
  refine met_of (cc := cX5_nextToken) (nL := 1) (ret := none) (by decide) rfl (Nat.le_of_ble_eq_true rfl) ?_
  intro p e s m below meth c C0 hnm hI ls hl
  obtain ⟨hx, hb, hr, hml, hown, hts, hlk, hK, hG⟩ := id C0
  have hl : lv_has ls 1 [(0, .ref (G.1 + 13))] := hl
  unfold f_X5_nextToken at hf
  refine lv_aload_n hx hb dX5_nextToken_0 rfl (lv_at hl 0 rfl) ?_
  obtain ⟨s1, hc1, hf⟩ := ok_1 hf
  refine z_callv0 rfl rfl hI (va_runV (As := []) (rest := []) ⟨hx, hb, hml, hown, hts⟩ (m_X5_skipBlanks G l  hc1) (cwV 0 hts gX5_nextToken_X5_skipBlanks rfl rfl rfl (by decide +kernel) ⟨Nat.le_of_ble_eq_true rfl, Nat.le_of_ble_eq_true rfl⟩) (z_preV hK hG hI (z_rc (q := 13) (ci := 5) (n := 0) hK hI rfl (by decide) rfl)) rfl rfl hl.1 rfl (lv_room (Nat.le_of_ble_eq_true rfl)) dX5_nextToken_1 ⟨Nat.zero_le _, Nat.zero_le _⟩) (fun H locs hI => ?_)
  refine lv_aload_n hx hb dX5_nextToken_4 rfl (lv_at hl 0 rfl) ?_
  refine lv_aload_n hx hb dX5_nextToken_5 rfl (lv_at hl 0 rfl) ?_
  refine z_get (C := RX5) (T := TX5) (N := 8) (ci := 5) (v := .int (gI s1 13 2)) hx hb hts i_X5_nextToken_5 hown hK hI 13 rfl (by decide) rfl 2 (by decide) (hts (.fieldLink RX5 19 "FenceYards$Reader" "at" "I") (by decide +kernel)) (fun _ h9 => h9) rfl dX5_nextToken_6 ?_
  refine z_put (C := RX5) (T := TX5) (N := 8) (ci := 5) (ty := .int) (v := .int (gI s1 13 2)) hx hb hts i_X5_nextToken_5 tyX5 tyX5_ok nmX5 hown hK hI 13 rfl (by decide) rfl 4 (by decide) (hts (.fieldLink RX5 113 "FenceYards$Reader" "start" "I") (by decide +kernel)) (fun _ h9 => h9) rfl (by decide +kernel) rfl rfl (Nat.le_of_ble_eq_true rfl) (set_I hI.2.2.2 rfl (by decide) rfl) rfl hI.2.2.2 dX5_nextToken_9 (fun H locs hI => ?_)
  refine lv_aload_n hx hb dX5_nextToken_12 rfl (lv_at hl 0 rfl) ?_
  refine z_get (C := RX5) (T := TX5) (N := 8) (ci := 5) (v := .int (gI (sI s1 13 4 (gI s1 13 2)) 13 2)) hx hb hts i_X5_nextToken_5 hown hK hI 13 rfl (by decide) rfl 2 (by decide) (hts (.fieldLink RX5 19 "FenceYards$Reader" "at" "I") (by decide +kernel)) (fun _ h9 => h9) rfl dX5_nextToken_13 ?_
  refine lv_aload_n hx hb dX5_nextToken_16 rfl (lv_at hl 0 rfl) ?_
  refine z_get (C := RX5) (T := TX5) (N := 8) (ci := 5) (v := .int (gI (sI s1 13 4 (gI s1 13 2)) 13 1)) hx hb hts i_X5_nextToken_5 hown hK hI 13 rfl (by decide) rfl 1 (by decide) (hts (.fieldLink RX5 15 "FenceYards$Reader" "size" "I") (by decide +kernel)) (fun _ h9 => h9) rfl dX5_nextToken_17 ?_
  refine lv_icmp_lt (tgt := 31) hx hb dX5_nextToken_20 (by decide) (fun c1 => ?_) (fun c1 => ?_)
  · have hf := ok_t c1 hf
    refine lv_aload_n hx hb dX5_nextToken_31 rfl (lv_at hl 0 rfl) ?_
    refine z_get (C := RX5) (T := TX5) (N := 8) (ci := 5) (v := .ref (G.1 + 14)) hx hb hts i_X5_nextToken_5 hown hK hI 13 rfl (by decide) rfl 0 (by decide) (hts (.fieldLink RX5 9 "FenceYards$Reader" "tape" "[B") (by decide +kernel)) (fun _ h9 => h9) rfl dX5_nextToken_32 ?_
    refine lv_aload_n hx hb dX5_nextToken_35 rfl (lv_at hl 0 rfl) ?_
    refine z_get (C := RX5) (T := TX5) (N := 8) (ci := 5) (v := .int (gI (sI s1 13 4 (gI s1 13 2)) 13 2)) hx hb hts i_X5_nextToken_5 hown hK hI 13 rfl (by decide) rfl 2 (by decide) (hts (.fieldLink RX5 19 "FenceYards$Reader" "at" "I") (by decide +kernel)) (fun _ h9 => h9) rfl dX5_nextToken_36 ?_
    obtain ⟨h1, hf⟩ := ok_c hf
    refine z_bald hx hb hK hI 14 (k := (gI (sI s1 13 4 (gI s1 13 2)) 13 2).toNatClampNeg) rfl h1 rfl dX5_nextToken_39 ?_
    obtain ⟨r1, hc2, hf⟩ := ok_1 hf
    refine z_calli0 rfl rfl hI (va_runS (As := [.int (gI (sI s1 13 4 (gI s1 13 2)) 14 ((gI (sI s1 13 4 (gI s1 13 2)) 13 2).toNatClampNeg))]) (rest := []) ⟨hx, hb, hml, hown, hts⟩ (m_X5_isLetter G l  hc2) (va_cwS 1 hts gX5_nextToken_X5_isLetter rfl rfl rfl (by decide +kernel) ⟨Nat.le_of_ble_eq_true rfl, Nat.le_of_ble_eq_true rfl⟩) (z_pre hK hG hI) rfl rfl hl.1 rfl (lv_room (Nat.le_of_ble_eq_true rfl)) dX5_nextToken_40 ⟨Nat.zero_le _, Nat.zero_le _⟩) (fun H locs hI => ?_)
    refine lv_if_eq (tgt := 53) hx hb dX5_nextToken_43 (by decide) (fun c2 => ?_) (fun c2 => ?_)
    · have hf := ok_t c2 hf
      refine lv_aload_n hx hb dX5_nextToken_53 rfl (lv_at hl 0 rfl) ?_
      refine z_get (C := RX5) (T := TX5) (N := 8) (ci := 5) (v := .ref (G.1 + 14)) hx hb hts i_X5_nextToken_5 hown hK hI 13 rfl (by decide) rfl 0 (by decide) (hts (.fieldLink RX5 9 "FenceYards$Reader" "tape" "[B") (by decide +kernel)) (fun _ h9 => h9) rfl dX5_nextToken_54 ?_
      refine lv_aload_n hx hb dX5_nextToken_57 rfl (lv_at hl 0 rfl) ?_
      refine z_get (C := RX5) (T := TX5) (N := 8) (ci := 5) (v := .int (gI (sI s1 13 4 (gI s1 13 2)) 13 2)) hx hb hts i_X5_nextToken_5 hown hK hI 13 rfl (by decide) rfl 2 (by decide) (hts (.fieldLink RX5 19 "FenceYards$Reader" "at" "I") (by decide +kernel)) (fun _ h9 => h9) rfl dX5_nextToken_58 ?_
      obtain ⟨h2, hf⟩ := ok_c hf
      refine z_bald hx hb hK hI 14 (k := (gI (sI s1 13 4 (gI s1 13 2)) 13 2).toNatClampNeg) rfl h2 rfl dX5_nextToken_61 ?_
      obtain ⟨r2, hc3, hf⟩ := ok_1 hf
      refine z_calli0 rfl rfl hI (va_runS (As := [.int (gI (sI s1 13 4 (gI s1 13 2)) 14 ((gI (sI s1 13 4 (gI s1 13 2)) 13 2).toNatClampNeg))]) (rest := []) ⟨hx, hb, hml, hown, hts⟩ (m_X5_isFigure G l  hc3) (va_cwS 1 hts gX5_nextToken_X5_isFigure rfl rfl rfl (by decide +kernel) ⟨Nat.le_of_ble_eq_true rfl, Nat.le_of_ble_eq_true rfl⟩) (z_pre hK hG hI) rfl rfl hl.1 rfl (lv_room (Nat.le_of_ble_eq_true rfl)) dX5_nextToken_62 ⟨Nat.zero_le _, Nat.zero_le _⟩) (fun H locs hI => ?_)
      refine lv_if_eq (tgt := 75) hx hb dX5_nextToken_65 (by decide) (fun c3 => ?_) (fun c3 => ?_)
      · have hf := ok_t c3 hf
        refine lv_aload_n hx hb dX5_nextToken_75 rfl (lv_at hl 0 rfl) ?_
        refine lv_aload_n hx hb dX5_nextToken_76 rfl (lv_at hl 0 rfl) ?_
        refine z_get (C := RX5) (T := TX5) (N := 8) (ci := 5) (v := .ref (G.1 + 14)) hx hb hts i_X5_nextToken_5 hown hK hI 13 rfl (by decide) rfl 0 (by decide) (hts (.fieldLink RX5 9 "FenceYards$Reader" "tape" "[B") (by decide +kernel)) (fun _ h9 => h9) rfl dX5_nextToken_77 ?_
        refine lv_aload_n hx hb dX5_nextToken_80 rfl (lv_at hl 0 rfl) ?_
        refine z_get (C := RX5) (T := TX5) (N := 8) (ci := 5) (v := .int (gI (sI s1 13 4 (gI s1 13 2)) 13 2)) hx hb hts i_X5_nextToken_5 hown hK hI 13 rfl (by decide) rfl 2 (by decide) (hts (.fieldLink RX5 19 "FenceYards$Reader" "at" "I") (by decide +kernel)) (fun _ h9 => h9) rfl dX5_nextToken_81 ?_
        obtain ⟨h3, hf⟩ := ok_c hf
        refine z_bald hx hb hK hI 14 (k := (gI (sI s1 13 4 (gI s1 13 2)) 13 2).toNatClampNeg) rfl h3 rfl dX5_nextToken_84 ?_
        refine lv_bipush (v := 59) hx hb dX5_nextToken_85 (by decide) ?_
        refine lv_icmp_ne (tgt := 94) hx hb dX5_nextToken_87 (by decide) (fun c4 => ?_) (fun c4 => ?_)
        · have hf := ok_f c4 hf
          refine lv_iconst (v := 4) hx hb dX5_nextToken_94 (by decide) ?_
          refine z_put (C := RX5) (T := TX5) (N := 8) (ci := 5) (ty := .int) (v := .int 4) hx hb hts i_X5_nextToken_5 tyX5 tyX5_ok nmX5 hown hK hI 13 rfl (by decide) rfl 3 (by decide) (hts (.fieldLink RX5 38 "FenceYards$Reader" "token" "I") (by decide +kernel)) (fun _ h9 => h9) rfl (by decide +kernel) rfl rfl (Nat.le_of_ble_eq_true rfl) (set_I hI.2.2.2 rfl (by decide) rfl) rfl hI.2.2.2 dX5_nextToken_95 (fun H locs hI => ?_)
          refine lv_aload_n hx hb dX5_nextToken_98 rfl (lv_at hl 0 rfl) ?_
          refine lv_dup hx hb dX5_nextToken_99 rfl ?_
          refine z_get (C := RX5) (T := TX5) (N := 8) (ci := 5) (v := .int (gI (sI (sI s1 13 4 (gI s1 13 2)) 13 3 4) 13 2)) hx hb hts i_X5_nextToken_5 hown hK hI 13 rfl (by decide) rfl 2 (by decide) (hts (.fieldLink RX5 19 "FenceYards$Reader" "at" "I") (by decide +kernel)) (fun _ h9 => h9) rfl dX5_nextToken_100 ?_
          refine lv_iconst (v := 1) hx hb dX5_nextToken_103 (by decide) ?_
          refine lv_iadd hx hb dX5_nextToken_104 ?_
          refine z_put (C := RX5) (T := TX5) (N := 8) (ci := 5) (ty := .int) (v := .int ((gI (sI (sI s1 13 4 (gI s1 13 2)) 13 3 4) 13 2) + 1)) hx hb hts i_X5_nextToken_5 tyX5 tyX5_ok nmX5 hown hK hI 13 rfl (by decide) rfl 2 (by decide) (hts (.fieldLink RX5 19 "FenceYards$Reader" "at" "I") (by decide +kernel)) (fun _ h9 => h9) rfl (by decide +kernel) rfl rfl (Nat.le_of_ble_eq_true rfl) (set_I hI.2.2.2 rfl (by decide) rfl) rfl hI.2.2.2 dX5_nextToken_105 (fun H locs hI => ?_)
          obtain ⟨s2, es2⟩ : ∃ z, z = sI (sI (sI s1 13 4 (gI s1 13 2)) 13 3 4) 13 2 ((gI (sI (sI s1 13 4 (gI s1 13 2)) 13 3 4) 13 2) + 1) := ⟨_, rfl⟩
          have hI : Inv G s s2 H locs := by rw [es2]; exact hI
          have hf := ok_n hf es2
          cases hf
          exact z_vret hx hb hr hlk hK hG hI dX5_nextToken_108
        · have hf := ok_t c4 hf
          refine lv_iconst (v := 3) hx hb dX5_nextToken_90 (by decide) ?_
          refine lv_goto (tgt := 95) hx hb dX5_nextToken_91 (by decide) ?_
          refine z_put (C := RX5) (T := TX5) (N := 8) (ci := 5) (ty := .int) (v := .int 3) hx hb hts i_X5_nextToken_5 tyX5 tyX5_ok nmX5 hown hK hI 13 rfl (by decide) rfl 3 (by decide) (hts (.fieldLink RX5 38 "FenceYards$Reader" "token" "I") (by decide +kernel)) (fun _ h9 => h9) rfl (by decide +kernel) rfl rfl (Nat.le_of_ble_eq_true rfl) (set_I hI.2.2.2 rfl (by decide) rfl) rfl hI.2.2.2 dX5_nextToken_95 (fun H locs hI => ?_)
          refine lv_aload_n hx hb dX5_nextToken_98 rfl (lv_at hl 0 rfl) ?_
          refine lv_dup hx hb dX5_nextToken_99 rfl ?_
          refine z_get (C := RX5) (T := TX5) (N := 8) (ci := 5) (v := .int (gI (sI (sI s1 13 4 (gI s1 13 2)) 13 3 3) 13 2)) hx hb hts i_X5_nextToken_5 hown hK hI 13 rfl (by decide) rfl 2 (by decide) (hts (.fieldLink RX5 19 "FenceYards$Reader" "at" "I") (by decide +kernel)) (fun _ h9 => h9) rfl dX5_nextToken_100 ?_
          refine lv_iconst (v := 1) hx hb dX5_nextToken_103 (by decide) ?_
          refine lv_iadd hx hb dX5_nextToken_104 ?_
          refine z_put (C := RX5) (T := TX5) (N := 8) (ci := 5) (ty := .int) (v := .int ((gI (sI (sI s1 13 4 (gI s1 13 2)) 13 3 3) 13 2) + 1)) hx hb hts i_X5_nextToken_5 tyX5 tyX5_ok nmX5 hown hK hI 13 rfl (by decide) rfl 2 (by decide) (hts (.fieldLink RX5 19 "FenceYards$Reader" "at" "I") (by decide +kernel)) (fun _ h9 => h9) rfl (by decide +kernel) rfl rfl (Nat.le_of_ble_eq_true rfl) (set_I hI.2.2.2 rfl (by decide) rfl) rfl hI.2.2.2 dX5_nextToken_105 (fun H locs hI => ?_)
          obtain ⟨s3, es3⟩ : ∃ z, z = sI (sI (sI s1 13 4 (gI s1 13 2)) 13 3 3) 13 2 ((gI (sI (sI s1 13 4 (gI s1 13 2)) 13 3 3) 13 2) + 1) := ⟨_, rfl⟩
          have hI : Inv G s s3 H locs := by rw [es3]; exact hI
          have hf := ok_n hf es3
          cases hf
          exact z_vret hx hb hr hlk hK hG hI dX5_nextToken_108
      · have hf := ok_f c3 hf
        refine lv_aload_n hx hb dX5_nextToken_68 rfl (lv_at hl 0 rfl) ?_
        obtain ⟨s4, hc4, hf⟩ := ok_1 hf
        refine z_callv0 rfl rfl hI (va_runV (As := []) (rest := []) ⟨hx, hb, hml, hown, hts⟩ (m_X5_takeNumber G l  hc4) (cwV 0 hts gX5_nextToken_X5_takeNumber rfl rfl rfl (by decide +kernel) ⟨Nat.le_of_ble_eq_true rfl, Nat.le_of_ble_eq_true rfl⟩) (z_preV hK hG hI (z_rc (q := 13) (ci := 5) (n := 0) hK hI rfl (by decide) rfl)) rfl rfl hl.1 rfl (lv_room (Nat.le_of_ble_eq_true rfl)) dX5_nextToken_69 ⟨Nat.zero_le _, Nat.zero_le _⟩) (fun H locs hI => ?_)
        refine lv_goto (tgt := 108) hx hb dX5_nextToken_72 (by decide) ?_
        cases hf
        exact z_vret hx hb hr hlk hK hG hI dX5_nextToken_108
    · have hf := ok_f c2 hf
      refine lv_aload_n hx hb dX5_nextToken_46 rfl (lv_at hl 0 rfl) ?_
      obtain ⟨s5, hc5, hf⟩ := ok_1 hf
      refine z_callv0 rfl rfl hI (va_runV (As := []) (rest := []) ⟨hx, hb, hml, hown, hts⟩ (m_X5_takeName G l  hc5) (cwV 0 hts gX5_nextToken_X5_takeName rfl rfl rfl (by decide +kernel) ⟨Nat.le_of_ble_eq_true rfl, Nat.le_of_ble_eq_true rfl⟩) (z_preV hK hG hI (z_rc (q := 13) (ci := 5) (n := 0) hK hI rfl (by decide) rfl)) rfl rfl hl.1 rfl (lv_room (Nat.le_of_ble_eq_true rfl)) dX5_nextToken_47 ⟨Nat.zero_le _, Nat.zero_le _⟩) (fun H locs hI => ?_)
      refine lv_goto (tgt := 108) hx hb dX5_nextToken_50 (by decide) ?_
      cases hf
      exact z_vret hx hb hr hlk hK hG hI dX5_nextToken_108
  · have hf := ok_f c1 hf
    refine lv_aload_n hx hb dX5_nextToken_23 rfl (lv_at hl 0 rfl) ?_
    refine lv_iconst (v := 0) hx hb dX5_nextToken_24 (by decide) ?_
    refine z_put (C := RX5) (T := TX5) (N := 8) (ci := 5) (ty := .int) (v := .int 0) hx hb hts i_X5_nextToken_5 tyX5 tyX5_ok nmX5 hown hK hI 13 rfl (by decide) rfl 3 (by decide) (hts (.fieldLink RX5 38 "FenceYards$Reader" "token" "I") (by decide +kernel)) (fun _ h9 => h9) rfl (by decide +kernel) rfl rfl (Nat.le_of_ble_eq_true rfl) (set_I hI.2.2.2 rfl (by decide) rfl) rfl hI.2.2.2 dX5_nextToken_25 (fun H locs hI => ?_)
    refine lv_goto (tgt := 108) hx hb dX5_nextToken_28 (by decide) ?_
    cases hf
    exact z_vret hx hb hr hlk hK hG hI dX5_nextToken_108

-- ===== FenceYards$Reader.isWord(Ljava/lang/String;)Z
set_option maxRecDepth 100000 in
theorem i_X5_isWord_5 : ∀ w ∈ u_ws RX5 TX5 8, w ∈ wsX5_isWord := by decide +kernel
def f_X5_isWord_28  (w : Nat) (σ : Hp)  : Nat → Int32 → Option (Int32)
  | 0, _ => none
  | n + 1, x2 =>
    if (sLen w) ≤ x2 then (some 1) else (chk (inb ((gI σ 13 4) + x2) 400) <| chk (inb x2 (sLn.getD w 0)) <| if (gI σ 14 (((gI σ 13 4) + x2).toNatClampNeg)) = (sChar w x2.toNatClampNeg) then (f_X5_isWord_28 w σ n (x2 + 1)) else (some 0))
def f_X5_isWord (σ : Hp) (w : Nat) : Option (Int32) :=
  if (gI σ 13 3) = 1 then (if ((gI σ 13 2) - (gI σ 13 4)) = (sLen w) then (f_X5_isWord_28 w σ fu 0) else (some 0)) else (some 0)
set_option maxRecDepth 100000 in
set_option maxHeartbeats 4000000 in
theorem w_X5_isWord_28 {G : GT} {p : Program} {l : Launch} {e : Env} {s : State} {m : MethodId} {args : Array Value} {below : List Frame} {meth : Method} {c : Code} {w : Nat} {r : Int32}  {σ : Hp}  (hw : w < 8) (C0 : Cx G cX5_isWord RX5 wsX5_isWord 3 (some .boolean) p s m args meth c)  :
    ∀ (n : Nat) (x2 : Int32), f_X5_isWord_28 w σ n x2 = some r → ∀ (H : Heap) (locs : List Loc), Inv G s σ H locs → ∀ ls : Array Slot, lv_has ls 3 [(0, .ref (G.1 + 13)), (1, .ref (G.2.2.2.1 w)), (2, .int x2)] → W p l e (rmk 5 151) s m args below meth c H locs 0 0 (MQ below (QI G σ r) args s (rmk 5 151).cells (rmk 5 151).slots (gA G)) (F0 m 28 ls []) := by
  obtain ⟨hx, hb, hr, hml, hown, hts, hlk, hK, hG⟩ := id C0
  intro n
  induction n with
  | zero =>
    intro x2 hf
    cases hf
  | succ n ih =>
    intro x2 hf H locs hI ls hl
    rw [f_X5_isWord_28] at hf
    refine lv_iload_n hx hb dX5_isWord_28 rfl (lv_at hl 2 rfl) ?_
    refine lv_aload_n hx hb dX5_isWord_29 rfl (lv_at hl 1 rfl) ?_
    refine z_calli0 rfl rfl hI (va_runV (As := []) (rest := [.int x2]) ⟨hx, hb, hml, hown, hts⟩ (m_slen G l hw) (cwV 0 hts gX5_isWord_J0_length_8abf5 rfl rfl rfl (by decide +kernel) ⟨Nat.le_of_ble_eq_true rfl, Nat.le_of_ble_eq_true rfl⟩) (z_preV hK hG hI (vk_recv hG.2.2.2.2.1 hw hI.2.2.1)) rfl rfl hl.1 rfl (lv_room (Nat.le_of_ble_eq_true rfl)) dX5_isWord_30 ⟨Nat.zero_le _, Nat.zero_le _⟩) (fun H locs hI => ?_)
    refine lv_icmp_ge (tgt := 63) hx hb dX5_isWord_33 (by decide) (fun c1 => ?_) (fun c1 => ?_)
    · have hf := ok_t c1 hf
      refine lv_iconst (v := 1) hx hb dX5_isWord_63 (by decide) ?_
      cases hf
      exact z_zret hx hb hr hlk hK hG hI (Or.inr rfl) dX5_isWord_64
    · have hf := ok_f c1 hf
      refine lv_aload_n hx hb dX5_isWord_36 rfl (lv_at hl 0 rfl) ?_
      refine z_get (C := RX5) (T := TX5) (N := 8) (ci := 5) (v := .ref (G.1 + 14)) hx hb hts i_X5_isWord_5 hown hK hI 13 rfl (by decide) rfl 0 (by decide) (hts (.fieldLink RX5 9 "FenceYards$Reader" "tape" "[B") (by decide +kernel)) (fun _ h9 => h9) rfl dX5_isWord_37 ?_
      refine lv_aload_n hx hb dX5_isWord_40 rfl (lv_at hl 0 rfl) ?_
      refine z_get (C := RX5) (T := TX5) (N := 8) (ci := 5) (v := .int (gI σ 13 4)) hx hb hts i_X5_isWord_5 hown hK hI 13 rfl (by decide) rfl 4 (by decide) (hts (.fieldLink RX5 113 "FenceYards$Reader" "start" "I") (by decide +kernel)) (fun _ h9 => h9) rfl dX5_isWord_41 ?_
      refine lv_iload_n hx hb dX5_isWord_44 rfl (lv_at hl 2 rfl) ?_
      refine lv_iadd hx hb dX5_isWord_45 ?_
      obtain ⟨h1, hf⟩ := ok_c hf
      refine z_bald hx hb hK hI 14 (k := ((gI σ 13 4) + x2).toNatClampNeg) rfl h1 rfl dX5_isWord_46 ?_
      refine lv_aload_n hx hb dX5_isWord_47 rfl (lv_at hl 1 rfl) ?_
      refine lv_iload_n hx hb dX5_isWord_48 rfl (lv_at hl 2 rfl) ?_
      obtain ⟨h2, hf⟩ := ok_c hf
      refine z_calli0 rfl rfl hI (va_runV (As := [.int x2]) (rest := [.int (gI σ 14 (((gI σ 13 4) + x2).toNatClampNeg))]) ⟨hx, hb, hml, hown, hts⟩ (m_schar G l hw h2) (cwV 1 hts gX5_isWord_J0_charAt_5068e rfl rfl rfl (by decide +kernel) ⟨Nat.le_of_ble_eq_true rfl, Nat.le_of_ble_eq_true rfl⟩) (z_preV hK hG hI (vk_recv hG.2.2.2.2.1 hw hI.2.2.1)) rfl rfl hl.1 rfl (lv_room (Nat.le_of_ble_eq_true rfl)) dX5_isWord_49 ⟨Nat.zero_le _, Nat.zero_le _⟩) (fun H locs hI => ?_)
      refine lv_icmp_eq (tgt := 57) hx hb dX5_isWord_52 (by decide) (fun c2 => ?_) (fun c2 => ?_)
      · have hf := ok_t c2 hf
        refine lv_iinc (v := x2 + 1) (lv' := [(2, .int (x2 + 1)), (0, .ref (G.1 + 13)), (1, .ref (G.2.2.2.1 w))]) hx hb dX5_isWord_57 hl (k := 2) rfl rfl (by decide) rfl (fun ls hl => ?_)
        refine lv_goto (tgt := 28) hx hb dX5_isWord_60 (by decide) ?_
        exact ih _ hf _ _ hI _ (lv_sub hl [1, 2, 0] rfl)
      · have hf := ok_f c2 hf
        refine lv_iconst (v := 0) hx hb dX5_isWord_55 (by decide) ?_
        cases hf
        exact z_zret hx hb hr hlk hK hG hI (Or.inl rfl) dX5_isWord_56

set_option maxRecDepth 100000 in
set_option maxHeartbeats 4000000 in
theorem m_X5_isWord (G : GT) (l : Launch) {σ : Hp} {w : Nat} {r : Int32} (hw : w < 8) (hf : f_X5_isWord σ w = some r) : MetG G l yX5_isWord wsX5_isWord (rmk 5 151) σ [.ref (G.1 + 13), .ref (G.2.2.2.1 w)] (QI G σ r) := by
  refine met_of (cc := cX5_isWord) (nL := 3) (ret := (some .boolean)) (by decide) rfl (Nat.le_of_ble_eq_true rfl) ?_
  intro p e s m below meth c C0 hnm hI ls hl
  obtain ⟨hx, hb, hr, hml, hown, hts, hlk, hK, hG⟩ := id C0
  have hl : lv_has ls 3 [(0, .ref (G.1 + 13)), (1, .ref (G.2.2.2.1 w))] := hl
  unfold f_X5_isWord at hf
  refine lv_aload_n hx hb dX5_isWord_0 rfl (lv_at hl 0 rfl) ?_
  refine z_get (C := RX5) (T := TX5) (N := 8) (ci := 5) (v := .int (gI σ 13 3)) hx hb hts i_X5_isWord_5 hown hK hI 13 rfl (by decide) rfl 3 (by decide) (hts (.fieldLink RX5 38 "FenceYards$Reader" "token" "I") (by decide +kernel)) (fun _ h9 => h9) rfl dX5_isWord_1 ?_
  refine lv_iconst (v := 1) hx hb dX5_isWord_4 (by decide) ?_
  refine lv_icmp_ne (tgt := 24) hx hb dX5_isWord_5 (by decide) (fun c1 => ?_) (fun c1 => ?_)
  · have hf := ok_f c1 hf
    refine lv_iconst (v := 0) hx hb dX5_isWord_24 (by decide) ?_
    cases hf
    exact z_zret hx hb hr hlk hK hG hI (Or.inl rfl) dX5_isWord_25
  · have hf := ok_t c1 hf
    refine lv_aload_n hx hb dX5_isWord_8 rfl (lv_at hl 0 rfl) ?_
    refine z_get (C := RX5) (T := TX5) (N := 8) (ci := 5) (v := .int (gI σ 13 2)) hx hb hts i_X5_isWord_5 hown hK hI 13 rfl (by decide) rfl 2 (by decide) (hts (.fieldLink RX5 19 "FenceYards$Reader" "at" "I") (by decide +kernel)) (fun _ h9 => h9) rfl dX5_isWord_9 ?_
    refine lv_aload_n hx hb dX5_isWord_12 rfl (lv_at hl 0 rfl) ?_
    refine z_get (C := RX5) (T := TX5) (N := 8) (ci := 5) (v := .int (gI σ 13 4)) hx hb hts i_X5_isWord_5 hown hK hI 13 rfl (by decide) rfl 4 (by decide) (hts (.fieldLink RX5 113 "FenceYards$Reader" "start" "I") (by decide +kernel)) (fun _ h9 => h9) rfl dX5_isWord_13 ?_
    refine lv_isub hx hb dX5_isWord_16 ?_
    refine lv_aload_n hx hb dX5_isWord_17 rfl (lv_at hl 1 rfl) ?_
    refine z_calli0 rfl rfl hI (va_runV (As := []) (rest := [.int ((gI σ 13 2) - (gI σ 13 4))]) ⟨hx, hb, hml, hown, hts⟩ (m_slen G l hw) (cwV 0 hts gX5_isWord_J0_length_8abf5 rfl rfl rfl (by decide +kernel) ⟨Nat.le_of_ble_eq_true rfl, Nat.le_of_ble_eq_true rfl⟩) (z_preV hK hG hI (vk_recv hG.2.2.2.2.1 hw hI.2.2.1)) rfl rfl hl.1 rfl (lv_room (Nat.le_of_ble_eq_true rfl)) dX5_isWord_18 ⟨Nat.zero_le _, Nat.zero_le _⟩) (fun H locs hI => ?_)
    refine lv_icmp_eq (tgt := 26) hx hb dX5_isWord_21 (by decide) (fun c2 => ?_) (fun c2 => ?_)
    · have hf := ok_t c2 hf
      refine lv_iconst (v := 0) hx hb dX5_isWord_26 (by decide) ?_
      refine lv_istore_n (lv' := [(2, .int 0), (0, .ref (G.1 + 13)), (1, .ref (G.2.2.2.1 w))]) hx hb dX5_isWord_27 rfl hl (by decide) rfl (fun ls hl => ?_)
      exact w_X5_isWord_28 hw C0  _ _ hf _ _ hI _ (lv_sub hl [1, 2, 0] rfl)
    · have hf := ok_f c2 hf
      refine lv_iconst (v := 0) hx hb dX5_isWord_24 (by decide) ?_
      cases hf
      exact z_zret hx hb hr hlk hK hG hI (Or.inl rfl) dX5_isWord_25

-- ===== FenceYards$Reader.fail(I)Z
set_option maxRecDepth 100000 in
theorem i_X5_fail_5 : ∀ w ∈ u_ws RX5 TX5 8, w ∈ wsX5_fail := by decide +kernel
def f_X5_fail (σ : Hp) (x1 : Int32) : Option (Hp × Int32) :=
  some (sI (sI σ 13 6 x1) 13 7 (gI (sI σ 13 6 x1) 13 4), 0)
set_option maxRecDepth 100000 in
set_option maxHeartbeats 4000000 in
theorem m_X5_fail (G : GT) (l : Launch) {σ : Hp} {x1 : Int32} {σ' : Hp} {r : Int32}  (hf : f_X5_fail σ x1 = some (σ', r)) : MetG G l yX5_fail wsX5_fail (rmk 0 0) σ [.ref (G.1 + 13), .int x1] (QI G σ' r) := by
  refine met_of (cc := cX5_fail) (nL := 2) (ret := (some .boolean)) (by decide) rfl (Nat.le_of_ble_eq_true rfl) ?_
  intro p e s m below meth c C0 hnm hI ls hl
  obtain ⟨hx, hb, hr, hml, hown, hts, hlk, hK, hG⟩ := id C0
  have hl : lv_has ls 2 [(0, .ref (G.1 + 13)), (1, .int x1)] := hl
  unfold f_X5_fail at hf
  refine lv_aload_n hx hb dX5_fail_0 rfl (lv_at hl 0 rfl) ?_
  refine lv_iload_n hx hb dX5_fail_1 rfl (lv_at hl 1 rfl) ?_
  refine z_put (C := RX5) (T := TX5) (N := 8) (ci := 5) (ty := .int) (v := .int x1) hx hb hts i_X5_fail_5 tyX5 tyX5_ok nmX5 hown hK hI 13 rfl (by decide) rfl 6 (by decide) (hts (.fieldLink RX5 110 "FenceYards$Reader" "faultNumber" "I") (by decide +kernel)) (fun _ h9 => h9) rfl (by decide +kernel) rfl rfl (Nat.le_of_ble_eq_true rfl) (set_I hI.2.2.2 rfl (by decide) rfl) rfl hI.2.2.2 dX5_fail_2 (fun H locs hI => ?_)
  refine lv_aload_n hx hb dX5_fail_5 rfl (lv_at hl 0 rfl) ?_
  refine lv_aload_n hx hb dX5_fail_6 rfl (lv_at hl 0 rfl) ?_
  refine z_get (C := RX5) (T := TX5) (N := 8) (ci := 5) (v := .int (gI (sI σ 13 6 x1) 13 4)) hx hb hts i_X5_fail_5 hown hK hI 13 rfl (by decide) rfl 4 (by decide) (hts (.fieldLink RX5 113 "FenceYards$Reader" "start" "I") (by decide +kernel)) (fun _ h9 => h9) rfl dX5_fail_7 ?_
  refine z_put (C := RX5) (T := TX5) (N := 8) (ci := 5) (ty := .int) (v := .int (gI (sI σ 13 6 x1) 13 4)) hx hb hts i_X5_fail_5 tyX5 tyX5_ok nmX5 hown hK hI 13 rfl (by decide) rfl 7 (by decide) (hts (.fieldLink RX5 116 "FenceYards$Reader" "faultPlace" "I") (by decide +kernel)) (fun _ h9 => h9) rfl (by decide +kernel) rfl rfl (Nat.le_of_ble_eq_true rfl) (set_I hI.2.2.2 rfl (by decide) rfl) rfl hI.2.2.2 dX5_fail_10 (fun H locs hI => ?_)
  refine lv_iconst (v := 0) hx hb dX5_fail_13 (by decide) ?_
  cases hf
  exact z_zret hx hb hr hlk hK hG hI (Or.inl rfl) dX5_fail_14

-- ===== FenceYards$Reader.readNumber(I)Z
set_option maxRecDepth 100000 in
theorem i_X5_readNumber_5 : ∀ w ∈ u_ws RX5 TX5 8, w ∈ wsX5_readNumber := by decide +kernel
def f_X5_readNumber (σ : Hp) (x1 : Int32) : Option (Hp × Int32) :=
  bd1 (f_X5_nextToken σ) fun s1 => if (gI s1 13 3) = 2 then (if (gI s1 13 5) ≤ x1 then (some (s1, 1)) else (bd2 (f_X5_fail s1 2) fun s2 r1 => if r1 = 0 then (some (s2, 0)) else (some (s2, 1)))) else (bd2 (f_X5_fail s1 1) fun s3 r2 => chk (r2 = 0 ∨ r2 = 1) <| some (s3, r2))
set_option maxRecDepth 100000 in
set_option maxHeartbeats 4000000 in
theorem m_X5_readNumber (G : GT) (l : Launch) {σ : Hp} {x1 : Int32} {σ' : Hp} {r : Int32}  (hf : f_X5_readNumber σ x1 = some (σ', r)) : MetG G l yX5_readNumber wsX5_readNumber (rmk 3 60) σ [.ref (G.1 + 13), .int x1] (QI G σ' r) := by
  refine met_of (cc := cX5_readNumber) (nL := 2) (ret := (some .boolean)) (by decide) rfl (Nat.le_of_ble_eq_true rfl) ?_
  intro p e s m below meth c C0 hnm hI ls hl
  obtain ⟨hx, hb, hr, hml, hown, hts, hlk, hK, hG⟩ := id C0
  have hl : lv_has ls 2 [(0, .ref (G.1 + 13)), (1, .int x1)] := hl
  unfold f_X5_readNumber at hf
  refine lv_aload_n hx hb dX5_readNumber_0 rfl (lv_at hl 0 rfl) ?_
  obtain ⟨s1, hc1, hf⟩ := ok_1 hf
  refine z_callv0 rfl rfl hI (va_runV (As := []) (rest := []) ⟨hx, hb, hml, hown, hts⟩ (m_X5_nextToken G l  hc1) (cwV 0 hts gX5_readNumber_X5_nextToken rfl rfl rfl (by decide +kernel) ⟨Nat.le_of_ble_eq_true rfl, Nat.le_of_ble_eq_true rfl⟩) (z_preV hK hG hI (z_rc (q := 13) (ci := 5) (n := 0) hK hI rfl (by decide) rfl)) rfl rfl hl.1 rfl (lv_room (Nat.le_of_ble_eq_true rfl)) dX5_readNumber_1 ⟨Nat.zero_le _, Nat.zero_le _⟩) (fun H locs hI => ?_)
  refine lv_aload_n hx hb dX5_readNumber_4 rfl (lv_at hl 0 rfl) ?_
  refine z_get (C := RX5) (T := TX5) (N := 8) (ci := 5) (v := .int (gI s1 13 3)) hx hb hts i_X5_readNumber_5 hown hK hI 13 rfl (by decide) rfl 3 (by decide) (hts (.fieldLink RX5 38 "FenceYards$Reader" "token" "I") (by decide +kernel)) (fun _ h9 => h9) rfl dX5_readNumber_5 ?_
  refine lv_iconst (v := 2) hx hb dX5_readNumber_8 (by decide) ?_
  refine lv_icmp_eq (tgt := 18) hx hb dX5_readNumber_9 (by decide) (fun c1 => ?_) (fun c1 => ?_)
  · have hf := ok_t c1 hf
    refine lv_aload_n hx hb dX5_readNumber_18 rfl (lv_at hl 0 rfl) ?_
    refine z_get (C := RX5) (T := TX5) (N := 8) (ci := 5) (v := .int (gI s1 13 5)) hx hb hts i_X5_readNumber_5 hown hK hI 13 rfl (by decide) rfl 5 (by decide) (hts (.fieldLink RX5 67 "FenceYards$Reader" "value" "I") (by decide +kernel)) (fun _ h9 => h9) rfl dX5_readNumber_19 ?_
    refine lv_iload_n hx hb dX5_readNumber_22 rfl (lv_at hl 1 rfl) ?_
    refine lv_icmp_le (tgt := 34) hx hb dX5_readNumber_23 (by decide) (fun c2 => ?_) (fun c2 => ?_)
    · have hf := ok_t c2 hf
      refine lv_iconst (v := 1) hx hb dX5_readNumber_34 (by decide) ?_
      refine lv_goto (tgt := 39) hx hb dX5_readNumber_35 (by decide) ?_
      cases hf
      exact z_zret hx hb hr hlk hK hG hI (Or.inr rfl) dX5_readNumber_39
    · have hf := ok_f c2 hf
      refine lv_aload_n hx hb dX5_readNumber_26 rfl (lv_at hl 0 rfl) ?_
      refine lv_iconst (v := 2) hx hb dX5_readNumber_27 (by decide) ?_
      obtain ⟨s2, r1, hc2, hf⟩ := ok_2 hf
      refine z_calli0 rfl rfl hI (va_runV (As := [.int 2]) (rest := []) ⟨hx, hb, hml, hown, hts⟩ (m_X5_fail G l  hc2) (cwV 1 hts gX5_readNumber_X5_fail rfl rfl rfl (by decide +kernel) ⟨Nat.le_of_ble_eq_true rfl, Nat.le_of_ble_eq_true rfl⟩) (z_preV hK hG hI (z_rc (q := 13) (ci := 5) (n := 0) hK hI rfl (by decide) rfl)) rfl rfl hl.1 rfl (lv_room (Nat.le_of_ble_eq_true rfl)) dX5_readNumber_28 ⟨Nat.zero_le _, Nat.zero_le _⟩) (fun H locs hI => ?_)
      refine lv_if_eq (tgt := 38) hx hb dX5_readNumber_31 (by decide) (fun c3 => ?_) (fun c3 => ?_)
      · have hf := ok_t c3 hf
        refine lv_iconst (v := 0) hx hb dX5_readNumber_38 (by decide) ?_
        cases hf
        exact z_zret hx hb hr hlk hK hG hI (Or.inl rfl) dX5_readNumber_39
      · have hf := ok_f c3 hf
        refine lv_iconst (v := 1) hx hb dX5_readNumber_34 (by decide) ?_
        refine lv_goto (tgt := 39) hx hb dX5_readNumber_35 (by decide) ?_
        cases hf
        exact z_zret hx hb hr hlk hK hG hI (Or.inr rfl) dX5_readNumber_39
  · have hf := ok_f c1 hf
    refine lv_aload_n hx hb dX5_readNumber_12 rfl (lv_at hl 0 rfl) ?_
    refine lv_iconst (v := 1) hx hb dX5_readNumber_13 (by decide) ?_
    obtain ⟨s3, r2, hc3, hf⟩ := ok_2 hf
    refine z_calli0 rfl rfl hI (va_runV (As := [.int 1]) (rest := []) ⟨hx, hb, hml, hown, hts⟩ (m_X5_fail G l  hc3) (cwV 1 hts gX5_readNumber_X5_fail rfl rfl rfl (by decide +kernel) ⟨Nat.le_of_ble_eq_true rfl, Nat.le_of_ble_eq_true rfl⟩) (z_preV hK hG hI (z_rc (q := 13) (ci := 5) (n := 0) hK hI rfl (by decide) rfl)) rfl rfl hl.1 rfl (lv_room (Nat.le_of_ble_eq_true rfl)) dX5_readNumber_14 ⟨Nat.zero_le _, Nat.zero_le _⟩) (fun H locs hI => ?_)
    obtain ⟨h1, hf⟩ := ok_c hf
    cases hf
    exact z_zret hx hb hr hlk hK hG hI h1 dX5_readNumber_17

-- ===== FenceYards$Reader.readSign()Z
set_option maxRecDepth 100000 in
theorem i_X5_readSign_5 : ∀ w ∈ u_ws RX5 TX5 8, w ∈ wsX5_readSign := by decide +kernel
def f_X5_readSign (σ : Hp)  : Option (Hp × Int32) :=
  bd1 (f_X5_nextToken σ) fun s1 => if (gI s1 13 3) = 3 then (some (s1, 1)) else (bd2 (f_X5_fail s1 1) fun s2 r1 => if r1 = 0 then (some (s2, 0)) else (some (s2, 1)))
set_option maxRecDepth 100000 in
set_option maxHeartbeats 4000000 in
theorem m_X5_readSign (G : GT) (l : Launch) {σ : Hp}  {σ' : Hp} {r : Int32}  (hf : f_X5_readSign σ = some (σ', r)) : MetG G l yX5_readSign wsX5_readSign (rmk 3 60) σ [.ref (G.1 + 13)] (QI G σ' r) := by
  refine met_of (cc := cX5_readSign) (nL := 1) (ret := (some .boolean)) (by decide) rfl (Nat.le_of_ble_eq_true rfl) ?_
  intro p e s m below meth c C0 hnm hI ls hl
  obtain ⟨hx, hb, hr, hml, hown, hts, hlk, hK, hG⟩ := id C0
  have hl : lv_has ls 1 [(0, .ref (G.1 + 13))] := hl
  unfold f_X5_readSign at hf
  refine lv_aload_n hx hb dX5_readSign_0 rfl (lv_at hl 0 rfl) ?_
  obtain ⟨s1, hc1, hf⟩ := ok_1 hf
  refine z_callv0 rfl rfl hI (va_runV (As := []) (rest := []) ⟨hx, hb, hml, hown, hts⟩ (m_X5_nextToken G l  hc1) (cwV 0 hts gX5_readSign_X5_nextToken rfl rfl rfl (by decide +kernel) ⟨Nat.le_of_ble_eq_true rfl, Nat.le_of_ble_eq_true rfl⟩) (z_preV hK hG hI (z_rc (q := 13) (ci := 5) (n := 0) hK hI rfl (by decide) rfl)) rfl rfl hl.1 rfl (lv_room (Nat.le_of_ble_eq_true rfl)) dX5_readSign_1 ⟨Nat.zero_le _, Nat.zero_le _⟩) (fun H locs hI => ?_)
  refine lv_aload_n hx hb dX5_readSign_4 rfl (lv_at hl 0 rfl) ?_
  refine z_get (C := RX5) (T := TX5) (N := 8) (ci := 5) (v := .int (gI s1 13 3)) hx hb hts i_X5_readSign_5 hown hK hI 13 rfl (by decide) rfl 3 (by decide) (hts (.fieldLink RX5 38 "FenceYards$Reader" "token" "I") (by decide +kernel)) (fun _ h9 => h9) rfl dX5_readSign_5 ?_
  refine lv_iconst (v := 3) hx hb dX5_readSign_8 (by decide) ?_
  refine lv_icmp_eq (tgt := 20) hx hb dX5_readSign_9 (by decide) (fun c1 => ?_) (fun c1 => ?_)
  · have hf := ok_t c1 hf
    refine lv_iconst (v := 1) hx hb dX5_readSign_20 (by decide) ?_
    refine lv_goto (tgt := 25) hx hb dX5_readSign_21 (by decide) ?_
    cases hf
    exact z_zret hx hb hr hlk hK hG hI (Or.inr rfl) dX5_readSign_25
  · have hf := ok_f c1 hf
    refine lv_aload_n hx hb dX5_readSign_12 rfl (lv_at hl 0 rfl) ?_
    refine lv_iconst (v := 1) hx hb dX5_readSign_13 (by decide) ?_
    obtain ⟨s2, r1, hc2, hf⟩ := ok_2 hf
    refine z_calli0 rfl rfl hI (va_runV (As := [.int 1]) (rest := []) ⟨hx, hb, hml, hown, hts⟩ (m_X5_fail G l  hc2) (cwV 1 hts gX5_readSign_X5_fail rfl rfl rfl (by decide +kernel) ⟨Nat.le_of_ble_eq_true rfl, Nat.le_of_ble_eq_true rfl⟩) (z_preV hK hG hI (z_rc (q := 13) (ci := 5) (n := 0) hK hI rfl (by decide) rfl)) rfl rfl hl.1 rfl (lv_room (Nat.le_of_ble_eq_true rfl)) dX5_readSign_14 ⟨Nat.zero_le _, Nat.zero_le _⟩) (fun H locs hI => ?_)
    refine lv_if_eq (tgt := 24) hx hb dX5_readSign_17 (by decide) (fun c2 => ?_) (fun c2 => ?_)
    · have hf := ok_t c2 hf
      refine lv_iconst (v := 0) hx hb dX5_readSign_24 (by decide) ?_
      cases hf
      exact z_zret hx hb hr hlk hK hG hI (Or.inl rfl) dX5_readSign_25
    · have hf := ok_f c2 hf
      refine lv_iconst (v := 1) hx hb dX5_readSign_20 (by decide) ?_
      refine lv_goto (tgt := 25) hx hb dX5_readSign_21 (by decide) ?_
      cases hf
      exact z_zret hx hb hr hlk hK hG hI (Or.inr rfl) dX5_readSign_25

-- ===== FenceYards$Reader.readFence(LFenceYards$Ground;)Z
set_option maxRecDepth 100000 in
theorem i_X5_readFence_5 : ∀ w ∈ u_ws RX5 TX5 8, w ∈ wsX5_readFence := by decide +kernel
def f_X5_readFence (σ : Hp) (g : Nat) : Option (Hp × Int32) :=
  bd1 (f_X5_nextToken σ) fun s1 => bd1 (f_X5_isWord s1 0) fun r1 => if r1 = 0 then (bd2 (f_X5_fail s1 1) fun s6 r5 => chk (r5 = 0 ∨ r5 = 1) <| some (s6, r5)) else (bd2 (f_X5_readNumber s1 12) fun s2 r2 => if r2 = 0 then (some (s2, 0)) else (bnd (gI s2 13 5) fun v1 => bd2 (f_X5_readNumber s2 12) fun s3 r3 => if r3 = 0 then (some (s3, 0)) else (bd1 (f_X4_putFence s3 g v1 (gI s3 13 5)) fun s4 => bd2 (f_X5_readSign s4) fun s5 r4 => chk (r4 = 0 ∨ r4 = 1) <| some (s5, r4))))
set_option maxRecDepth 100000 in
set_option maxHeartbeats 4000000 in
theorem m_X5_readFence (G : GT) (l : Launch) {σ : Hp} {g : Nat} {σ' : Hp} {r : Int32} (hg : isG g) (hf : f_X5_readFence σ g = some (σ', r)) : MetG G l yX5_readFence wsX5_readFence (rmk 6 173) σ [.ref (G.1 + 13), .ref (G.1 + g)] (QI G σ' r) := by
  refine met_of (cc := cX5_readFence) (nL := 3) (ret := (some .boolean)) (by decide) rfl (Nat.le_of_ble_eq_true rfl) ?_
  intro p e s m below meth c C0 hnm hI ls hl
  obtain ⟨hx, hb, hr, hml, hown, hts, hlk, hK, hG⟩ := id C0
  have hl : lv_has ls 3 [(0, .ref (G.1 + 13)), (1, .ref (G.1 + g))] := hl
  unfold f_X5_readFence at hf
  refine lv_aload_n hx hb dX5_readFence_0 rfl (lv_at hl 0 rfl) ?_
  obtain ⟨s1, hc1, hf⟩ := ok_1 hf
  refine z_callv0 rfl rfl hI (va_runV (As := []) (rest := []) ⟨hx, hb, hml, hown, hts⟩ (m_X5_nextToken G l  hc1) (cwV 0 hts gX5_readFence_X5_nextToken rfl rfl rfl (by decide +kernel) ⟨Nat.le_of_ble_eq_true rfl, Nat.le_of_ble_eq_true rfl⟩) (z_preV hK hG hI (z_rc (q := 13) (ci := 5) (n := 0) hK hI rfl (by decide) rfl)) rfl rfl hl.1 rfl (lv_room (Nat.le_of_ble_eq_true rfl)) dX5_readFence_1 ⟨Nat.zero_le _, Nat.zero_le _⟩) (fun H locs hI => ?_)
  refine lv_aload_n hx hb dX5_readFence_4 rfl (lv_at hl 0 rfl) ?_
  refine va_ldcS hx hb hown (hG.2.1 0 (by decide)) dX5_readFence_5 ?_
  obtain ⟨r1, hc2, hf⟩ := ok_1 hf
  refine z_calli0 rfl rfl hI (va_runV (As := [.ref (G.2.2.2.1 0)]) (rest := []) ⟨hx, hb, hml, hown, hts⟩ (m_X5_isWord G l (by decide) hc2) (cwV 1 hts gX5_readFence_X5_isWord rfl rfl rfl (by decide +kernel) ⟨Nat.le_of_ble_eq_true rfl, Nat.le_of_ble_eq_true rfl⟩) (z_preV hK hG hI (z_rc (q := 13) (ci := 5) (n := 0) hK hI rfl (by decide) rfl)) rfl rfl hl.1 rfl (lv_room (Nat.le_of_ble_eq_true rfl)) dX5_readFence_7 ⟨Nat.zero_le _, Nat.zero_le _⟩) (fun H locs hI => ?_)
  refine lv_if_ne (tgt := 19) hx hb dX5_readFence_10 (by decide) (fun c1 => ?_) (fun c1 => ?_)
  · have hf := ok_f c1 hf
    refine lv_aload_n hx hb dX5_readFence_19 rfl (lv_at hl 0 rfl) ?_
    refine lv_bipush (v := 12) hx hb dX5_readFence_20 (by decide) ?_
    obtain ⟨s2, r2, hc3, hf⟩ := ok_2 hf
    refine z_calli0 rfl rfl hI (va_runV (As := [.int 12]) (rest := []) ⟨hx, hb, hml, hown, hts⟩ (m_X5_readNumber G l  hc3) (cwV 1 hts gX5_readFence_X5_readNumber rfl rfl rfl (by decide +kernel) ⟨Nat.le_of_ble_eq_true rfl, Nat.le_of_ble_eq_true rfl⟩) (z_preV hK hG hI (z_rc (q := 13) (ci := 5) (n := 0) hK hI rfl (by decide) rfl)) rfl rfl hl.1 rfl (lv_room (Nat.le_of_ble_eq_true rfl)) dX5_readFence_22 ⟨Nat.zero_le _, Nat.zero_le _⟩) (fun H locs hI => ?_)
    refine lv_if_ne (tgt := 30) hx hb dX5_readFence_25 (by decide) (fun c2 => ?_) (fun c2 => ?_)
    · have hf := ok_f c2 hf
      refine lv_aload_n hx hb dX5_readFence_30 rfl (lv_at hl 0 rfl) ?_
      refine z_get (C := RX5) (T := TX5) (N := 8) (ci := 5) (v := .int (gI s2 13 5)) hx hb hts i_X5_readFence_5 hown hK hI 13 rfl (by decide) rfl 5 (by decide) (hts (.fieldLink RX5 67 "FenceYards$Reader" "value" "I") (by decide +kernel)) (fun _ h9 => h9) rfl dX5_readFence_31 ?_
      refine lv_topi (fun v1 ev1 => ?_)
      have hf := ok_n hf ev1
      refine lv_istore_n (lv' := [(2, .int v1), (0, .ref (G.1 + 13)), (1, .ref (G.1 + g))]) hx hb dX5_readFence_34 rfl hl (by decide) rfl (fun ls hl => ?_)
      refine lv_aload_n hx hb dX5_readFence_35 rfl (lv_at hl 1 rfl) ?_
      refine lv_bipush (v := 12) hx hb dX5_readFence_36 (by decide) ?_
      obtain ⟨s3, r3, hc4, hf⟩ := ok_2 hf
      refine z_calli0 rfl rfl hI (va_runV (As := [.int 12]) (rest := []) ⟨hx, hb, hml, hown, hts⟩ (m_X5_readNumber G l  hc4) (cwV 1 hts gX5_readFence_X5_readNumber rfl rfl rfl (by decide +kernel) ⟨Nat.le_of_ble_eq_true rfl, Nat.le_of_ble_eq_true rfl⟩) (z_preV hK hG hI (z_rc (q := 13) (ci := 5) (n := 0) hK hI rfl (by decide) rfl)) rfl rfl hl.1 rfl (lv_room (Nat.le_of_ble_eq_true rfl)) dX5_readFence_38 ⟨Nat.zero_le _, Nat.zero_le _⟩) (fun H locs hI => ?_)
      refine lv_if_ne (tgt := 46) hx hb dX5_readFence_41 (by decide) (fun c3 => ?_) (fun c3 => ?_)
      · have hf := ok_f c3 hf
        refine lv_aload_n hx hb dX5_readFence_46 rfl (lv_at hl 2 rfl) ?_
        refine lv_iload_n hx hb dX5_readFence_47 rfl (lv_at hl 0 rfl) ?_
        refine lv_aload_n hx hb dX5_readFence_48 rfl (lv_at hl 1 rfl) ?_
        refine z_get (C := RX5) (T := TX5) (N := 8) (ci := 5) (v := .int (gI s3 13 5)) hx hb hts i_X5_readFence_5 hown hK hI 13 rfl (by decide) rfl 5 (by decide) (hts (.fieldLink RX5 67 "FenceYards$Reader" "value" "I") (by decide +kernel)) (fun _ h9 => h9) rfl dX5_readFence_49 ?_
        obtain ⟨s4, hc5, hf⟩ := ok_1 hf
        refine z_callv0 rfl rfl hI (va_runVN (As := [.int v1, .int (gI s3 13 5)]) (rest := []) ⟨hx, hb, hml, hown, hts⟩ (m_X4_putFence G l hg hc5) ⟨va_cnB (host := "FenceYards") 2 hts gX5_readFence_X4_putFence_n70 rfl rfl rfl (hG.1.2.1 ("FenceYards$Reader", 70, ⟨"FenceYards$Ground", "putFence", "(II)V"⟩) (by decide +kernel)) (hts (.initialized "FenceYards$Ground") (by decide +kernel)) (by decide +kernel) ⟨Nat.le_of_ble_eq_true rfl, Nat.le_of_ble_eq_true rfl⟩, hts (.instanceMethod yX4_putFence) (by decide +kernel), hts (.selects "FenceYards$Ground" yX4_putFence yX4_putFence) (by decide +kernel)⟩ (z_preV hK hG hI (z_rc (q := g) (ci := 4) (n := 0) hK hI (kd_G hg) (by decide) rfl)) rfl rfl hl.1 rfl (lv_room (Nat.le_of_ble_eq_true rfl)) dX5_readFence_52 ⟨Nat.zero_le _, Nat.zero_le _⟩) (fun H locs hI => ?_)
        refine lv_aload_n hx hb dX5_readFence_55 rfl (lv_at hl 1 rfl) ?_
        obtain ⟨s5, r4, hc6, hf⟩ := ok_2 hf
        refine z_calli0 rfl rfl hI (va_runV (As := []) (rest := []) ⟨hx, hb, hml, hown, hts⟩ (m_X5_readSign G l  hc6) (cwV 0 hts gX5_readFence_X5_readSign rfl rfl rfl (by decide +kernel) ⟨Nat.le_of_ble_eq_true rfl, Nat.le_of_ble_eq_true rfl⟩) (z_preV hK hG hI (z_rc (q := 13) (ci := 5) (n := 0) hK hI rfl (by decide) rfl)) rfl rfl hl.1 rfl (lv_room (Nat.le_of_ble_eq_true rfl)) dX5_readFence_56 ⟨Nat.zero_le _, Nat.zero_le _⟩) (fun H locs hI => ?_)
        obtain ⟨h1, hf⟩ := ok_c hf
        cases hf
        exact z_zret hx hb hr hlk hK hG hI h1 dX5_readFence_59
      · have hf := ok_t c3 hf
        refine lv_iconst (v := 0) hx hb dX5_readFence_44 (by decide) ?_
        cases hf
        exact z_zret hx hb hr hlk hK hG hI (Or.inl rfl) dX5_readFence_45
    · have hf := ok_t c2 hf
      refine lv_iconst (v := 0) hx hb dX5_readFence_28 (by decide) ?_
      cases hf
      exact z_zret hx hb hr hlk hK hG hI (Or.inl rfl) dX5_readFence_29
  · have hf := ok_t c1 hf
    refine lv_aload_n hx hb dX5_readFence_13 rfl (lv_at hl 0 rfl) ?_
    refine lv_iconst (v := 1) hx hb dX5_readFence_14 (by decide) ?_
    obtain ⟨s6, r5, hc7, hf⟩ := ok_2 hf
    refine z_calli0 rfl rfl hI (va_runV (As := [.int 1]) (rest := []) ⟨hx, hb, hml, hown, hts⟩ (m_X5_fail G l  hc7) (cwV 1 hts gX5_readFence_X5_fail rfl rfl rfl (by decide +kernel) ⟨Nat.le_of_ble_eq_true rfl, Nat.le_of_ble_eq_true rfl⟩) (z_preV hK hG hI (z_rc (q := 13) (ci := 5) (n := 0) hK hI rfl (by decide) rfl)) rfl rfl hl.1 rfl (lv_room (Nat.le_of_ble_eq_true rfl)) dX5_readFence_15 ⟨Nat.zero_le _, Nat.zero_le _⟩) (fun H locs hI => ?_)
    obtain ⟨h2, hf⟩ := ok_c hf
    cases hf
    exact z_zret hx hb hr hlk hK hG hI h2 dX5_readFence_18

-- ===== FenceYards$Reader.readPond(LFenceYards$Ground;)Z
set_option maxRecDepth 100000 in
theorem i_X5_readPond_4 : ∀ w ∈ u_ws RX4 TX4 11, w ∈ wsX5_readPond := by decide +kernel
set_option maxRecDepth 100000 in
theorem i_X5_readPond_5 : ∀ w ∈ u_ws RX5 TX5 8, w ∈ wsX5_readPond := by decide +kernel
def f_X5_readPond (σ : Hp) (g : Nat) : Option (Hp × Int32) :=
  if (gI σ g 7) < 6 then (bd2 (f_X5_readNumber σ 1) fun s1 r1 => if r1 = 0 then (some (s1, 0)) else (bnd (gI s1 13 5) fun v1 => bd2 (f_X5_readNumber s1 12) fun s2 r2 => if r2 = 0 then (some (s2, 0)) else (bd1 (f_X4_endOn s2 g v1) fun r3 => if (gI s2 13 5) = r3 then (bd2 (f_X5_fail s2 2) fun s5 r5 => chk (r5 = 0 ∨ r5 = 1) <| some (s5, r5)) else (bd1 (f_X4_addPond s2 g v1 (gI s2 13 5)) fun s3 => bd2 (f_X5_readSign s3) fun s4 r4 => chk (r4 = 0 ∨ r4 = 1) <| some (s4, r4))))) else (bd2 (f_X5_fail σ 3) fun s6 r6 => chk (r6 = 0 ∨ r6 = 1) <| some (s6, r6))
set_option maxRecDepth 100000 in
set_option maxHeartbeats 4000000 in
theorem m_X5_readPond (G : GT) (l : Launch) {σ : Hp} {g : Nat} {σ' : Hp} {r : Int32} (hg : isG g) (hf : f_X5_readPond σ g = some (σ', r)) : MetG G l yX5_readPond wsX5_readPond (rmk 4 81) σ [.ref (G.1 + 13), .ref (G.1 + g)] (QI G σ' r) := by
  refine met_of (cc := cX5_readPond) (nL := 3) (ret := (some .boolean)) (by decide) rfl (Nat.le_of_ble_eq_true rfl) ?_
  intro p e s m below meth c C0 hnm hI ls hl
  obtain ⟨hx, hb, hr, hml, hown, hts, hlk, hK, hG⟩ := id C0
  have hl : lv_has ls 3 [(0, .ref (G.1 + 13)), (1, .ref (G.1 + g))] := hl
  unfold f_X5_readPond at hf
  refine lv_aload_n hx hb dX5_readPond_0 rfl (lv_at hl 1 rfl) ?_
  refine z_getN (C := RX4) (T := TX4) (N := 11) (ci := 4) (v := .int (gI σ g 7)) hx hb hts i_X5_readPond_4 hown hK hI g (kd_G hg) (by decide) rfl 7 (by decide) (hG.1.1 ("FenceYards$Reader", 78, "FenceYards$Ground", "ponds", "I") (by decide +kernel)) (fun _ h9 => h9) rfl dX5_readPond_1 ?_
  refine lv_bipush (v := 6) hx hb dX5_readPond_4 (by decide) ?_
  refine lv_icmp_lt (tgt := 15) hx hb dX5_readPond_6 (by decide) (fun c1 => ?_) (fun c1 => ?_)
  · have hf := ok_t c1 hf
    refine lv_aload_n hx hb dX5_readPond_15 rfl (lv_at hl 0 rfl) ?_
    refine lv_iconst (v := 1) hx hb dX5_readPond_16 (by decide) ?_
    obtain ⟨s1, r1, hc1, hf⟩ := ok_2 hf
    refine z_calli0 rfl rfl hI (va_runV (As := [.int 1]) (rest := []) ⟨hx, hb, hml, hown, hts⟩ (m_X5_readNumber G l  hc1) (cwV 1 hts gX5_readPond_X5_readNumber rfl rfl rfl (by decide +kernel) ⟨Nat.le_of_ble_eq_true rfl, Nat.le_of_ble_eq_true rfl⟩) (z_preV hK hG hI (z_rc (q := 13) (ci := 5) (n := 0) hK hI rfl (by decide) rfl)) rfl rfl hl.1 rfl (lv_room (Nat.le_of_ble_eq_true rfl)) dX5_readPond_17 ⟨Nat.zero_le _, Nat.zero_le _⟩) (fun H locs hI => ?_)
    refine lv_if_ne (tgt := 25) hx hb dX5_readPond_20 (by decide) (fun c2 => ?_) (fun c2 => ?_)
    · have hf := ok_f c2 hf
      refine lv_aload_n hx hb dX5_readPond_25 rfl (lv_at hl 0 rfl) ?_
      refine z_get (C := RX5) (T := TX5) (N := 8) (ci := 5) (v := .int (gI s1 13 5)) hx hb hts i_X5_readPond_5 hown hK hI 13 rfl (by decide) rfl 5 (by decide) (hts (.fieldLink RX5 67 "FenceYards$Reader" "value" "I") (by decide +kernel)) (fun _ h9 => h9) rfl dX5_readPond_26 ?_
      refine lv_topi (fun v1 ev1 => ?_)
      have hf := ok_n hf ev1
      refine lv_istore_n (lv' := [(2, .int v1), (0, .ref (G.1 + 13)), (1, .ref (G.1 + g))]) hx hb dX5_readPond_29 rfl hl (by decide) rfl (fun ls hl => ?_)
      refine lv_aload_n hx hb dX5_readPond_30 rfl (lv_at hl 1 rfl) ?_
      refine lv_bipush (v := 12) hx hb dX5_readPond_31 (by decide) ?_
      obtain ⟨s2, r2, hc2, hf⟩ := ok_2 hf
      refine z_calli0 rfl rfl hI (va_runV (As := [.int 12]) (rest := []) ⟨hx, hb, hml, hown, hts⟩ (m_X5_readNumber G l  hc2) (cwV 1 hts gX5_readPond_X5_readNumber rfl rfl rfl (by decide +kernel) ⟨Nat.le_of_ble_eq_true rfl, Nat.le_of_ble_eq_true rfl⟩) (z_preV hK hG hI (z_rc (q := 13) (ci := 5) (n := 0) hK hI rfl (by decide) rfl)) rfl rfl hl.1 rfl (lv_room (Nat.le_of_ble_eq_true rfl)) dX5_readPond_33 ⟨Nat.zero_le _, Nat.zero_le _⟩) (fun H locs hI => ?_)
      refine lv_if_ne (tgt := 41) hx hb dX5_readPond_36 (by decide) (fun c3 => ?_) (fun c3 => ?_)
      · have hf := ok_f c3 hf
        refine lv_aload_n hx hb dX5_readPond_41 rfl (lv_at hl 1 rfl) ?_
        refine z_get (C := RX5) (T := TX5) (N := 8) (ci := 5) (v := .int (gI s2 13 5)) hx hb hts i_X5_readPond_5 hown hK hI 13 rfl (by decide) rfl 5 (by decide) (hts (.fieldLink RX5 67 "FenceYards$Reader" "value" "I") (by decide +kernel)) (fun _ h9 => h9) rfl dX5_readPond_42 ?_
        refine lv_aload_n hx hb dX5_readPond_45 rfl (lv_at hl 2 rfl) ?_
        refine lv_iload_n hx hb dX5_readPond_46 rfl (lv_at hl 0 rfl) ?_
        obtain ⟨r3, hc3, hf⟩ := ok_1 hf
        refine z_calli0 rfl rfl hI (va_runVN (As := [.int v1]) (rest := [.int (gI s2 13 5)]) ⟨hx, hb, hml, hown, hts⟩ (m_X4_endOn G l hg hc3) ⟨va_cnB (host := "FenceYards") 1 hts gX5_readPond_X4_endOn_n81 rfl rfl rfl (hG.1.2.1 ("FenceYards$Reader", 81, ⟨"FenceYards$Ground", "endOn", "(I)I"⟩) (by decide +kernel)) (hts (.initialized "FenceYards$Ground") (by decide +kernel)) (by decide +kernel) ⟨Nat.le_of_ble_eq_true rfl, Nat.le_of_ble_eq_true rfl⟩, hts (.instanceMethod yX4_endOn) (by decide +kernel), hts (.selects "FenceYards$Ground" yX4_endOn yX4_endOn) (by decide +kernel)⟩ (z_preV hK hG hI (z_rc (q := g) (ci := 4) (n := 0) hK hI (kd_G hg) (by decide) rfl)) rfl rfl hl.1 rfl (lv_room (Nat.le_of_ble_eq_true rfl)) dX5_readPond_47 ⟨Nat.zero_le _, Nat.zero_le _⟩) (fun H locs hI => ?_)
        refine lv_icmp_ne (tgt := 59) hx hb dX5_readPond_50 (by decide) (fun c4 => ?_) (fun c4 => ?_)
        · have hf := ok_f c4 hf
          refine lv_aload_n hx hb dX5_readPond_59 rfl (lv_at hl 2 rfl) ?_
          refine lv_iload_n hx hb dX5_readPond_60 rfl (lv_at hl 0 rfl) ?_
          refine lv_aload_n hx hb dX5_readPond_61 rfl (lv_at hl 1 rfl) ?_
          refine z_get (C := RX5) (T := TX5) (N := 8) (ci := 5) (v := .int (gI s2 13 5)) hx hb hts i_X5_readPond_5 hown hK hI 13 rfl (by decide) rfl 5 (by decide) (hts (.fieldLink RX5 67 "FenceYards$Reader" "value" "I") (by decide +kernel)) (fun _ h9 => h9) rfl dX5_readPond_62 ?_
          obtain ⟨s3, hc4, hf⟩ := ok_1 hf
          refine z_callv0 rfl rfl hI (va_runVN (As := [.int v1, .int (gI s2 13 5)]) (rest := []) ⟨hx, hb, hml, hown, hts⟩ (m_X4_addPond G l hg hc4) ⟨va_cnB (host := "FenceYards") 2 hts gX5_readPond_X4_addPond_n85 rfl rfl rfl (hG.1.2.1 ("FenceYards$Reader", 85, ⟨"FenceYards$Ground", "addPond", "(II)V"⟩) (by decide +kernel)) (hts (.initialized "FenceYards$Ground") (by decide +kernel)) (by decide +kernel) ⟨Nat.le_of_ble_eq_true rfl, Nat.le_of_ble_eq_true rfl⟩, hts (.instanceMethod yX4_addPond) (by decide +kernel), hts (.selects "FenceYards$Ground" yX4_addPond yX4_addPond) (by decide +kernel)⟩ (z_preV hK hG hI (z_rc (q := g) (ci := 4) (n := 0) hK hI (kd_G hg) (by decide) rfl)) rfl rfl hl.1 rfl (lv_room (Nat.le_of_ble_eq_true rfl)) dX5_readPond_65 ⟨Nat.zero_le _, Nat.zero_le _⟩) (fun H locs hI => ?_)
          refine lv_aload_n hx hb dX5_readPond_68 rfl (lv_at hl 1 rfl) ?_
          obtain ⟨s4, r4, hc5, hf⟩ := ok_2 hf
          refine z_calli0 rfl rfl hI (va_runV (As := []) (rest := []) ⟨hx, hb, hml, hown, hts⟩ (m_X5_readSign G l  hc5) (cwV 0 hts gX5_readPond_X5_readSign rfl rfl rfl (by decide +kernel) ⟨Nat.le_of_ble_eq_true rfl, Nat.le_of_ble_eq_true rfl⟩) (z_preV hK hG hI (z_rc (q := 13) (ci := 5) (n := 0) hK hI rfl (by decide) rfl)) rfl rfl hl.1 rfl (lv_room (Nat.le_of_ble_eq_true rfl)) dX5_readPond_69 ⟨Nat.zero_le _, Nat.zero_le _⟩) (fun H locs hI => ?_)
          obtain ⟨h1, hf⟩ := ok_c hf
          cases hf
          exact z_zret hx hb hr hlk hK hG hI h1 dX5_readPond_72
        · have hf := ok_t c4 hf
          refine lv_aload_n hx hb dX5_readPond_53 rfl (lv_at hl 1 rfl) ?_
          refine lv_iconst (v := 2) hx hb dX5_readPond_54 (by decide) ?_
          obtain ⟨s5, r5, hc6, hf⟩ := ok_2 hf
          refine z_calli0 rfl rfl hI (va_runV (As := [.int 2]) (rest := []) ⟨hx, hb, hml, hown, hts⟩ (m_X5_fail G l  hc6) (cwV 1 hts gX5_readPond_X5_fail rfl rfl rfl (by decide +kernel) ⟨Nat.le_of_ble_eq_true rfl, Nat.le_of_ble_eq_true rfl⟩) (z_preV hK hG hI (z_rc (q := 13) (ci := 5) (n := 0) hK hI rfl (by decide) rfl)) rfl rfl hl.1 rfl (lv_room (Nat.le_of_ble_eq_true rfl)) dX5_readPond_55 ⟨Nat.zero_le _, Nat.zero_le _⟩) (fun H locs hI => ?_)
          obtain ⟨h2, hf⟩ := ok_c hf
          cases hf
          exact z_zret hx hb hr hlk hK hG hI h2 dX5_readPond_58
      · have hf := ok_t c3 hf
        refine lv_iconst (v := 0) hx hb dX5_readPond_39 (by decide) ?_
        cases hf
        exact z_zret hx hb hr hlk hK hG hI (Or.inl rfl) dX5_readPond_40
    · have hf := ok_t c2 hf
      refine lv_iconst (v := 0) hx hb dX5_readPond_23 (by decide) ?_
      cases hf
      exact z_zret hx hb hr hlk hK hG hI (Or.inl rfl) dX5_readPond_24
  · have hf := ok_f c1 hf
    refine lv_aload_n hx hb dX5_readPond_9 rfl (lv_at hl 0 rfl) ?_
    refine lv_iconst (v := 3) hx hb dX5_readPond_10 (by decide) ?_
    obtain ⟨s6, r6, hc7, hf⟩ := ok_2 hf
    refine z_calli0 rfl rfl hI (va_runV (As := [.int 3]) (rest := []) ⟨hx, hb, hml, hown, hts⟩ (m_X5_fail G l  hc7) (cwV 1 hts gX5_readPond_X5_fail rfl rfl rfl (by decide +kernel) ⟨Nat.le_of_ble_eq_true rfl, Nat.le_of_ble_eq_true rfl⟩) (z_preV hK hG hI (z_rc (q := 13) (ci := 5) (n := 0) hK hI rfl (by decide) rfl)) rfl rfl hl.1 rfl (lv_room (Nat.le_of_ble_eq_true rfl)) dX5_readPond_11 ⟨Nat.zero_le _, Nat.zero_le _⟩) (fun H locs hI => ?_)
    obtain ⟨h3, hf⟩ := ok_c hf
    cases hf
    exact z_zret hx hb hr hlk hK hG hI h3 dX5_readPond_14

-- ===== FenceYards$Reader.sortTold()I
def f_X5_sortTold (σ : Hp)  : Option (Int32) :=
  bd1 (f_X5_isWord σ 3) fun r1 => if r1 = 0 then (bd1 (f_X5_isWord σ 4) fun r2 => if r2 = 0 then (bd1 (f_X5_isWord σ 5) fun r3 => if r3 = 0 then (bd1 (f_X5_isWord σ 6) fun r4 => if r4 = 0 then (bd1 (f_X5_isWord σ 7) fun r5 => if r5 = 0 then (some (-1)) else (some 4)) else (some 3)) else (some 2)) else (some 1)) else (some 0)
set_option maxRecDepth 100000 in
set_option maxHeartbeats 4000000 in
theorem m_X5_sortTold (G : GT) (l : Launch) {σ : Hp}  {r : Int32}  (hf : f_X5_sortTold σ = some r) : MetG G l yX5_sortTold wsX5_sortTold (rmk 6 173) σ [.ref (G.1 + 13)] (QI G σ r) := by
  refine met_of (cc := cX5_sortTold) (nL := 1) (ret := (some .int)) (by decide) rfl (Nat.le_of_ble_eq_true rfl) ?_
  intro p e s m below meth c C0 hnm hI ls hl
  obtain ⟨hx, hb, hr, hml, hown, hts, hlk, hK, hG⟩ := id C0
  have hl : lv_has ls 1 [(0, .ref (G.1 + 13))] := hl
  unfold f_X5_sortTold at hf
  refine lv_aload_n hx hb dX5_sortTold_0 rfl (lv_at hl 0 rfl) ?_
  refine va_ldcS hx hb hown (hG.2.1 3 (by decide)) dX5_sortTold_1 ?_
  obtain ⟨r1, hc1, hf⟩ := ok_1 hf
  refine z_calli0 rfl rfl hI (va_runV (As := [.ref (G.2.2.2.1 3)]) (rest := []) ⟨hx, hb, hml, hown, hts⟩ (m_X5_isWord G l (by decide) hc1) (cwV 1 hts gX5_sortTold_X5_isWord rfl rfl rfl (by decide +kernel) ⟨Nat.le_of_ble_eq_true rfl, Nat.le_of_ble_eq_true rfl⟩) (z_preV hK hG hI (z_rc (q := 13) (ci := 5) (n := 0) hK hI rfl (by decide) rfl)) rfl rfl hl.1 rfl (lv_room (Nat.le_of_ble_eq_true rfl)) dX5_sortTold_3 ⟨Nat.zero_le _, Nat.zero_le _⟩) (fun H locs hI => ?_)
  refine lv_if_eq (tgt := 11) hx hb dX5_sortTold_6 (by decide) (fun c1 => ?_) (fun c1 => ?_)
  · have hf := ok_t c1 hf
    refine lv_aload_n hx hb dX5_sortTold_11 rfl (lv_at hl 0 rfl) ?_
    refine va_ldcS hx hb hown (hG.2.1 4 (by decide)) dX5_sortTold_12 ?_
    obtain ⟨r2, hc2, hf⟩ := ok_1 hf
    refine z_calli0 rfl rfl hI (va_runV (As := [.ref (G.2.2.2.1 4)]) (rest := []) ⟨hx, hb, hml, hown, hts⟩ (m_X5_isWord G l (by decide) hc2) (cwV 1 hts gX5_sortTold_X5_isWord rfl rfl rfl (by decide +kernel) ⟨Nat.le_of_ble_eq_true rfl, Nat.le_of_ble_eq_true rfl⟩) (z_preV hK hG hI (z_rc (q := 13) (ci := 5) (n := 0) hK hI rfl (by decide) rfl)) rfl rfl hl.1 rfl (lv_room (Nat.le_of_ble_eq_true rfl)) dX5_sortTold_14 ⟨Nat.zero_le _, Nat.zero_le _⟩) (fun H locs hI => ?_)
    refine lv_if_eq (tgt := 22) hx hb dX5_sortTold_17 (by decide) (fun c2 => ?_) (fun c2 => ?_)
    · have hf := ok_t c2 hf
      refine lv_aload_n hx hb dX5_sortTold_22 rfl (lv_at hl 0 rfl) ?_
      refine va_ldcS hx hb hown (hG.2.1 5 (by decide)) dX5_sortTold_23 ?_
      obtain ⟨r3, hc3, hf⟩ := ok_1 hf
      refine z_calli0 rfl rfl hI (va_runV (As := [.ref (G.2.2.2.1 5)]) (rest := []) ⟨hx, hb, hml, hown, hts⟩ (m_X5_isWord G l (by decide) hc3) (cwV 1 hts gX5_sortTold_X5_isWord rfl rfl rfl (by decide +kernel) ⟨Nat.le_of_ble_eq_true rfl, Nat.le_of_ble_eq_true rfl⟩) (z_preV hK hG hI (z_rc (q := 13) (ci := 5) (n := 0) hK hI rfl (by decide) rfl)) rfl rfl hl.1 rfl (lv_room (Nat.le_of_ble_eq_true rfl)) dX5_sortTold_25 ⟨Nat.zero_le _, Nat.zero_le _⟩) (fun H locs hI => ?_)
      refine lv_if_eq (tgt := 33) hx hb dX5_sortTold_28 (by decide) (fun c3 => ?_) (fun c3 => ?_)
      · have hf := ok_t c3 hf
        refine lv_aload_n hx hb dX5_sortTold_33 rfl (lv_at hl 0 rfl) ?_
        refine va_ldcS hx hb hown (hG.2.1 6 (by decide)) dX5_sortTold_34 ?_
        obtain ⟨r4, hc4, hf⟩ := ok_1 hf
        refine z_calli0 rfl rfl hI (va_runV (As := [.ref (G.2.2.2.1 6)]) (rest := []) ⟨hx, hb, hml, hown, hts⟩ (m_X5_isWord G l (by decide) hc4) (cwV 1 hts gX5_sortTold_X5_isWord rfl rfl rfl (by decide +kernel) ⟨Nat.le_of_ble_eq_true rfl, Nat.le_of_ble_eq_true rfl⟩) (z_preV hK hG hI (z_rc (q := 13) (ci := 5) (n := 0) hK hI rfl (by decide) rfl)) rfl rfl hl.1 rfl (lv_room (Nat.le_of_ble_eq_true rfl)) dX5_sortTold_36 ⟨Nat.zero_le _, Nat.zero_le _⟩) (fun H locs hI => ?_)
        refine lv_if_eq (tgt := 44) hx hb dX5_sortTold_39 (by decide) (fun c4 => ?_) (fun c4 => ?_)
        · have hf := ok_t c4 hf
          refine lv_aload_n hx hb dX5_sortTold_44 rfl (lv_at hl 0 rfl) ?_
          refine va_ldcS hx hb hown (hG.2.1 7 (by decide)) dX5_sortTold_45 ?_
          obtain ⟨r5, hc5, hf⟩ := ok_1 hf
          refine z_calli0 rfl rfl hI (va_runV (As := [.ref (G.2.2.2.1 7)]) (rest := []) ⟨hx, hb, hml, hown, hts⟩ (m_X5_isWord G l (by decide) hc5) (cwV 1 hts gX5_sortTold_X5_isWord rfl rfl rfl (by decide +kernel) ⟨Nat.le_of_ble_eq_true rfl, Nat.le_of_ble_eq_true rfl⟩) (z_preV hK hG hI (z_rc (q := 13) (ci := 5) (n := 0) hK hI rfl (by decide) rfl)) rfl rfl hl.1 rfl (lv_room (Nat.le_of_ble_eq_true rfl)) dX5_sortTold_47 ⟨Nat.zero_le _, Nat.zero_le _⟩) (fun H locs hI => ?_)
          refine lv_if_eq (tgt := 57) hx hb dX5_sortTold_50 (by decide) (fun c5 => ?_) (fun c5 => ?_)
          · have hf := ok_t c5 hf
            refine lv_iconst (v := (-1)) hx hb dX5_sortTold_57 (by decide) ?_
            cases hf
            exact z_iret hx hb hr hlk hK hG hI dX5_sortTold_58
          · have hf := ok_f c5 hf
            refine lv_iconst (v := 4) hx hb dX5_sortTold_53 (by decide) ?_
            refine lv_goto (tgt := 58) hx hb dX5_sortTold_54 (by decide) ?_
            cases hf
            exact z_iret hx hb hr hlk hK hG hI dX5_sortTold_58
        · have hf := ok_f c4 hf
          refine lv_iconst (v := 3) hx hb dX5_sortTold_42 (by decide) ?_
          cases hf
          exact z_iret hx hb hr hlk hK hG hI dX5_sortTold_43
      · have hf := ok_f c3 hf
        refine lv_iconst (v := 2) hx hb dX5_sortTold_31 (by decide) ?_
        cases hf
        exact z_iret hx hb hr hlk hK hG hI dX5_sortTold_32
    · have hf := ok_f c2 hf
      refine lv_iconst (v := 1) hx hb dX5_sortTold_20 (by decide) ?_
      cases hf
      exact z_iret hx hb hr hlk hK hG hI dX5_sortTold_21
  · have hf := ok_f c1 hf
    refine lv_iconst (v := 0) hx hb dX5_sortTold_9 (by decide) ?_
    cases hf
    exact z_iret hx hb hr hlk hK hG hI dX5_sortTold_10

-- ===== FenceYards$Reader.readStrip(LFenceYards$Ground;)Z
set_option maxRecDepth 100000 in
theorem i_X5_readStrip_4 : ∀ w ∈ u_ws RX4 TX4 11, w ∈ wsX5_readStrip := by decide +kernel
set_option maxRecDepth 100000 in
theorem i_X5_readStrip_5 : ∀ w ∈ u_ws RX5 TX5 8, w ∈ wsX5_readStrip := by decide +kernel
def f_X5_readStrip (σ : Hp) (g : Nat) : Option (Hp × Int32) :=
  if (gI σ g 6) < 12 then (bd1 (f_X5_nextToken σ) fun s1 => bd1 (f_X5_sortTold s1) fun r1 => if 0 ≤ r1 then (bd2 (f_X5_readNumber s1 99) fun s2 r2 => if r2 = 0 then (some (s2, 0)) else (bnd (gI s2 13 5) fun v1 => bd2 (f_X5_readNumber s2 11) fun s3 r3 => if r3 = 0 then (some (s3, 0)) else (bd2 (f_X11_newStrip s3 r1 (gI s3 g 6) v1 (gI s3 13 5)) fun s4 r4 => bd1 (f_X4_addStrip s4 g r4) fun s5 => bd2 (f_X5_readSign s5) fun s6 r5 => chk (r5 = 0 ∨ r5 = 1) <| some (s6, r5)))) else (bd2 (f_X5_fail s1 1) fun s7 r6 => chk (r6 = 0 ∨ r6 = 1) <| some (s7, r6))) else (bd2 (f_X5_fail σ 3) fun s8 r7 => chk (r7 = 0 ∨ r7 = 1) <| some (s8, r7))
set_option maxRecDepth 100000 in
set_option maxHeartbeats 4000000 in
theorem m_X5_readStrip (G : GT) (l : Launch) {σ : Hp} {g : Nat} {σ' : Hp} {r : Int32} (hg : isG g) (hf : f_X5_readStrip σ g = some (σ', r)) : MetG G l yX5_readStrip wsX5_readStrip (rmc 7 1 3 193) σ [.ref (G.1 + 13), .ref (G.1 + g)] (QI G σ' r) := by
  refine met_of (cc := cX5_readStrip) (nL := 4) (ret := (some .boolean)) (by decide) rfl (Nat.le_of_ble_eq_true rfl) ?_
  intro p e s m below meth c C0 hnm hI ls hl
  obtain ⟨hx, hb, hr, hml, hown, hts, hlk, hK, hG⟩ := id C0
  have hl : lv_has ls 4 [(0, .ref (G.1 + 13)), (1, .ref (G.1 + g))] := hl
  unfold f_X5_readStrip at hf
  refine lv_aload_n hx hb dX5_readStrip_0 rfl (lv_at hl 1 rfl) ?_
  refine z_getN (C := RX4) (T := TX4) (N := 11) (ci := 4) (v := .int (gI σ g 6)) hx hb hts i_X5_readStrip_4 hown hK hI g (kd_G hg) (by decide) rfl 6 (by decide) (hG.1.1 ("FenceYards$Reader", 47, "FenceYards$Ground", "told", "I") (by decide +kernel)) (fun _ h9 => h9) rfl dX5_readStrip_1 ?_
  refine lv_bipush (v := 12) hx hb dX5_readStrip_4 (by decide) ?_
  refine lv_icmp_lt (tgt := 15) hx hb dX5_readStrip_6 (by decide) (fun c1 => ?_) (fun c1 => ?_)
  · have hf := ok_t c1 hf
    refine lv_aload_n hx hb dX5_readStrip_15 rfl (lv_at hl 0 rfl) ?_
    obtain ⟨s1, hc1, hf⟩ := ok_1 hf
    refine z_callv0 rfl rfl hI (va_runV (As := []) (rest := []) ⟨hx, hb, hml, hown, hts⟩ (m_X5_nextToken G l  hc1) (cwV 0 hts gX5_readStrip_X5_nextToken rfl rfl rfl (by decide +kernel) ⟨Nat.le_of_ble_eq_true rfl, Nat.le_of_ble_eq_true rfl⟩) (z_preV hK hG hI (z_rc (q := 13) (ci := 5) (n := 0) hK hI rfl (by decide) rfl)) rfl rfl hl.1 rfl (lv_room (Nat.le_of_ble_eq_true rfl)) dX5_readStrip_16 ⟨Nat.le_of_ble_eq_true rfl, Nat.le_of_ble_eq_true rfl⟩) (fun H locs hI => ?_)
    refine lv_aload_n hx hb dX5_readStrip_19 rfl (lv_at hl 0 rfl) ?_
    obtain ⟨r1, hc2, hf⟩ := ok_1 hf
    refine z_calli0 rfl rfl hI (va_runV (As := []) (rest := []) ⟨hx, hb, hml, hown, hts⟩ (m_X5_sortTold G l  hc2) (cwV 0 hts gX5_readStrip_X5_sortTold rfl rfl rfl (by decide +kernel) ⟨Nat.le_of_ble_eq_true rfl, Nat.le_of_ble_eq_true rfl⟩) (z_preV hK hG hI (z_rc (q := 13) (ci := 5) (n := 0) hK hI rfl (by decide) rfl)) rfl rfl hl.1 rfl (lv_room (Nat.le_of_ble_eq_true rfl)) dX5_readStrip_20 ⟨Nat.le_of_ble_eq_true rfl, Nat.le_of_ble_eq_true rfl⟩) (fun H locs hI => ?_)
    refine lv_istore_n (lv' := [(2, .int r1), (0, .ref (G.1 + 13)), (1, .ref (G.1 + g))]) hx hb dX5_readStrip_23 rfl hl (by decide) rfl (fun ls hl => ?_)
    refine lv_iload_n hx hb dX5_readStrip_24 rfl (lv_at hl 0 rfl) ?_
    refine lv_if_ge (tgt := 34) hx hb dX5_readStrip_25 (by decide) (fun c2 => ?_) (fun c2 => ?_)
    · have hf := ok_t c2 hf
      refine lv_aload_n hx hb dX5_readStrip_34 rfl (lv_at hl 1 rfl) ?_
      refine lv_bipush (v := 99) hx hb dX5_readStrip_35 (by decide) ?_
      obtain ⟨s2, r2, hc3, hf⟩ := ok_2 hf
      refine z_calli0 rfl rfl hI (va_runV (As := [.int 99]) (rest := []) ⟨hx, hb, hml, hown, hts⟩ (m_X5_readNumber G l  hc3) (cwV 1 hts gX5_readStrip_X5_readNumber rfl rfl rfl (by decide +kernel) ⟨Nat.le_of_ble_eq_true rfl, Nat.le_of_ble_eq_true rfl⟩) (z_preV hK hG hI (z_rc (q := 13) (ci := 5) (n := 0) hK hI rfl (by decide) rfl)) rfl rfl hl.1 rfl (lv_room (Nat.le_of_ble_eq_true rfl)) dX5_readStrip_37 ⟨Nat.le_of_ble_eq_true rfl, Nat.le_of_ble_eq_true rfl⟩) (fun H locs hI => ?_)
      refine lv_if_ne (tgt := 45) hx hb dX5_readStrip_40 (by decide) (fun c3 => ?_) (fun c3 => ?_)
      · have hf := ok_f c3 hf
        refine lv_aload_n hx hb dX5_readStrip_45 rfl (lv_at hl 1 rfl) ?_
        refine z_get (C := RX5) (T := TX5) (N := 8) (ci := 5) (v := .int (gI s2 13 5)) hx hb hts i_X5_readStrip_5 hown hK hI 13 rfl (by decide) rfl 5 (by decide) (hts (.fieldLink RX5 67 "FenceYards$Reader" "value" "I") (by decide +kernel)) (fun _ h9 => h9) rfl dX5_readStrip_46 ?_
        refine lv_topi (fun v1 ev1 => ?_)
        have hf := ok_n hf ev1
        refine lv_istore_n (lv' := [(3, .int v1), (2, .int r1), (0, .ref (G.1 + 13)), (1, .ref (G.1 + g))]) hx hb dX5_readStrip_49 rfl hl (by decide) rfl (fun ls hl => ?_)
        refine lv_aload_n hx hb dX5_readStrip_50 rfl (lv_at hl 2 rfl) ?_
        refine lv_bipush (v := 11) hx hb dX5_readStrip_51 (by decide) ?_
        obtain ⟨s3, r3, hc4, hf⟩ := ok_2 hf
        refine z_calli0 rfl rfl hI (va_runV (As := [.int 11]) (rest := []) ⟨hx, hb, hml, hown, hts⟩ (m_X5_readNumber G l  hc4) (cwV 1 hts gX5_readStrip_X5_readNumber rfl rfl rfl (by decide +kernel) ⟨Nat.le_of_ble_eq_true rfl, Nat.le_of_ble_eq_true rfl⟩) (z_preV hK hG hI (z_rc (q := 13) (ci := 5) (n := 0) hK hI rfl (by decide) rfl)) rfl rfl hl.1 rfl (lv_room (Nat.le_of_ble_eq_true rfl)) dX5_readStrip_53 ⟨Nat.le_of_ble_eq_true rfl, Nat.le_of_ble_eq_true rfl⟩) (fun H locs hI => ?_)
        refine lv_if_ne (tgt := 61) hx hb dX5_readStrip_56 (by decide) (fun c4 => ?_) (fun c4 => ?_)
        · have hf := ok_f c4 hf
          refine lv_aload_n hx hb dX5_readStrip_61 rfl (lv_at hl 3 rfl) ?_
          refine lv_iload_n hx hb dX5_readStrip_62 rfl (lv_at hl 1 rfl) ?_
          refine lv_aload_n hx hb dX5_readStrip_63 rfl (lv_at hl 3 rfl) ?_
          refine z_getN (C := RX4) (T := TX4) (N := 11) (ci := 4) (v := .int (gI s3 g 6)) hx hb hts i_X5_readStrip_4 hown hK hI g (kd_G hg) (by decide) rfl 6 (by decide) (hG.1.1 ("FenceYards$Reader", 47, "FenceYards$Ground", "told", "I") (by decide +kernel)) (fun _ h9 => h9) rfl dX5_readStrip_64 ?_
          refine lv_iload_n hx hb dX5_readStrip_67 rfl (lv_at hl 0 rfl) ?_
          refine lv_aload_n hx hb dX5_readStrip_68 rfl (lv_at hl 2 rfl) ?_
          refine z_get (C := RX5) (T := TX5) (N := 8) (ci := 5) (v := .int (gI s3 13 5)) hx hb hts i_X5_readStrip_5 hown hK hI 13 rfl (by decide) rfl 5 (by decide) (hts (.fieldLink RX5 67 "FenceYards$Reader" "value" "I") (by decide +kernel)) (fun _ h9 => h9) rfl dX5_readStrip_69 ?_
          obtain ⟨s4, r4, hc5, hf⟩ := ok_2 hf
          refine z_callq hI (va_runSN (As := [.int r1, .int (gI s3 g 6), .int v1, .int (gI s3 13 5)]) (rest := [.ref (G.1 + g)]) ⟨hx, hb, hml, hown, hts⟩ (m_X11_newStrip G l  hc5) ⟨va_cnB (host := "FenceYards") 4 hts gX5_readStrip_X11_newStrip_n92 rfl rfl rfl (hG.1.2.1 ("FenceYards$Reader", 92, ⟨"FenceYards", "newStrip", "(IIII)LFenceYards$Strip;"⟩) (by decide +kernel)) (hts (.initialized "FenceYards") (by decide +kernel)) (by decide +kernel) ⟨Nat.le_of_ble_eq_true rfl, Nat.le_of_ble_eq_true rfl⟩, hts (.static yX11_newStrip) (by decide +kernel), trivial⟩ (z_pre hK hG hI) rfl rfl hl.1 rfl (lv_room (Nat.le_of_ble_eq_true rfl)) dX5_readStrip_72 ⟨Nat.le_of_ble_eq_true rfl, Nat.le_of_ble_eq_true rfl⟩) (fun H locs hI => ?_)
          obtain ⟨s5, hc6, hf⟩ := ok_1 hf
          refine z_callv0 rfl rfl hI (va_runVN (As := [va_rf (r4.map (fun z => G.1 + z))]) (rest := []) ⟨hx, hb, hml, hown, hts⟩ (m_X4_addStrip G l hg hc6) ⟨va_cnB (host := "FenceYards") 1 hts gX5_readStrip_X4_addStrip_n96 rfl rfl rfl (hG.1.2.1 ("FenceYards$Reader", 96, ⟨"FenceYards$Ground", "addStrip", "(LFenceYards$Strip;)V"⟩) (by decide +kernel)) (hts (.initialized "FenceYards$Ground") (by decide +kernel)) (by decide +kernel) ⟨Nat.le_of_ble_eq_true rfl, Nat.le_of_ble_eq_true rfl⟩, hts (.instanceMethod yX4_addStrip) (by decide +kernel), hts (.selects "FenceYards$Ground" yX4_addStrip yX4_addStrip) (by decide +kernel)⟩ (z_preV hK hG hI (z_rc (q := g) (ci := 4) (n := 0) hK hI (kd_G hg) (by decide) rfl)) rfl rfl hl.1 rfl (lv_room (Nat.le_of_ble_eq_true rfl)) dX5_readStrip_75 ⟨Nat.le_of_ble_eq_true rfl, Nat.le_of_ble_eq_true rfl⟩) (fun H locs hI => ?_)
          refine lv_aload_n hx hb dX5_readStrip_78 rfl (lv_at hl 2 rfl) ?_
          obtain ⟨s6, r5, hc7, hf⟩ := ok_2 hf
          refine z_calli0 rfl rfl hI (va_runV (As := []) (rest := []) ⟨hx, hb, hml, hown, hts⟩ (m_X5_readSign G l  hc7) (cwV 0 hts gX5_readStrip_X5_readSign rfl rfl rfl (by decide +kernel) ⟨Nat.le_of_ble_eq_true rfl, Nat.le_of_ble_eq_true rfl⟩) (z_preV hK hG hI (z_rc (q := 13) (ci := 5) (n := 0) hK hI rfl (by decide) rfl)) rfl rfl hl.1 rfl (lv_room (Nat.le_of_ble_eq_true rfl)) dX5_readStrip_79 ⟨Nat.le_of_ble_eq_true rfl, Nat.le_of_ble_eq_true rfl⟩) (fun H locs hI => ?_)
          obtain ⟨h1, hf⟩ := ok_c hf
          cases hf
          refine W.widen (k := 1) (n := 3) (Nat.le_of_ble_eq_true rfl) (Nat.le_of_ble_eq_true rfl) ?_
          exact z_zret hx hb hr hlk hK hG hI h1 dX5_readStrip_82
        · have hf := ok_t c4 hf
          refine lv_iconst (v := 0) hx hb dX5_readStrip_59 (by decide) ?_
          cases hf
          refine W.widen (k := 1) (n := 3) (Nat.le_of_ble_eq_true rfl) (Nat.le_of_ble_eq_true rfl) ?_
          exact z_zret hx hb hr hlk hK hG hI (Or.inl rfl) dX5_readStrip_60
      · have hf := ok_t c3 hf
        refine lv_iconst (v := 0) hx hb dX5_readStrip_43 (by decide) ?_
        cases hf
        refine W.widen (k := 1) (n := 3) (Nat.le_of_ble_eq_true rfl) (Nat.le_of_ble_eq_true rfl) ?_
        exact z_zret hx hb hr hlk hK hG hI (Or.inl rfl) dX5_readStrip_44
    · have hf := ok_f c2 hf
      refine lv_aload_n hx hb dX5_readStrip_28 rfl (lv_at hl 1 rfl) ?_
      refine lv_iconst (v := 1) hx hb dX5_readStrip_29 (by decide) ?_
      obtain ⟨s7, r6, hc8, hf⟩ := ok_2 hf
      refine z_calli0 rfl rfl hI (va_runV (As := [.int 1]) (rest := []) ⟨hx, hb, hml, hown, hts⟩ (m_X5_fail G l  hc8) (cwV 1 hts gX5_readStrip_X5_fail rfl rfl rfl (by decide +kernel) ⟨Nat.le_of_ble_eq_true rfl, Nat.le_of_ble_eq_true rfl⟩) (z_preV hK hG hI (z_rc (q := 13) (ci := 5) (n := 0) hK hI rfl (by decide) rfl)) rfl rfl hl.1 rfl (lv_room (Nat.le_of_ble_eq_true rfl)) dX5_readStrip_30 ⟨Nat.le_of_ble_eq_true rfl, Nat.le_of_ble_eq_true rfl⟩) (fun H locs hI => ?_)
      obtain ⟨h2, hf⟩ := ok_c hf
      cases hf
      refine W.widen (k := 1) (n := 3) (Nat.le_of_ble_eq_true rfl) (Nat.le_of_ble_eq_true rfl) ?_
      exact z_zret hx hb hr hlk hK hG hI h2 dX5_readStrip_33
  · have hf := ok_f c1 hf
    refine lv_aload_n hx hb dX5_readStrip_9 rfl (lv_at hl 0 rfl) ?_
    refine lv_iconst (v := 3) hx hb dX5_readStrip_10 (by decide) ?_
    obtain ⟨s8, r7, hc9, hf⟩ := ok_2 hf
    refine z_calli0 rfl rfl hI (va_runV (As := [.int 3]) (rest := []) ⟨hx, hb, hml, hown, hts⟩ (m_X5_fail G l  hc9) (cwV 1 hts gX5_readStrip_X5_fail rfl rfl rfl (by decide +kernel) ⟨Nat.le_of_ble_eq_true rfl, Nat.le_of_ble_eq_true rfl⟩) (z_preV hK hG hI (z_rc (q := 13) (ci := 5) (n := 0) hK hI rfl (by decide) rfl)) rfl rfl hl.1 rfl (lv_room (Nat.le_of_ble_eq_true rfl)) dX5_readStrip_11 ⟨Nat.le_of_ble_eq_true rfl, Nat.le_of_ble_eq_true rfl⟩) (fun H locs hI => ?_)
    obtain ⟨h3, hf⟩ := ok_c hf
    cases hf
    refine W.widen (k := 1) (n := 3) (Nat.le_of_ble_eq_true rfl) (Nat.le_of_ble_eq_true rfl) ?_
    exact z_zret hx hb hr hlk hK hG hI h3 dX5_readStrip_14

