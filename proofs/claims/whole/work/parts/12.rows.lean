-- ===== FenceYards.isRow(I)Z
def f_X11_isRow (σ : Hp) (x0 : Int32) : Option (Int32) :=
  if x0 < 0 then (some 0) else (if 8 ≤ x0 then (some 0) else (some 1))
set_option maxRecDepth 100000 in
set_option maxHeartbeats 4000000 in
theorem m_X11_isRow (G : GT) (l : Launch) {σ : Hp} {x0 : Int32} {r : Int32}  (hf : f_X11_isRow σ x0 = some r) : MetG G l yX11_isRow wsX11_isRow (rmk 0 0) σ [.int x0] (QI G σ r) := by
  refine met_of (cc := cX11_isRow) (nL := 1) (ret := (some .boolean)) (by decide) rfl (Nat.le_of_ble_eq_true rfl) ?_
  intro p e s m below meth c C0 hnm hI ls hl
  obtain ⟨hx, hb, hr, hml, hown, hts, hlk, hK, hG⟩ := id C0
  have hl : lv_has ls 1 [(0, .int x0)] := hl
  unfold f_X11_isRow at hf
  refine lv_iload_n hx hb dX11_isRow_0 rfl (lv_at hl 0 rfl) ?_
  refine lv_if_lt (tgt := 14) hx hb dX11_isRow_1 (by decide) (fun c1 => ?_) (fun c1 => ?_)
  · have hf := ok_t c1 hf
    refine lv_iconst (v := 0) hx hb dX11_isRow_14 (by decide) ?_
    cases hf
    exact z_zret hx hb hr hlk hK hG hI (Or.inl rfl) dX11_isRow_15
  · have hf := ok_f c1 hf
    refine lv_iload_n hx hb dX11_isRow_4 rfl (lv_at hl 0 rfl) ?_
    refine lv_bipush (v := 8) hx hb dX11_isRow_5 (by decide) ?_
    refine lv_icmp_ge (tgt := 14) hx hb dX11_isRow_7 (by decide) (fun c2 => ?_) (fun c2 => ?_)
    · have hf := ok_t c2 hf
      refine lv_iconst (v := 0) hx hb dX11_isRow_14 (by decide) ?_
      cases hf
      exact z_zret hx hb hr hlk hK hG hI (Or.inl rfl) dX11_isRow_15
    · have hf := ok_f c2 hf
      refine lv_iconst (v := 1) hx hb dX11_isRow_10 (by decide) ?_
      refine lv_goto (tgt := 15) hx hb dX11_isRow_11 (by decide) ?_
      cases hf
      exact z_zret hx hb hr hlk hK hG hI (Or.inr rfl) dX11_isRow_15

-- ===== FenceYards$Rows.make(III)V
set_option maxRecDepth 100000 in
theorem i_X6_make_6 : ∀ w ∈ u_ws RX6 TX6 3, w ∈ wsX6_make := by decide +kernel
def f_X6_make (σ : Hp) (x1 : Int32) (x2 : Int32) (x3 : Int32) : Option (Hp) :=
  chk (inb x1 8) <| chk (inb x1 8) <| chk (inb x1 8) <| bd1 (f_fill (sI (sI σ 11 (x1.toNatClampNeg) x2) 12 (x1.toNatClampNeg) x3) (3 + x1.toNatClampNeg) 40 0) fun s1 => some s1
set_option maxRecDepth 100000 in
set_option maxHeartbeats 4000000 in
theorem m_X6_make (G : GT) (l : Launch) {σ : Hp} {x1 : Int32} {x2 : Int32} {x3 : Int32} {σ' : Hp}  (hf : f_X6_make σ x1 x2 x3 = some σ') : MetG G l yX6_make wsX6_make (rmk 1 23) σ [.ref (G.1 + 1), .int x1, .int x2, .int x3] (QV G σ') := by
  refine met_of (cc := cX6_make) (nL := 4) (ret := none) (by decide) rfl (Nat.le_of_ble_eq_true rfl) ?_
  intro p e s m below meth c C0 hnm hI ls hl
  obtain ⟨hx, hb, hr, hml, hown, hts, hlk, hK, hG⟩ := id C0
  have hl : lv_has ls 4 [(0, .ref (G.1 + 1)), (1, .int x1), (2, .int x2), (3, .int x3)] := hl
  unfold f_X6_make at hf
  refine lv_aload_n hx hb dX6_make_0 rfl (lv_at hl 0 rfl) ?_
  refine z_get (C := RX6) (T := TX6) (N := 3) (ci := 6) (v := .ref (G.1 + 11)) hx hb hts i_X6_make_6 hown hK hI 1 rfl (by decide) rfl 1 (by decide) (hts (.fieldLink RX6 16 "FenceYards$Rows" "lanes" "[I") (by decide +kernel)) (fun _ h9 => h9) rfl dX6_make_1 ?_
  refine lv_iload_n hx hb dX6_make_4 rfl (lv_at hl 1 rfl) ?_
  refine lv_iload_n hx hb dX6_make_5 rfl (lv_at hl 2 rfl) ?_
  obtain ⟨h1, hf⟩ := ok_c hf
  refine z_iast hx hb hK hI 11 (k := x1.toNatClampNeg) rfl h1 rfl dX6_make_6 (fun H locs hI => ?_)
  refine lv_aload_n hx hb dX6_make_7 rfl (lv_at hl 0 rfl) ?_
  refine z_get (C := RX6) (T := TX6) (N := 3) (ci := 6) (v := .ref (G.1 + 12)) hx hb hts i_X6_make_6 hown hK hI 1 rfl (by decide) rfl 2 (by decide) (hts (.fieldLink RX6 20 "FenceYards$Rows" "sizes" "[I") (by decide +kernel)) (fun _ h9 => h9) rfl dX6_make_8 ?_
  refine lv_iload_n hx hb dX6_make_11 rfl (lv_at hl 1 rfl) ?_
  refine lv_iload_n hx hb dX6_make_12 rfl (lv_at hl 3 rfl) ?_
  obtain ⟨h2, hf⟩ := ok_c hf
  refine z_iast hx hb hK hI 12 (k := x1.toNatClampNeg) rfl h2 rfl dX6_make_13 (fun H locs hI => ?_)
  refine lv_aload_n hx hb dX6_make_14 rfl (lv_at hl 0 rfl) ?_
  refine z_get (C := RX6) (T := TX6) (N := 3) (ci := 6) (v := .ref (G.1 + 2)) hx hb hts i_X6_make_6 hown hK hI 1 rfl (by decide) rfl 0 (by decide) (hts (.fieldLink RX6 11 "FenceYards$Rows" "items" "[[I") (by decide +kernel)) (fun _ h9 => h9) rfl dX6_make_15 ?_
  refine lv_iload_n hx hb dX6_make_18 rfl (lv_at hl 1 rfl) ?_
  obtain ⟨h3, hf⟩ := ok_c hf
  refine z_aldW hx hb hK hI (k := x1.toNatClampNeg) h3 rfl dX6_make_19 ?_
  have hw1 : isW (3 + x1.toNatClampNeg) := isW_of h3
  refine lv_iconst (v := 0) hx hb dX6_make_20 (by decide) ?_
  obtain ⟨s1, hc1, hf⟩ := ok_1 hf
  refine z_callv0 rfl rfl hI (va_runS (As := [.ref (G.1 + (3 + x1.toNatClampNeg)), .int 0]) (rest := []) ⟨hx, hb, hml, hown, hts⟩ (m_fill G l (kd_W hw1) hc1) (va_cwS 2 hts gX6_make_J7_fill_53178 rfl rfl rfl (by decide +kernel) ⟨Nat.le_of_ble_eq_true rfl, Nat.le_of_ble_eq_true rfl⟩) (z_pre hK hG hI) rfl rfl hl.1 rfl (lv_room (Nat.le_of_ble_eq_true rfl)) dX6_make_21 ⟨Nat.zero_le _, Nat.zero_le _⟩) (fun H locs hI => ?_)
  cases hf
  exact z_vret hx hb hr hlk hK hG hI dX6_make_24

-- ===== FenceYards$Rows.isMissing(I)Z
set_option maxRecDepth 100000 in
theorem i_X6_isMissing_6 : ∀ w ∈ u_ws RX6 TX6 3, w ∈ wsX6_isMissing := by decide +kernel
def f_X6_isMissing (σ : Hp) (x1 : Int32) : Option (Int32) :=
  chk (inb x1 8) <| if 0 ≤ (gI σ 12 (x1.toNatClampNeg)) then (some 0) else (some 1)
set_option maxRecDepth 100000 in
set_option maxHeartbeats 4000000 in
theorem m_X6_isMissing (G : GT) (l : Launch) {σ : Hp} {x1 : Int32} {r : Int32}  (hf : f_X6_isMissing σ x1 = some r) : MetG G l yX6_isMissing wsX6_isMissing (rmk 0 0) σ [.ref (G.1 + 1), .int x1] (QI G σ r) := by
  refine met_of (cc := cX6_isMissing) (nL := 2) (ret := (some .boolean)) (by decide) rfl (Nat.le_of_ble_eq_true rfl) ?_
  intro p e s m below meth c C0 hnm hI ls hl
  obtain ⟨hx, hb, hr, hml, hown, hts, hlk, hK, hG⟩ := id C0
  have hl : lv_has ls 2 [(0, .ref (G.1 + 1)), (1, .int x1)] := hl
  unfold f_X6_isMissing at hf
  refine lv_aload_n hx hb dX6_isMissing_0 rfl (lv_at hl 0 rfl) ?_
  refine z_get (C := RX6) (T := TX6) (N := 3) (ci := 6) (v := .ref (G.1 + 12)) hx hb hts i_X6_isMissing_6 hown hK hI 1 rfl (by decide) rfl 2 (by decide) (hts (.fieldLink RX6 20 "FenceYards$Rows" "sizes" "[I") (by decide +kernel)) (fun _ h9 => h9) rfl dX6_isMissing_1 ?_
  refine lv_iload_n hx hb dX6_isMissing_4 rfl (lv_at hl 1 rfl) ?_
  obtain ⟨h1, hf⟩ := ok_c hf
  refine z_iald hx hb hK hI 12 (k := x1.toNatClampNeg) rfl h1 rfl dX6_isMissing_5 ?_
  refine lv_if_ge (tgt := 13) hx hb dX6_isMissing_6 (by decide) (fun c1 => ?_) (fun c1 => ?_)
  · have hf := ok_t c1 hf
    refine lv_iconst (v := 0) hx hb dX6_isMissing_13 (by decide) ?_
    cases hf
    exact z_zret hx hb hr hlk hK hG hI (Or.inl rfl) dX6_isMissing_14
  · have hf := ok_f c1 hf
    refine lv_iconst (v := 1) hx hb dX6_isMissing_9 (by decide) ?_
    refine lv_goto (tgt := 14) hx hb dX6_isMissing_10 (by decide) ?_
    cases hf
    exact z_zret hx hb hr hlk hK hG hI (Or.inr rfl) dX6_isMissing_14

-- ===== FenceYards$Rows.sizeOf(I)I
set_option maxRecDepth 100000 in
theorem i_X6_sizeOf_6 : ∀ w ∈ u_ws RX6 TX6 3, w ∈ wsX6_sizeOf := by decide +kernel
def f_X6_sizeOf (σ : Hp) (x1 : Int32) : Option (Int32) :=
  chk (inb x1 8) <| some (gI σ 12 (x1.toNatClampNeg))
set_option maxRecDepth 100000 in
set_option maxHeartbeats 4000000 in
theorem m_X6_sizeOf (G : GT) (l : Launch) {σ : Hp} {x1 : Int32} {r : Int32}  (hf : f_X6_sizeOf σ x1 = some r) : MetG G l yX6_sizeOf wsX6_sizeOf (rmk 0 0) σ [.ref (G.1 + 1), .int x1] (QI G σ r) := by
  refine met_of (cc := cX6_sizeOf) (nL := 2) (ret := (some .int)) (by decide) rfl (Nat.le_of_ble_eq_true rfl) ?_
  intro p e s m below meth c C0 hnm hI ls hl
  obtain ⟨hx, hb, hr, hml, hown, hts, hlk, hK, hG⟩ := id C0
  have hl : lv_has ls 2 [(0, .ref (G.1 + 1)), (1, .int x1)] := hl
  unfold f_X6_sizeOf at hf
  refine lv_aload_n hx hb dX6_sizeOf_0 rfl (lv_at hl 0 rfl) ?_
  refine z_get (C := RX6) (T := TX6) (N := 3) (ci := 6) (v := .ref (G.1 + 12)) hx hb hts i_X6_sizeOf_6 hown hK hI 1 rfl (by decide) rfl 2 (by decide) (hts (.fieldLink RX6 20 "FenceYards$Rows" "sizes" "[I") (by decide +kernel)) (fun _ h9 => h9) rfl dX6_sizeOf_1 ?_
  refine lv_iload_n hx hb dX6_sizeOf_4 rfl (lv_at hl 1 rfl) ?_
  obtain ⟨h1, hf⟩ := ok_c hf
  refine z_iald hx hb hK hI 12 (k := x1.toNatClampNeg) rfl h1 rfl dX6_sizeOf_5 ?_
  cases hf
  exact z_iret hx hb hr hlk hK hG hI dX6_sizeOf_6

-- ===== FenceYards$Rows.put(III)I
set_option maxRecDepth 100000 in
theorem i_X6_put_6 : ∀ w ∈ u_ws RX6 TX6 3, w ∈ wsX6_put := by decide +kernel
def f_X6_put (σ : Hp) (x1 : Int32) (x2 : Int32) (x3 : Int32) : Option (Hp × Int32) :=
  chk (inb x1 8) <| if (gI σ 11 (x1.toNatClampNeg)) = 0 then (bnd (x3.toInt8.toInt32) fun v2 => chk (inb x1 8) <| chk (inb x2 40) <| some (sI σ (3 + x1.toNatClampNeg) (x2.toNatClampNeg) v2, v2)) else (chk (inb x1 8) <| if (gI σ 11 (x1.toNatClampNeg)) = 1 then (bnd (x3.toInt16.toInt32) fun v1 => chk (inb x1 8) <| chk (inb x2 40) <| some (sI σ (3 + x1.toNatClampNeg) (x2.toNatClampNeg) v1, v1)) else (chk (inb x1 8) <| chk (inb x2 40) <| some (sI σ (3 + x1.toNatClampNeg) (x2.toNatClampNeg) x3, x3)))
set_option maxRecDepth 100000 in
set_option maxHeartbeats 4000000 in
theorem m_X6_put (G : GT) (l : Launch) {σ : Hp} {x1 : Int32} {x2 : Int32} {x3 : Int32} {σ' : Hp} {r : Int32}  (hf : f_X6_put σ x1 x2 x3 = some (σ', r)) : MetG G l yX6_put wsX6_put (rmk 0 0) σ [.ref (G.1 + 1), .int x1, .int x2, .int x3] (QI G σ' r) := by
  refine met_of (cc := cX6_put) (nL := 5) (ret := (some .int)) (by decide) rfl (Nat.le_of_ble_eq_true rfl) ?_
  intro p e s m below meth c C0 hnm hI ls hl
  obtain ⟨hx, hb, hr, hml, hown, hts, hlk, hK, hG⟩ := id C0
  have hl : lv_has ls 5 [(0, .ref (G.1 + 1)), (1, .int x1), (2, .int x2), (3, .int x3)] := hl
  unfold f_X6_put at hf
  refine lv_aload_n hx hb dX6_put_0 rfl (lv_at hl 0 rfl) ?_
  refine z_get (C := RX6) (T := TX6) (N := 3) (ci := 6) (v := .ref (G.1 + 11)) hx hb hts i_X6_put_6 hown hK hI 1 rfl (by decide) rfl 1 (by decide) (hts (.fieldLink RX6 16 "FenceYards$Rows" "lanes" "[I") (by decide +kernel)) (fun _ h9 => h9) rfl dX6_put_1 ?_
  refine lv_iload_n hx hb dX6_put_4 rfl (lv_at hl 1 rfl) ?_
  obtain ⟨h1, hf⟩ := ok_c hf
  refine z_iald hx hb hK hI 11 (k := x1.toNatClampNeg) rfl h1 rfl dX6_put_5 ?_
  refine lv_if_ne (tgt := 14) hx hb dX6_put_6 (by decide) (fun c1 => ?_) (fun c1 => ?_)
  · have hf := ok_f c1 hf
    refine lv_aload_n hx hb dX6_put_14 rfl (lv_at hl 0 rfl) ?_
    refine z_get (C := RX6) (T := TX6) (N := 3) (ci := 6) (v := .ref (G.1 + 11)) hx hb hts i_X6_put_6 hown hK hI 1 rfl (by decide) rfl 1 (by decide) (hts (.fieldLink RX6 16 "FenceYards$Rows" "lanes" "[I") (by decide +kernel)) (fun _ h9 => h9) rfl dX6_put_15 ?_
    refine lv_iload_n hx hb dX6_put_18 rfl (lv_at hl 1 rfl) ?_
    obtain ⟨h2, hf⟩ := ok_c hf
    refine z_iald hx hb hK hI 11 (k := x1.toNatClampNeg) rfl h2 rfl dX6_put_19 ?_
    refine lv_iconst (v := 1) hx hb dX6_put_20 (by decide) ?_
    refine lv_icmp_ne (tgt := 29) hx hb dX6_put_21 (by decide) (fun c2 => ?_) (fun c2 => ?_)
    · have hf := ok_f c2 hf
      refine lv_iload_n hx hb dX6_put_29 rfl (lv_at hl 3 rfl) ?_
      refine lv_istore (lv' := [(4, .int x3), (0, .ref (G.1 + 1)), (1, .int x1), (2, .int x2), (3, .int x3)]) hx hb dX6_put_30 hl (by decide) rfl (fun ls hl => ?_)
      refine lv_aload_n hx hb dX6_put_32 rfl (lv_at hl 1 rfl) ?_
      refine z_get (C := RX6) (T := TX6) (N := 3) (ci := 6) (v := .ref (G.1 + 2)) hx hb hts i_X6_put_6 hown hK hI 1 rfl (by decide) rfl 0 (by decide) (hts (.fieldLink RX6 11 "FenceYards$Rows" "items" "[[I") (by decide +kernel)) (fun _ h9 => h9) rfl dX6_put_33 ?_
      refine lv_iload_n hx hb dX6_put_36 rfl (lv_at hl 2 rfl) ?_
      obtain ⟨h3, hf⟩ := ok_c hf
      refine z_aldW hx hb hK hI (k := x1.toNatClampNeg) h3 rfl dX6_put_37 ?_
      have hw1 : isW (3 + x1.toNatClampNeg) := isW_of h3
      refine lv_iload_n hx hb dX6_put_38 rfl (lv_at hl 3 rfl) ?_
      refine lv_iload hx hb dX6_put_39 (lv_at hl 0 rfl) ?_
      obtain ⟨h4, hf⟩ := ok_c hf
      refine z_iast hx hb hK hI (3 + x1.toNatClampNeg) (k := x2.toNatClampNeg) (kd_W hw1) h4 rfl dX6_put_41 (fun H locs hI => ?_)
      refine lv_iload hx hb dX6_put_42 (lv_at hl 0 rfl) ?_
      cases hf
      exact z_iret hx hb hr hlk hK hG hI dX6_put_44
    · have hf := ok_t c2 hf
      refine lv_iload_n hx hb dX6_put_24 rfl (lv_at hl 3 rfl) ?_
      refine lv_i2s hx hb dX6_put_25 rfl ?_
      refine lv_goto (tgt := 30) hx hb dX6_put_26 (by decide) ?_
      refine lv_topi (fun v1 ev1 => ?_)
      have hf := ok_n hf ev1
      refine lv_istore (lv' := [(4, .int v1), (0, .ref (G.1 + 1)), (1, .int x1), (2, .int x2), (3, .int x3)]) hx hb dX6_put_30 hl (by decide) rfl (fun ls hl => ?_)
      refine lv_aload_n hx hb dX6_put_32 rfl (lv_at hl 1 rfl) ?_
      refine z_get (C := RX6) (T := TX6) (N := 3) (ci := 6) (v := .ref (G.1 + 2)) hx hb hts i_X6_put_6 hown hK hI 1 rfl (by decide) rfl 0 (by decide) (hts (.fieldLink RX6 11 "FenceYards$Rows" "items" "[[I") (by decide +kernel)) (fun _ h9 => h9) rfl dX6_put_33 ?_
      refine lv_iload_n hx hb dX6_put_36 rfl (lv_at hl 2 rfl) ?_
      obtain ⟨h5, hf⟩ := ok_c hf
      refine z_aldW hx hb hK hI (k := x1.toNatClampNeg) h5 rfl dX6_put_37 ?_
      have hw2 : isW (3 + x1.toNatClampNeg) := isW_of h5
      refine lv_iload_n hx hb dX6_put_38 rfl (lv_at hl 3 rfl) ?_
      refine lv_iload hx hb dX6_put_39 (lv_at hl 0 rfl) ?_
      obtain ⟨h6, hf⟩ := ok_c hf
      refine z_iast hx hb hK hI (3 + x1.toNatClampNeg) (k := x2.toNatClampNeg) (kd_W hw2) h6 rfl dX6_put_41 (fun H locs hI => ?_)
      refine lv_iload hx hb dX6_put_42 (lv_at hl 0 rfl) ?_
      cases hf
      exact z_iret hx hb hr hlk hK hG hI dX6_put_44
  · have hf := ok_t c1 hf
    refine lv_iload_n hx hb dX6_put_9 rfl (lv_at hl 3 rfl) ?_
    refine lv_i2b hx hb dX6_put_10 rfl ?_
    refine lv_goto (tgt := 30) hx hb dX6_put_11 (by decide) ?_
    refine lv_topi (fun v2 ev2 => ?_)
    have hf := ok_n hf ev2
    refine lv_istore (lv' := [(4, .int v2), (0, .ref (G.1 + 1)), (1, .int x1), (2, .int x2), (3, .int x3)]) hx hb dX6_put_30 hl (by decide) rfl (fun ls hl => ?_)
    refine lv_aload_n hx hb dX6_put_32 rfl (lv_at hl 1 rfl) ?_
    refine z_get (C := RX6) (T := TX6) (N := 3) (ci := 6) (v := .ref (G.1 + 2)) hx hb hts i_X6_put_6 hown hK hI 1 rfl (by decide) rfl 0 (by decide) (hts (.fieldLink RX6 11 "FenceYards$Rows" "items" "[[I") (by decide +kernel)) (fun _ h9 => h9) rfl dX6_put_33 ?_
    refine lv_iload_n hx hb dX6_put_36 rfl (lv_at hl 2 rfl) ?_
    obtain ⟨h7, hf⟩ := ok_c hf
    refine z_aldW hx hb hK hI (k := x1.toNatClampNeg) h7 rfl dX6_put_37 ?_
    have hw3 : isW (3 + x1.toNatClampNeg) := isW_of h7
    refine lv_iload_n hx hb dX6_put_38 rfl (lv_at hl 3 rfl) ?_
    refine lv_iload hx hb dX6_put_39 (lv_at hl 0 rfl) ?_
    obtain ⟨h8, hf⟩ := ok_c hf
    refine z_iast hx hb hK hI (3 + x1.toNatClampNeg) (k := x2.toNatClampNeg) (kd_W hw3) h8 rfl dX6_put_41 (fun H locs hI => ?_)
    refine lv_iload hx hb dX6_put_42 (lv_at hl 0 rfl) ?_
    cases hf
    exact z_iret hx hb hr hlk hK hG hI dX6_put_44

-- ===== FenceYards$Rows.areOfOneLane(II)Z
set_option maxRecDepth 100000 in
theorem i_X6_areOfOneLane_6 : ∀ w ∈ u_ws RX6 TX6 3, w ∈ wsX6_areOfOneLane := by decide +kernel
def f_X6_areOfOneLane (σ : Hp) (x1 : Int32) (x2 : Int32) : Option (Int32) :=
  chk (inb x1 8) <| chk (inb x2 8) <| if (gI σ 11 (x1.toNatClampNeg)) = (gI σ 11 (x2.toNatClampNeg)) then (some 1) else (some 0)
set_option maxRecDepth 100000 in
set_option maxHeartbeats 4000000 in
theorem m_X6_areOfOneLane (G : GT) (l : Launch) {σ : Hp} {x1 : Int32} {x2 : Int32} {r : Int32}  (hf : f_X6_areOfOneLane σ x1 x2 = some r) : MetG G l yX6_areOfOneLane wsX6_areOfOneLane (rmk 0 0) σ [.ref (G.1 + 1), .int x1, .int x2] (QI G σ r) := by
  refine met_of (cc := cX6_areOfOneLane) (nL := 3) (ret := (some .boolean)) (by decide) rfl (Nat.le_of_ble_eq_true rfl) ?_
  intro p e s m below meth c C0 hnm hI ls hl
  obtain ⟨hx, hb, hr, hml, hown, hts, hlk, hK, hG⟩ := id C0
  have hl : lv_has ls 3 [(0, .ref (G.1 + 1)), (1, .int x1), (2, .int x2)] := hl
  unfold f_X6_areOfOneLane at hf
  refine lv_aload_n hx hb dX6_areOfOneLane_0 rfl (lv_at hl 0 rfl) ?_
  refine z_get (C := RX6) (T := TX6) (N := 3) (ci := 6) (v := .ref (G.1 + 11)) hx hb hts i_X6_areOfOneLane_6 hown hK hI 1 rfl (by decide) rfl 1 (by decide) (hts (.fieldLink RX6 16 "FenceYards$Rows" "lanes" "[I") (by decide +kernel)) (fun _ h9 => h9) rfl dX6_areOfOneLane_1 ?_
  refine lv_iload_n hx hb dX6_areOfOneLane_4 rfl (lv_at hl 1 rfl) ?_
  obtain ⟨h1, hf⟩ := ok_c hf
  refine z_iald hx hb hK hI 11 (k := x1.toNatClampNeg) rfl h1 rfl dX6_areOfOneLane_5 ?_
  refine lv_aload_n hx hb dX6_areOfOneLane_6 rfl (lv_at hl 0 rfl) ?_
  refine z_get (C := RX6) (T := TX6) (N := 3) (ci := 6) (v := .ref (G.1 + 11)) hx hb hts i_X6_areOfOneLane_6 hown hK hI 1 rfl (by decide) rfl 1 (by decide) (hts (.fieldLink RX6 16 "FenceYards$Rows" "lanes" "[I") (by decide +kernel)) (fun _ h9 => h9) rfl dX6_areOfOneLane_7 ?_
  refine lv_iload_n hx hb dX6_areOfOneLane_10 rfl (lv_at hl 2 rfl) ?_
  obtain ⟨h2, hf⟩ := ok_c hf
  refine z_iald hx hb hK hI 11 (k := x2.toNatClampNeg) rfl h2 rfl dX6_areOfOneLane_11 ?_
  refine lv_icmp_ne (tgt := 19) hx hb dX6_areOfOneLane_12 (by decide) (fun c1 => ?_) (fun c1 => ?_)
  · have hf := ok_f c1 hf
    refine lv_iconst (v := 0) hx hb dX6_areOfOneLane_19 (by decide) ?_
    cases hf
    exact z_zret hx hb hr hlk hK hG hI (Or.inl rfl) dX6_areOfOneLane_20
  · have hf := ok_t c1 hf
    refine lv_iconst (v := 1) hx hb dX6_areOfOneLane_15 (by decide) ?_
    refine lv_goto (tgt := 20) hx hb dX6_areOfOneLane_16 (by decide) ?_
    cases hf
    exact z_zret hx hb hr hlk hK hG hI (Or.inr rfl) dX6_areOfOneLane_20

-- ===== FenceYards$Rows.holds(III)Z
set_option maxRecDepth 100000 in
theorem i_X6_holds_6 : ∀ w ∈ u_ws RX6 TX6 3, w ∈ wsX6_holds := by decide +kernel
def f_X6_holds (σ : Hp) (x1 : Int32) (x2 : Int32) (x3 : Int32) : Option (Int32) :=
  if x2 < 0 then (some 0) else (if x3 < 0 then (some 0) else (chk (inb x1 8) <| if (gI σ 12 (x1.toNatClampNeg)) < x2 then (some 0) else (chk (inb x1 8) <| if ((gI σ 12 (x1.toNatClampNeg)) - x2) < x3 then (some 0) else (some 1))))
set_option maxRecDepth 100000 in
set_option maxHeartbeats 4000000 in
theorem m_X6_holds (G : GT) (l : Launch) {σ : Hp} {x1 : Int32} {x2 : Int32} {x3 : Int32} {r : Int32}  (hf : f_X6_holds σ x1 x2 x3 = some r) : MetG G l yX6_holds wsX6_holds (rmk 0 0) σ [.ref (G.1 + 1), .int x1, .int x2, .int x3] (QI G σ r) := by
  refine met_of (cc := cX6_holds) (nL := 4) (ret := (some .boolean)) (by decide) rfl (Nat.le_of_ble_eq_true rfl) ?_
  intro p e s m below meth c C0 hnm hI ls hl
  obtain ⟨hx, hb, hr, hml, hown, hts, hlk, hK, hG⟩ := id C0
  have hl : lv_has ls 4 [(0, .ref (G.1 + 1)), (1, .int x1), (2, .int x2), (3, .int x3)] := hl
  unfold f_X6_holds at hf
  refine lv_iload_n hx hb dX6_holds_0 rfl (lv_at hl 2 rfl) ?_
  refine lv_if_lt (tgt := 34) hx hb dX6_holds_1 (by decide) (fun c1 => ?_) (fun c1 => ?_)
  · have hf := ok_t c1 hf
    refine lv_iconst (v := 0) hx hb dX6_holds_34 (by decide) ?_
    cases hf
    exact z_zret hx hb hr hlk hK hG hI (Or.inl rfl) dX6_holds_35
  · have hf := ok_f c1 hf
    refine lv_iload_n hx hb dX6_holds_4 rfl (lv_at hl 3 rfl) ?_
    refine lv_if_lt (tgt := 34) hx hb dX6_holds_5 (by decide) (fun c2 => ?_) (fun c2 => ?_)
    · have hf := ok_t c2 hf
      refine lv_iconst (v := 0) hx hb dX6_holds_34 (by decide) ?_
      cases hf
      exact z_zret hx hb hr hlk hK hG hI (Or.inl rfl) dX6_holds_35
    · have hf := ok_f c2 hf
      refine lv_iload_n hx hb dX6_holds_8 rfl (lv_at hl 2 rfl) ?_
      refine lv_aload_n hx hb dX6_holds_9 rfl (lv_at hl 0 rfl) ?_
      refine z_get (C := RX6) (T := TX6) (N := 3) (ci := 6) (v := .ref (G.1 + 12)) hx hb hts i_X6_holds_6 hown hK hI 1 rfl (by decide) rfl 2 (by decide) (hts (.fieldLink RX6 20 "FenceYards$Rows" "sizes" "[I") (by decide +kernel)) (fun _ h9 => h9) rfl dX6_holds_10 ?_
      refine lv_iload_n hx hb dX6_holds_13 rfl (lv_at hl 1 rfl) ?_
      obtain ⟨h1, hf⟩ := ok_c hf
      refine z_iald hx hb hK hI 12 (k := x1.toNatClampNeg) rfl h1 rfl dX6_holds_14 ?_
      refine lv_icmp_gt (tgt := 34) hx hb dX6_holds_15 (by decide) (fun c3 => ?_) (fun c3 => ?_)
      · have hf := ok_t c3 hf
        refine lv_iconst (v := 0) hx hb dX6_holds_34 (by decide) ?_
        cases hf
        exact z_zret hx hb hr hlk hK hG hI (Or.inl rfl) dX6_holds_35
      · have hf := ok_f c3 hf
        refine lv_iload_n hx hb dX6_holds_18 rfl (lv_at hl 3 rfl) ?_
        refine lv_aload_n hx hb dX6_holds_19 rfl (lv_at hl 0 rfl) ?_
        refine z_get (C := RX6) (T := TX6) (N := 3) (ci := 6) (v := .ref (G.1 + 12)) hx hb hts i_X6_holds_6 hown hK hI 1 rfl (by decide) rfl 2 (by decide) (hts (.fieldLink RX6 20 "FenceYards$Rows" "sizes" "[I") (by decide +kernel)) (fun _ h9 => h9) rfl dX6_holds_20 ?_
        refine lv_iload_n hx hb dX6_holds_23 rfl (lv_at hl 1 rfl) ?_
        obtain ⟨h2, hf⟩ := ok_c hf
        refine z_iald hx hb hK hI 12 (k := x1.toNatClampNeg) rfl h2 rfl dX6_holds_24 ?_
        refine lv_iload_n hx hb dX6_holds_25 rfl (lv_at hl 2 rfl) ?_
        refine lv_isub hx hb dX6_holds_26 ?_
        refine lv_icmp_gt (tgt := 34) hx hb dX6_holds_27 (by decide) (fun c4 => ?_) (fun c4 => ?_)
        · have hf := ok_t c4 hf
          refine lv_iconst (v := 0) hx hb dX6_holds_34 (by decide) ?_
          cases hf
          exact z_zret hx hb hr hlk hK hG hI (Or.inl rfl) dX6_holds_35
        · have hf := ok_f c4 hf
          refine lv_iconst (v := 1) hx hb dX6_holds_30 (by decide) ?_
          refine lv_goto (tgt := 35) hx hb dX6_holds_31 (by decide) ?_
          cases hf
          exact z_zret hx hb hr hlk hK hG hI (Or.inr rfl) dX6_holds_35

-- ===== FenceYards$Rows.move(IIIII)V
set_option maxRecDepth 100000 in
theorem i_X6_move_6 : ∀ w ∈ u_ws RX6 TX6 3, w ∈ wsX6_move := by decide +kernel
def f_X6_move (σ : Hp) (x1 : Int32) (x2 : Int32) (x3 : Int32) (x4 : Int32) (x5 : Int32) : Option (Hp) :=
  chk (inb x1 8) <| chk (inb x3 8) <| chk (cpok x2 x4 x5 40 40) <| bnd (rI σ (3 + x3.toNatClampNeg) (va_cpy (gI σ (3 + x1.toNatClampNeg)) (gI σ (3 + x3.toNatClampNeg)) x2.toNatClampNeg x4.toNatClampNeg x5.toNatClampNeg)) fun s1 => some s1
set_option maxRecDepth 100000 in
set_option maxHeartbeats 4000000 in
theorem m_X6_move (G : GT) (l : Launch) {σ : Hp} {x1 : Int32} {x2 : Int32} {x3 : Int32} {x4 : Int32} {x5 : Int32} {σ' : Hp}  (hf : f_X6_move σ x1 x2 x3 x4 x5 = some σ') : MetG G l yX6_move wsX6_move (rmk 1 60) σ [.ref (G.1 + 1), .int x1, .int x2, .int x3, .int x4, .int x5] (QV G σ') := by
  refine met_of (cc := cX6_move) (nL := 6) (ret := none) (by decide) rfl (Nat.le_of_ble_eq_true rfl) ?_
  intro p e s m below meth c C0 hnm hI ls hl
  obtain ⟨hx, hb, hr, hml, hown, hts, hlk, hK, hG⟩ := id C0
  have hl : lv_has ls 6 [(0, .ref (G.1 + 1)), (1, .int x1), (2, .int x2), (3, .int x3), (4, .int x4), (5, .int x5)] := hl
  unfold f_X6_move at hf
  refine lv_aload_n hx hb dX6_move_0 rfl (lv_at hl 0 rfl) ?_
  refine z_get (C := RX6) (T := TX6) (N := 3) (ci := 6) (v := .ref (G.1 + 2)) hx hb hts i_X6_move_6 hown hK hI 1 rfl (by decide) rfl 0 (by decide) (hts (.fieldLink RX6 11 "FenceYards$Rows" "items" "[[I") (by decide +kernel)) (fun _ h9 => h9) rfl dX6_move_1 ?_
  refine lv_iload_n hx hb dX6_move_4 rfl (lv_at hl 1 rfl) ?_
  obtain ⟨h1, hf⟩ := ok_c hf
  refine z_aldW hx hb hK hI (k := x1.toNatClampNeg) h1 rfl dX6_move_5 ?_
  have hw1 : isW (3 + x1.toNatClampNeg) := isW_of h1
  refine lv_iload_n hx hb dX6_move_6 rfl (lv_at hl 2 rfl) ?_
  refine lv_aload_n hx hb dX6_move_7 rfl (lv_at hl 0 rfl) ?_
  refine z_get (C := RX6) (T := TX6) (N := 3) (ci := 6) (v := .ref (G.1 + 2)) hx hb hts i_X6_move_6 hown hK hI 1 rfl (by decide) rfl 0 (by decide) (hts (.fieldLink RX6 11 "FenceYards$Rows" "items" "[[I") (by decide +kernel)) (fun _ h9 => h9) rfl dX6_move_8 ?_
  refine lv_iload_n hx hb dX6_move_11 rfl (lv_at hl 3 rfl) ?_
  obtain ⟨h2, hf⟩ := ok_c hf
  refine z_aldW hx hb hK hI (k := x3.toNatClampNeg) h2 rfl dX6_move_12 ?_
  have hw2 : isW (3 + x3.toNatClampNeg) := isW_of h2
  refine lv_iload hx hb dX6_move_13 (lv_at hl 4 rfl) ?_
  refine lv_iload hx hb dX6_move_15 (lv_at hl 5 rfl) ?_
  obtain ⟨h3, hf⟩ := ok_c hf
  refine z_copy (q0 := (3 + x1.toNatClampNeg)) (q1 := (3 + x3.toNatClampNeg)) hx hb (hml.trans hl.1.symm) hown (hts (.methodLink RX6 33 arraycopyName) (by decide +kernel)) (hts (.native arraycopyName) (by decide +kernel)) (hts (.static arraycopyName) (by decide +kernel)) (hts (.initialized "java/lang/System") (by decide +kernel)) hK hI (kd_W hw1) (kd_W hw2) h3 (Nat.le_of_ble_eq_true rfl) (Nat.le_of_ble_eq_true rfl) dX6_move_17 (fun H locs hI => ?_)
  obtain ⟨s1, es1⟩ : ∃ z, z = rI σ (3 + x3.toNatClampNeg) (va_cpy (gI σ (3 + x1.toNatClampNeg)) (gI σ (3 + x3.toNatClampNeg)) x2.toNatClampNeg x4.toNatClampNeg x5.toNatClampNeg) := ⟨_, rfl⟩
  have hI : Inv G s s1 H locs := by rw [es1]; exact hI
  have hf := ok_n hf es1
  cases hf
  exact z_vret hx hb hr hlk hK hG hI dX6_move_20

-- ===== FenceYards$Rows.remove(I)I
set_option maxRecDepth 100000 in
theorem i_X6_remove_6 : ∀ w ∈ u_ws RX6 TX6 3, w ∈ wsX6_remove := by decide +kernel
def f_X6_remove (σ : Hp) (x1 : Int32) : Option (Hp × Int32) :=
  chk (inb x1 8) <| bnd (gI σ 12 (x1.toNatClampNeg)) fun v1 => chk (inb x1 8) <| some (sI σ 12 (x1.toNatClampNeg) (-1), v1)
set_option maxRecDepth 100000 in
set_option maxHeartbeats 4000000 in
theorem m_X6_remove (G : GT) (l : Launch) {σ : Hp} {x1 : Int32} {σ' : Hp} {r : Int32}  (hf : f_X6_remove σ x1 = some (σ', r)) : MetG G l yX6_remove wsX6_remove (rmk 0 0) σ [.ref (G.1 + 1), .int x1] (QI G σ' r) := by
  refine met_of (cc := cX6_remove) (nL := 3) (ret := (some .int)) (by decide) rfl (Nat.le_of_ble_eq_true rfl) ?_
  intro p e s m below meth c C0 hnm hI ls hl
  obtain ⟨hx, hb, hr, hml, hown, hts, hlk, hK, hG⟩ := id C0
  have hl : lv_has ls 3 [(0, .ref (G.1 + 1)), (1, .int x1)] := hl
  unfold f_X6_remove at hf
  refine lv_aload_n hx hb dX6_remove_0 rfl (lv_at hl 0 rfl) ?_
  refine z_get (C := RX6) (T := TX6) (N := 3) (ci := 6) (v := .ref (G.1 + 12)) hx hb hts i_X6_remove_6 hown hK hI 1 rfl (by decide) rfl 2 (by decide) (hts (.fieldLink RX6 20 "FenceYards$Rows" "sizes" "[I") (by decide +kernel)) (fun _ h9 => h9) rfl dX6_remove_1 ?_
  refine lv_iload_n hx hb dX6_remove_4 rfl (lv_at hl 1 rfl) ?_
  obtain ⟨h1, hf⟩ := ok_c hf
  refine z_iald hx hb hK hI 12 (k := x1.toNatClampNeg) rfl h1 rfl dX6_remove_5 ?_
  refine lv_topi (fun v1 ev1 => ?_)
  have hf := ok_n hf ev1
  refine lv_istore_n (lv' := [(2, .int v1), (0, .ref (G.1 + 1)), (1, .int x1)]) hx hb dX6_remove_6 rfl hl (by decide) rfl (fun ls hl => ?_)
  refine lv_aload_n hx hb dX6_remove_7 rfl (lv_at hl 1 rfl) ?_
  refine z_get (C := RX6) (T := TX6) (N := 3) (ci := 6) (v := .ref (G.1 + 12)) hx hb hts i_X6_remove_6 hown hK hI 1 rfl (by decide) rfl 2 (by decide) (hts (.fieldLink RX6 20 "FenceYards$Rows" "sizes" "[I") (by decide +kernel)) (fun _ h9 => h9) rfl dX6_remove_8 ?_
  refine lv_iload_n hx hb dX6_remove_11 rfl (lv_at hl 2 rfl) ?_
  refine lv_iconst (v := (-1)) hx hb dX6_remove_12 (by decide) ?_
  obtain ⟨h2, hf⟩ := ok_c hf
  refine z_iast hx hb hK hI 12 (k := x1.toNatClampNeg) rfl h2 rfl dX6_remove_13 (fun H locs hI => ?_)
  refine lv_iload_n hx hb dX6_remove_14 rfl (lv_at hl 0 rfl) ?_
  cases hf
  exact z_iret hx hb hr hlk hK hG hI dX6_remove_15

-- ===== FenceYards.newStrip(IIII)LFenceYards$Strip;
def f_X11_newStrip (σ : Hp) (x0 : Int32) (x1 : Int32) (x2 : Int32) (x3 : Int32) : Option (Hp × Option Nat) :=
  if x0 = 0 then (chk (okS (nS σ 1) (gT σ)) <| bd1 (f_X1_init (nS σ 1) (gT σ) x1 x2 x3) fun s1 => some (s1, some (gT σ))) else if x0 = 1 then (chk (okS (nS σ 0) (gT σ)) <| bd1 (f_X0_init (nS σ 0) (gT σ) x1 x2 x3) fun s2 => some (s2, some (gT σ))) else if x0 = 2 then (chk (okS (nS σ 7) (gT σ)) <| bd1 (f_X7_init (nS σ 7) (gT σ) x1 x2 x3) fun s3 => some (s3, some (gT σ))) else if x0 = 3 then (chk (okS (nS σ 3) (gT σ)) <| bd1 (f_X3_init (nS σ 3) (gT σ) x1 x2 x3) fun s4 => some (s4, some (gT σ))) else if x0 = 4 then (chk (okS (nS σ 2) (gT σ)) <| bd1 (f_X2_init (nS σ 2) (gT σ) x1 x2 x3) fun s5 => some (s5, some (gT σ))) else (some (σ, none))
set_option maxRecDepth 100000 in
set_option maxHeartbeats 4000000 in
theorem m_X11_newStrip (G : GT) (l : Launch) {σ : Hp} {x0 : Int32} {x1 : Int32} {x2 : Int32} {x3 : Int32} {σ' : Hp} {r : Option Nat}  (hf : f_X11_newStrip σ x0 x1 x2 x3 = some (σ', r)) : MetG G l yX11_newStrip wsX11_newStrip (rmc 4 1 3 93) σ [.int x0, .int x1, .int x2, .int x3] (QQ G σ' r) := by
  refine met_of (cc := cX11_newStrip) (nL := 4) (ret := (some (.object "FenceYards$Strip"))) (by decide) rfl (Nat.le_of_ble_eq_true rfl) ?_
  intro p e s m below meth c C0 hnm hI ls hl
  obtain ⟨hx, hb, hr, hml, hown, hts, hlk, hK, hG⟩ := id C0
  have hl : lv_has ls 4 [(0, .int x0), (1, .int x1), (2, .int x2), (3, .int x3)] := hl
  unfold f_X11_newStrip at hf
  refine lv_iload_n hx hb dX11_newStrip_0 rfl (lv_at hl 0 rfl) ?_
  by_cases c1 : x0 = 0
  · have hf := ok_t c1 hf
    refine lv_tableIn (tgt := 36) hx hb dX11_newStrip_1 (by rw [c1]; decide) (by rw [c1]; decide) (by rw [c1]; rfl) (by decide) ?_
    refine z_new (C := RX1) (T := TX1) (ci := 1) hx hb hts (by decide +kernel) tyX1 tyX1_ok hown (hts (.classLink RX11 293 RX1) (by decide +kernel)) (hts (.instantiable RX1 3) (by decide +kernel)) (hts (.initialized RX1) (by decide +kernel)) hK hI rfl (by decide) (by decide) (Nat.le_of_ble_eq_true rfl) (Nat.le_of_ble_eq_true rfl) dX11_newStrip_36 (fun H locs hI => ?_)
    refine lv_dup hx hb dX11_newStrip_39 rfl ?_
    refine lv_iload_n hx hb dX11_newStrip_40 rfl (lv_at hl 1 rfl) ?_
    refine lv_iload_n hx hb dX11_newStrip_41 rfl (lv_at hl 2 rfl) ?_
    refine lv_iload_n hx hb dX11_newStrip_42 rfl (lv_at hl 3 rfl) ?_
    obtain ⟨h1, hf⟩ := ok_c hf
    obtain ⟨s1, hc1, hf⟩ := ok_1 hf
    refine z_callv0 rfl rfl hI (va_runI (As := [.int x1, .int x2, .int x3]) (rest := [.ref (G.1 + (gT σ))]) ⟨hx, hb, hml, hown, hts⟩ (m_X1_init G l h1 hc1) (cwI 3 hts gX11_newStrip_X1_init rfl rfl rfl (hts (.initialized "FenceYards$Bean") (by decide +kernel)) (hts (.methodLink RX11 295 yX1_init) (by decide +kernel)) (hts (.instanceMethod yX1_init) (by decide +kernel)) rfl (by decide +kernel) ⟨Nat.le_of_ble_eq_true rfl, Nat.le_of_ble_eq_true rfl⟩) (z_pre hK hG hI) rfl rfl hl.1 rfl (lv_room (Nat.le_of_ble_eq_true rfl)) dX11_newStrip_43 ⟨Nat.le_of_ble_eq_true rfl, Nat.le_of_ble_eq_true rfl⟩) (fun H locs hI => ?_)
    cases hf
    refine W.widen (k := 1) (n := 3) (Nat.le_of_ble_eq_true rfl) (Nat.le_of_ble_eq_true rfl) ?_
    exact z_aret (r := (some (gT σ))) rfl hx hb hr hlk hK hG hI dX11_newStrip_46
  have hf := ok_f c1 hf
  by_cases c2 : x0 = 1
  · have hf := ok_t c2 hf
    refine lv_tableIn (tgt := 47) hx hb dX11_newStrip_1 (by rw [c2]; decide) (by rw [c2]; decide) (by rw [c2]; rfl) (by decide) ?_
    refine z_new (C := RX0) (T := TX0) (ci := 0) hx hb hts (by decide +kernel) tyX0 tyX0_ok hown (hts (.classLink RX11 297 RX0) (by decide +kernel)) (hts (.instantiable RX0 3) (by decide +kernel)) (hts (.initialized RX0) (by decide +kernel)) hK hI rfl (by decide) (by decide) (Nat.le_of_ble_eq_true rfl) (Nat.le_of_ble_eq_true rfl) dX11_newStrip_47 (fun H locs hI => ?_)
    refine lv_dup hx hb dX11_newStrip_50 rfl ?_
    refine lv_iload_n hx hb dX11_newStrip_51 rfl (lv_at hl 1 rfl) ?_
    refine lv_iload_n hx hb dX11_newStrip_52 rfl (lv_at hl 2 rfl) ?_
    refine lv_iload_n hx hb dX11_newStrip_53 rfl (lv_at hl 3 rfl) ?_
    obtain ⟨h2, hf⟩ := ok_c hf
    obtain ⟨s2, hc2, hf⟩ := ok_1 hf
    refine z_callv0 rfl rfl hI (va_runI (As := [.int x1, .int x2, .int x3]) (rest := [.ref (G.1 + (gT σ))]) ⟨hx, hb, hml, hown, hts⟩ (m_X0_init G l h2 hc2) (cwI 3 hts gX11_newStrip_X0_init rfl rfl rfl (hts (.initialized "FenceYards$Apple") (by decide +kernel)) (hts (.methodLink RX11 299 yX0_init) (by decide +kernel)) (hts (.instanceMethod yX0_init) (by decide +kernel)) rfl (by decide +kernel) ⟨Nat.le_of_ble_eq_true rfl, Nat.le_of_ble_eq_true rfl⟩) (z_pre hK hG hI) rfl rfl hl.1 rfl (lv_room (Nat.le_of_ble_eq_true rfl)) dX11_newStrip_54 ⟨Nat.le_of_ble_eq_true rfl, Nat.le_of_ble_eq_true rfl⟩) (fun H locs hI => ?_)
    cases hf
    refine W.widen (k := 1) (n := 3) (Nat.le_of_ble_eq_true rfl) (Nat.le_of_ble_eq_true rfl) ?_
    exact z_aret (r := (some (gT σ))) rfl hx hb hr hlk hK hG hI dX11_newStrip_57
  have hf := ok_f c2 hf
  by_cases c3 : x0 = 2
  · have hf := ok_t c3 hf
    refine lv_tableIn (tgt := 58) hx hb dX11_newStrip_1 (by rw [c3]; decide) (by rw [c3]; decide) (by rw [c3]; rfl) (by decide) ?_
    refine z_new (C := RX7) (T := TX7) (ci := 7) hx hb hts (by decide +kernel) tyX7 tyX7_ok hown (hts (.classLink RX11 300 RX7) (by decide +kernel)) (hts (.instantiable RX7 3) (by decide +kernel)) (hts (.initialized RX7) (by decide +kernel)) hK hI rfl (by decide) (by decide) (Nat.le_of_ble_eq_true rfl) (Nat.le_of_ble_eq_true rfl) dX11_newStrip_58 (fun H locs hI => ?_)
    refine lv_dup hx hb dX11_newStrip_61 rfl ?_
    refine lv_iload_n hx hb dX11_newStrip_62 rfl (lv_at hl 1 rfl) ?_
    refine lv_iload_n hx hb dX11_newStrip_63 rfl (lv_at hl 2 rfl) ?_
    refine lv_iload_n hx hb dX11_newStrip_64 rfl (lv_at hl 3 rfl) ?_
    obtain ⟨h3, hf⟩ := ok_c hf
    obtain ⟨s3, hc3, hf⟩ := ok_1 hf
    refine z_callv0 rfl rfl hI (va_runI (As := [.int x1, .int x2, .int x3]) (rest := [.ref (G.1 + (gT σ))]) ⟨hx, hb, hml, hown, hts⟩ (m_X7_init G l h3 hc3) (cwI 3 hts gX11_newStrip_X7_init rfl rfl rfl (hts (.initialized "FenceYards$Rye") (by decide +kernel)) (hts (.methodLink RX11 302 yX7_init) (by decide +kernel)) (hts (.instanceMethod yX7_init) (by decide +kernel)) rfl (by decide +kernel) ⟨Nat.le_of_ble_eq_true rfl, Nat.le_of_ble_eq_true rfl⟩) (z_pre hK hG hI) rfl rfl hl.1 rfl (lv_room (Nat.le_of_ble_eq_true rfl)) dX11_newStrip_65 ⟨Nat.le_of_ble_eq_true rfl, Nat.le_of_ble_eq_true rfl⟩) (fun H locs hI => ?_)
    cases hf
    refine W.widen (k := 1) (n := 3) (Nat.le_of_ble_eq_true rfl) (Nat.le_of_ble_eq_true rfl) ?_
    exact z_aret (r := (some (gT σ))) rfl hx hb hr hlk hK hG hI dX11_newStrip_68
  have hf := ok_f c3 hf
  by_cases c4 : x0 = 3
  · have hf := ok_t c4 hf
    refine lv_tableIn (tgt := 69) hx hb dX11_newStrip_1 (by rw [c4]; decide) (by rw [c4]; decide) (by rw [c4]; rfl) (by decide) ?_
    refine z_new (C := RX3) (T := TX3) (ci := 3) hx hb hts (by decide +kernel) tyX3 tyX3_ok hown (hts (.classLink RX11 303 RX3) (by decide +kernel)) (hts (.instantiable RX3 3) (by decide +kernel)) (hts (.initialized RX3) (by decide +kernel)) hK hI rfl (by decide) (by decide) (Nat.le_of_ble_eq_true rfl) (Nat.le_of_ble_eq_true rfl) dX11_newStrip_69 (fun H locs hI => ?_)
    refine lv_dup hx hb dX11_newStrip_72 rfl ?_
    refine lv_iload_n hx hb dX11_newStrip_73 rfl (lv_at hl 1 rfl) ?_
    refine lv_iload_n hx hb dX11_newStrip_74 rfl (lv_at hl 2 rfl) ?_
    refine lv_iload_n hx hb dX11_newStrip_75 rfl (lv_at hl 3 rfl) ?_
    obtain ⟨h4, hf⟩ := ok_c hf
    obtain ⟨s4, hc4, hf⟩ := ok_1 hf
    refine z_callv0 rfl rfl hI (va_runI (As := [.int x1, .int x2, .int x3]) (rest := [.ref (G.1 + (gT σ))]) ⟨hx, hb, hml, hown, hts⟩ (m_X3_init G l h4 hc4) (cwI 3 hts gX11_newStrip_X3_init rfl rfl rfl (hts (.initialized "FenceYards$Grass") (by decide +kernel)) (hts (.methodLink RX11 305 yX3_init) (by decide +kernel)) (hts (.instanceMethod yX3_init) (by decide +kernel)) rfl (by decide +kernel) ⟨Nat.le_of_ble_eq_true rfl, Nat.le_of_ble_eq_true rfl⟩) (z_pre hK hG hI) rfl rfl hl.1 rfl (lv_room (Nat.le_of_ble_eq_true rfl)) dX11_newStrip_76 ⟨Nat.le_of_ble_eq_true rfl, Nat.le_of_ble_eq_true rfl⟩) (fun H locs hI => ?_)
    cases hf
    refine W.widen (k := 1) (n := 3) (Nat.le_of_ble_eq_true rfl) (Nat.le_of_ble_eq_true rfl) ?_
    exact z_aret (r := (some (gT σ))) rfl hx hb hr hlk hK hG hI dX11_newStrip_79
  have hf := ok_f c4 hf
  by_cases c5 : x0 = 4
  · have hf := ok_t c5 hf
    refine lv_tableIn (tgt := 80) hx hb dX11_newStrip_1 (by rw [c5]; decide) (by rw [c5]; decide) (by rw [c5]; rfl) (by decide) ?_
    refine z_new (C := RX2) (T := TX2) (ci := 2) hx hb hts (by decide +kernel) tyX2 tyX2_ok hown (hts (.classLink RX11 306 RX2) (by decide +kernel)) (hts (.instantiable RX2 3) (by decide +kernel)) (hts (.initialized RX2) (by decide +kernel)) hK hI rfl (by decide) (by decide) (Nat.le_of_ble_eq_true rfl) (Nat.le_of_ble_eq_true rfl) dX11_newStrip_80 (fun H locs hI => ?_)
    refine lv_dup hx hb dX11_newStrip_83 rfl ?_
    refine lv_iload_n hx hb dX11_newStrip_84 rfl (lv_at hl 1 rfl) ?_
    refine lv_iload_n hx hb dX11_newStrip_85 rfl (lv_at hl 2 rfl) ?_
    refine lv_iload_n hx hb dX11_newStrip_86 rfl (lv_at hl 3 rfl) ?_
    obtain ⟨h5, hf⟩ := ok_c hf
    obtain ⟨s5, hc5, hf⟩ := ok_1 hf
    refine z_callv0 rfl rfl hI (va_runI (As := [.int x1, .int x2, .int x3]) (rest := [.ref (G.1 + (gT σ))]) ⟨hx, hb, hml, hown, hts⟩ (m_X2_init G l h5 hc5) (cwI 3 hts gX11_newStrip_X2_init rfl rfl rfl (hts (.initialized "FenceYards$Clover") (by decide +kernel)) (hts (.methodLink RX11 308 yX2_init) (by decide +kernel)) (hts (.instanceMethod yX2_init) (by decide +kernel)) rfl (by decide +kernel) ⟨Nat.le_of_ble_eq_true rfl, Nat.le_of_ble_eq_true rfl⟩) (z_pre hK hG hI) rfl rfl hl.1 rfl (lv_room (Nat.le_of_ble_eq_true rfl)) dX11_newStrip_87 ⟨Nat.le_of_ble_eq_true rfl, Nat.le_of_ble_eq_true rfl⟩) (fun H locs hI => ?_)
    cases hf
    refine W.widen (k := 1) (n := 3) (Nat.le_of_ble_eq_true rfl) (Nat.le_of_ble_eq_true rfl) ?_
    exact z_aret (r := (some (gT σ))) rfl hx hb hr hlk hK hG hI dX11_newStrip_90
  have hf := ok_f c5 hf
  refine lv_tableOut (tgt := 91) hx hb dX11_newStrip_1 (by have a0 := sw_ne (k := 0) (by decide) c1; have a1 := sw_ne (k := 1) (by decide) c2; have a2 := sw_ne (k := 2) (by decide) c3; have a3 := sw_ne (k := 3) (by decide) c4; have a4 := sw_ne (k := 4) (by decide) c5; omega) (by decide) ?_
  refine lv_null hx hb dX11_newStrip_91 ?_
  cases hf
  refine W.widen (k := 1) (n := 3) (Nat.le_of_ble_eq_true rfl) (Nat.le_of_ble_eq_true rfl) ?_
  exact z_aret (r := none) rfl hx hb hr hlk hK hG hI dX11_newStrip_92

-- ===== FenceYards.isMove(I)Z
def f_X11_isMove (σ : Hp) (x0 : Int32) : Option (Int32) :=
  if x0 < (-1) then (some 0) else (if 1 < x0 then (some 0) else (some 1))
set_option maxRecDepth 100000 in
set_option maxHeartbeats 4000000 in
theorem m_X11_isMove (G : GT) (l : Launch) {σ : Hp} {x0 : Int32} {r : Int32}  (hf : f_X11_isMove σ x0 = some r) : MetG G l yX11_isMove wsX11_isMove (rmk 0 0) σ [.int x0] (QI G σ r) := by
  refine met_of (cc := cX11_isMove) (nL := 1) (ret := (some .boolean)) (by decide) rfl (Nat.le_of_ble_eq_true rfl) ?_
  intro p e s m below meth c C0 hnm hI ls hl
  obtain ⟨hx, hb, hr, hml, hown, hts, hlk, hK, hG⟩ := id C0
  have hl : lv_has ls 1 [(0, .int x0)] := hl
  unfold f_X11_isMove at hf
  refine lv_iload_n hx hb dX11_isMove_0 rfl (lv_at hl 0 rfl) ?_
  refine lv_iconst (v := (-1)) hx hb dX11_isMove_1 (by decide) ?_
  refine lv_icmp_lt (tgt := 14) hx hb dX11_isMove_2 (by decide) (fun c1 => ?_) (fun c1 => ?_)
  · have hf := ok_t c1 hf
    refine lv_iconst (v := 0) hx hb dX11_isMove_14 (by decide) ?_
    cases hf
    exact z_zret hx hb hr hlk hK hG hI (Or.inl rfl) dX11_isMove_15
  · have hf := ok_f c1 hf
    refine lv_iload_n hx hb dX11_isMove_5 rfl (lv_at hl 0 rfl) ?_
    refine lv_iconst (v := 1) hx hb dX11_isMove_6 (by decide) ?_
    refine lv_icmp_gt (tgt := 14) hx hb dX11_isMove_7 (by decide) (fun c2 => ?_) (fun c2 => ?_)
    · have hf := ok_t c2 hf
      refine lv_iconst (v := 0) hx hb dX11_isMove_14 (by decide) ?_
      cases hf
      exact z_zret hx hb hr hlk hK hG hI (Or.inl rfl) dX11_isMove_15
    · have hf := ok_f c2 hf
      refine lv_iconst (v := 1) hx hb dX11_isMove_10 (by decide) ?_
      refine lv_goto (tgt := 15) hx hb dX11_isMove_11 (by decide) ?_
      cases hf
      exact z_zret hx hb hr hlk hK hG hI (Or.inr rfl) dX11_isMove_15

-- ===== FenceYards.shareOf(III)I
def f_X11_shareOf (σ : Hp) (x0 : Int32) (x1 : Int32) (x2 : Int32) : Option (Int32) :=
  bnd (if x1 < x0 then x1 else x0) fun v1 => bnd (if x0 < x1 then x1 else x0) fun v2 => bnd (v2 - v1) fun v3 => if x2 < v2 then (if x2 < v1 then (some 55440) else (if v3 < 1 then (some 55440) else (if v3 < 13 then (chk (inb v3 13) <| some (((2 * (v2 - x2)) - 1) * (hyI (v3.toNatClampNeg)))) else (some 55440)))) else (some 0)
set_option maxRecDepth 100000 in
set_option maxHeartbeats 4000000 in
theorem m_X11_shareOf (G : GT) (l : Launch) {σ : Hp} {x0 : Int32} {x1 : Int32} {x2 : Int32} {r : Int32}  (hf : f_X11_shareOf σ x0 x1 x2 = some r) : MetG G l yX11_shareOf wsX11_shareOf (rmk 1 24) σ [.int x0, .int x1, .int x2] (QI G σ r) := by
  refine met_of (cc := cX11_shareOf) (nL := 6) (ret := (some .int)) (by decide) rfl (Nat.le_of_ble_eq_true rfl) ?_
  intro p e s m below meth c C0 hnm hI ls hl
  obtain ⟨hx, hb, hr, hml, hown, hts, hlk, hK, hG⟩ := id C0
  have hl : lv_has ls 6 [(0, .int x0), (1, .int x1), (2, .int x2)] := hl
  unfold f_X11_shareOf at hf
  refine lv_iload_n hx hb dX11_shareOf_0 rfl (lv_at hl 0 rfl) ?_
  refine lv_iload_n hx hb dX11_shareOf_1 rfl (lv_at hl 1 rfl) ?_
  refine va_mmin hx hb (hml.trans hl.1.symm) hown (hts (.methodLink RX11 232 Lib.Math.min.name) (by decide +kernel)) (hts (.static Lib.Math.min.name) (by decide +kernel)) (hts (.initialized "java/lang/Math") (by decide +kernel)) (hts (.code Lib.Math.min.name Lib.Math.min.code 2 (some .int)) (by decide +kernel)) (Nat.le_of_ble_eq_true rfl) (Nat.le_of_ble_eq_true rfl) (Nat.zero_le _) (Nat.zero_le _) dX11_shareOf_2 ?_
  refine lv_topi (fun v1 ev1 => ?_)
  have hf := ok_n hf ev1
  refine lv_istore_n (lv' := [(3, .int v1), (0, .int x0), (1, .int x1), (2, .int x2)]) hx hb dX11_shareOf_5 rfl hl (by decide) rfl (fun ls hl => ?_)
  refine lv_iload_n hx hb dX11_shareOf_6 rfl (lv_at hl 1 rfl) ?_
  refine lv_iload_n hx hb dX11_shareOf_7 rfl (lv_at hl 2 rfl) ?_
  refine va_mmax hx hb (hml.trans hl.1.symm) hown (hts (.methodLink RX11 279 Lib.Math.max.name) (by decide +kernel)) (hts (.static Lib.Math.max.name) (by decide +kernel)) (hts (.initialized "java/lang/Math") (by decide +kernel)) (hts (.code Lib.Math.max.name Lib.Math.max.code 2 (some .int)) (by decide +kernel)) (Nat.le_of_ble_eq_true rfl) (Nat.le_of_ble_eq_true rfl) (Nat.zero_le _) (Nat.zero_le _) dX11_shareOf_8 ?_
  refine lv_topi (fun v2 ev2 => ?_)
  have hf := ok_n hf ev2
  refine lv_istore (lv' := [(4, .int v2), (3, .int v1), (0, .int x0), (1, .int x1), (2, .int x2)]) hx hb dX11_shareOf_11 hl (by decide) rfl (fun ls hl => ?_)
  refine lv_iload hx hb dX11_shareOf_13 (lv_at hl 0 rfl) ?_
  refine lv_iload_n hx hb dX11_shareOf_15 rfl (lv_at hl 1 rfl) ?_
  refine lv_isub hx hb dX11_shareOf_16 ?_
  refine lv_topi (fun v3 ev3 => ?_)
  have hf := ok_n hf ev3
  refine lv_istore (lv' := [(5, .int v3), (4, .int v2), (3, .int v1), (0, .int x0), (1, .int x1), (2, .int x2)]) hx hb dX11_shareOf_17 hl (by decide) rfl (fun ls hl => ?_)
  refine lv_iload_n hx hb dX11_shareOf_19 rfl (lv_at hl 5 rfl) ?_
  refine lv_iload hx hb dX11_shareOf_20 (lv_at hl 1 rfl) ?_
  refine lv_icmp_lt (tgt := 27) hx hb dX11_shareOf_22 (by decide) (fun c1 => ?_) (fun c1 => ?_)
  · have hf := ok_t c1 hf
    refine lv_iload_n hx hb dX11_shareOf_27 rfl (lv_at hl 5 rfl) ?_
    refine lv_iload_n hx hb dX11_shareOf_28 rfl (lv_at hl 2 rfl) ?_
    refine lv_icmp_lt (tgt := 47) hx hb dX11_shareOf_29 (by decide) (fun c2 => ?_) (fun c2 => ?_)
    · have hf := ok_t c2 hf
      refine lv_ldcw (v := 55440) hx hb hown (hts (.constant RX11 286 55440) (by decide +kernel)) dX11_shareOf_47 ?_
      cases hf
      exact z_iret hx hb hr hlk hK hG hI dX11_shareOf_50
    · have hf := ok_f c2 hf
      refine lv_iload hx hb dX11_shareOf_32 (lv_at hl 0 rfl) ?_
      refine lv_iconst (v := 1) hx hb dX11_shareOf_34 (by decide) ?_
      refine lv_icmp_lt (tgt := 47) hx hb dX11_shareOf_35 (by decide) (fun c3 => ?_) (fun c3 => ?_)
      · have hf := ok_t c3 hf
        refine lv_ldcw (v := 55440) hx hb hown (hts (.constant RX11 286 55440) (by decide +kernel)) dX11_shareOf_47 ?_
        cases hf
        exact z_iret hx hb hr hlk hK hG hI dX11_shareOf_50
      · have hf := ok_f c3 hf
        refine lv_iload hx hb dX11_shareOf_38 (lv_at hl 0 rfl) ?_
        refine va_gets hx hb hG.2.2.1 hI.2.2.1 hown (hts (.fieldLink RX11 282 "FenceYards" "HALF_YARD" "[I") (by decide +kernel)) (fun _ h9 => h9) dX11_shareOf_40 ?_
        refine va_tlen hx hb hG.2.2.2.1 hI.2.2.1 (v := 13) (by decide) dX11_shareOf_43 ?_
        refine lv_icmp_lt (tgt := 51) hx hb dX11_shareOf_44 (by decide) (fun c4 => ?_) (fun c4 => ?_)
        · have hf := ok_t c4 hf
          refine lv_iconst (v := 2) hx hb dX11_shareOf_51 (by decide) ?_
          refine lv_iload hx hb dX11_shareOf_52 (lv_at hl 1 rfl) ?_
          refine lv_iload_n hx hb dX11_shareOf_54 rfl (lv_at hl 5 rfl) ?_
          refine lv_isub hx hb dX11_shareOf_55 ?_
          refine lv_imul hx hb dX11_shareOf_56 ?_
          refine lv_iconst (v := 1) hx hb dX11_shareOf_57 (by decide) ?_
          refine lv_isub hx hb dX11_shareOf_58 ?_
          refine va_gets hx hb hG.2.2.1 hI.2.2.1 hown (hts (.fieldLink RX11 282 "FenceYards" "HALF_YARD" "[I") (by decide +kernel)) (fun _ h9 => h9) dX11_shareOf_59 ?_
          refine lv_iload hx hb dX11_shareOf_62 (lv_at hl 0 rfl) ?_
          obtain ⟨h1, hf⟩ := ok_c hf
          refine va_ti (v := .int (hyI (v3.toNatClampNeg))) hx hb hG.2.2.2.1 hI.2.2.1 (inb_in h1) rfl dX11_shareOf_64 ?_
          refine lv_imul hx hb dX11_shareOf_65 ?_
          cases hf
          exact z_iret hx hb hr hlk hK hG hI dX11_shareOf_66
        · have hf := ok_f c4 hf
          refine lv_ldcw (v := 55440) hx hb hown (hts (.constant RX11 286 55440) (by decide +kernel)) dX11_shareOf_47 ?_
          cases hf
          exact z_iret hx hb hr hlk hK hG hI dX11_shareOf_50
  · have hf := ok_f c1 hf
    refine lv_iconst (v := 0) hx hb dX11_shareOf_25 (by decide) ?_
    cases hf
    exact z_iret hx hb hr hlk hK hG hI dX11_shareOf_26

-- ===== FenceYards.commonDivisor(II)I
def f_X11_commonDivisor_7   (σ : Hp)  : Nat → Int32 → Int32 → Int32 → Option (Int32)
  | 0, _, _, _ => none
  | n + 1, x2, x3, x4 =>
    if 64 ≤ x4 then (some (if 1 < x2 then x2 else 1)) else (if x3 = 0 then (some (if 1 < x2 then x2 else 1)) else (chk (¬ x3 = 0) <| bnd (x2 - x2 / x3 * x3) fun v1 => f_X11_commonDivisor_7 σ n x3 v1 (x4 + 1)))
def f_X11_commonDivisor (σ : Hp) (x0 : Int32) (x1 : Int32) : Option (Int32) :=
  f_X11_commonDivisor_7 σ fu x0 x1 0
set_option maxRecDepth 100000 in
set_option maxHeartbeats 4000000 in
theorem w_X11_commonDivisor_7 {G : GT} {p : Program} {l : Launch} {e : Env} {s : State} {m : MethodId} {args : Array Value} {below : List Frame} {meth : Method} {c : Code}  {r : Int32}  {σ : Hp}   (C0 : Cx G cX11_commonDivisor RX11 wsX11_commonDivisor 6 (some .int) p s m args meth c)  :
    ∀ (n : Nat) (x2 : Int32) (x3 : Int32) (x4 : Int32), f_X11_commonDivisor_7 σ n x2 x3 x4 = some r → ∀ (H : Heap) (locs : List Loc), Inv G s σ H locs → ∀ ls : Array Slot, lv_has ls 6 [(2, .int x2), (3, .int x3), (4, .int x4)] → W p l e (rmk 1 24) s m args below meth c H locs 0 0 (MQ below (QI G σ r) args s (rmk 1 24).cells (rmk 1 24).slots (gA G)) (F0 m 7 ls []) := by
  obtain ⟨hx, hb, hr, hml, hown, hts, hlk, hK, hG⟩ := id C0
  intro n
  induction n with
  | zero =>
    intro x2 x3 x4 hf
    cases hf
  | succ n ih =>
    intro x2 x3 x4 hf H locs hI ls hl
    rw [f_X11_commonDivisor_7] at hf
    refine lv_iload hx hb dX11_commonDivisor_7 (lv_at hl 2 rfl) ?_
    refine lv_bipush (v := 64) hx hb dX11_commonDivisor_9 (by decide) ?_
    refine lv_icmp_ge (tgt := 34) hx hb dX11_commonDivisor_11 (by decide) (fun c1 => ?_) (fun c1 => ?_)
    · have hf := ok_t c1 hf
      refine lv_iconst (v := 1) hx hb dX11_commonDivisor_34 (by decide) ?_
      refine lv_iload_n hx hb dX11_commonDivisor_35 rfl (lv_at hl 0 rfl) ?_
      refine va_mmax hx hb (hml.trans hl.1.symm) hown (hts (.methodLink RX11 279 Lib.Math.max.name) (by decide +kernel)) (hts (.static Lib.Math.max.name) (by decide +kernel)) (hts (.initialized "java/lang/Math") (by decide +kernel)) (hts (.code Lib.Math.max.name Lib.Math.max.code 2 (some .int)) (by decide +kernel)) (Nat.le_of_ble_eq_true rfl) (Nat.le_of_ble_eq_true rfl) (Nat.zero_le _) (Nat.zero_le _) dX11_commonDivisor_36 ?_
      cases hf
      exact z_iret hx hb hr hlk hK hG hI dX11_commonDivisor_39
    · have hf := ok_f c1 hf
      refine lv_iload_n hx hb dX11_commonDivisor_14 rfl (lv_at hl 1 rfl) ?_
      refine lv_if_eq (tgt := 34) hx hb dX11_commonDivisor_15 (by decide) (fun c2 => ?_) (fun c2 => ?_)
      · have hf := ok_t c2 hf
        refine lv_iconst (v := 1) hx hb dX11_commonDivisor_34 (by decide) ?_
        refine lv_iload_n hx hb dX11_commonDivisor_35 rfl (lv_at hl 0 rfl) ?_
        refine va_mmax hx hb (hml.trans hl.1.symm) hown (hts (.methodLink RX11 279 Lib.Math.max.name) (by decide +kernel)) (hts (.static Lib.Math.max.name) (by decide +kernel)) (hts (.initialized "java/lang/Math") (by decide +kernel)) (hts (.code Lib.Math.max.name Lib.Math.max.code 2 (some .int)) (by decide +kernel)) (Nat.le_of_ble_eq_true rfl) (Nat.le_of_ble_eq_true rfl) (Nat.zero_le _) (Nat.zero_le _) dX11_commonDivisor_36 ?_
        cases hf
        exact z_iret hx hb hr hlk hK hG hI dX11_commonDivisor_39
      · have hf := ok_f c2 hf
        refine lv_iload_n hx hb dX11_commonDivisor_18 rfl (lv_at hl 0 rfl) ?_
        refine lv_iload_n hx hb dX11_commonDivisor_19 rfl (lv_at hl 1 rfl) ?_
        obtain ⟨h1, hf⟩ := ok_c hf
        refine lv_irem hx hb dX11_commonDivisor_20 h1 ?_
        refine lv_topi (fun v1 ev1 => ?_)
        have hf := ok_n hf ev1
        refine lv_istore (lv' := [(5, .int v1), (2, .int x2), (3, .int x3), (4, .int x4)]) hx hb dX11_commonDivisor_21 hl (by decide) rfl (fun ls hl => ?_)
        refine lv_iload_n hx hb dX11_commonDivisor_23 rfl (lv_at hl 2 rfl) ?_
        refine lv_istore_n (lv' := [(2, .int x3), (5, .int v1), (3, .int x3), (4, .int x4)]) hx hb dX11_commonDivisor_24 rfl hl (by decide) rfl (fun ls hl => ?_)
        refine lv_iload hx hb dX11_commonDivisor_25 (lv_at hl 1 rfl) ?_
        refine lv_istore_n (lv' := [(3, .int v1), (2, .int x3), (5, .int v1), (4, .int x4)]) hx hb dX11_commonDivisor_27 rfl hl (by decide) rfl (fun ls hl => ?_)
        refine lv_iinc (v := x4 + 1) (lv' := [(4, .int (x4 + 1)), (3, .int v1), (2, .int x3), (5, .int v1)]) hx hb dX11_commonDivisor_28 hl (k := 3) rfl rfl (by decide) rfl (fun ls hl => ?_)
        refine lv_goto (tgt := 7) hx hb dX11_commonDivisor_31 (by decide) ?_
        exact ih _ _ _ hf _ _ hI _ (lv_sub hl [2, 1, 0] rfl)

set_option maxRecDepth 100000 in
set_option maxHeartbeats 4000000 in
theorem m_X11_commonDivisor (G : GT) (l : Launch) {σ : Hp} {x0 : Int32} {x1 : Int32} {r : Int32}  (hf : f_X11_commonDivisor σ x0 x1 = some r) : MetG G l yX11_commonDivisor wsX11_commonDivisor (rmk 1 24) σ [.int x0, .int x1] (QI G σ r) := by
  refine met_of (cc := cX11_commonDivisor) (nL := 6) (ret := (some .int)) (by decide) rfl (Nat.le_of_ble_eq_true rfl) ?_
  intro p e s m below meth c C0 hnm hI ls hl
  obtain ⟨hx, hb, hr, hml, hown, hts, hlk, hK, hG⟩ := id C0
  have hl : lv_has ls 6 [(0, .int x0), (1, .int x1)] := hl
  unfold f_X11_commonDivisor at hf
  refine lv_iload_n hx hb dX11_commonDivisor_0 rfl (lv_at hl 0 rfl) ?_
  refine lv_istore_n (lv' := [(2, .int x0), (0, .int x0), (1, .int x1)]) hx hb dX11_commonDivisor_1 rfl hl (by decide) rfl (fun ls hl => ?_)
  refine lv_iload_n hx hb dX11_commonDivisor_2 rfl (lv_at hl 2 rfl) ?_
  refine lv_istore_n (lv' := [(3, .int x1), (2, .int x0), (0, .int x0), (1, .int x1)]) hx hb dX11_commonDivisor_3 rfl hl (by decide) rfl (fun ls hl => ?_)
  refine lv_iconst (v := 0) hx hb dX11_commonDivisor_4 (by decide) ?_
  refine lv_istore (lv' := [(4, .int 0), (3, .int x1), (2, .int x0), (0, .int x0), (1, .int x1)]) hx hb dX11_commonDivisor_5 hl (by decide) rfl (fun ls hl => ?_)
  exact w_X11_commonDivisor_7  C0  _ _ _ _ hf _ _ hI _ (lv_sub hl [2, 1, 0] rfl)

-- ===== FenceYards.fraction(II)I
def f_X11_fraction (σ : Hp) (x0 : Int32) (x1 : Int32) : Option (Int32) :=
  bd1 (f_X11_commonDivisor σ (if 0 ≤ x0 then x0 else 0 - x0) 55440) fun r1 => if x1 = 0 then (chk (¬ r1 = 0) <| some (x0 / r1)) else (chk (¬ r1 = 0) <| some (55440 / r1))
set_option maxRecDepth 100000 in
set_option maxHeartbeats 4000000 in
theorem m_X11_fraction (G : GT) (l : Launch) {σ : Hp} {x0 : Int32} {x1 : Int32} {r : Int32}  (hf : f_X11_fraction σ x0 x1 = some r) : MetG G l yX11_fraction wsX11_fraction (rmk 2 49) σ [.int x0, .int x1] (QI G σ r) := by
  refine met_of (cc := cX11_fraction) (nL := 3) (ret := (some .int)) (by decide) rfl (Nat.le_of_ble_eq_true rfl) ?_
  intro p e s m below meth c C0 hnm hI ls hl
  obtain ⟨hx, hb, hr, hml, hown, hts, hlk, hK, hG⟩ := id C0
  have hl : lv_has ls 3 [(0, .int x0), (1, .int x1)] := hl
  unfold f_X11_fraction at hf
  refine lv_iload_n hx hb dX11_fraction_0 rfl (lv_at hl 0 rfl) ?_
  refine va_mabs hx hb (hml.trans hl.1.symm) hown (hts (.methodLink RX11 287 Lib.Math.abs.name) (by decide +kernel)) (hts (.static Lib.Math.abs.name) (by decide +kernel)) (hts (.initialized "java/lang/Math") (by decide +kernel)) (hts (.code Lib.Math.abs.name Lib.Math.abs.code 1 (some .int)) (by decide +kernel)) (Nat.le_of_ble_eq_true rfl) (Nat.le_of_ble_eq_true rfl) (Nat.zero_le _) (Nat.zero_le _) dX11_fraction_1 ?_
  refine lv_ldcw (v := 55440) hx hb hown (hts (.constant RX11 286 55440) (by decide +kernel)) dX11_fraction_4 ?_
  obtain ⟨r1, hc1, hf⟩ := ok_1 hf
  refine z_calli0 rfl rfl hI (va_runS (As := [.int (if 0 ≤ x0 then x0 else 0 - x0), .int 55440]) (rest := []) ⟨hx, hb, hml, hown, hts⟩ (m_X11_commonDivisor G l  hc1) (va_cwS 2 hts gX11_fraction_X11_commonDivisor rfl rfl rfl (by decide +kernel) ⟨Nat.le_of_ble_eq_true rfl, Nat.le_of_ble_eq_true rfl⟩) (z_pre hK hG hI) rfl rfl hl.1 rfl (lv_room (Nat.le_of_ble_eq_true rfl)) dX11_fraction_7 ⟨Nat.zero_le _, Nat.zero_le _⟩) (fun H locs hI => ?_)
  refine lv_istore_n (lv' := [(2, .int r1), (0, .int x0), (1, .int x1)]) hx hb dX11_fraction_10 rfl hl (by decide) rfl (fun ls hl => ?_)
  refine lv_iload_n hx hb dX11_fraction_11 rfl (lv_at hl 2 rfl) ?_
  refine lv_if_ne (tgt := 19) hx hb dX11_fraction_12 (by decide) (fun c1 => ?_) (fun c1 => ?_)
  · have hf := ok_f c1 hf
    refine lv_ldcw (v := 55440) hx hb hown (hts (.constant RX11 286 55440) (by decide +kernel)) dX11_fraction_19 ?_
    refine lv_iload_n hx hb dX11_fraction_22 rfl (lv_at hl 0 rfl) ?_
    obtain ⟨h1, hf⟩ := ok_c hf
    refine lv_idiv hx hb dX11_fraction_23 h1 ?_
    cases hf
    exact z_iret hx hb hr hlk hK hG hI dX11_fraction_24
  · have hf := ok_t c1 hf
    refine lv_iload_n hx hb dX11_fraction_15 rfl (lv_at hl 1 rfl) ?_
    refine lv_goto (tgt := 22) hx hb dX11_fraction_16 (by decide) ?_
    refine lv_iload_n hx hb dX11_fraction_22 rfl (lv_at hl 0 rfl) ?_
    obtain ⟨h2, hf⟩ := ok_c hf
    refine lv_idiv hx hb dX11_fraction_23 h2 ?_
    cases hf
    exact z_iret hx hb hr hlk hK hG hI dX11_fraction_24

-- ===== FenceYards.isUpOrDown(I)Z
def f_X11_isUpOrDown (σ : Hp) (x0 : Int32) : Option (Int32) :=
  if x0 = 0 then (some 1) else (if x0 = 1 then (some 1) else (some 0))
set_option maxRecDepth 100000 in
set_option maxHeartbeats 4000000 in
theorem m_X11_isUpOrDown (G : GT) (l : Launch) {σ : Hp} {x0 : Int32} {r : Int32}  (hf : f_X11_isUpOrDown σ x0 = some r) : MetG G l yX11_isUpOrDown wsX11_isUpOrDown (rmk 0 0) σ [.int x0] (QI G σ r) := by
  refine met_of (cc := cX11_isUpOrDown) (nL := 1) (ret := (some .boolean)) (by decide) rfl (Nat.le_of_ble_eq_true rfl) ?_
  intro p e s m below meth c C0 hnm hI ls hl
  obtain ⟨hx, hb, hr, hml, hown, hts, hlk, hK, hG⟩ := id C0
  have hl : lv_has ls 1 [(0, .int x0)] := hl
  unfold f_X11_isUpOrDown at hf
  refine lv_iload_n hx hb dX11_isUpOrDown_0 rfl (lv_at hl 0 rfl) ?_
  refine lv_if_eq (tgt := 9) hx hb dX11_isUpOrDown_1 (by decide) (fun c1 => ?_) (fun c1 => ?_)
  · have hf := ok_t c1 hf
    refine lv_iconst (v := 1) hx hb dX11_isUpOrDown_9 (by decide) ?_
    refine lv_goto (tgt := 14) hx hb dX11_isUpOrDown_10 (by decide) ?_
    cases hf
    exact z_zret hx hb hr hlk hK hG hI (Or.inr rfl) dX11_isUpOrDown_14
  · have hf := ok_f c1 hf
    refine lv_iload_n hx hb dX11_isUpOrDown_4 rfl (lv_at hl 0 rfl) ?_
    refine lv_iconst (v := 1) hx hb dX11_isUpOrDown_5 (by decide) ?_
    refine lv_icmp_ne (tgt := 13) hx hb dX11_isUpOrDown_6 (by decide) (fun c2 => ?_) (fun c2 => ?_)
    · have hf := ok_f c2 hf
      refine lv_iconst (v := 0) hx hb dX11_isUpOrDown_13 (by decide) ?_
      cases hf
      exact z_zret hx hb hr hlk hK hG hI (Or.inl rfl) dX11_isUpOrDown_14
    · have hf := ok_t c2 hf
      refine lv_iconst (v := 1) hx hb dX11_isUpOrDown_9 (by decide) ?_
      refine lv_goto (tgt := 14) hx hb dX11_isUpOrDown_10 (by decide) ?_
      cases hf
      exact z_zret hx hb hr hlk hK hG hI (Or.inr rfl) dX11_isUpOrDown_14

-- ===== FenceYards.isSpan(I)Z
def f_X11_isSpan (σ : Hp) (x0 : Int32) : Option (Int32) :=
  if x0 < 1 then (some 0) else (if 12 < x0 then (some 0) else (some 1))
set_option maxRecDepth 100000 in
set_option maxHeartbeats 4000000 in
theorem m_X11_isSpan (G : GT) (l : Launch) {σ : Hp} {x0 : Int32} {r : Int32}  (hf : f_X11_isSpan σ x0 = some r) : MetG G l yX11_isSpan wsX11_isSpan (rmk 0 0) σ [.int x0] (QI G σ r) := by
  refine met_of (cc := cX11_isSpan) (nL := 1) (ret := (some .boolean)) (by decide) rfl (Nat.le_of_ble_eq_true rfl) ?_
  intro p e s m below meth c C0 hnm hI ls hl
  obtain ⟨hx, hb, hr, hml, hown, hts, hlk, hK, hG⟩ := id C0
  have hl : lv_has ls 1 [(0, .int x0)] := hl
  unfold f_X11_isSpan at hf
  refine lv_iload_n hx hb dX11_isSpan_0 rfl (lv_at hl 0 rfl) ?_
  refine lv_iconst (v := 1) hx hb dX11_isSpan_1 (by decide) ?_
  refine lv_icmp_lt (tgt := 15) hx hb dX11_isSpan_2 (by decide) (fun c1 => ?_) (fun c1 => ?_)
  · have hf := ok_t c1 hf
    refine lv_iconst (v := 0) hx hb dX11_isSpan_15 (by decide) ?_
    cases hf
    exact z_zret hx hb hr hlk hK hG hI (Or.inl rfl) dX11_isSpan_16
  · have hf := ok_f c1 hf
    refine lv_iload_n hx hb dX11_isSpan_5 rfl (lv_at hl 0 rfl) ?_
    refine lv_bipush (v := 12) hx hb dX11_isSpan_6 (by decide) ?_
    refine lv_icmp_gt (tgt := 15) hx hb dX11_isSpan_8 (by decide) (fun c2 => ?_) (fun c2 => ?_)
    · have hf := ok_t c2 hf
      refine lv_iconst (v := 0) hx hb dX11_isSpan_15 (by decide) ?_
      cases hf
      exact z_zret hx hb hr hlk hK hG hI (Or.inl rfl) dX11_isSpan_16
    · have hf := ok_f c2 hf
      refine lv_iconst (v := 1) hx hb dX11_isSpan_11 (by decide) ?_
      refine lv_goto (tgt := 16) hx hb dX11_isSpan_12 (by decide) ?_
      cases hf
      exact z_zret hx hb hr hlk hK hG hI (Or.inr rfl) dX11_isSpan_16

-- ===== FenceYards$Rows.startsWithMoves(II)Z
set_option maxRecDepth 100000 in
theorem i_X6_startsWithMoves_6 : ∀ w ∈ u_ws RX6 TX6 3, w ∈ wsX6_startsWithMoves := by decide +kernel
def f_X6_startsWithMoves_2   (σ : Hp) (x1 : Int32) (x2 : Int32) : Nat → Int32 → Option (Int32)
  | 0, _ => none
  | n + 1, x3 =>
    if x2 ≤ x3 then (some 1) else (chk (inb x1 8) <| chk (inb x3 40) <| bd1 (f_X11_isMove σ (gI σ (3 + x1.toNatClampNeg) (x3.toNatClampNeg))) fun r1 => if r1 = 0 then (some 0) else (f_X6_startsWithMoves_2 σ x1 x2 n (x3 + 1)))
def f_X6_startsWithMoves (σ : Hp) (x1 : Int32) (x2 : Int32) : Option (Int32) :=
  f_X6_startsWithMoves_2 σ x1 x2 fu 0
set_option maxRecDepth 100000 in
set_option maxHeartbeats 4000000 in
theorem w_X6_startsWithMoves_2 {G : GT} {p : Program} {l : Launch} {e : Env} {s : State} {m : MethodId} {args : Array Value} {below : List Frame} {meth : Method} {c : Code}  {r : Int32}  {σ : Hp} {x1 : Int32} {x2 : Int32}  (C0 : Cx G cX6_startsWithMoves RX6 wsX6_startsWithMoves 4 (some .boolean) p s m args meth c)  :
    ∀ (n : Nat) (x3 : Int32), f_X6_startsWithMoves_2 σ x1 x2 n x3 = some r → ∀ (H : Heap) (locs : List Loc), Inv G s σ H locs → ∀ ls : Array Slot, lv_has ls 4 [(0, .ref (G.1 + 1)), (1, .int x1), (2, .int x2), (3, .int x3)] → W p l e (rmk 1 20) s m args below meth c H locs 0 0 (MQ below (QI G σ r) args s (rmk 1 20).cells (rmk 1 20).slots (gA G)) (F0 m 2 ls []) := by
  obtain ⟨hx, hb, hr, hml, hown, hts, hlk, hK, hG⟩ := id C0
  intro n
  induction n with
  | zero =>
    intro x3 hf
    cases hf
  | succ n ih =>
    intro x3 hf H locs hI ls hl
    rw [f_X6_startsWithMoves_2] at hf
    refine lv_iload_n hx hb dX6_startsWithMoves_2 rfl (lv_at hl 3 rfl) ?_
    refine lv_iload_n hx hb dX6_startsWithMoves_3 rfl (lv_at hl 2 rfl) ?_
    refine lv_icmp_ge (tgt := 29) hx hb dX6_startsWithMoves_4 (by decide) (fun c1 => ?_) (fun c1 => ?_)
    · have hf := ok_t c1 hf
      refine lv_iconst (v := 1) hx hb dX6_startsWithMoves_29 (by decide) ?_
      cases hf
      exact z_zret hx hb hr hlk hK hG hI (Or.inr rfl) dX6_startsWithMoves_30
    · have hf := ok_f c1 hf
      refine lv_aload_n hx hb dX6_startsWithMoves_7 rfl (lv_at hl 0 rfl) ?_
      refine z_get (C := RX6) (T := TX6) (N := 3) (ci := 6) (v := .ref (G.1 + 2)) hx hb hts i_X6_startsWithMoves_6 hown hK hI 1 rfl (by decide) rfl 0 (by decide) (hts (.fieldLink RX6 11 "FenceYards$Rows" "items" "[[I") (by decide +kernel)) (fun _ h9 => h9) rfl dX6_startsWithMoves_8 ?_
      refine lv_iload_n hx hb dX6_startsWithMoves_11 rfl (lv_at hl 1 rfl) ?_
      obtain ⟨h1, hf⟩ := ok_c hf
      refine z_aldW hx hb hK hI (k := x1.toNatClampNeg) h1 rfl dX6_startsWithMoves_12 ?_
      have hw1 : isW (3 + x1.toNatClampNeg) := isW_of h1
      refine lv_iload_n hx hb dX6_startsWithMoves_13 rfl (lv_at hl 3 rfl) ?_
      obtain ⟨h2, hf⟩ := ok_c hf
      refine z_iald hx hb hK hI (3 + x1.toNatClampNeg) (k := x3.toNatClampNeg) (kd_W hw1) h2 rfl dX6_startsWithMoves_14 ?_
      obtain ⟨r1, hc1, hf⟩ := ok_1 hf
      refine z_calli0 rfl rfl hI (va_runSN (As := [.int (gI σ (3 + x1.toNatClampNeg) (x3.toNatClampNeg))]) (rest := []) ⟨hx, hb, hml, hown, hts⟩ (m_X11_isMove G l  hc1) ⟨va_cnB (host := "FenceYards") 1 hts gX6_startsWithMoves_X11_isMove_n39 rfl rfl rfl (hG.1.2.1 ("FenceYards$Rows", 39, ⟨"FenceYards", "isMove", "(I)Z"⟩) (by decide +kernel)) (hts (.initialized "FenceYards") (by decide +kernel)) (by decide +kernel) ⟨Nat.le_of_ble_eq_true rfl, Nat.le_of_ble_eq_true rfl⟩, hts (.static yX11_isMove) (by decide +kernel), trivial⟩ (z_pre hK hG hI) rfl rfl hl.1 rfl (lv_room (Nat.le_of_ble_eq_true rfl)) dX6_startsWithMoves_15 ⟨Nat.zero_le _, Nat.zero_le _⟩) (fun H locs hI => ?_)
      refine lv_if_ne (tgt := 23) hx hb dX6_startsWithMoves_18 (by decide) (fun c2 => ?_) (fun c2 => ?_)
      · have hf := ok_f c2 hf
        refine lv_iinc (v := x3 + 1) (lv' := [(3, .int (x3 + 1)), (0, .ref (G.1 + 1)), (1, .int x1), (2, .int x2)]) hx hb dX6_startsWithMoves_23 hl (k := 3) rfl rfl (by decide) rfl (fun ls hl => ?_)
        refine lv_goto (tgt := 2) hx hb dX6_startsWithMoves_26 (by decide) ?_
        exact ih _ hf _ _ hI _ (lv_sub hl [1, 2, 3, 0] rfl)
      · have hf := ok_t c2 hf
        refine lv_iconst (v := 0) hx hb dX6_startsWithMoves_21 (by decide) ?_
        cases hf
        exact z_zret hx hb hr hlk hK hG hI (Or.inl rfl) dX6_startsWithMoves_22

set_option maxRecDepth 100000 in
set_option maxHeartbeats 4000000 in
theorem m_X6_startsWithMoves (G : GT) (l : Launch) {σ : Hp} {x1 : Int32} {x2 : Int32} {r : Int32}  (hf : f_X6_startsWithMoves σ x1 x2 = some r) : MetG G l yX6_startsWithMoves wsX6_startsWithMoves (rmk 1 20) σ [.ref (G.1 + 1), .int x1, .int x2] (QI G σ r) := by
  refine met_of (cc := cX6_startsWithMoves) (nL := 4) (ret := (some .boolean)) (by decide) rfl (Nat.le_of_ble_eq_true rfl) ?_
  intro p e s m below meth c C0 hnm hI ls hl
  obtain ⟨hx, hb, hr, hml, hown, hts, hlk, hK, hG⟩ := id C0
  have hl : lv_has ls 4 [(0, .ref (G.1 + 1)), (1, .int x1), (2, .int x2)] := hl
  unfold f_X6_startsWithMoves at hf
  refine lv_iconst (v := 0) hx hb dX6_startsWithMoves_0 (by decide) ?_
  refine lv_istore_n (lv' := [(3, .int 0), (0, .ref (G.1 + 1)), (1, .int x1), (2, .int x2)]) hx hb dX6_startsWithMoves_1 rfl hl (by decide) rfl (fun ls hl => ?_)
  exact w_X6_startsWithMoves_2  C0  _ _ hf _ _ hI _ (lv_sub hl [1, 2, 3, 0] rfl)

-- ===== FenceYards.isOfKind(LFenceYards$Strip;I)Z
def f_X11_isOfKind (σ : Hp) (q0 : Nat) (x1 : Int32) : Option (Int32) :=
  if x1 = 0 then (some 1) else if x1 = 1 then (if gK σ q0 = 0 then (some 1) else if gK σ q0 = 1 then (some 1) else if gK σ q0 = 2 then (some 0) else if gK σ q0 = 3 then (some 0) else if gK σ q0 = 7 then (some 1) else none) else if x1 = 2 then (if gK σ q0 = 0 then (some 1) else if gK σ q0 = 1 then (some 0) else if gK σ q0 = 2 then (some 0) else if gK σ q0 = 3 then (some 0) else if gK σ q0 = 7 then (some 0) else none) else if x1 = 3 then (if gK σ q0 = 0 then (some 0) else if gK σ q0 = 1 then (some 0) else if gK σ q0 = 2 then (some 0) else if gK σ q0 = 3 then (some 0) else if gK σ q0 = 7 then (some 1) else none) else if x1 = 4 then (if gK σ q0 = 0 then (some 0) else if gK σ q0 = 1 then (some 0) else if gK σ q0 = 2 then (some 1) else if gK σ q0 = 3 then (some 1) else if gK σ q0 = 7 then (some 0) else none) else if x1 = 5 then (if gK σ q0 = 0 then (some 0) else if gK σ q0 = 1 then (some 0) else if gK σ q0 = 2 then (some 1) else if gK σ q0 = 3 then (some 0) else if gK σ q0 = 7 then (some 0) else none) else (some 0)
set_option maxRecDepth 100000 in
set_option maxHeartbeats 4000000 in
theorem m_X11_isOfKind (G : GT) (l : Launch) {σ : Hp} {q0 : Nat} {x1 : Int32} {r : Int32} (hq0 : okS σ q0) (hf : f_X11_isOfKind σ q0 x1 = some r) : MetG G l yX11_isOfKind wsX11_isOfKind (rmk 0 0) σ [.ref (G.1 + q0), .int x1] (QI G σ r) := by
  refine met_of (cc := cX11_isOfKind) (nL := 2) (ret := (some .boolean)) (by decide) rfl (Nat.le_of_ble_eq_true rfl) ?_
  intro p e s m below meth c C0 hnm hI ls hl
  obtain ⟨hx, hb, hr, hml, hown, hts, hlk, hK, hG⟩ := id C0
  have hl : lv_has ls 2 [(0, .ref (G.1 + q0)), (1, .int x1)] := hl
  unfold f_X11_isOfKind at hf
  refine lv_iload_n hx hb dX11_isOfKind_0 rfl (lv_at hl 1 rfl) ?_
  by_cases c1 : x1 = 0
  · have hf := ok_t c1 hf
    refine lv_tableIn (tgt := 40) hx hb dX11_isOfKind_1 (by rw [c1]; decide) (by rw [c1]; decide) (by rw [c1]; rfl) (by decide) ?_
    refine lv_iconst (v := 1) hx hb dX11_isOfKind_40 (by decide) ?_
    cases hf
    exact z_zret hx hb hr hlk hK hG hI (Or.inr rfl) dX11_isOfKind_41
  have hf := ok_f c1 hf
  by_cases c2 : x1 = 1
  · have hf := ok_t c2 hf
    refine lv_tableIn (tgt := 42) hx hb dX11_isOfKind_1 (by rw [c2]; decide) (by rw [c2]; decide) (by rw [c2]; rfl) (by decide) ?_
    refine lv_aload_n hx hb dX11_isOfKind_42 rfl (lv_at hl 0 rfl) ?_
    by_cases k1 : gK σ q0 = 0
    · have hf := ok_t k1 hf
      refine va_instY hx hb hown (hts (.classLink RX11 293 "FenceYards$Bean") (by decide +kernel)) (hG.1.2.2.2.1 ("FenceYards$Apple", "FenceYards$Bean") (by decide +kernel)) (z_rc (n := 0) hK hI (kd_S hq0 k1) (by decide) rfl) dX11_isOfKind_43 ?_
      cases hf
      exact z_zret hx hb hr hlk hK hG hI (Or.inr rfl) dX11_isOfKind_46
    have hf := ok_f k1 hf
    by_cases k2 : gK σ q0 = 1
    · have hf := ok_t k2 hf
      refine va_instS hx hb hown (hts (.classLink RX11 293 "FenceYards$Bean") (by decide +kernel)) (hK.1 1 _ rfl).2 (z_rc (n := 0) hK hI (kd_S hq0 k2) (by decide) rfl) dX11_isOfKind_43 ?_
      cases hf
      exact z_zret hx hb hr hlk hK hG hI (Or.inr rfl) dX11_isOfKind_46
    have hf := ok_f k2 hf
    by_cases k3 : gK σ q0 = 2
    · have hf := ok_t k3 hf
      refine va_instNo hx hb hown (hts (.classLink RX11 293 "FenceYards$Bean") (by decide +kernel)) (hG.1.2.2.2.2.1 ("FenceYards$Clover", "FenceYards$Bean") (by decide +kernel)) (z_rc (n := 0) hK hI (kd_S hq0 k3) (by decide) rfl) dX11_isOfKind_43 ?_
      cases hf
      exact z_zret hx hb hr hlk hK hG hI (Or.inl rfl) dX11_isOfKind_46
    have hf := ok_f k3 hf
    by_cases k4 : gK σ q0 = 3
    · have hf := ok_t k4 hf
      refine va_instNo hx hb hown (hts (.classLink RX11 293 "FenceYards$Bean") (by decide +kernel)) (hG.1.2.2.2.2.1 ("FenceYards$Grass", "FenceYards$Bean") (by decide +kernel)) (z_rc (n := 0) hK hI (kd_S hq0 k4) (by decide) rfl) dX11_isOfKind_43 ?_
      cases hf
      exact z_zret hx hb hr hlk hK hG hI (Or.inl rfl) dX11_isOfKind_46
    have hf := ok_f k4 hf
    by_cases k5 : gK σ q0 = 7
    · have hf := ok_t k5 hf
      refine va_instY hx hb hown (hts (.classLink RX11 293 "FenceYards$Bean") (by decide +kernel)) (hG.1.2.2.2.1 ("FenceYards$Rye", "FenceYards$Bean") (by decide +kernel)) (z_rc (n := 0) hK hI (kd_S hq0 k5) (by decide) rfl) dX11_isOfKind_43 ?_
      cases hf
      exact z_zret hx hb hr hlk hK hG hI (Or.inr rfl) dX11_isOfKind_46
    have hf := ok_f k5 hf
    cases hf
  have hf := ok_f c2 hf
  by_cases c3 : x1 = 2
  · have hf := ok_t c3 hf
    refine lv_tableIn (tgt := 47) hx hb dX11_isOfKind_1 (by rw [c3]; decide) (by rw [c3]; decide) (by rw [c3]; rfl) (by decide) ?_
    refine lv_aload_n hx hb dX11_isOfKind_47 rfl (lv_at hl 0 rfl) ?_
    by_cases k6 : gK σ q0 = 0
    · have hf := ok_t k6 hf
      refine va_instS hx hb hown (hts (.classLink RX11 297 "FenceYards$Apple") (by decide +kernel)) (hK.1 0 _ rfl).2 (z_rc (n := 0) hK hI (kd_S hq0 k6) (by decide) rfl) dX11_isOfKind_48 ?_
      cases hf
      exact z_zret hx hb hr hlk hK hG hI (Or.inr rfl) dX11_isOfKind_51
    have hf := ok_f k6 hf
    by_cases k7 : gK σ q0 = 1
    · have hf := ok_t k7 hf
      refine va_instNo hx hb hown (hts (.classLink RX11 297 "FenceYards$Apple") (by decide +kernel)) (hG.1.2.2.2.2.1 ("FenceYards$Bean", "FenceYards$Apple") (by decide +kernel)) (z_rc (n := 0) hK hI (kd_S hq0 k7) (by decide) rfl) dX11_isOfKind_48 ?_
      cases hf
      exact z_zret hx hb hr hlk hK hG hI (Or.inl rfl) dX11_isOfKind_51
    have hf := ok_f k7 hf
    by_cases k8 : gK σ q0 = 2
    · have hf := ok_t k8 hf
      refine va_instNo hx hb hown (hts (.classLink RX11 297 "FenceYards$Apple") (by decide +kernel)) (hG.1.2.2.2.2.1 ("FenceYards$Clover", "FenceYards$Apple") (by decide +kernel)) (z_rc (n := 0) hK hI (kd_S hq0 k8) (by decide) rfl) dX11_isOfKind_48 ?_
      cases hf
      exact z_zret hx hb hr hlk hK hG hI (Or.inl rfl) dX11_isOfKind_51
    have hf := ok_f k8 hf
    by_cases k9 : gK σ q0 = 3
    · have hf := ok_t k9 hf
      refine va_instNo hx hb hown (hts (.classLink RX11 297 "FenceYards$Apple") (by decide +kernel)) (hG.1.2.2.2.2.1 ("FenceYards$Grass", "FenceYards$Apple") (by decide +kernel)) (z_rc (n := 0) hK hI (kd_S hq0 k9) (by decide) rfl) dX11_isOfKind_48 ?_
      cases hf
      exact z_zret hx hb hr hlk hK hG hI (Or.inl rfl) dX11_isOfKind_51
    have hf := ok_f k9 hf
    by_cases k10 : gK σ q0 = 7
    · have hf := ok_t k10 hf
      refine va_instNo hx hb hown (hts (.classLink RX11 297 "FenceYards$Apple") (by decide +kernel)) (hG.1.2.2.2.2.1 ("FenceYards$Rye", "FenceYards$Apple") (by decide +kernel)) (z_rc (n := 0) hK hI (kd_S hq0 k10) (by decide) rfl) dX11_isOfKind_48 ?_
      cases hf
      exact z_zret hx hb hr hlk hK hG hI (Or.inl rfl) dX11_isOfKind_51
    have hf := ok_f k10 hf
    cases hf
  have hf := ok_f c3 hf
  by_cases c4 : x1 = 3
  · have hf := ok_t c4 hf
    refine lv_tableIn (tgt := 52) hx hb dX11_isOfKind_1 (by rw [c4]; decide) (by rw [c4]; decide) (by rw [c4]; rfl) (by decide) ?_
    refine lv_aload_n hx hb dX11_isOfKind_52 rfl (lv_at hl 0 rfl) ?_
    by_cases k11 : gK σ q0 = 0
    · have hf := ok_t k11 hf
      refine va_instNo hx hb hown (hts (.classLink RX11 300 "FenceYards$Rye") (by decide +kernel)) (hG.1.2.2.2.2.1 ("FenceYards$Apple", "FenceYards$Rye") (by decide +kernel)) (z_rc (n := 0) hK hI (kd_S hq0 k11) (by decide) rfl) dX11_isOfKind_53 ?_
      cases hf
      exact z_zret hx hb hr hlk hK hG hI (Or.inl rfl) dX11_isOfKind_56
    have hf := ok_f k11 hf
    by_cases k12 : gK σ q0 = 1
    · have hf := ok_t k12 hf
      refine va_instNo hx hb hown (hts (.classLink RX11 300 "FenceYards$Rye") (by decide +kernel)) (hG.1.2.2.2.2.1 ("FenceYards$Bean", "FenceYards$Rye") (by decide +kernel)) (z_rc (n := 0) hK hI (kd_S hq0 k12) (by decide) rfl) dX11_isOfKind_53 ?_
      cases hf
      exact z_zret hx hb hr hlk hK hG hI (Or.inl rfl) dX11_isOfKind_56
    have hf := ok_f k12 hf
    by_cases k13 : gK σ q0 = 2
    · have hf := ok_t k13 hf
      refine va_instNo hx hb hown (hts (.classLink RX11 300 "FenceYards$Rye") (by decide +kernel)) (hG.1.2.2.2.2.1 ("FenceYards$Clover", "FenceYards$Rye") (by decide +kernel)) (z_rc (n := 0) hK hI (kd_S hq0 k13) (by decide) rfl) dX11_isOfKind_53 ?_
      cases hf
      exact z_zret hx hb hr hlk hK hG hI (Or.inl rfl) dX11_isOfKind_56
    have hf := ok_f k13 hf
    by_cases k14 : gK σ q0 = 3
    · have hf := ok_t k14 hf
      refine va_instNo hx hb hown (hts (.classLink RX11 300 "FenceYards$Rye") (by decide +kernel)) (hG.1.2.2.2.2.1 ("FenceYards$Grass", "FenceYards$Rye") (by decide +kernel)) (z_rc (n := 0) hK hI (kd_S hq0 k14) (by decide) rfl) dX11_isOfKind_53 ?_
      cases hf
      exact z_zret hx hb hr hlk hK hG hI (Or.inl rfl) dX11_isOfKind_56
    have hf := ok_f k14 hf
    by_cases k15 : gK σ q0 = 7
    · have hf := ok_t k15 hf
      refine va_instS hx hb hown (hts (.classLink RX11 300 "FenceYards$Rye") (by decide +kernel)) (hK.1 7 _ rfl).2 (z_rc (n := 0) hK hI (kd_S hq0 k15) (by decide) rfl) dX11_isOfKind_53 ?_
      cases hf
      exact z_zret hx hb hr hlk hK hG hI (Or.inr rfl) dX11_isOfKind_56
    have hf := ok_f k15 hf
    cases hf
  have hf := ok_f c4 hf
  by_cases c5 : x1 = 4
  · have hf := ok_t c5 hf
    refine lv_tableIn (tgt := 57) hx hb dX11_isOfKind_1 (by rw [c5]; decide) (by rw [c5]; decide) (by rw [c5]; rfl) (by decide) ?_
    refine lv_aload_n hx hb dX11_isOfKind_57 rfl (lv_at hl 0 rfl) ?_
    by_cases k16 : gK σ q0 = 0
    · have hf := ok_t k16 hf
      refine va_instNo hx hb hown (hts (.classLink RX11 303 "FenceYards$Grass") (by decide +kernel)) (hG.1.2.2.2.2.1 ("FenceYards$Apple", "FenceYards$Grass") (by decide +kernel)) (z_rc (n := 0) hK hI (kd_S hq0 k16) (by decide) rfl) dX11_isOfKind_58 ?_
      cases hf
      exact z_zret hx hb hr hlk hK hG hI (Or.inl rfl) dX11_isOfKind_61
    have hf := ok_f k16 hf
    by_cases k17 : gK σ q0 = 1
    · have hf := ok_t k17 hf
      refine va_instNo hx hb hown (hts (.classLink RX11 303 "FenceYards$Grass") (by decide +kernel)) (hG.1.2.2.2.2.1 ("FenceYards$Bean", "FenceYards$Grass") (by decide +kernel)) (z_rc (n := 0) hK hI (kd_S hq0 k17) (by decide) rfl) dX11_isOfKind_58 ?_
      cases hf
      exact z_zret hx hb hr hlk hK hG hI (Or.inl rfl) dX11_isOfKind_61
    have hf := ok_f k17 hf
    by_cases k18 : gK σ q0 = 2
    · have hf := ok_t k18 hf
      refine va_instY hx hb hown (hts (.classLink RX11 303 "FenceYards$Grass") (by decide +kernel)) (hG.1.2.2.2.1 ("FenceYards$Clover", "FenceYards$Grass") (by decide +kernel)) (z_rc (n := 0) hK hI (kd_S hq0 k18) (by decide) rfl) dX11_isOfKind_58 ?_
      cases hf
      exact z_zret hx hb hr hlk hK hG hI (Or.inr rfl) dX11_isOfKind_61
    have hf := ok_f k18 hf
    by_cases k19 : gK σ q0 = 3
    · have hf := ok_t k19 hf
      refine va_instS hx hb hown (hts (.classLink RX11 303 "FenceYards$Grass") (by decide +kernel)) (hK.1 3 _ rfl).2 (z_rc (n := 0) hK hI (kd_S hq0 k19) (by decide) rfl) dX11_isOfKind_58 ?_
      cases hf
      exact z_zret hx hb hr hlk hK hG hI (Or.inr rfl) dX11_isOfKind_61
    have hf := ok_f k19 hf
    by_cases k20 : gK σ q0 = 7
    · have hf := ok_t k20 hf
      refine va_instNo hx hb hown (hts (.classLink RX11 303 "FenceYards$Grass") (by decide +kernel)) (hG.1.2.2.2.2.1 ("FenceYards$Rye", "FenceYards$Grass") (by decide +kernel)) (z_rc (n := 0) hK hI (kd_S hq0 k20) (by decide) rfl) dX11_isOfKind_58 ?_
      cases hf
      exact z_zret hx hb hr hlk hK hG hI (Or.inl rfl) dX11_isOfKind_61
    have hf := ok_f k20 hf
    cases hf
  have hf := ok_f c5 hf
  by_cases c6 : x1 = 5
  · have hf := ok_t c6 hf
    refine lv_tableIn (tgt := 62) hx hb dX11_isOfKind_1 (by rw [c6]; decide) (by rw [c6]; decide) (by rw [c6]; rfl) (by decide) ?_
    refine lv_aload_n hx hb dX11_isOfKind_62 rfl (lv_at hl 0 rfl) ?_
    by_cases k21 : gK σ q0 = 0
    · have hf := ok_t k21 hf
      refine va_instNo hx hb hown (hts (.classLink RX11 306 "FenceYards$Clover") (by decide +kernel)) (hG.1.2.2.2.2.1 ("FenceYards$Apple", "FenceYards$Clover") (by decide +kernel)) (z_rc (n := 0) hK hI (kd_S hq0 k21) (by decide) rfl) dX11_isOfKind_63 ?_
      cases hf
      exact z_zret hx hb hr hlk hK hG hI (Or.inl rfl) dX11_isOfKind_66
    have hf := ok_f k21 hf
    by_cases k22 : gK σ q0 = 1
    · have hf := ok_t k22 hf
      refine va_instNo hx hb hown (hts (.classLink RX11 306 "FenceYards$Clover") (by decide +kernel)) (hG.1.2.2.2.2.1 ("FenceYards$Bean", "FenceYards$Clover") (by decide +kernel)) (z_rc (n := 0) hK hI (kd_S hq0 k22) (by decide) rfl) dX11_isOfKind_63 ?_
      cases hf
      exact z_zret hx hb hr hlk hK hG hI (Or.inl rfl) dX11_isOfKind_66
    have hf := ok_f k22 hf
    by_cases k23 : gK σ q0 = 2
    · have hf := ok_t k23 hf
      refine va_instS hx hb hown (hts (.classLink RX11 306 "FenceYards$Clover") (by decide +kernel)) (hK.1 2 _ rfl).2 (z_rc (n := 0) hK hI (kd_S hq0 k23) (by decide) rfl) dX11_isOfKind_63 ?_
      cases hf
      exact z_zret hx hb hr hlk hK hG hI (Or.inr rfl) dX11_isOfKind_66
    have hf := ok_f k23 hf
    by_cases k24 : gK σ q0 = 3
    · have hf := ok_t k24 hf
      refine va_instNo hx hb hown (hts (.classLink RX11 306 "FenceYards$Clover") (by decide +kernel)) (hG.1.2.2.2.2.1 ("FenceYards$Grass", "FenceYards$Clover") (by decide +kernel)) (z_rc (n := 0) hK hI (kd_S hq0 k24) (by decide) rfl) dX11_isOfKind_63 ?_
      cases hf
      exact z_zret hx hb hr hlk hK hG hI (Or.inl rfl) dX11_isOfKind_66
    have hf := ok_f k24 hf
    by_cases k25 : gK σ q0 = 7
    · have hf := ok_t k25 hf
      refine va_instNo hx hb hown (hts (.classLink RX11 306 "FenceYards$Clover") (by decide +kernel)) (hG.1.2.2.2.2.1 ("FenceYards$Rye", "FenceYards$Clover") (by decide +kernel)) (z_rc (n := 0) hK hI (kd_S hq0 k25) (by decide) rfl) dX11_isOfKind_63 ?_
      cases hf
      exact z_zret hx hb hr hlk hK hG hI (Or.inl rfl) dX11_isOfKind_66
    have hf := ok_f k25 hf
    cases hf
  have hf := ok_f c6 hf
  refine lv_tableOut (tgt := 67) hx hb dX11_isOfKind_1 (by have a0 := sw_ne (k := 0) (by decide) c1; have a1 := sw_ne (k := 1) (by decide) c2; have a2 := sw_ne (k := 2) (by decide) c3; have a3 := sw_ne (k := 3) (by decide) c4; have a4 := sw_ne (k := 4) (by decide) c5; have a5 := sw_ne (k := 5) (by decide) c6; omega) (by decide) ?_
  refine lv_iconst (v := 0) hx hb dX11_isOfKind_67 (by decide) ?_
  cases hf
  exact z_zret hx hb hr hlk hK hG hI (Or.inl rfl) dX11_isOfKind_68

-- ===== FenceYards$Rows.present()I
def f_X6_present_4   (σ : Hp)  : Nat → Int32 → Int32 → Option (Int32)
  | 0, _, _ => none
  | n + 1, x1, x2 =>
    if 8 ≤ x2 then (some x1) else (bd1 (f_X6_isMissing σ x2) fun r1 => if r1 = 0 then (bnd (x1 + 1) fun v1 => f_X6_present_4 σ n v1 (x2 + 1)) else (bnd (x1 + 0) fun v2 => f_X6_present_4 σ n v2 (x2 + 1)))
def f_X6_present (σ : Hp)  : Option (Int32) :=
  f_X6_present_4 σ fu 0 0
set_option maxRecDepth 100000 in
set_option maxHeartbeats 4000000 in
theorem w_X6_present_4 {G : GT} {p : Program} {l : Launch} {e : Env} {s : State} {m : MethodId} {args : Array Value} {below : List Frame} {meth : Method} {c : Code}  {r : Int32}  {σ : Hp}   (C0 : Cx G cX6_present RX6 wsX6_present 3 (some .int) p s m args meth c)  :
    ∀ (n : Nat) (x1 : Int32) (x2 : Int32), f_X6_present_4 σ n x1 x2 = some r → ∀ (H : Heap) (locs : List Loc), Inv G s σ H locs → ∀ ls : Array Slot, lv_has ls 3 [(0, .ref (G.1 + 1)), (1, .int x1), (2, .int x2)] → W p l e (rmk 1 21) s m args below meth c H locs 0 0 (MQ below (QI G σ r) args s (rmk 1 21).cells (rmk 1 21).slots (gA G)) (F0 m 4 ls []) := by
  obtain ⟨hx, hb, hr, hml, hown, hts, hlk, hK, hG⟩ := id C0
  intro n
  induction n with
  | zero =>
    intro x1 x2 hf
    cases hf
  | succ n ih =>
    intro x1 x2 hf H locs hI ls hl
    rw [f_X6_present_4] at hf
    refine lv_iload_n hx hb dX6_present_4 rfl (lv_at hl 2 rfl) ?_
    refine lv_bipush (v := 8) hx hb dX6_present_5 (by decide) ?_
    refine lv_icmp_ge (tgt := 32) hx hb dX6_present_7 (by decide) (fun c1 => ?_) (fun c1 => ?_)
    · have hf := ok_t c1 hf
      refine lv_iload_n hx hb dX6_present_32 rfl (lv_at hl 1 rfl) ?_
      cases hf
      exact z_iret hx hb hr hlk hK hG hI dX6_present_33
    · have hf := ok_f c1 hf
      refine lv_iload_n hx hb dX6_present_10 rfl (lv_at hl 1 rfl) ?_
      refine lv_aload_n hx hb dX6_present_11 rfl (lv_at hl 0 rfl) ?_
      refine lv_iload_n hx hb dX6_present_12 rfl (lv_at hl 2 rfl) ?_
      obtain ⟨r1, hc1, hf⟩ := ok_1 hf
      refine z_calli0 rfl rfl hI (va_runV (As := [.int x2]) (rest := [.int x1]) ⟨hx, hb, hml, hown, hts⟩ (m_X6_isMissing G l  hc1) (cwV 1 hts gX6_present_X6_isMissing rfl rfl rfl (by decide +kernel) ⟨Nat.le_of_ble_eq_true rfl, Nat.le_of_ble_eq_true rfl⟩) (z_preV hK hG hI (z_rc (q := 1) (ci := 6) (n := 0) hK hI rfl (by decide) rfl)) rfl rfl hl.1 rfl (lv_room (Nat.le_of_ble_eq_true rfl)) dX6_present_13 ⟨Nat.zero_le _, Nat.zero_le _⟩) (fun H locs hI => ?_)
      refine lv_if_eq (tgt := 23) hx hb dX6_present_16 (by decide) (fun c2 => ?_) (fun c2 => ?_)
      · have hf := ok_t c2 hf
        refine lv_iconst (v := 1) hx hb dX6_present_23 (by decide) ?_
        refine lv_iadd hx hb dX6_present_24 ?_
        refine lv_topi (fun v1 ev1 => ?_)
        have hf := ok_n hf ev1
        refine lv_istore_n (lv' := [(1, .int v1), (0, .ref (G.1 + 1)), (2, .int x2)]) hx hb dX6_present_25 rfl hl (by decide) rfl (fun ls hl => ?_)
        refine lv_iinc (v := x2 + 1) (lv' := [(2, .int (x2 + 1)), (1, .int v1), (0, .ref (G.1 + 1))]) hx hb dX6_present_26 hl (k := 2) rfl rfl (by decide) rfl (fun ls hl => ?_)
        refine lv_goto (tgt := 4) hx hb dX6_present_29 (by decide) ?_
        exact ih _ _ hf _ _ hI _ (lv_sub hl [2, 1, 0] rfl)
      · have hf := ok_f c2 hf
        refine lv_iconst (v := 0) hx hb dX6_present_19 (by decide) ?_
        refine lv_goto (tgt := 24) hx hb dX6_present_20 (by decide) ?_
        refine lv_iadd hx hb dX6_present_24 ?_
        refine lv_topi (fun v2 ev2 => ?_)
        have hf := ok_n hf ev2
        refine lv_istore_n (lv' := [(1, .int v2), (0, .ref (G.1 + 1)), (2, .int x2)]) hx hb dX6_present_25 rfl hl (by decide) rfl (fun ls hl => ?_)
        refine lv_iinc (v := x2 + 1) (lv' := [(2, .int (x2 + 1)), (1, .int v2), (0, .ref (G.1 + 1))]) hx hb dX6_present_26 hl (k := 2) rfl rfl (by decide) rfl (fun ls hl => ?_)
        refine lv_goto (tgt := 4) hx hb dX6_present_29 (by decide) ?_
        exact ih _ _ hf _ _ hI _ (lv_sub hl [2, 1, 0] rfl)

set_option maxRecDepth 100000 in
set_option maxHeartbeats 4000000 in
theorem m_X6_present (G : GT) (l : Launch) {σ : Hp}  {r : Int32}  (hf : f_X6_present σ = some r) : MetG G l yX6_present wsX6_present (rmk 1 21) σ [.ref (G.1 + 1)] (QI G σ r) := by
  refine met_of (cc := cX6_present) (nL := 3) (ret := (some .int)) (by decide) rfl (Nat.le_of_ble_eq_true rfl) ?_
  intro p e s m below meth c C0 hnm hI ls hl
  obtain ⟨hx, hb, hr, hml, hown, hts, hlk, hK, hG⟩ := id C0
  have hl : lv_has ls 3 [(0, .ref (G.1 + 1))] := hl
  unfold f_X6_present at hf
  refine lv_iconst (v := 0) hx hb dX6_present_0 (by decide) ?_
  refine lv_istore_n (lv' := [(1, .int 0), (0, .ref (G.1 + 1))]) hx hb dX6_present_1 rfl hl (by decide) rfl (fun ls hl => ?_)
  refine lv_iconst (v := 0) hx hb dX6_present_2 (by decide) ?_
  refine lv_istore_n (lv' := [(2, .int 0), (1, .int 0), (0, .ref (G.1 + 1))]) hx hb dX6_present_3 rfl hl (by decide) rfl (fun ls hl => ?_)
  exact w_X6_present_4  C0  _ _ _ hf _ _ hI _ (lv_sub hl [2, 1, 0] rfl)

