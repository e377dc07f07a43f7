-- ===== FenceYards.found(I)I
set_option maxRecDepth 100000 in
theorem i_X11_found_10 : ∀ w ∈ u_ws RX11 TX11 9, w ∈ wsX11_found := by decide +kernel
def f_X11_found (σ : Hp) (x1 : Int32) : Option (Hp × Int32) :=
  some (sI σ 0 8 x1, (-1000010) - x1)
set_option maxRecDepth 100000 in
set_option maxHeartbeats 4000000 in
theorem m_X11_found (G : GT) (l : Launch) {σ : Hp} {x1 : Int32} {σ' : Hp} {r : Int32}  (hf : f_X11_found σ x1 = some (σ', r)) : MetG G l yX11_found wsX11_found (rmk 0 0) σ [.ref (G.1 + 0), .int x1] (QI G σ' r) := by
  refine met_of (cc := cX11_found) (nL := 2) (ret := (some .int)) (by decide) rfl (Nat.le_of_ble_eq_true rfl) ?_
  intro p e s m below meth c C0 hnm hI ls hl
  obtain ⟨hx, hb, hr, hml, hown, hts, hlk, hK, hG⟩ := id C0
  have hl : lv_has ls 2 [(0, .ref (G.1 + 0)), (1, .int x1)] := hl
  unfold f_X11_found at hf
  refine lv_aload_n hx hb dX11_found_0 rfl (lv_at hl 0 rfl) ?_
  refine lv_iload_n hx hb dX11_found_1 rfl (lv_at hl 1 rfl) ?_
  refine z_put (C := RX11) (T := TX11) (N := 9) (ci := 10) (ty := .int) (v := .int x1) hx hb hts i_X11_found_10 tyX11 tyX11_ok nmX11 hown hK hI 0 rfl (by decide) rfl 8 (by decide) (hts (.fieldLink RX11 272 "FenceYards" "finding" "I") (by decide +kernel)) (fun _ h9 => h9) rfl (by decide +kernel) rfl rfl (Nat.le_of_ble_eq_true rfl) (set_I hI.2.2.2 rfl (by decide) rfl) rfl hI.2.2.2 dX11_found_2 (fun H locs hI => ?_)
  refine lv_ldcw (v := (-1000010)) hx hb hown (hts (.constant RX11 275 (-1000010)) (by decide +kernel)) dX11_found_5 ?_
  refine lv_iload_n hx hb dX11_found_8 rfl (lv_at hl 1 rfl) ?_
  refine lv_isub hx hb dX11_found_9 ?_
  cases hf
  exact z_iret hx hb hr hlk hK hG hI dX11_found_10

-- ===== FenceYards.fine(I)I
set_option maxRecDepth 100000 in
theorem i_X11_fine_10 : ∀ w ∈ u_ws RX11 TX11 9, w ∈ wsX11_fine := by decide +kernel
def f_X11_fine (σ : Hp) (x1 : Int32) : Option (Hp × Int32) :=
  some (sI σ 0 8 0, x1)
set_option maxRecDepth 100000 in
set_option maxHeartbeats 4000000 in
theorem m_X11_fine (G : GT) (l : Launch) {σ : Hp} {x1 : Int32} {σ' : Hp} {r : Int32}  (hf : f_X11_fine σ x1 = some (σ', r)) : MetG G l yX11_fine wsX11_fine (rmk 0 0) σ [.ref (G.1 + 0), .int x1] (QI G σ' r) := by
  refine met_of (cc := cX11_fine) (nL := 2) (ret := (some .int)) (by decide) rfl (Nat.le_of_ble_eq_true rfl) ?_
  intro p e s m below meth c C0 hnm hI ls hl
  obtain ⟨hx, hb, hr, hml, hown, hts, hlk, hK, hG⟩ := id C0
  have hl : lv_has ls 2 [(0, .ref (G.1 + 0)), (1, .int x1)] := hl
  unfold f_X11_fine at hf
  refine lv_aload_n hx hb dX11_fine_0 rfl (lv_at hl 0 rfl) ?_
  refine lv_iconst (v := 0) hx hb dX11_fine_1 (by decide) ?_
  refine z_put (C := RX11) (T := TX11) (N := 9) (ci := 10) (ty := .int) (v := .int 0) hx hb hts i_X11_fine_10 tyX11 tyX11_ok nmX11 hown hK hI 0 rfl (by decide) rfl 8 (by decide) (hts (.fieldLink RX11 272 "FenceYards" "finding" "I") (by decide +kernel)) (fun _ h9 => h9) rfl (by decide +kernel) rfl rfl (Nat.le_of_ble_eq_true rfl) (set_I hI.2.2.2 rfl (by decide) rfl) rfl hI.2.2.2 dX11_fine_2 (fun H locs hI => ?_)
  refine lv_iload_n hx hb dX11_fine_5 rfl (lv_at hl 1 rfl) ?_
  cases hf
  exact z_iret hx hb hr hlk hK hG hI dX11_fine_6

-- ===== FenceYards.row(III)I
set_option maxRecDepth 100000 in
theorem i_X11_row_10 : ∀ w ∈ u_ws RX11 TX11 9, w ∈ wsX11_row := by decide +kernel
def f_X11_row (σ : Hp) (x1 : Int32) (x2 : Int32) (x3 : Int32) : Option (Hp × Int32) :=
  bd1 (f_X11_isRow σ x1) fun r1 => if r1 = 0 then (some (σ, (-1000001))) else (if x2 < 0 then (some (σ, (-1000001))) else (if 2 < x2 then (some (σ, (-1000001))) else (if x3 ≤ 40 then (if 0 ≤ x3 then (bd1 (f_X6_make σ x1 x2 x3) fun s1 => bd2 (f_X11_fine s1 x3) fun s2 r2 => some (s2, r2)) else (bd2 (f_X11_found σ 4) fun s3 r3 => some (s3, r3))) else (some (σ, (-1000001))))))
set_option maxRecDepth 100000 in
set_option maxHeartbeats 4000000 in
theorem m_X11_row (G : GT) (l : Launch) {σ : Hp} {x1 : Int32} {x2 : Int32} {x3 : Int32} {σ' : Hp} {r : Int32}  (hf : f_X11_row σ x1 x2 x3 = some (σ', r)) : MetG G l yX11_row wsX11_row (rmk 2 46) σ [.ref (G.1 + 0), .int x1, .int x2, .int x3] (QI G σ' r) := by
  refine met_of (cc := cX11_row) (nL := 4) (ret := (some .int)) (by decide) rfl (Nat.le_of_ble_eq_true rfl) ?_
  intro p e s m below meth c C0 hnm hI ls hl
  obtain ⟨hx, hb, hr, hml, hown, hts, hlk, hK, hG⟩ := id C0
  have hl : lv_has ls 4 [(0, .ref (G.1 + 0)), (1, .int x1), (2, .int x2), (3, .int x3)] := hl
  unfold f_X11_row at hf
  refine lv_iload_n hx hb dX11_row_0 rfl (lv_at hl 1 rfl) ?_
  obtain ⟨r1, hc1, hf⟩ := ok_1 hf
  refine z_calli0 rfl rfl hI (va_runS (As := [.int x1]) (rest := []) ⟨hx, hb, hml, hown, hts⟩ (m_X11_isRow G l  hc1) (va_cwS 1 hts gX11_row_X11_isRow rfl rfl rfl (by decide +kernel) ⟨Nat.le_of_ble_eq_true rfl, Nat.le_of_ble_eq_true rfl⟩) (z_pre hK hG hI) rfl rfl hl.1 rfl (lv_room (Nat.le_of_ble_eq_true rfl)) dX11_row_1 ⟨Nat.zero_le _, Nat.zero_le _⟩) (fun H locs hI => ?_)
  refine lv_if_eq (tgt := 22) hx hb dX11_row_4 (by decide) (fun c1 => ?_) (fun c1 => ?_)
  · have hf := ok_t c1 hf
    refine lv_ldc (v := (-1000001)) hx hb hown (hts (.constant RX11 57 (-1000001)) (by decide +kernel)) dX11_row_22 ?_
    cases hf
    exact z_iret hx hb hr hlk hK hG hI dX11_row_24
  · have hf := ok_f c1 hf
    refine lv_iload_n hx hb dX11_row_7 rfl (lv_at hl 2 rfl) ?_
    refine lv_if_lt (tgt := 22) hx hb dX11_row_8 (by decide) (fun c2 => ?_) (fun c2 => ?_)
    · have hf := ok_t c2 hf
      refine lv_ldc (v := (-1000001)) hx hb hown (hts (.constant RX11 57 (-1000001)) (by decide +kernel)) dX11_row_22 ?_
      cases hf
      exact z_iret hx hb hr hlk hK hG hI dX11_row_24
    · have hf := ok_f c2 hf
      refine lv_iload_n hx hb dX11_row_11 rfl (lv_at hl 2 rfl) ?_
      refine lv_iconst (v := 2) hx hb dX11_row_12 (by decide) ?_
      refine lv_icmp_gt (tgt := 22) hx hb dX11_row_13 (by decide) (fun c3 => ?_) (fun c3 => ?_)
      · have hf := ok_t c3 hf
        refine lv_ldc (v := (-1000001)) hx hb hown (hts (.constant RX11 57 (-1000001)) (by decide +kernel)) dX11_row_22 ?_
        cases hf
        exact z_iret hx hb hr hlk hK hG hI dX11_row_24
      · have hf := ok_f c3 hf
        refine lv_iload_n hx hb dX11_row_16 rfl (lv_at hl 3 rfl) ?_
        refine lv_bipush (v := 40) hx hb dX11_row_17 (by decide) ?_
        refine lv_icmp_le (tgt := 25) hx hb dX11_row_19 (by decide) (fun c4 => ?_) (fun c4 => ?_)
        · have hf := ok_t c4 hf
          refine lv_iload_n hx hb dX11_row_25 rfl (lv_at hl 3 rfl) ?_
          refine lv_if_ge (tgt := 35) hx hb dX11_row_26 (by decide) (fun c5 => ?_) (fun c5 => ?_)
          · have hf := ok_t c5 hf
            refine lv_aload_n hx hb dX11_row_35 rfl (lv_at hl 0 rfl) ?_
            refine z_get (C := RX11) (T := TX11) (N := 9) (ci := 10) (v := .ref (G.1 + 1)) hx hb hts i_X11_row_10 hown hK hI 0 rfl (by decide) rfl 0 (by decide) (hts (.fieldLink RX11 12 "FenceYards" "rows" "LFenceYards$Rows;") (by decide +kernel)) (fun _ h9 => h9) rfl dX11_row_36 ?_
            refine lv_iload_n hx hb dX11_row_39 rfl (lv_at hl 1 rfl) ?_
            refine lv_iload_n hx hb dX11_row_40 rfl (lv_at hl 2 rfl) ?_
            refine lv_iload_n hx hb dX11_row_41 rfl (lv_at hl 3 rfl) ?_
            obtain ⟨s1, hc2, hf⟩ := ok_1 hf
            refine z_callv0 rfl rfl hI (va_runVN (As := [.int x1, .int x2, .int x3]) (rest := []) ⟨hx, hb, hml, hown, hts⟩ (m_X6_make G l  hc2) ⟨va_cnB (host := "FenceYards") 3 hts gX11_row_X6_make_n62 rfl rfl rfl (hG.1.2.1 ("FenceYards", 62, ⟨"FenceYards$Rows", "make", "(III)V"⟩) (by decide +kernel)) (hts (.initialized "FenceYards$Rows") (by decide +kernel)) (by decide +kernel) ⟨Nat.le_of_ble_eq_true rfl, Nat.le_of_ble_eq_true rfl⟩, hts (.instanceMethod yX6_make) (by decide +kernel), hts (.selects "FenceYards$Rows" yX6_make yX6_make) (by decide +kernel)⟩ (z_preV hK hG hI (z_rc (q := 1) (ci := 6) (n := 0) hK hI rfl (by decide) rfl)) rfl rfl hl.1 rfl (lv_room (Nat.le_of_ble_eq_true rfl)) dX11_row_42 ⟨Nat.zero_le _, Nat.zero_le _⟩) (fun H locs hI => ?_)
            refine lv_aload_n hx hb dX11_row_45 rfl (lv_at hl 0 rfl) ?_
            refine lv_iload_n hx hb dX11_row_46 rfl (lv_at hl 3 rfl) ?_
            obtain ⟨s2, r2, hc3, hf⟩ := ok_2 hf
            refine z_calli0 rfl rfl hI (va_runV (As := [.int x3]) (rest := []) ⟨hx, hb, hml, hown, hts⟩ (m_X11_fine G l  hc3) (cwV 1 hts gX11_row_X11_fine rfl rfl rfl (by decide +kernel) ⟨Nat.le_of_ble_eq_true rfl, Nat.le_of_ble_eq_true rfl⟩) (z_preV hK hG hI (z_rc (q := 0) (ci := 10) (n := 0) hK hI rfl (by decide) rfl)) rfl rfl hl.1 rfl (lv_room (Nat.le_of_ble_eq_true rfl)) dX11_row_47 ⟨Nat.zero_le _, Nat.zero_le _⟩) (fun H locs hI => ?_)
            cases hf
            exact z_iret hx hb hr hlk hK hG hI dX11_row_50
          · have hf := ok_f c5 hf
            refine lv_aload_n hx hb dX11_row_29 rfl (lv_at hl 0 rfl) ?_
            refine lv_iconst (v := 4) hx hb dX11_row_30 (by decide) ?_
            obtain ⟨s3, r3, hc4, hf⟩ := ok_2 hf
            refine z_calli0 rfl rfl hI (va_runV (As := [.int 4]) (rest := []) ⟨hx, hb, hml, hown, hts⟩ (m_X11_found G l  hc4) (cwV 1 hts gX11_row_X11_found rfl rfl rfl (by decide +kernel) ⟨Nat.le_of_ble_eq_true rfl, Nat.le_of_ble_eq_true rfl⟩) (z_preV hK hG hI (z_rc (q := 0) (ci := 10) (n := 0) hK hI rfl (by decide) rfl)) rfl rfl hl.1 rfl (lv_room (Nat.le_of_ble_eq_true rfl)) dX11_row_31 ⟨Nat.zero_le _, Nat.zero_le _⟩) (fun H locs hI => ?_)
            cases hf
            exact z_iret hx hb hr hlk hK hG hI dX11_row_34
        · have hf := ok_f c4 hf
          refine lv_ldc (v := (-1000001)) hx hb hown (hts (.constant RX11 57 (-1000001)) (by decide +kernel)) dX11_row_22 ?_
          cases hf
          exact z_iret hx hb hr hlk hK hG hI dX11_row_24

-- ===== FenceYards.set(III)I
set_option maxRecDepth 100000 in
theorem i_X11_set_10 : ∀ w ∈ u_ws RX11 TX11 9, w ∈ wsX11_set := by decide +kernel
def f_X11_set (σ : Hp) (x1 : Int32) (x2 : Int32) (x3 : Int32) : Option (Hp × Int32) :=
  bd1 (f_X11_isRow σ x1) fun r1 => if r1 = 0 then (some (σ, (-1000001))) else (bd1 (f_X6_isMissing σ x1) fun r2 => if r2 = 0 then (if x2 < 0 then (bd2 (f_X11_found σ 2) fun s1 r3 => some (s1, r3)) else (bd1 (f_X6_sizeOf σ x1) fun r4 => if x2 < r4 then (bd2 (f_X6_put σ x1 x2 x3) fun s2 r5 => bd2 (f_X11_fine s2 r5) fun s3 r6 => some (s3, r6)) else (bd2 (f_X11_found σ 2) fun s4 r7 => some (s4, r7)))) else (bd2 (f_X11_found σ 1) fun s5 r8 => some (s5, r8)))
set_option maxRecDepth 100000 in
set_option maxHeartbeats 4000000 in
theorem m_X11_set (G : GT) (l : Launch) {σ : Hp} {x1 : Int32} {x2 : Int32} {x3 : Int32} {σ' : Hp} {r : Int32}  (hf : f_X11_set σ x1 x2 x3 = some (σ', r)) : MetG G l yX11_set wsX11_set (rmk 1 24) σ [.ref (G.1 + 0), .int x1, .int x2, .int x3] (QI G σ' r) := by
  refine met_of (cc := cX11_set) (nL := 4) (ret := (some .int)) (by decide) rfl (Nat.le_of_ble_eq_true rfl) ?_
  intro p e s m below meth c C0 hnm hI ls hl
  obtain ⟨hx, hb, hr, hml, hown, hts, hlk, hK, hG⟩ := id C0
  have hl : lv_has ls 4 [(0, .ref (G.1 + 0)), (1, .int x1), (2, .int x2), (3, .int x3)] := hl
  unfold f_X11_set at hf
  refine lv_iload_n hx hb dX11_set_0 rfl (lv_at hl 1 rfl) ?_
  obtain ⟨r1, hc1, hf⟩ := ok_1 hf
  refine z_calli0 rfl rfl hI (va_runS (As := [.int x1]) (rest := []) ⟨hx, hb, hml, hown, hts⟩ (m_X11_isRow G l  hc1) (va_cwS 1 hts gX11_set_X11_isRow rfl rfl rfl (by decide +kernel) ⟨Nat.le_of_ble_eq_true rfl, Nat.le_of_ble_eq_true rfl⟩) (z_pre hK hG hI) rfl rfl hl.1 rfl (lv_room (Nat.le_of_ble_eq_true rfl)) dX11_set_1 ⟨Nat.zero_le _, Nat.zero_le _⟩) (fun H locs hI => ?_)
  refine lv_if_ne (tgt := 10) hx hb dX11_set_4 (by decide) (fun c1 => ?_) (fun c1 => ?_)
  · have hf := ok_f c1 hf
    refine lv_aload_n hx hb dX11_set_10 rfl (lv_at hl 0 rfl) ?_
    refine z_get (C := RX11) (T := TX11) (N := 9) (ci := 10) (v := .ref (G.1 + 1)) hx hb hts i_X11_set_10 hown hK hI 0 rfl (by decide) rfl 0 (by decide) (hts (.fieldLink RX11 12 "FenceYards" "rows" "LFenceYards$Rows;") (by decide +kernel)) (fun _ h9 => h9) rfl dX11_set_11 ?_
    refine lv_iload_n hx hb dX11_set_14 rfl (lv_at hl 1 rfl) ?_
    obtain ⟨r2, hc2, hf⟩ := ok_1 hf
    refine z_calli0 rfl rfl hI (va_runVN (As := [.int x1]) (rest := []) ⟨hx, hb, hml, hown, hts⟩ (m_X6_isMissing G l  hc2) ⟨va_cnB (host := "FenceYards") 1 hts gX11_set_X6_isMissing_n69 rfl rfl rfl (hG.1.2.1 ("FenceYards", 69, ⟨"FenceYards$Rows", "isMissing", "(I)Z"⟩) (by decide +kernel)) (hts (.initialized "FenceYards$Rows") (by decide +kernel)) (by decide +kernel) ⟨Nat.le_of_ble_eq_true rfl, Nat.le_of_ble_eq_true rfl⟩, hts (.instanceMethod yX6_isMissing) (by decide +kernel), hts (.selects "FenceYards$Rows" yX6_isMissing yX6_isMissing) (by decide +kernel)⟩ (z_preV hK hG hI (z_rc (q := 1) (ci := 6) (n := 0) hK hI rfl (by decide) rfl)) rfl rfl hl.1 rfl (lv_room (Nat.le_of_ble_eq_true rfl)) dX11_set_15 ⟨Nat.zero_le _, Nat.zero_le _⟩) (fun H locs hI => ?_)
    refine lv_if_eq (tgt := 27) hx hb dX11_set_18 (by decide) (fun c2 => ?_) (fun c2 => ?_)
    · have hf := ok_t c2 hf
      refine lv_iload_n hx hb dX11_set_27 rfl (lv_at hl 2 rfl) ?_
      refine lv_if_lt (tgt := 43) hx hb dX11_set_28 (by decide) (fun c3 => ?_) (fun c3 => ?_)
      · have hf := ok_t c3 hf
        refine lv_aload_n hx hb dX11_set_43 rfl (lv_at hl 0 rfl) ?_
        refine lv_iconst (v := 2) hx hb dX11_set_44 (by decide) ?_
        obtain ⟨s1, r3, hc3, hf⟩ := ok_2 hf
        refine z_calli0 rfl rfl hI (va_runV (As := [.int 2]) (rest := []) ⟨hx, hb, hml, hown, hts⟩ (m_X11_found G l  hc3) (cwV 1 hts gX11_set_X11_found rfl rfl rfl (by decide +kernel) ⟨Nat.le_of_ble_eq_true rfl, Nat.le_of_ble_eq_true rfl⟩) (z_preV hK hG hI (z_rc (q := 0) (ci := 10) (n := 0) hK hI rfl (by decide) rfl)) rfl rfl hl.1 rfl (lv_room (Nat.le_of_ble_eq_true rfl)) dX11_set_45 ⟨Nat.zero_le _, Nat.zero_le _⟩) (fun H locs hI => ?_)
        cases hf
        exact z_iret hx hb hr hlk hK hG hI dX11_set_48
      · have hf := ok_f c3 hf
        refine lv_iload_n hx hb dX11_set_31 rfl (lv_at hl 2 rfl) ?_
        refine lv_aload_n hx hb dX11_set_32 rfl (lv_at hl 0 rfl) ?_
        refine z_get (C := RX11) (T := TX11) (N := 9) (ci := 10) (v := .ref (G.1 + 1)) hx hb hts i_X11_set_10 hown hK hI 0 rfl (by decide) rfl 0 (by decide) (hts (.fieldLink RX11 12 "FenceYards" "rows" "LFenceYards$Rows;") (by decide +kernel)) (fun _ h9 => h9) rfl dX11_set_33 ?_
        refine lv_iload_n hx hb dX11_set_36 rfl (lv_at hl 1 rfl) ?_
        obtain ⟨r4, hc4, hf⟩ := ok_1 hf
        refine z_calli0 rfl rfl hI (va_runVN (As := [.int x1]) (rest := [.int x2]) ⟨hx, hb, hml, hown, hts⟩ (m_X6_sizeOf G l  hc4) ⟨va_cnB (host := "FenceYards") 1 hts gX11_set_X6_sizeOf_n72 rfl rfl rfl (hG.1.2.1 ("FenceYards", 72, ⟨"FenceYards$Rows", "sizeOf", "(I)I"⟩) (by decide +kernel)) (hts (.initialized "FenceYards$Rows") (by decide +kernel)) (by decide +kernel) ⟨Nat.le_of_ble_eq_true rfl, Nat.le_of_ble_eq_true rfl⟩, hts (.instanceMethod yX6_sizeOf) (by decide +kernel), hts (.selects "FenceYards$Rows" yX6_sizeOf yX6_sizeOf) (by decide +kernel)⟩ (z_preV hK hG hI (z_rc (q := 1) (ci := 6) (n := 0) hK hI rfl (by decide) rfl)) rfl rfl hl.1 rfl (lv_room (Nat.le_of_ble_eq_true rfl)) dX11_set_37 ⟨Nat.zero_le _, Nat.zero_le _⟩) (fun H locs hI => ?_)
        refine lv_icmp_lt (tgt := 49) hx hb dX11_set_40 (by decide) (fun c4 => ?_) (fun c4 => ?_)
        · have hf := ok_t c4 hf
          refine lv_aload_n hx hb dX11_set_49 rfl (lv_at hl 0 rfl) ?_
          refine lv_aload_n hx hb dX11_set_50 rfl (lv_at hl 0 rfl) ?_
          refine z_get (C := RX11) (T := TX11) (N := 9) (ci := 10) (v := .ref (G.1 + 1)) hx hb hts i_X11_set_10 hown hK hI 0 rfl (by decide) rfl 0 (by decide) (hts (.fieldLink RX11 12 "FenceYards" "rows" "LFenceYards$Rows;") (by decide +kernel)) (fun _ h9 => h9) rfl dX11_set_51 ?_
          refine lv_iload_n hx hb dX11_set_54 rfl (lv_at hl 1 rfl) ?_
          refine lv_iload_n hx hb dX11_set_55 rfl (lv_at hl 2 rfl) ?_
          refine lv_iload_n hx hb dX11_set_56 rfl (lv_at hl 3 rfl) ?_
          obtain ⟨s2, r5, hc5, hf⟩ := ok_2 hf
          refine z_calli0 rfl rfl hI (va_runVN (As := [.int x1, .int x2, .int x3]) (rest := [.ref (G.1 + 0)]) ⟨hx, hb, hml, hown, hts⟩ (m_X6_put G l  hc5) ⟨va_cnB (host := "FenceYards") 3 hts gX11_set_X6_put_n75 rfl rfl rfl (hG.1.2.1 ("FenceYards", 75, ⟨"FenceYards$Rows", "put", "(III)I"⟩) (by decide +kernel)) (hts (.initialized "FenceYards$Rows") (by decide +kernel)) (by decide +kernel) ⟨Nat.le_of_ble_eq_true rfl, Nat.le_of_ble_eq_true rfl⟩, hts (.instanceMethod yX6_put) (by decide +kernel), hts (.selects "FenceYards$Rows" yX6_put yX6_put) (by decide +kernel)⟩ (z_preV hK hG hI (z_rc (q := 1) (ci := 6) (n := 0) hK hI rfl (by decide) rfl)) rfl rfl hl.1 rfl (lv_room (Nat.le_of_ble_eq_true rfl)) dX11_set_57 ⟨Nat.zero_le _, Nat.zero_le _⟩) (fun H locs hI => ?_)
          obtain ⟨s3, r6, hc6, hf⟩ := ok_2 hf
          refine z_calli0 rfl rfl hI (va_runV (As := [.int r5]) (rest := []) ⟨hx, hb, hml, hown, hts⟩ (m_X11_fine G l  hc6) (cwV 1 hts gX11_set_X11_fine rfl rfl rfl (by decide +kernel) ⟨Nat.le_of_ble_eq_true rfl, Nat.le_of_ble_eq_true rfl⟩) (z_preV hK hG hI (z_rc (q := 0) (ci := 10) (n := 0) hK hI rfl (by decide) rfl)) rfl rfl hl.1 rfl (lv_room (Nat.le_of_ble_eq_true rfl)) dX11_set_60 ⟨Nat.zero_le _, Nat.zero_le _⟩) (fun H locs hI => ?_)
          cases hf
          exact z_iret hx hb hr hlk hK hG hI dX11_set_63
        · have hf := ok_f c4 hf
          refine lv_aload_n hx hb dX11_set_43 rfl (lv_at hl 0 rfl) ?_
          refine lv_iconst (v := 2) hx hb dX11_set_44 (by decide) ?_
          obtain ⟨s4, r7, hc7, hf⟩ := ok_2 hf
          refine z_calli0 rfl rfl hI (va_runV (As := [.int 2]) (rest := []) ⟨hx, hb, hml, hown, hts⟩ (m_X11_found G l  hc7) (cwV 1 hts gX11_set_X11_found rfl rfl rfl (by decide +kernel) ⟨Nat.le_of_ble_eq_true rfl, Nat.le_of_ble_eq_true rfl⟩) (z_preV hK hG hI (z_rc (q := 0) (ci := 10) (n := 0) hK hI rfl (by decide) rfl)) rfl rfl hl.1 rfl (lv_room (Nat.le_of_ble_eq_true rfl)) dX11_set_45 ⟨Nat.zero_le _, Nat.zero_le _⟩) (fun H locs hI => ?_)
          cases hf
          exact z_iret hx hb hr hlk hK hG hI dX11_set_48
    · have hf := ok_f c2 hf
      refine lv_aload_n hx hb dX11_set_21 rfl (lv_at hl 0 rfl) ?_
      refine lv_iconst (v := 1) hx hb dX11_set_22 (by decide) ?_
      obtain ⟨s5, r8, hc8, hf⟩ := ok_2 hf
      refine z_calli0 rfl rfl hI (va_runV (As := [.int 1]) (rest := []) ⟨hx, hb, hml, hown, hts⟩ (m_X11_found G l  hc8) (cwV 1 hts gX11_set_X11_found rfl rfl rfl (by decide +kernel) ⟨Nat.le_of_ble_eq_true rfl, Nat.le_of_ble_eq_true rfl⟩) (z_preV hK hG hI (z_rc (q := 0) (ci := 10) (n := 0) hK hI rfl (by decide) rfl)) rfl rfl hl.1 rfl (lv_room (Nat.le_of_ble_eq_true rfl)) dX11_set_23 ⟨Nat.zero_le _, Nat.zero_le _⟩) (fun H locs hI => ?_)
      cases hf
      exact z_iret hx hb hr hlk hK hG hI dX11_set_26
  · have hf := ok_t c1 hf
    refine lv_ldc (v := (-1000001)) hx hb hown (hts (.constant RX11 57 (-1000001)) (by decide +kernel)) dX11_set_7 ?_
    cases hf
    exact z_iret hx hb hr hlk hK hG hI dX11_set_9

-- ===== FenceYards.copy(IIIII)I
set_option maxRecDepth 100000 in
theorem i_X11_copy_10 : ∀ w ∈ u_ws RX11 TX11 9, w ∈ wsX11_copy := by decide +kernel
def f_X11_copy (σ : Hp) (x1 : Int32) (x2 : Int32) (x3 : Int32) (x4 : Int32) (x5 : Int32) : Option (Hp × Int32) :=
  bd1 (f_X11_isRow σ x1) fun r1 => if r1 = 0 then (some (σ, (-1000001))) else (bd1 (f_X11_isRow σ x3) fun r2 => if r2 = 0 then (some (σ, (-1000001))) else (bd1 (f_X6_isMissing σ x1) fun r3 => if r3 = 0 then (bd1 (f_X6_isMissing σ x3) fun r5 => if r5 = 0 then (bd1 (f_X6_areOfOneLane σ x1 x3) fun r6 => if r6 = 0 then (bd2 (f_X11_found σ 5) fun s6 r12 => some (s6, r12)) else (bd1 (f_X6_holds σ x1 x2 x5) fun r7 => if r7 = 0 then (bd2 (f_X11_found σ 2) fun s2 r8 => some (s2, r8)) else (bd1 (f_X6_holds σ x3 x4 x5) fun r9 => if r9 = 0 then (bd2 (f_X11_found σ 2) fun s5 r11 => some (s5, r11)) else (bd1 (f_X6_move σ x1 x2 x3 x4 x5) fun s3 => bd2 (f_X11_fine s3 x5) fun s4 r10 => some (s4, r10))))) else (bd2 (f_X11_found σ 1) fun s7 r13 => some (s7, r13))) else (bd2 (f_X11_found σ 1) fun s1 r4 => some (s1, r4))))
set_option maxRecDepth 100000 in
set_option maxHeartbeats 4000000 in
theorem m_X11_copy (G : GT) (l : Launch) {σ : Hp} {x1 : Int32} {x2 : Int32} {x3 : Int32} {x4 : Int32} {x5 : Int32} {σ' : Hp} {r : Int32}  (hf : f_X11_copy σ x1 x2 x3 x4 x5 = some (σ', r)) : MetG G l yX11_copy wsX11_copy (rmk 2 85) σ [.ref (G.1 + 0), .int x1, .int x2, .int x3, .int x4, .int x5] (QI G σ' r) := by
  refine met_of (cc := cX11_copy) (nL := 6) (ret := (some .int)) (by decide) rfl (Nat.le_of_ble_eq_true rfl) ?_
  intro p e s m below meth c C0 hnm hI ls hl
  obtain ⟨hx, hb, hr, hml, hown, hts, hlk, hK, hG⟩ := id C0
  have hl : lv_has ls 6 [(0, .ref (G.1 + 0)), (1, .int x1), (2, .int x2), (3, .int x3), (4, .int x4), (5, .int x5)] := hl
  unfold f_X11_copy at hf
  refine lv_iload_n hx hb dX11_copy_0 rfl (lv_at hl 1 rfl) ?_
  obtain ⟨r1, hc1, hf⟩ := ok_1 hf
  refine z_calli0 rfl rfl hI (va_runS (As := [.int x1]) (rest := []) ⟨hx, hb, hml, hown, hts⟩ (m_X11_isRow G l  hc1) (va_cwS 1 hts gX11_copy_X11_isRow rfl rfl rfl (by decide +kernel) ⟨Nat.le_of_ble_eq_true rfl, Nat.le_of_ble_eq_true rfl⟩) (z_pre hK hG hI) rfl rfl hl.1 rfl (lv_room (Nat.le_of_ble_eq_true rfl)) dX11_copy_1 ⟨Nat.zero_le _, Nat.zero_le _⟩) (fun H locs hI => ?_)
  refine lv_if_eq (tgt := 14) hx hb dX11_copy_4 (by decide) (fun c1 => ?_) (fun c1 => ?_)
  · have hf := ok_t c1 hf
    refine lv_ldc (v := (-1000001)) hx hb hown (hts (.constant RX11 57 (-1000001)) (by decide +kernel)) dX11_copy_14 ?_
    cases hf
    exact z_iret hx hb hr hlk hK hG hI dX11_copy_16
  · have hf := ok_f c1 hf
    refine lv_iload_n hx hb dX11_copy_7 rfl (lv_at hl 3 rfl) ?_
    obtain ⟨r2, hc2, hf⟩ := ok_1 hf
    refine z_calli0 rfl rfl hI (va_runS (As := [.int x3]) (rest := []) ⟨hx, hb, hml, hown, hts⟩ (m_X11_isRow G l  hc2) (va_cwS 1 hts gX11_copy_X11_isRow rfl rfl rfl (by decide +kernel) ⟨Nat.le_of_ble_eq_true rfl, Nat.le_of_ble_eq_true rfl⟩) (z_pre hK hG hI) rfl rfl hl.1 rfl (lv_room (Nat.le_of_ble_eq_true rfl)) dX11_copy_8 ⟨Nat.zero_le _, Nat.zero_le _⟩) (fun H locs hI => ?_)
    refine lv_if_ne (tgt := 17) hx hb dX11_copy_11 (by decide) (fun c2 => ?_) (fun c2 => ?_)
    · have hf := ok_f c2 hf
      refine lv_aload_n hx hb dX11_copy_17 rfl (lv_at hl 0 rfl) ?_
      refine z_get (C := RX11) (T := TX11) (N := 9) (ci := 10) (v := .ref (G.1 + 1)) hx hb hts i_X11_copy_10 hown hK hI 0 rfl (by decide) rfl 0 (by decide) (hts (.fieldLink RX11 12 "FenceYards" "rows" "LFenceYards$Rows;") (by decide +kernel)) (fun _ h9 => h9) rfl dX11_copy_18 ?_
      refine lv_iload_n hx hb dX11_copy_21 rfl (lv_at hl 1 rfl) ?_
      obtain ⟨r3, hc3, hf⟩ := ok_1 hf
      refine z_calli0 rfl rfl hI (va_runVN (As := [.int x1]) (rest := []) ⟨hx, hb, hml, hown, hts⟩ (m_X6_isMissing G l  hc3) ⟨va_cnB (host := "FenceYards") 1 hts gX11_copy_X6_isMissing_n69 rfl rfl rfl (hG.1.2.1 ("FenceYards", 69, ⟨"FenceYards$Rows", "isMissing", "(I)Z"⟩) (by decide +kernel)) (hts (.initialized "FenceYards$Rows") (by decide +kernel)) (by decide +kernel) ⟨Nat.le_of_ble_eq_true rfl, Nat.le_of_ble_eq_true rfl⟩, hts (.instanceMethod yX6_isMissing) (by decide +kernel), hts (.selects "FenceYards$Rows" yX6_isMissing yX6_isMissing) (by decide +kernel)⟩ (z_preV hK hG hI (z_rc (q := 1) (ci := 6) (n := 0) hK hI rfl (by decide) rfl)) rfl rfl hl.1 rfl (lv_room (Nat.le_of_ble_eq_true rfl)) dX11_copy_22 ⟨Nat.zero_le _, Nat.zero_le _⟩) (fun H locs hI => ?_)
      refine lv_if_ne (tgt := 39) hx hb dX11_copy_25 (by decide) (fun c3 => ?_) (fun c3 => ?_)
      · have hf := ok_f c3 hf
        refine lv_aload_n hx hb dX11_copy_39 rfl (lv_at hl 0 rfl) ?_
        refine lv_iconst (v := 1) hx hb dX11_copy_40 (by decide) ?_
        obtain ⟨s1, r4, hc4, hf⟩ := ok_2 hf
        refine z_calli0 rfl rfl hI (va_runV (As := [.int 1]) (rest := []) ⟨hx, hb, hml, hown, hts⟩ (m_X11_found G l  hc4) (cwV 1 hts gX11_copy_X11_found rfl rfl rfl (by decide +kernel) ⟨Nat.le_of_ble_eq_true rfl, Nat.le_of_ble_eq_true rfl⟩) (z_preV hK hG hI (z_rc (q := 0) (ci := 10) (n := 0) hK hI rfl (by decide) rfl)) rfl rfl hl.1 rfl (lv_room (Nat.le_of_ble_eq_true rfl)) dX11_copy_41 ⟨Nat.zero_le _, Nat.zero_le _⟩) (fun H locs hI => ?_)
        cases hf
        exact z_iret hx hb hr hlk hK hG hI dX11_copy_44
      · have hf := ok_t c3 hf
        refine lv_aload_n hx hb dX11_copy_28 rfl (lv_at hl 0 rfl) ?_
        refine z_get (C := RX11) (T := TX11) (N := 9) (ci := 10) (v := .ref (G.1 + 1)) hx hb hts i_X11_copy_10 hown hK hI 0 rfl (by decide) rfl 0 (by decide) (hts (.fieldLink RX11 12 "FenceYards" "rows" "LFenceYards$Rows;") (by decide +kernel)) (fun _ h9 => h9) rfl dX11_copy_29 ?_
        refine lv_iload_n hx hb dX11_copy_32 rfl (lv_at hl 3 rfl) ?_
        obtain ⟨r5, hc5, hf⟩ := ok_1 hf
        refine z_calli0 rfl rfl hI (va_runVN (As := [.int x3]) (rest := []) ⟨hx, hb, hml, hown, hts⟩ (m_X6_isMissing G l  hc5) ⟨va_cnB (host := "FenceYards") 1 hts gX11_copy_X6_isMissing_n69 rfl rfl rfl (hG.1.2.1 ("FenceYards", 69, ⟨"FenceYards$Rows", "isMissing", "(I)Z"⟩) (by decide +kernel)) (hts (.initialized "FenceYards$Rows") (by decide +kernel)) (by decide +kernel) ⟨Nat.le_of_ble_eq_true rfl, Nat.le_of_ble_eq_true rfl⟩, hts (.instanceMethod yX6_isMissing) (by decide +kernel), hts (.selects "FenceYards$Rows" yX6_isMissing yX6_isMissing) (by decide +kernel)⟩ (z_preV hK hG hI (z_rc (q := 1) (ci := 6) (n := 0) hK hI rfl (by decide) rfl)) rfl rfl hl.1 rfl (lv_room (Nat.le_of_ble_eq_true rfl)) dX11_copy_33 ⟨Nat.zero_le _, Nat.zero_le _⟩) (fun H locs hI => ?_)
        refine lv_if_eq (tgt := 45) hx hb dX11_copy_36 (by decide) (fun c4 => ?_) (fun c4 => ?_)
        · have hf := ok_t c4 hf
          refine lv_aload_n hx hb dX11_copy_45 rfl (lv_at hl 0 rfl) ?_
          refine z_get (C := RX11) (T := TX11) (N := 9) (ci := 10) (v := .ref (G.1 + 1)) hx hb hts i_X11_copy_10 hown hK hI 0 rfl (by decide) rfl 0 (by decide) (hts (.fieldLink RX11 12 "FenceYards" "rows" "LFenceYards$Rows;") (by decide +kernel)) (fun _ h9 => h9) rfl dX11_copy_46 ?_
          refine lv_iload_n hx hb dX11_copy_49 rfl (lv_at hl 1 rfl) ?_
          refine lv_iload_n hx hb dX11_copy_50 rfl (lv_at hl 3 rfl) ?_
          obtain ⟨r6, hc6, hf⟩ := ok_1 hf
          refine z_calli0 rfl rfl hI (va_runVN (As := [.int x1, .int x3]) (rest := []) ⟨hx, hb, hml, hown, hts⟩ (m_X6_areOfOneLane G l  hc6) ⟨va_cnB (host := "FenceYards") 2 hts gX11_copy_X6_areOfOneLane_n79 rfl rfl rfl (hG.1.2.1 ("FenceYards", 79, ⟨"FenceYards$Rows", "areOfOneLane", "(II)Z"⟩) (by decide +kernel)) (hts (.initialized "FenceYards$Rows") (by decide +kernel)) (by decide +kernel) ⟨Nat.le_of_ble_eq_true rfl, Nat.le_of_ble_eq_true rfl⟩, hts (.instanceMethod yX6_areOfOneLane) (by decide +kernel), hts (.selects "FenceYards$Rows" yX6_areOfOneLane yX6_areOfOneLane) (by decide +kernel)⟩ (z_preV hK hG hI (z_rc (q := 1) (ci := 6) (n := 0) hK hI rfl (by decide) rfl)) rfl rfl hl.1 rfl (lv_room (Nat.le_of_ble_eq_true rfl)) dX11_copy_51 ⟨Nat.zero_le _, Nat.zero_le _⟩) (fun H locs hI => ?_)
          refine lv_if_ne (tgt := 63) hx hb dX11_copy_54 (by decide) (fun c5 => ?_) (fun c5 => ?_)
          · have hf := ok_f c5 hf
            refine lv_aload_n hx hb dX11_copy_63 rfl (lv_at hl 0 rfl) ?_
            refine z_get (C := RX11) (T := TX11) (N := 9) (ci := 10) (v := .ref (G.1 + 1)) hx hb hts i_X11_copy_10 hown hK hI 0 rfl (by decide) rfl 0 (by decide) (hts (.fieldLink RX11 12 "FenceYards" "rows" "LFenceYards$Rows;") (by decide +kernel)) (fun _ h9 => h9) rfl dX11_copy_64 ?_
            refine lv_iload_n hx hb dX11_copy_67 rfl (lv_at hl 1 rfl) ?_
            refine lv_iload_n hx hb dX11_copy_68 rfl (lv_at hl 2 rfl) ?_
            refine lv_iload hx hb dX11_copy_69 (lv_at hl 5 rfl) ?_
            obtain ⟨r7, hc7, hf⟩ := ok_1 hf
            refine z_calli0 rfl rfl hI (va_runVN (As := [.int x1, .int x2, .int x5]) (rest := []) ⟨hx, hb, hml, hown, hts⟩ (m_X6_holds G l  hc7) ⟨va_cnB (host := "FenceYards") 3 hts gX11_copy_X6_holds_n83 rfl rfl rfl (hG.1.2.1 ("FenceYards", 83, ⟨"FenceYards$Rows", "holds", "(III)Z"⟩) (by decide +kernel)) (hts (.initialized "FenceYards$Rows") (by decide +kernel)) (by decide +kernel) ⟨Nat.le_of_ble_eq_true rfl, Nat.le_of_ble_eq_true rfl⟩, hts (.instanceMethod yX6_holds) (by decide +kernel), hts (.selects "FenceYards$Rows" yX6_holds yX6_holds) (by decide +kernel)⟩ (z_preV hK hG hI (z_rc (q := 1) (ci := 6) (n := 0) hK hI rfl (by decide) rfl)) rfl rfl hl.1 rfl (lv_room (Nat.le_of_ble_eq_true rfl)) dX11_copy_71 ⟨Nat.zero_le _, Nat.zero_le _⟩) (fun H locs hI => ?_)
            refine lv_if_eq (tgt := 92) hx hb dX11_copy_74 (by decide) (fun c6 => ?_) (fun c6 => ?_)
            · have hf := ok_t c6 hf
              refine lv_aload_n hx hb dX11_copy_92 rfl (lv_at hl 0 rfl) ?_
              refine lv_iconst (v := 2) hx hb dX11_copy_93 (by decide) ?_
              obtain ⟨s2, r8, hc8, hf⟩ := ok_2 hf
              refine z_calli0 rfl rfl hI (va_runV (As := [.int 2]) (rest := []) ⟨hx, hb, hml, hown, hts⟩ (m_X11_found G l  hc8) (cwV 1 hts gX11_copy_X11_found rfl rfl rfl (by decide +kernel) ⟨Nat.le_of_ble_eq_true rfl, Nat.le_of_ble_eq_true rfl⟩) (z_preV hK hG hI (z_rc (q := 0) (ci := 10) (n := 0) hK hI rfl (by decide) rfl)) rfl rfl hl.1 rfl (lv_room (Nat.le_of_ble_eq_true rfl)) dX11_copy_94 ⟨Nat.zero_le _, Nat.zero_le _⟩) (fun H locs hI => ?_)
              cases hf
              exact z_iret hx hb hr hlk hK hG hI dX11_copy_97
            · have hf := ok_f c6 hf
              refine lv_aload_n hx hb dX11_copy_77 rfl (lv_at hl 0 rfl) ?_
              refine z_get (C := RX11) (T := TX11) (N := 9) (ci := 10) (v := .ref (G.1 + 1)) hx hb hts i_X11_copy_10 hown hK hI 0 rfl (by decide) rfl 0 (by decide) (hts (.fieldLink RX11 12 "FenceYards" "rows" "LFenceYards$Rows;") (by decide +kernel)) (fun _ h9 => h9) rfl dX11_copy_78 ?_
              refine lv_iload_n hx hb dX11_copy_81 rfl (lv_at hl 3 rfl) ?_
              refine lv_iload hx hb dX11_copy_82 (lv_at hl 4 rfl) ?_
              refine lv_iload hx hb dX11_copy_84 (lv_at hl 5 rfl) ?_
              obtain ⟨r9, hc9, hf⟩ := ok_1 hf
              refine z_calli0 rfl rfl hI (va_runVN (As := [.int x3, .int x4, .int x5]) (rest := []) ⟨hx, hb, hml, hown, hts⟩ (m_X6_holds G l  hc9) ⟨va_cnB (host := "FenceYards") 3 hts gX11_copy_X6_holds_n83 rfl rfl rfl (hG.1.2.1 ("FenceYards", 83, ⟨"FenceYards$Rows", "holds", "(III)Z"⟩) (by decide +kernel)) (hts (.initialized "FenceYards$Rows") (by decide +kernel)) (by decide +kernel) ⟨Nat.le_of_ble_eq_true rfl, Nat.le_of_ble_eq_true rfl⟩, hts (.instanceMethod yX6_holds) (by decide +kernel), hts (.selects "FenceYards$Rows" yX6_holds yX6_holds) (by decide +kernel)⟩ (z_preV hK hG hI (z_rc (q := 1) (ci := 6) (n := 0) hK hI rfl (by decide) rfl)) rfl rfl hl.1 rfl (lv_room (Nat.le_of_ble_eq_true rfl)) dX11_copy_86 ⟨Nat.zero_le _, Nat.zero_le _⟩) (fun H locs hI => ?_)
              refine lv_if_ne (tgt := 98) hx hb dX11_copy_89 (by decide) (fun c7 => ?_) (fun c7 => ?_)
              · have hf := ok_f c7 hf
                refine lv_aload_n hx hb dX11_copy_98 rfl (lv_at hl 0 rfl) ?_
                refine z_get (C := RX11) (T := TX11) (N := 9) (ci := 10) (v := .ref (G.1 + 1)) hx hb hts i_X11_copy_10 hown hK hI 0 rfl (by decide) rfl 0 (by decide) (hts (.fieldLink RX11 12 "FenceYards" "rows" "LFenceYards$Rows;") (by decide +kernel)) (fun _ h9 => h9) rfl dX11_copy_99 ?_
                refine lv_iload_n hx hb dX11_copy_102 rfl (lv_at hl 1 rfl) ?_
                refine lv_iload_n hx hb dX11_copy_103 rfl (lv_at hl 2 rfl) ?_
                refine lv_iload_n hx hb dX11_copy_104 rfl (lv_at hl 3 rfl) ?_
                refine lv_iload hx hb dX11_copy_105 (lv_at hl 4 rfl) ?_
                refine lv_iload hx hb dX11_copy_107 (lv_at hl 5 rfl) ?_
                obtain ⟨s3, hc10, hf⟩ := ok_1 hf
                refine z_callv0 rfl rfl hI (va_runVN (As := [.int x1, .int x2, .int x3, .int x4, .int x5]) (rest := []) ⟨hx, hb, hml, hown, hts⟩ (m_X6_move G l  hc10) ⟨va_cnB (host := "FenceYards") 5 hts gX11_copy_X6_move_n87 rfl rfl rfl (hG.1.2.1 ("FenceYards", 87, ⟨"FenceYards$Rows", "move", "(IIIII)V"⟩) (by decide +kernel)) (hts (.initialized "FenceYards$Rows") (by decide +kernel)) (by decide +kernel) ⟨Nat.le_of_ble_eq_true rfl, Nat.le_of_ble_eq_true rfl⟩, hts (.instanceMethod yX6_move) (by decide +kernel), hts (.selects "FenceYards$Rows" yX6_move yX6_move) (by decide +kernel)⟩ (z_preV hK hG hI (z_rc (q := 1) (ci := 6) (n := 0) hK hI rfl (by decide) rfl)) rfl rfl hl.1 rfl (lv_room (Nat.le_of_ble_eq_true rfl)) dX11_copy_109 ⟨Nat.zero_le _, Nat.zero_le _⟩) (fun H locs hI => ?_)
                refine lv_aload_n hx hb dX11_copy_112 rfl (lv_at hl 0 rfl) ?_
                refine lv_iload hx hb dX11_copy_113 (lv_at hl 5 rfl) ?_
                obtain ⟨s4, r10, hc11, hf⟩ := ok_2 hf
                refine z_calli0 rfl rfl hI (va_runV (As := [.int x5]) (rest := []) ⟨hx, hb, hml, hown, hts⟩ (m_X11_fine G l  hc11) (cwV 1 hts gX11_copy_X11_fine rfl rfl rfl (by decide +kernel) ⟨Nat.le_of_ble_eq_true rfl, Nat.le_of_ble_eq_true rfl⟩) (z_preV hK hG hI (z_rc (q := 0) (ci := 10) (n := 0) hK hI rfl (by decide) rfl)) rfl rfl hl.1 rfl (lv_room (Nat.le_of_ble_eq_true rfl)) dX11_copy_115 ⟨Nat.zero_le _, Nat.zero_le _⟩) (fun H locs hI => ?_)
                cases hf
                exact z_iret hx hb hr hlk hK hG hI dX11_copy_118
              · have hf := ok_t c7 hf
                refine lv_aload_n hx hb dX11_copy_92 rfl (lv_at hl 0 rfl) ?_
                refine lv_iconst (v := 2) hx hb dX11_copy_93 (by decide) ?_
                obtain ⟨s5, r11, hc12, hf⟩ := ok_2 hf
                refine z_calli0 rfl rfl hI (va_runV (As := [.int 2]) (rest := []) ⟨hx, hb, hml, hown, hts⟩ (m_X11_found G l  hc12) (cwV 1 hts gX11_copy_X11_found rfl rfl rfl (by decide +kernel) ⟨Nat.le_of_ble_eq_true rfl, Nat.le_of_ble_eq_true rfl⟩) (z_preV hK hG hI (z_rc (q := 0) (ci := 10) (n := 0) hK hI rfl (by decide) rfl)) rfl rfl hl.1 rfl (lv_room (Nat.le_of_ble_eq_true rfl)) dX11_copy_94 ⟨Nat.zero_le _, Nat.zero_le _⟩) (fun H locs hI => ?_)
                cases hf
                exact z_iret hx hb hr hlk hK hG hI dX11_copy_97
          · have hf := ok_t c5 hf
            refine lv_aload_n hx hb dX11_copy_57 rfl (lv_at hl 0 rfl) ?_
            refine lv_iconst (v := 5) hx hb dX11_copy_58 (by decide) ?_
            obtain ⟨s6, r12, hc13, hf⟩ := ok_2 hf
            refine z_calli0 rfl rfl hI (va_runV (As := [.int 5]) (rest := []) ⟨hx, hb, hml, hown, hts⟩ (m_X11_found G l  hc13) (cwV 1 hts gX11_copy_X11_found rfl rfl rfl (by decide +kernel) ⟨Nat.le_of_ble_eq_true rfl, Nat.le_of_ble_eq_true rfl⟩) (z_preV hK hG hI (z_rc (q := 0) (ci := 10) (n := 0) hK hI rfl (by decide) rfl)) rfl rfl hl.1 rfl (lv_room (Nat.le_of_ble_eq_true rfl)) dX11_copy_59 ⟨Nat.zero_le _, Nat.zero_le _⟩) (fun H locs hI => ?_)
            cases hf
            exact z_iret hx hb hr hlk hK hG hI dX11_copy_62
        · have hf := ok_f c4 hf
          refine lv_aload_n hx hb dX11_copy_39 rfl (lv_at hl 0 rfl) ?_
          refine lv_iconst (v := 1) hx hb dX11_copy_40 (by decide) ?_
          obtain ⟨s7, r13, hc14, hf⟩ := ok_2 hf
          refine z_calli0 rfl rfl hI (va_runV (As := [.int 1]) (rest := []) ⟨hx, hb, hml, hown, hts⟩ (m_X11_found G l  hc14) (cwV 1 hts gX11_copy_X11_found rfl rfl rfl (by decide +kernel) ⟨Nat.le_of_ble_eq_true rfl, Nat.le_of_ble_eq_true rfl⟩) (z_preV hK hG hI (z_rc (q := 0) (ci := 10) (n := 0) hK hI rfl (by decide) rfl)) rfl rfl hl.1 rfl (lv_room (Nat.le_of_ble_eq_true rfl)) dX11_copy_41 ⟨Nat.zero_le _, Nat.zero_le _⟩) (fun H locs hI => ?_)
          cases hf
          exact z_iret hx hb hr hlk hK hG hI dX11_copy_44
    · have hf := ok_t c2 hf
      refine lv_ldc (v := (-1000001)) hx hb hown (hts (.constant RX11 57 (-1000001)) (by decide +kernel)) dX11_copy_14 ?_
      cases hf
      exact z_iret hx hb hr hlk hK hG hI dX11_copy_16

-- ===== FenceYards.drop(I)I
set_option maxRecDepth 100000 in
theorem i_X11_drop_10 : ∀ w ∈ u_ws RX11 TX11 9, w ∈ wsX11_drop := by decide +kernel
def f_X11_drop (σ : Hp) (x1 : Int32) : Option (Hp × Int32) :=
  bd1 (f_X11_isRow σ x1) fun r1 => if r1 = 0 then (some (σ, (-1000001))) else (bd1 (f_X6_isMissing σ x1) fun r2 => if r2 = 0 then (bd2 (f_X6_remove σ x1) fun s1 r3 => bd2 (f_X11_fine s1 r3) fun s2 r4 => some (s2, r4)) else (bd2 (f_X11_found σ 1) fun s3 r5 => some (s3, r5)))
set_option maxRecDepth 100000 in
set_option maxHeartbeats 4000000 in
theorem m_X11_drop (G : GT) (l : Launch) {σ : Hp} {x1 : Int32} {σ' : Hp} {r : Int32}  (hf : f_X11_drop σ x1 = some (σ', r)) : MetG G l yX11_drop wsX11_drop (rmk 1 22) σ [.ref (G.1 + 0), .int x1] (QI G σ' r) := by
  refine met_of (cc := cX11_drop) (nL := 2) (ret := (some .int)) (by decide) rfl (Nat.le_of_ble_eq_true rfl) ?_
  intro p e s m below meth c C0 hnm hI ls hl
  obtain ⟨hx, hb, hr, hml, hown, hts, hlk, hK, hG⟩ := id C0
  have hl : lv_has ls 2 [(0, .ref (G.1 + 0)), (1, .int x1)] := hl
  unfold f_X11_drop at hf
  refine lv_iload_n hx hb dX11_drop_0 rfl (lv_at hl 1 rfl) ?_
  obtain ⟨r1, hc1, hf⟩ := ok_1 hf
  refine z_calli0 rfl rfl hI (va_runS (As := [.int x1]) (rest := []) ⟨hx, hb, hml, hown, hts⟩ (m_X11_isRow G l  hc1) (va_cwS 1 hts gX11_drop_X11_isRow rfl rfl rfl (by decide +kernel) ⟨Nat.le_of_ble_eq_true rfl, Nat.le_of_ble_eq_true rfl⟩) (z_pre hK hG hI) rfl rfl hl.1 rfl (lv_room (Nat.le_of_ble_eq_true rfl)) dX11_drop_1 ⟨Nat.zero_le _, Nat.zero_le _⟩) (fun H locs hI => ?_)
  refine lv_if_ne (tgt := 10) hx hb dX11_drop_4 (by decide) (fun c1 => ?_) (fun c1 => ?_)
  · have hf := ok_f c1 hf
    refine lv_aload_n hx hb dX11_drop_10 rfl (lv_at hl 0 rfl) ?_
    refine z_get (C := RX11) (T := TX11) (N := 9) (ci := 10) (v := .ref (G.1 + 1)) hx hb hts i_X11_drop_10 hown hK hI 0 rfl (by decide) rfl 0 (by decide) (hts (.fieldLink RX11 12 "FenceYards" "rows" "LFenceYards$Rows;") (by decide +kernel)) (fun _ h9 => h9) rfl dX11_drop_11 ?_
    refine lv_iload_n hx hb dX11_drop_14 rfl (lv_at hl 1 rfl) ?_
    obtain ⟨r2, hc2, hf⟩ := ok_1 hf
    refine z_calli0 rfl rfl hI (va_runVN (As := [.int x1]) (rest := []) ⟨hx, hb, hml, hown, hts⟩ (m_X6_isMissing G l  hc2) ⟨va_cnB (host := "FenceYards") 1 hts gX11_drop_X6_isMissing_n69 rfl rfl rfl (hG.1.2.1 ("FenceYards", 69, ⟨"FenceYards$Rows", "isMissing", "(I)Z"⟩) (by decide +kernel)) (hts (.initialized "FenceYards$Rows") (by decide +kernel)) (by decide +kernel) ⟨Nat.le_of_ble_eq_true rfl, Nat.le_of_ble_eq_true rfl⟩, hts (.instanceMethod yX6_isMissing) (by decide +kernel), hts (.selects "FenceYards$Rows" yX6_isMissing yX6_isMissing) (by decide +kernel)⟩ (z_preV hK hG hI (z_rc (q := 1) (ci := 6) (n := 0) hK hI rfl (by decide) rfl)) rfl rfl hl.1 rfl (lv_room (Nat.le_of_ble_eq_true rfl)) dX11_drop_15 ⟨Nat.zero_le _, Nat.zero_le _⟩) (fun H locs hI => ?_)
    refine lv_if_eq (tgt := 27) hx hb dX11_drop_18 (by decide) (fun c2 => ?_) (fun c2 => ?_)
    · have hf := ok_t c2 hf
      refine lv_aload_n hx hb dX11_drop_27 rfl (lv_at hl 0 rfl) ?_
      refine lv_aload_n hx hb dX11_drop_28 rfl (lv_at hl 0 rfl) ?_
      refine z_get (C := RX11) (T := TX11) (N := 9) (ci := 10) (v := .ref (G.1 + 1)) hx hb hts i_X11_drop_10 hown hK hI 0 rfl (by decide) rfl 0 (by decide) (hts (.fieldLink RX11 12 "FenceYards" "rows" "LFenceYards$Rows;") (by decide +kernel)) (fun _ h9 => h9) rfl dX11_drop_29 ?_
      refine lv_iload_n hx hb dX11_drop_32 rfl (lv_at hl 1 rfl) ?_
      obtain ⟨s1, r3, hc3, hf⟩ := ok_2 hf
      refine z_calli0 rfl rfl hI (va_runVN (As := [.int x1]) (rest := [.ref (G.1 + 0)]) ⟨hx, hb, hml, hown, hts⟩ (m_X6_remove G l  hc3) ⟨va_cnB (host := "FenceYards") 1 hts gX11_drop_X6_remove_n91 rfl rfl rfl (hG.1.2.1 ("FenceYards", 91, ⟨"FenceYards$Rows", "remove", "(I)I"⟩) (by decide +kernel)) (hts (.initialized "FenceYards$Rows") (by decide +kernel)) (by decide +kernel) ⟨Nat.le_of_ble_eq_true rfl, Nat.le_of_ble_eq_true rfl⟩, hts (.instanceMethod yX6_remove) (by decide +kernel), hts (.selects "FenceYards$Rows" yX6_remove yX6_remove) (by decide +kernel)⟩ (z_preV hK hG hI (z_rc (q := 1) (ci := 6) (n := 0) hK hI rfl (by decide) rfl)) rfl rfl hl.1 rfl (lv_room (Nat.le_of_ble_eq_true rfl)) dX11_drop_33 ⟨Nat.zero_le _, Nat.zero_le _⟩) (fun H locs hI => ?_)
      obtain ⟨s2, r4, hc4, hf⟩ := ok_2 hf
      refine z_calli0 rfl rfl hI (va_runV (As := [.int r3]) (rest := []) ⟨hx, hb, hml, hown, hts⟩ (m_X11_fine G l  hc4) (cwV 1 hts gX11_drop_X11_fine rfl rfl rfl (by decide +kernel) ⟨Nat.le_of_ble_eq_true rfl, Nat.le_of_ble_eq_true rfl⟩) (z_preV hK hG hI (z_rc (q := 0) (ci := 10) (n := 0) hK hI rfl (by decide) rfl)) rfl rfl hl.1 rfl (lv_room (Nat.le_of_ble_eq_true rfl)) dX11_drop_36 ⟨Nat.zero_le _, Nat.zero_le _⟩) (fun H locs hI => ?_)
      cases hf
      exact z_iret hx hb hr hlk hK hG hI dX11_drop_39
    · have hf := ok_f c2 hf
      refine lv_aload_n hx hb dX11_drop_21 rfl (lv_at hl 0 rfl) ?_
      refine lv_iconst (v := 1) hx hb dX11_drop_22 (by decide) ?_
      obtain ⟨s3, r5, hc5, hf⟩ := ok_2 hf
      refine z_calli0 rfl rfl hI (va_runV (As := [.int 1]) (rest := []) ⟨hx, hb, hml, hown, hts⟩ (m_X11_found G l  hc5) (cwV 1 hts gX11_drop_X11_found rfl rfl rfl (by decide +kernel) ⟨Nat.le_of_ble_eq_true rfl, Nat.le_of_ble_eq_true rfl⟩) (z_preV hK hG hI (z_rc (q := 0) (ci := 10) (n := 0) hK hI rfl (by decide) rfl)) rfl rfl hl.1 rfl (lv_room (Nat.le_of_ble_eq_true rfl)) dX11_drop_23 ⟨Nat.zero_le _, Nat.zero_le _⟩) (fun H locs hI => ?_)
      cases hf
      exact z_iret hx hb hr hlk hK hG hI dX11_drop_26
  · have hf := ok_t c1 hf
    refine lv_ldc (v := (-1000001)) hx hb hown (hts (.constant RX11 57 (-1000001)) (by decide +kernel)) dX11_drop_7 ?_
    cases hf
    exact z_iret hx hb hr hlk hK hG hI dX11_drop_9

-- ===== FenceYards.feed(JI)I
set_option maxRecDepth 100000 in
theorem i_X11_feed_5 : ∀ w ∈ u_ws RX5 TX5 8, w ∈ wsX11_feed := by decide +kernel
set_option maxRecDepth 100000 in
theorem i_X11_feed_10 : ∀ w ∈ u_ws RX11 TX11 9, w ∈ wsX11_feed := by decide +kernel
def f_X11_feed (σ : Hp) (y1 : Int64) (x3 : Int32) : Option (Hp × Int32) :=
  if x3 < 1 then (some (σ, (-1000001))) else (if x3 ≤ 8 then (if ((gI σ 13 1) + x3) ≤ 400 then (bd1 (f_X5_append σ y1 x3) fun s1 => some (s1, gI s1 13 1)) else (some (σ, (-1000003)))) else (some (σ, (-1000001))))
set_option maxRecDepth 100000 in
set_option maxHeartbeats 4000000 in
theorem m_X11_feed (G : GT) (l : Launch) {σ : Hp} {y1 : Int64} {x3 : Int32} {σ' : Hp} {r : Int32}  (hf : f_X11_feed σ y1 x3 = some (σ', r)) : MetG G l yX11_feed wsX11_feed (rmk 1 24) σ [.ref (G.1 + 0), .long y1, .int x3] (QI G σ' r) := by
  refine met_of (cc := cX11_feed) (nL := 4) (ret := (some .int)) (by decide) rfl (Nat.le_of_ble_eq_true rfl) ?_
  intro p e s m below meth c C0 hnm hI ls hl
  obtain ⟨hx, hb, hr, hml, hown, hts, hlk, hK, hG⟩ := id C0
  have hl : lv_has ls 4 [(0, .ref (G.1 + 0)), (1, .long y1), (3, .int x3)] := hl
  unfold f_X11_feed at hf
  refine lv_iload_n hx hb dX11_feed_0 rfl (lv_at hl 2 rfl) ?_
  refine lv_iconst (v := 1) hx hb dX11_feed_1 (by decide) ?_
  refine lv_icmp_lt (tgt := 11) hx hb dX11_feed_2 (by decide) (fun c1 => ?_) (fun c1 => ?_)
  · have hf := ok_t c1 hf
    refine lv_ldc (v := (-1000001)) hx hb hown (hts (.constant RX11 57 (-1000001)) (by decide +kernel)) dX11_feed_11 ?_
    cases hf
    exact z_iret hx hb hr hlk hK hG hI dX11_feed_13
  · have hf := ok_f c1 hf
    refine lv_iload_n hx hb dX11_feed_5 rfl (lv_at hl 2 rfl) ?_
    refine lv_bipush (v := 8) hx hb dX11_feed_6 (by decide) ?_
    refine lv_icmp_le (tgt := 14) hx hb dX11_feed_8 (by decide) (fun c2 => ?_) (fun c2 => ?_)
    · have hf := ok_t c2 hf
      refine lv_aload_n hx hb dX11_feed_14 rfl (lv_at hl 0 rfl) ?_
      refine z_get (C := RX11) (T := TX11) (N := 9) (ci := 10) (v := .ref (G.1 + 13)) hx hb hts i_X11_feed_10 hown hK hI 0 rfl (by decide) rfl 1 (by decide) (hts (.fieldLink RX11 19 "FenceYards" "reader" "LFenceYards$Reader;") (by decide +kernel)) (fun _ h9 => h9) rfl dX11_feed_15 ?_
      refine z_getN (C := RX5) (T := TX5) (N := 8) (ci := 5) (v := .int (gI σ 13 1)) hx hb hts i_X11_feed_5 hown hK hI 13 rfl (by decide) rfl 1 (by decide) (hG.1.1 ("FenceYards", 94, "FenceYards$Reader", "size", "I") (by decide +kernel)) (fun _ h9 => h9) rfl dX11_feed_18 ?_
      refine lv_iload_n hx hb dX11_feed_21 rfl (lv_at hl 2 rfl) ?_
      refine lv_iadd hx hb dX11_feed_22 ?_
      refine lv_sipush (v := 400) hx hb dX11_feed_23 (by decide) ?_
      refine lv_icmp_le (tgt := 32) hx hb dX11_feed_26 (by decide) (fun c3 => ?_) (fun c3 => ?_)
      · have hf := ok_t c3 hf
        refine lv_aload_n hx hb dX11_feed_32 rfl (lv_at hl 0 rfl) ?_
        refine z_get (C := RX11) (T := TX11) (N := 9) (ci := 10) (v := .ref (G.1 + 13)) hx hb hts i_X11_feed_10 hown hK hI 0 rfl (by decide) rfl 1 (by decide) (hts (.fieldLink RX11 19 "FenceYards" "reader" "LFenceYards$Reader;") (by decide +kernel)) (fun _ h9 => h9) rfl dX11_feed_33 ?_
        refine lv_lload_n hx hb dX11_feed_36 rfl (lv_at hl 1 rfl) ?_
        refine lv_iload_n hx hb dX11_feed_37 rfl (lv_at hl 2 rfl) ?_
        obtain ⟨s1, hc1, hf⟩ := ok_1 hf
        refine z_callv0 rfl rfl hI (va_runVN (As := [.long y1, .int x3]) (rest := []) ⟨hx, hb, hml, hown, hts⟩ (m_X5_append G l  hc1) ⟨va_cnB (host := "FenceYards") 2 hts gX11_feed_X5_append_n99 rfl rfl rfl (hG.1.2.1 ("FenceYards", 99, ⟨"FenceYards$Reader", "append", "(JI)V"⟩) (by decide +kernel)) (hts (.initialized "FenceYards$Reader") (by decide +kernel)) (by decide +kernel) ⟨Nat.le_of_ble_eq_true rfl, Nat.le_of_ble_eq_true rfl⟩, hts (.instanceMethod yX5_append) (by decide +kernel), hts (.selects "FenceYards$Reader" yX5_append yX5_append) (by decide +kernel)⟩ (z_preV hK hG hI (z_rc (q := 13) (ci := 5) (n := 0) hK hI rfl (by decide) rfl)) rfl rfl hl.1 rfl (lv_room (Nat.le_of_ble_eq_true rfl)) dX11_feed_38 ⟨Nat.zero_le _, Nat.zero_le _⟩) (fun H locs hI => ?_)
        refine lv_aload_n hx hb dX11_feed_41 rfl (lv_at hl 0 rfl) ?_
        refine z_get (C := RX11) (T := TX11) (N := 9) (ci := 10) (v := .ref (G.1 + 13)) hx hb hts i_X11_feed_10 hown hK hI 0 rfl (by decide) rfl 1 (by decide) (hts (.fieldLink RX11 19 "FenceYards" "reader" "LFenceYards$Reader;") (by decide +kernel)) (fun _ h9 => h9) rfl dX11_feed_42 ?_
        refine z_getN (C := RX5) (T := TX5) (N := 8) (ci := 5) (v := .int (gI s1 13 1)) hx hb hts i_X11_feed_5 hown hK hI 13 rfl (by decide) rfl 1 (by decide) (hG.1.1 ("FenceYards", 94, "FenceYards$Reader", "size", "I") (by decide +kernel)) (fun _ h9 => h9) rfl dX11_feed_45 ?_
        cases hf
        exact z_iret hx hb hr hlk hK hG hI dX11_feed_48
      · have hf := ok_f c3 hf
        refine lv_ldc (v := (-1000003)) hx hb hown (hts (.constant RX11 98 (-1000003)) (by decide +kernel)) dX11_feed_29 ?_
        cases hf
        exact z_iret hx hb hr hlk hK hG hI dX11_feed_31
    · have hf := ok_f c2 hf
      refine lv_ldc (v := (-1000001)) hx hb hown (hts (.constant RX11 57 (-1000001)) (by decide +kernel)) dX11_feed_11 ?_
      cases hf
      exact z_iret hx hb hr hlk hK hG hI dX11_feed_13

-- ===== FenceYards.fault()I
set_option maxRecDepth 100000 in
theorem i_X11_fault_5 : ∀ w ∈ u_ws RX5 TX5 8, w ∈ wsX11_fault := by decide +kernel
set_option maxRecDepth 100000 in
theorem i_X11_fault_10 : ∀ w ∈ u_ws RX11 TX11 9, w ∈ wsX11_fault := by decide +kernel
def f_X11_fault (σ : Hp)  : Option (Int32) :=
  some (gI σ 13 6)
set_option maxRecDepth 100000 in
set_option maxHeartbeats 4000000 in
theorem m_X11_fault (G : GT) (l : Launch) {σ : Hp}  {r : Int32}  (hf : f_X11_fault σ = some r) : MetG G l yX11_fault wsX11_fault (rmk 0 0) σ [.ref (G.1 + 0)] (QI G σ r) := by
  refine met_of (cc := cX11_fault) (nL := 1) (ret := (some .int)) (by decide) rfl (Nat.le_of_ble_eq_true rfl) ?_
  intro p e s m below meth c C0 hnm hI ls hl
  obtain ⟨hx, hb, hr, hml, hown, hts, hlk, hK, hG⟩ := id C0
  have hl : lv_has ls 1 [(0, .ref (G.1 + 0))] := hl
  unfold f_X11_fault at hf
  refine lv_aload_n hx hb dX11_fault_0 rfl (lv_at hl 0 rfl) ?_
  refine z_get (C := RX11) (T := TX11) (N := 9) (ci := 10) (v := .ref (G.1 + 13)) hx hb hts i_X11_fault_10 hown hK hI 0 rfl (by decide) rfl 1 (by decide) (hts (.fieldLink RX11 19 "FenceYards" "reader" "LFenceYards$Reader;") (by decide +kernel)) (fun _ h9 => h9) rfl dX11_fault_1 ?_
  refine z_getN (C := RX5) (T := TX5) (N := 8) (ci := 5) (v := .int (gI σ 13 6)) hx hb hts i_X11_fault_5 hown hK hI 13 rfl (by decide) rfl 6 (by decide) (hG.1.1 ("FenceYards", 114, "FenceYards$Reader", "faultNumber", "I") (by decide +kernel)) (fun _ h9 => h9) rfl dX11_fault_4 ?_
  cases hf
  exact z_iret hx hb hr hlk hK hG hI dX11_fault_7

-- ===== FenceYards.day(II)I
set_option maxRecDepth 100000 in
theorem i_X11_day_4 : ∀ w ∈ u_ws RX4 TX4 11, w ∈ wsX11_day := by decide +kernel
set_option maxRecDepth 100000 in
theorem i_X11_day_10 : ∀ w ∈ u_ws RX11 TX11 9, w ∈ wsX11_day := by decide +kernel
def f_X11_day (σ : Hp) (x1 : Int32) (x2 : Int32) : Option (Hp × Int32) :=
  if (gI σ (lnd σ) 5) = 0 then (some (σ, (-1000002))) else (bd1 (f_X11_isMove σ x1) fun r1 => if r1 = 0 then (some (σ, (-1000001))) else (bd1 (f_X11_isMove σ x2) fun r2 => if r2 = 0 then (some (σ, (-1000001))) else (bd1 (f_X4_endOn σ (lnd σ) 0) fun r3 => bnd (r3 + x1) fun v1 => bd1 (f_X4_endOn σ (lnd σ) 1) fun r4 => bnd (r4 + x2) fun v2 => if 12 ≤ (gI σ (lnd σ) 10) then (some (σ, (-1000002))) else (bd1 (f_X4_isOpen σ (lnd σ) 0 v1) fun r5 => if r5 = 0 then (some (σ, (-1000002))) else (bd1 (f_X4_isOpen σ (lnd σ) 1 v2) fun r6 => if r6 = 0 then (some (σ, (-1000002))) else (bd1 (f_X8_gather σ (lnd σ) (gI σ (lnd σ) 10)) fun s1 => bd1 (f_X8_leftReaps s1 v1 v2) fun r7 => bd1 (f_X8_allReaps s1) fun r8 => bd1 (f_X4_passDay s1 (lnd s1) v1 v2 r7 (r8 - r7)) fun s2 => some (s2, (13 * v1) + v2)))))))
set_option maxRecDepth 100000 in
set_option maxHeartbeats 4000000 in
theorem m_X11_day (G : GT) (l : Launch) {σ : Hp} {x1 : Int32} {x2 : Int32} {σ' : Hp} {r : Int32}  (hf : f_X11_day σ x1 x2 = some (σ', r)) : MetG G l yX11_day wsX11_day (rmk 3 74) σ [.ref (G.1 + 0), .int x1, .int x2] (QI G σ' r) := by
  refine met_of (cc := cX11_day) (nL := 6) (ret := (some .int)) (by decide) rfl (Nat.le_of_ble_eq_true rfl) ?_
  intro p e s m below meth c C0 hnm hI ls hl
  obtain ⟨hx, hb, hr, hml, hown, hts, hlk, hK, hG⟩ := id C0
  have hl : lv_has ls 6 [(0, .ref (G.1 + 0)), (1, .int x1), (2, .int x2)] := hl
  unfold f_X11_day at hf
  refine lv_aload_n hx hb dX11_day_0 rfl (lv_at hl 0 rfl) ?_
  have hg1 : isG (lnd σ) := hI.2.2.2.2.1
  refine z_get (C := RX11) (T := TX11) (N := 9) (ci := 10) (v := .ref (G.1 + (lnd σ))) hx hb hts i_X11_day_10 hown hK hI 0 rfl (by decide) rfl 6 (by decide) (hts (.fieldLink RX11 47 "FenceYards" "land" "LFenceYards$Ground;") (by decide +kernel)) (fun _ h9 => h9) rfl dX11_day_1 ?_
  refine z_getN (C := RX4) (T := TX4) (N := 11) (ci := 4) (v := .int (gI σ (lnd σ) 5)) hx hb hts i_X11_day_4 hown hK hI (lnd σ) (kd_G hg1) (by decide) rfl 5 (by decide) (hG.1.1 ("FenceYards", 117, "FenceYards$Ground", "stands", "Z") (by decide +kernel)) (fun _ h9 => h9) rfl dX11_day_4 ?_
  refine lv_if_ne (tgt := 13) hx hb dX11_day_7 (by decide) (fun c1 => ?_) (fun c1 => ?_)
  · have hf := ok_f c1 hf
    refine lv_iload_n hx hb dX11_day_13 rfl (lv_at hl 1 rfl) ?_
    obtain ⟨r1, hc1, hf⟩ := ok_1 hf
    refine z_calli0 rfl rfl hI (va_runS (As := [.int x1]) (rest := []) ⟨hx, hb, hml, hown, hts⟩ (m_X11_isMove G l  hc1) (va_cwS 1 hts gX11_day_X11_isMove rfl rfl rfl (by decide +kernel) ⟨Nat.le_of_ble_eq_true rfl, Nat.le_of_ble_eq_true rfl⟩) (z_pre hK hG hI) rfl rfl hl.1 rfl (lv_room (Nat.le_of_ble_eq_true rfl)) dX11_day_14 ⟨Nat.zero_le _, Nat.zero_le _⟩) (fun H locs hI => ?_)
    refine lv_if_eq (tgt := 27) hx hb dX11_day_17 (by decide) (fun c2 => ?_) (fun c2 => ?_)
    · have hf := ok_t c2 hf
      refine lv_ldc (v := (-1000001)) hx hb hown (hts (.constant RX11 57 (-1000001)) (by decide +kernel)) dX11_day_27 ?_
      cases hf
      exact z_iret hx hb hr hlk hK hG hI dX11_day_29
    · have hf := ok_f c2 hf
      refine lv_iload_n hx hb dX11_day_20 rfl (lv_at hl 2 rfl) ?_
      obtain ⟨r2, hc2, hf⟩ := ok_1 hf
      refine z_calli0 rfl rfl hI (va_runS (As := [.int x2]) (rest := []) ⟨hx, hb, hml, hown, hts⟩ (m_X11_isMove G l  hc2) (va_cwS 1 hts gX11_day_X11_isMove rfl rfl rfl (by decide +kernel) ⟨Nat.le_of_ble_eq_true rfl, Nat.le_of_ble_eq_true rfl⟩) (z_pre hK hG hI) rfl rfl hl.1 rfl (lv_room (Nat.le_of_ble_eq_true rfl)) dX11_day_21 ⟨Nat.zero_le _, Nat.zero_le _⟩) (fun H locs hI => ?_)
      refine lv_if_ne (tgt := 30) hx hb dX11_day_24 (by decide) (fun c3 => ?_) (fun c3 => ?_)
      · have hf := ok_f c3 hf
        refine lv_aload_n hx hb dX11_day_30 rfl (lv_at hl 0 rfl) ?_
        have hg2 : isG (lnd σ) := hI.2.2.2.2.1
        refine z_get (C := RX11) (T := TX11) (N := 9) (ci := 10) (v := .ref (G.1 + (lnd σ))) hx hb hts i_X11_day_10 hown hK hI 0 rfl (by decide) rfl 6 (by decide) (hts (.fieldLink RX11 47 "FenceYards" "land" "LFenceYards$Ground;") (by decide +kernel)) (fun _ h9 => h9) rfl dX11_day_31 ?_
        refine lv_iconst (v := 0) hx hb dX11_day_34 (by decide) ?_
        obtain ⟨r3, hc3, hf⟩ := ok_1 hf
        refine z_calli0 rfl rfl hI (va_runVN (As := [.int 0]) (rest := []) ⟨hx, hb, hml, hown, hts⟩ (m_X4_endOn G l hg2 hc3) ⟨va_cnB (host := "FenceYards") 1 hts gX11_day_X4_endOn_n125 rfl rfl rfl (hG.1.2.1 ("FenceYards", 125, ⟨"FenceYards$Ground", "endOn", "(I)I"⟩) (by decide +kernel)) (hts (.initialized "FenceYards$Ground") (by decide +kernel)) (by decide +kernel) ⟨Nat.le_of_ble_eq_true rfl, Nat.le_of_ble_eq_true rfl⟩, hts (.instanceMethod yX4_endOn) (by decide +kernel), hts (.selects "FenceYards$Ground" yX4_endOn yX4_endOn) (by decide +kernel)⟩ (z_preV hK hG hI (z_rc (q := lnd σ) (ci := 4) (n := 0) hK hI (kd_G hg2) (by decide) rfl)) rfl rfl hl.1 rfl (lv_room (Nat.le_of_ble_eq_true rfl)) dX11_day_35 ⟨Nat.zero_le _, Nat.zero_le _⟩) (fun H locs hI => ?_)
        refine lv_iload_n hx hb dX11_day_38 rfl (lv_at hl 1 rfl) ?_
        refine lv_iadd hx hb dX11_day_39 ?_
        refine lv_topi (fun v1 ev1 => ?_)
        have hf := ok_n hf ev1
        refine lv_istore_n (lv' := [(3, .int v1), (0, .ref (G.1 + 0)), (1, .int x1), (2, .int x2)]) hx hb dX11_day_40 rfl hl (by decide) rfl (fun ls hl => ?_)
        refine lv_aload_n hx hb dX11_day_41 rfl (lv_at hl 1 rfl) ?_
        have hg3 : isG (lnd σ) := hI.2.2.2.2.1
        refine z_get (C := RX11) (T := TX11) (N := 9) (ci := 10) (v := .ref (G.1 + (lnd σ))) hx hb hts i_X11_day_10 hown hK hI 0 rfl (by decide) rfl 6 (by decide) (hts (.fieldLink RX11 47 "FenceYards" "land" "LFenceYards$Ground;") (by decide +kernel)) (fun _ h9 => h9) rfl dX11_day_42 ?_
        refine lv_iconst (v := 1) hx hb dX11_day_45 (by decide) ?_
        obtain ⟨r4, hc4, hf⟩ := ok_1 hf
        refine z_calli0 rfl rfl hI (va_runVN (As := [.int 1]) (rest := []) ⟨hx, hb, hml, hown, hts⟩ (m_X4_endOn G l hg3 hc4) ⟨va_cnB (host := "FenceYards") 1 hts gX11_day_X4_endOn_n125 rfl rfl rfl (hG.1.2.1 ("FenceYards", 125, ⟨"FenceYards$Ground", "endOn", "(I)I"⟩) (by decide +kernel)) (hts (.initialized "FenceYards$Ground") (by decide +kernel)) (by decide +kernel) ⟨Nat.le_of_ble_eq_true rfl, Nat.le_of_ble_eq_true rfl⟩, hts (.instanceMethod yX4_endOn) (by decide +kernel), hts (.selects "FenceYards$Ground" yX4_endOn yX4_endOn) (by decide +kernel)⟩ (z_preV hK hG hI (z_rc (q := lnd σ) (ci := 4) (n := 0) hK hI (kd_G hg3) (by decide) rfl)) rfl rfl hl.1 rfl (lv_room (Nat.le_of_ble_eq_true rfl)) dX11_day_46 ⟨Nat.zero_le _, Nat.zero_le _⟩) (fun H locs hI => ?_)
        refine lv_iload_n hx hb dX11_day_49 rfl (lv_at hl 3 rfl) ?_
        refine lv_iadd hx hb dX11_day_50 ?_
        refine lv_topi (fun v2 ev2 => ?_)
        have hf := ok_n hf ev2
        refine lv_istore (lv' := [(4, .int v2), (3, .int v1), (0, .ref (G.1 + 0)), (1, .int x1), (2, .int x2)]) hx hb dX11_day_51 hl (by decide) rfl (fun ls hl => ?_)
        refine lv_aload_n hx hb dX11_day_53 rfl (lv_at hl 2 rfl) ?_
        have hg4 : isG (lnd σ) := hI.2.2.2.2.1
        refine z_get (C := RX11) (T := TX11) (N := 9) (ci := 10) (v := .ref (G.1 + (lnd σ))) hx hb hts i_X11_day_10 hown hK hI 0 rfl (by decide) rfl 6 (by decide) (hts (.fieldLink RX11 47 "FenceYards" "land" "LFenceYards$Ground;") (by decide +kernel)) (fun _ h9 => h9) rfl dX11_day_54 ?_
        refine z_getN (C := RX4) (T := TX4) (N := 11) (ci := 4) (v := .int (gI σ (lnd σ) 10)) hx hb hts i_X11_day_4 hown hK hI (lnd σ) (kd_G hg4) (by decide) rfl 10 (by decide) (hG.1.1 ("FenceYards", 128, "FenceYards$Ground", "today", "I") (by decide +kernel)) (fun _ h9 => h9) rfl dX11_day_57 ?_
        refine lv_bipush (v := 12) hx hb dX11_day_60 (by decide) ?_
        refine lv_icmp_ge (tgt := 90) hx hb dX11_day_62 (by decide) (fun c4 => ?_) (fun c4 => ?_)
        · have hf := ok_t c4 hf
          refine lv_ldc (v := (-1000002)) hx hb hown (hts (.constant RX11 121 (-1000002)) (by decide +kernel)) dX11_day_90 ?_
          cases hf
          exact z_iret hx hb hr hlk hK hG hI dX11_day_92
        · have hf := ok_f c4 hf
          refine lv_aload_n hx hb dX11_day_65 rfl (lv_at hl 2 rfl) ?_
          have hg5 : isG (lnd σ) := hI.2.2.2.2.1
          refine z_get (C := RX11) (T := TX11) (N := 9) (ci := 10) (v := .ref (G.1 + (lnd σ))) hx hb hts i_X11_day_10 hown hK hI 0 rfl (by decide) rfl 6 (by decide) (hts (.fieldLink RX11 47 "FenceYards" "land" "LFenceYards$Ground;") (by decide +kernel)) (fun _ h9 => h9) rfl dX11_day_66 ?_
          refine lv_iconst (v := 0) hx hb dX11_day_69 (by decide) ?_
          refine lv_iload_n hx hb dX11_day_70 rfl (lv_at hl 1 rfl) ?_
          obtain ⟨r5, hc5, hf⟩ := ok_1 hf
          refine z_calli0 rfl rfl hI (va_runVN (As := [.int 0, .int v1]) (rest := []) ⟨hx, hb, hml, hown, hts⟩ (m_X4_isOpen G l hg5 hc5) ⟨va_cnB (host := "FenceYards") 2 hts gX11_day_X4_isOpen_n131 rfl rfl rfl (hG.1.2.1 ("FenceYards", 131, ⟨"FenceYards$Ground", "isOpen", "(II)Z"⟩) (by decide +kernel)) (hts (.initialized "FenceYards$Ground") (by decide +kernel)) (by decide +kernel) ⟨Nat.le_of_ble_eq_true rfl, Nat.le_of_ble_eq_true rfl⟩, hts (.instanceMethod yX4_isOpen) (by decide +kernel), hts (.selects "FenceYards$Ground" yX4_isOpen yX4_isOpen) (by decide +kernel)⟩ (z_preV hK hG hI (z_rc (q := lnd σ) (ci := 4) (n := 0) hK hI (kd_G hg5) (by decide) rfl)) rfl rfl hl.1 rfl (lv_room (Nat.le_of_ble_eq_true rfl)) dX11_day_71 ⟨Nat.zero_le _, Nat.zero_le _⟩) (fun H locs hI => ?_)
          refine lv_if_eq (tgt := 90) hx hb dX11_day_74 (by decide) (fun c5 => ?_) (fun c5 => ?_)
          · have hf := ok_t c5 hf
            refine lv_ldc (v := (-1000002)) hx hb hown (hts (.constant RX11 121 (-1000002)) (by decide +kernel)) dX11_day_90 ?_
            cases hf
            exact z_iret hx hb hr hlk hK hG hI dX11_day_92
          · have hf := ok_f c5 hf
            refine lv_aload_n hx hb dX11_day_77 rfl (lv_at hl 2 rfl) ?_
            have hg6 : isG (lnd σ) := hI.2.2.2.2.1
            refine z_get (C := RX11) (T := TX11) (N := 9) (ci := 10) (v := .ref (G.1 + (lnd σ))) hx hb hts i_X11_day_10 hown hK hI 0 rfl (by decide) rfl 6 (by decide) (hts (.fieldLink RX11 47 "FenceYards" "land" "LFenceYards$Ground;") (by decide +kernel)) (fun _ h9 => h9) rfl dX11_day_78 ?_
            refine lv_iconst (v := 1) hx hb dX11_day_81 (by decide) ?_
            refine lv_iload hx hb dX11_day_82 (lv_at hl 0 rfl) ?_
            obtain ⟨r6, hc6, hf⟩ := ok_1 hf
            refine z_calli0 rfl rfl hI (va_runVN (As := [.int 1, .int v2]) (rest := []) ⟨hx, hb, hml, hown, hts⟩ (m_X4_isOpen G l hg6 hc6) ⟨va_cnB (host := "FenceYards") 2 hts gX11_day_X4_isOpen_n131 rfl rfl rfl (hG.1.2.1 ("FenceYards", 131, ⟨"FenceYards$Ground", "isOpen", "(II)Z"⟩) (by decide +kernel)) (hts (.initialized "FenceYards$Ground") (by decide +kernel)) (by decide +kernel) ⟨Nat.le_of_ble_eq_true rfl, Nat.le_of_ble_eq_true rfl⟩, hts (.instanceMethod yX4_isOpen) (by decide +kernel), hts (.selects "FenceYards$Ground" yX4_isOpen yX4_isOpen) (by decide +kernel)⟩ (z_preV hK hG hI (z_rc (q := lnd σ) (ci := 4) (n := 0) hK hI (kd_G hg6) (by decide) rfl)) rfl rfl hl.1 rfl (lv_room (Nat.le_of_ble_eq_true rfl)) dX11_day_84 ⟨Nat.zero_le _, Nat.zero_le _⟩) (fun H locs hI => ?_)
            refine lv_if_ne (tgt := 93) hx hb dX11_day_87 (by decide) (fun c6 => ?_) (fun c6 => ?_)
            · have hf := ok_f c6 hf
              refine lv_aload_n hx hb dX11_day_93 rfl (lv_at hl 2 rfl) ?_
              refine z_get (C := RX11) (T := TX11) (N := 9) (ci := 10) (v := .ref (G.1 + 15)) hx hb hts i_X11_day_10 hown hK hI 0 rfl (by decide) rfl 2 (by decide) (hts (.fieldLink RX11 26 "FenceYards" "seer" "LFenceYards$Seer;") (by decide +kernel)) (fun _ h9 => h9) rfl dX11_day_94 ?_
              refine lv_aload_n hx hb dX11_day_97 rfl (lv_at hl 2 rfl) ?_
              have hg7 : isG (lnd σ) := hI.2.2.2.2.1
              refine z_get (C := RX11) (T := TX11) (N := 9) (ci := 10) (v := .ref (G.1 + (lnd σ))) hx hb hts i_X11_day_10 hown hK hI 0 rfl (by decide) rfl 6 (by decide) (hts (.fieldLink RX11 47 "FenceYards" "land" "LFenceYards$Ground;") (by decide +kernel)) (fun _ h9 => h9) rfl dX11_day_98 ?_
              refine lv_aload_n hx hb dX11_day_101 rfl (lv_at hl 2 rfl) ?_
              have hg8 : isG (lnd σ) := hI.2.2.2.2.1
              refine z_get (C := RX11) (T := TX11) (N := 9) (ci := 10) (v := .ref (G.1 + (lnd σ))) hx hb hts i_X11_day_10 hown hK hI 0 rfl (by decide) rfl 6 (by decide) (hts (.fieldLink RX11 47 "FenceYards" "land" "LFenceYards$Ground;") (by decide +kernel)) (fun _ h9 => h9) rfl dX11_day_102 ?_
              refine z_getN (C := RX4) (T := TX4) (N := 11) (ci := 4) (v := .int (gI σ (lnd σ) 10)) hx hb hts i_X11_day_4 hown hK hI (lnd σ) (kd_G hg8) (by decide) rfl 10 (by decide) (hG.1.1 ("FenceYards", 128, "FenceYards$Ground", "today", "I") (by decide +kernel)) (fun _ h9 => h9) rfl dX11_day_105 ?_
              obtain ⟨s1, hc7, hf⟩ := ok_1 hf
              refine z_callv0 rfl rfl hI (va_runVN (As := [.ref (G.1 + (lnd σ)), .int (gI σ (lnd σ) 10)]) (rest := []) ⟨hx, hb, hml, hown, hts⟩ (m_X8_gather G l hg7 hc7) ⟨va_cnB (host := "FenceYards") 2 hts gX11_day_X8_gather_n134 rfl rfl rfl (hG.1.2.1 ("FenceYards", 134, ⟨"FenceYards$Seer", "gather", "(LFenceYards$Ground;I)V"⟩) (by decide +kernel)) (hts (.initialized "FenceYards$Seer") (by decide +kernel)) (by decide +kernel) ⟨Nat.le_of_ble_eq_true rfl, Nat.le_of_ble_eq_true rfl⟩, hts (.instanceMethod yX8_gather) (by decide +kernel), hts (.selects "FenceYards$Seer" yX8_gather yX8_gather) (by decide +kernel)⟩ (z_preV hK hG hI (z_rc (q := 15) (ci := 8) (n := 0) hK hI rfl (by decide) rfl)) rfl rfl hl.1 rfl (lv_room (Nat.le_of_ble_eq_true rfl)) dX11_day_108 ⟨Nat.zero_le _, Nat.zero_le _⟩) (fun H locs hI => ?_)
              refine lv_aload_n hx hb dX11_day_111 rfl (lv_at hl 2 rfl) ?_
              refine z_get (C := RX11) (T := TX11) (N := 9) (ci := 10) (v := .ref (G.1 + 15)) hx hb hts i_X11_day_10 hown hK hI 0 rfl (by decide) rfl 2 (by decide) (hts (.fieldLink RX11 26 "FenceYards" "seer" "LFenceYards$Seer;") (by decide +kernel)) (fun _ h9 => h9) rfl dX11_day_112 ?_
              refine lv_iload_n hx hb dX11_day_115 rfl (lv_at hl 1 rfl) ?_
              refine lv_iload hx hb dX11_day_116 (lv_at hl 0 rfl) ?_
              obtain ⟨r7, hc8, hf⟩ := ok_1 hf
              refine z_calli0 rfl rfl hI (va_runVN (As := [.int v1, .int v2]) (rest := []) ⟨hx, hb, hml, hown, hts⟩ (m_X8_leftReaps G l  hc8) ⟨va_cnB (host := "FenceYards") 2 hts gX11_day_X8_leftReaps_n138 rfl rfl rfl (hG.1.2.1 ("FenceYards", 138, ⟨"FenceYards$Seer", "leftReaps", "(II)I"⟩) (by decide +kernel)) (hts (.initialized "FenceYards$Seer") (by decide +kernel)) (by decide +kernel) ⟨Nat.le_of_ble_eq_true rfl, Nat.le_of_ble_eq_true rfl⟩, hts (.instanceMethod yX8_leftReaps) (by decide +kernel), hts (.selects "FenceYards$Seer" yX8_leftReaps yX8_leftReaps) (by decide +kernel)⟩ (z_preV hK hG hI (z_rc (q := 15) (ci := 8) (n := 0) hK hI rfl (by decide) rfl)) rfl rfl hl.1 rfl (lv_room (Nat.le_of_ble_eq_true rfl)) dX11_day_118 ⟨Nat.zero_le _, Nat.zero_le _⟩) (fun H locs hI => ?_)
              refine lv_istore (lv' := [(5, .int r7), (4, .int v2), (3, .int v1), (0, .ref (G.1 + 0)), (1, .int x1), (2, .int x2)]) hx hb dX11_day_121 hl (by decide) rfl (fun ls hl => ?_)
              refine lv_aload_n hx hb dX11_day_123 rfl (lv_at hl 3 rfl) ?_
              have hg9 : isG (lnd s1) := hI.2.2.2.2.1
              refine z_get (C := RX11) (T := TX11) (N := 9) (ci := 10) (v := .ref (G.1 + (lnd s1))) hx hb hts i_X11_day_10 hown hK hI 0 rfl (by decide) rfl 6 (by decide) (hts (.fieldLink RX11 47 "FenceYards" "land" "LFenceYards$Ground;") (by decide +kernel)) (fun _ h9 => h9) rfl dX11_day_124 ?_
              refine lv_iload_n hx hb dX11_day_127 rfl (lv_at hl 2 rfl) ?_
              refine lv_iload hx hb dX11_day_128 (lv_at hl 1 rfl) ?_
              refine lv_iload hx hb dX11_day_130 (lv_at hl 0 rfl) ?_
              refine lv_aload_n hx hb dX11_day_132 rfl (lv_at hl 3 rfl) ?_
              refine z_get (C := RX11) (T := TX11) (N := 9) (ci := 10) (v := .ref (G.1 + 15)) hx hb hts i_X11_day_10 hown hK hI 0 rfl (by decide) rfl 2 (by decide) (hts (.fieldLink RX11 26 "FenceYards" "seer" "LFenceYards$Seer;") (by decide +kernel)) (fun _ h9 => h9) rfl dX11_day_133 ?_
              obtain ⟨r8, hc9, hf⟩ := ok_1 hf
              refine z_calli0 rfl rfl hI (va_runVN (As := []) (rest := [.int r7, .int v2, .int v1, .ref (G.1 + (lnd s1))]) ⟨hx, hb, hml, hown, hts⟩ (m_X8_allReaps G l  hc9) ⟨va_cnB (host := "FenceYards") 0 hts gX11_day_X8_allReaps_n142 rfl rfl rfl (hG.1.2.1 ("FenceYards", 142, ⟨"FenceYards$Seer", "allReaps", "()I"⟩) (by decide +kernel)) (hts (.initialized "FenceYards$Seer") (by decide +kernel)) (by decide +kernel) ⟨Nat.le_of_ble_eq_true rfl, Nat.le_of_ble_eq_true rfl⟩, hts (.instanceMethod yX8_allReaps) (by decide +kernel), hts (.selects "FenceYards$Seer" yX8_allReaps yX8_allReaps) (by decide +kernel)⟩ (z_preV hK hG hI (z_rc (q := 15) (ci := 8) (n := 0) hK hI rfl (by decide) rfl)) rfl rfl hl.1 rfl (lv_room (Nat.le_of_ble_eq_true rfl)) dX11_day_136 ⟨Nat.zero_le _, Nat.zero_le _⟩) (fun H locs hI => ?_)
              refine lv_iload hx hb dX11_day_139 (lv_at hl 0 rfl) ?_
              refine lv_isub hx hb dX11_day_141 ?_
              obtain ⟨s2, hc10, hf⟩ := ok_1 hf
              refine z_callv0 rfl rfl hI (va_runVN (As := [.int v1, .int v2, .int r7, .int (r8 - r7)]) (rest := []) ⟨hx, hb, hml, hown, hts⟩ (m_X4_passDay G l hg9 hc10) ⟨va_cnB (host := "FenceYards") 4 hts gX11_day_X4_passDay_n146 rfl rfl rfl (hG.1.2.1 ("FenceYards", 146, ⟨"FenceYards$Ground", "passDay", "(IIII)V"⟩) (by decide +kernel)) (hts (.initialized "FenceYards$Ground") (by decide +kernel)) (by decide +kernel) ⟨Nat.le_of_ble_eq_true rfl, Nat.le_of_ble_eq_true rfl⟩, hts (.instanceMethod yX4_passDay) (by decide +kernel), hts (.selects "FenceYards$Ground" yX4_passDay yX4_passDay) (by decide +kernel)⟩ (z_preV hK hG hI (z_rc (q := lnd s1) (ci := 4) (n := 0) hK hI (kd_G hg9) (by decide) rfl)) rfl rfl hl.1 rfl (lv_room (Nat.le_of_ble_eq_true rfl)) dX11_day_142 ⟨Nat.zero_le _, Nat.zero_le _⟩) (fun H locs hI => ?_)
              refine lv_bipush (v := 13) hx hb dX11_day_145 (by decide) ?_
              refine lv_iload_n hx hb dX11_day_147 rfl (lv_at hl 2 rfl) ?_
              refine lv_imul hx hb dX11_day_148 ?_
              refine lv_iload hx hb dX11_day_149 (lv_at hl 1 rfl) ?_
              refine lv_iadd hx hb dX11_day_151 ?_
              cases hf
              exact z_iret hx hb hr hlk hK hG hI dX11_day_152
            · have hf := ok_t c6 hf
              refine lv_ldc (v := (-1000002)) hx hb hown (hts (.constant RX11 121 (-1000002)) (by decide +kernel)) dX11_day_90 ?_
              cases hf
              exact z_iret hx hb hr hlk hK hG hI dX11_day_92
      · have hf := ok_t c3 hf
        refine lv_ldc (v := (-1000001)) hx hb hown (hts (.constant RX11 57 (-1000001)) (by decide +kernel)) dX11_day_27 ?_
        cases hf
        exact z_iret hx hb hr hlk hK hG hI dX11_day_29
  · have hf := ok_t c1 hf
    refine lv_ldc (v := (-1000002)) hx hb hown (hts (.constant RX11 121 (-1000002)) (by decide +kernel)) dX11_day_10 ?_
    cases hf
    exact z_iret hx hb hr hlk hK hG hI dX11_day_12

-- ===== FenceYards.undo()I
set_option maxRecDepth 100000 in
theorem i_X11_undo_4 : ∀ w ∈ u_ws RX4 TX4 11, w ∈ wsX11_undo := by decide +kernel
set_option maxRecDepth 100000 in
theorem i_X11_undo_10 : ∀ w ∈ u_ws RX11 TX11 9, w ∈ wsX11_undo := by decide +kernel
def f_X11_undo (σ : Hp)  : Option (Hp × Int32) :=
  if 1 ≤ (gI σ (lnd σ) 10) then (some (sI σ (lnd σ) 10 ((gI σ (lnd σ) 10) - 1), gI (sI σ (lnd σ) 10 ((gI σ (lnd σ) 10) - 1)) (lnd (sI σ (lnd σ) 10 ((gI σ (lnd σ) 10) - 1))) 10)) else (some (σ, (-1000002)))
set_option maxRecDepth 100000 in
set_option maxHeartbeats 4000000 in
theorem m_X11_undo (G : GT) (l : Launch) {σ : Hp}  {σ' : Hp} {r : Int32}  (hf : f_X11_undo σ = some (σ', r)) : MetG G l yX11_undo wsX11_undo (rmk 0 0) σ [.ref (G.1 + 0)] (QI G σ' r) := by
  refine met_of (cc := cX11_undo) (nL := 1) (ret := (some .int)) (by decide) rfl (Nat.le_of_ble_eq_true rfl) ?_
  intro p e s m below meth c C0 hnm hI ls hl
  obtain ⟨hx, hb, hr, hml, hown, hts, hlk, hK, hG⟩ := id C0
  have hl : lv_has ls 1 [(0, .ref (G.1 + 0))] := hl
  unfold f_X11_undo at hf
  refine lv_aload_n hx hb dX11_undo_0 rfl (lv_at hl 0 rfl) ?_
  have hg1 : isG (lnd σ) := hI.2.2.2.2.1
  refine z_get (C := RX11) (T := TX11) (N := 9) (ci := 10) (v := .ref (G.1 + (lnd σ))) hx hb hts i_X11_undo_10 hown hK hI 0 rfl (by decide) rfl 6 (by decide) (hts (.fieldLink RX11 47 "FenceYards" "land" "LFenceYards$Ground;") (by decide +kernel)) (fun _ h9 => h9) rfl dX11_undo_1 ?_
  refine z_getN (C := RX4) (T := TX4) (N := 11) (ci := 4) (v := .int (gI σ (lnd σ) 10)) hx hb hts i_X11_undo_4 hown hK hI (lnd σ) (kd_G hg1) (by decide) rfl 10 (by decide) (hG.1.1 ("FenceYards", 128, "FenceYards$Ground", "today", "I") (by decide +kernel)) (fun _ h9 => h9) rfl dX11_undo_4 ?_
  refine lv_iconst (v := 1) hx hb dX11_undo_7 (by decide) ?_
  refine lv_icmp_ge (tgt := 14) hx hb dX11_undo_8 (by decide) (fun c1 => ?_) (fun c1 => ?_)
  · have hf := ok_t c1 hf
    refine lv_aload_n hx hb dX11_undo_14 rfl (lv_at hl 0 rfl) ?_
    have hg2 : isG (lnd σ) := hI.2.2.2.2.1
    refine z_get (C := RX11) (T := TX11) (N := 9) (ci := 10) (v := .ref (G.1 + (lnd σ))) hx hb hts i_X11_undo_10 hown hK hI 0 rfl (by decide) rfl 6 (by decide) (hts (.fieldLink RX11 47 "FenceYards" "land" "LFenceYards$Ground;") (by decide +kernel)) (fun _ h9 => h9) rfl dX11_undo_15 ?_
    refine lv_dup hx hb dX11_undo_18 rfl ?_
    refine z_getN (C := RX4) (T := TX4) (N := 11) (ci := 4) (v := .int (gI σ (lnd σ) 10)) hx hb hts i_X11_undo_4 hown hK hI (lnd σ) (kd_G hg2) (by decide) rfl 10 (by decide) (hG.1.1 ("FenceYards", 128, "FenceYards$Ground", "today", "I") (by decide +kernel)) (fun _ h9 => h9) rfl dX11_undo_19 ?_
    refine lv_iconst (v := 1) hx hb dX11_undo_22 (by decide) ?_
    refine lv_isub hx hb dX11_undo_23 ?_
    refine z_putN (C := RX4) (T := TX4) (N := 11) (ci := 4) (ty := .int) (v := .int ((gI σ (lnd σ) 10) - 1)) hx hb hts i_X11_undo_4 tyX4 tyX4_ok nmX4 hown hK hI (lnd σ) (kd_G hg2) (by decide) rfl 10 (by decide) (hG.1.1 ("FenceYards", 128, "FenceYards$Ground", "today", "I") (by decide +kernel)) (fun _ h9 => h9) rfl (by decide +kernel) rfl rfl (Nat.le_of_ble_eq_true rfl) (set_I hI.2.2.2 (kd_G hg2) (by decide) rfl) rfl hI.2.2.2 dX11_undo_24 (fun H locs hI => ?_)
    refine lv_aload_n hx hb dX11_undo_27 rfl (lv_at hl 0 rfl) ?_
    have hg3 : isG (lnd (sI σ (lnd σ) 10 ((gI σ (lnd σ) 10) - 1))) := hI.2.2.2.2.1
    refine z_get (C := RX11) (T := TX11) (N := 9) (ci := 10) (v := .ref (G.1 + (lnd (sI σ (lnd σ) 10 ((gI σ (lnd σ) 10) - 1))))) hx hb hts i_X11_undo_10 hown hK hI 0 rfl (by decide) rfl 6 (by decide) (hts (.fieldLink RX11 47 "FenceYards" "land" "LFenceYards$Ground;") (by decide +kernel)) (fun _ h9 => h9) rfl dX11_undo_28 ?_
    refine z_getN (C := RX4) (T := TX4) (N := 11) (ci := 4) (v := .int (gI (sI σ (lnd σ) 10 ((gI σ (lnd σ) 10) - 1)) (lnd (sI σ (lnd σ) 10 ((gI σ (lnd σ) 10) - 1))) 10)) hx hb hts i_X11_undo_4 hown hK hI (lnd (sI σ (lnd σ) 10 ((gI σ (lnd σ) 10) - 1))) (kd_G hg3) (by decide) rfl 10 (by decide) (hG.1.1 ("FenceYards", 128, "FenceYards$Ground", "today", "I") (by decide +kernel)) (fun _ h9 => h9) rfl dX11_undo_31 ?_
    cases hf
    exact z_iret hx hb hr hlk hK hG hI dX11_undo_34
  · have hf := ok_f c1 hf
    refine lv_ldc (v := (-1000002)) hx hb hown (hts (.constant RX11 121 (-1000002)) (by decide +kernel)) dX11_undo_11 ?_
    cases hf
    exact z_iret hx hb hr hlk hK hG hI dX11_undo_13

-- ===== FenceYards.shareNow(I)I
set_option maxRecDepth 100000 in
theorem i_X11_shareNow_10 : ∀ w ∈ u_ws RX11 TX11 9, w ∈ wsX11_shareNow := by decide +kernel
def f_X11_shareNow (σ : Hp) (x1 : Int32) : Option (Int32) :=
  bd1 (f_X4_endOn σ (lnd σ) 0) fun r1 => bd1 (f_X4_endOn σ (lnd σ) 1) fun r2 => bd1 (f_X11_shareOf σ r1 r2 x1) fun r3 => some r3
set_option maxRecDepth 100000 in
set_option maxHeartbeats 4000000 in
theorem m_X11_shareNow (G : GT) (l : Launch) {σ : Hp} {x1 : Int32} {r : Int32}  (hf : f_X11_shareNow σ x1 = some r) : MetG G l yX11_shareNow wsX11_shareNow (rmk 2 49) σ [.ref (G.1 + 0), .int x1] (QI G σ r) := by
  refine met_of (cc := cX11_shareNow) (nL := 2) (ret := (some .int)) (by decide) rfl (Nat.le_of_ble_eq_true rfl) ?_
  intro p e s m below meth c C0 hnm hI ls hl
  obtain ⟨hx, hb, hr, hml, hown, hts, hlk, hK, hG⟩ := id C0
  have hl : lv_has ls 2 [(0, .ref (G.1 + 0)), (1, .int x1)] := hl
  unfold f_X11_shareNow at hf
  refine lv_aload_n hx hb dX11_shareNow_0 rfl (lv_at hl 0 rfl) ?_
  have hg1 : isG (lnd σ) := hI.2.2.2.2.1
  refine z_get (C := RX11) (T := TX11) (N := 9) (ci := 10) (v := .ref (G.1 + (lnd σ))) hx hb hts i_X11_shareNow_10 hown hK hI 0 rfl (by decide) rfl 6 (by decide) (hts (.fieldLink RX11 47 "FenceYards" "land" "LFenceYards$Ground;") (by decide +kernel)) (fun _ h9 => h9) rfl dX11_shareNow_1 ?_
  refine lv_iconst (v := 0) hx hb dX11_shareNow_4 (by decide) ?_
  obtain ⟨r1, hc1, hf⟩ := ok_1 hf
  refine z_calli0 rfl rfl hI (va_runVN (As := [.int 0]) (rest := []) ⟨hx, hb, hml, hown, hts⟩ (m_X4_endOn G l hg1 hc1) ⟨va_cnB (host := "FenceYards") 1 hts gX11_shareNow_X4_endOn_n125 rfl rfl rfl (hG.1.2.1 ("FenceYards", 125, ⟨"FenceYards$Ground", "endOn", "(I)I"⟩) (by decide +kernel)) (hts (.initialized "FenceYards$Ground") (by decide +kernel)) (by decide +kernel) ⟨Nat.le_of_ble_eq_true rfl, Nat.le_of_ble_eq_true rfl⟩, hts (.instanceMethod yX4_endOn) (by decide +kernel), hts (.selects "FenceYards$Ground" yX4_endOn yX4_endOn) (by decide +kernel)⟩ (z_preV hK hG hI (z_rc (q := lnd σ) (ci := 4) (n := 0) hK hI (kd_G hg1) (by decide) rfl)) rfl rfl hl.1 rfl (lv_room (Nat.le_of_ble_eq_true rfl)) dX11_shareNow_5 ⟨Nat.zero_le _, Nat.zero_le _⟩) (fun H locs hI => ?_)
  refine lv_aload_n hx hb dX11_shareNow_8 rfl (lv_at hl 0 rfl) ?_
  have hg2 : isG (lnd σ) := hI.2.2.2.2.1
  refine z_get (C := RX11) (T := TX11) (N := 9) (ci := 10) (v := .ref (G.1 + (lnd σ))) hx hb hts i_X11_shareNow_10 hown hK hI 0 rfl (by decide) rfl 6 (by decide) (hts (.fieldLink RX11 47 "FenceYards" "land" "LFenceYards$Ground;") (by decide +kernel)) (fun _ h9 => h9) rfl dX11_shareNow_9 ?_
  refine lv_iconst (v := 1) hx hb dX11_shareNow_12 (by decide) ?_
  obtain ⟨r2, hc2, hf⟩ := ok_1 hf
  refine z_calli0 rfl rfl hI (va_runVN (As := [.int 1]) (rest := [.int r1]) ⟨hx, hb, hml, hown, hts⟩ (m_X4_endOn G l hg2 hc2) ⟨va_cnB (host := "FenceYards") 1 hts gX11_shareNow_X4_endOn_n125 rfl rfl rfl (hG.1.2.1 ("FenceYards", 125, ⟨"FenceYards$Ground", "endOn", "(I)I"⟩) (by decide +kernel)) (hts (.initialized "FenceYards$Ground") (by decide +kernel)) (by decide +kernel) ⟨Nat.le_of_ble_eq_true rfl, Nat.le_of_ble_eq_true rfl⟩, hts (.instanceMethod yX4_endOn) (by decide +kernel), hts (.selects "FenceYards$Ground" yX4_endOn yX4_endOn) (by decide +kernel)⟩ (z_preV hK hG hI (z_rc (q := lnd σ) (ci := 4) (n := 0) hK hI (kd_G hg2) (by decide) rfl)) rfl rfl hl.1 rfl (lv_room (Nat.le_of_ble_eq_true rfl)) dX11_shareNow_13 ⟨Nat.zero_le _, Nat.zero_le _⟩) (fun H locs hI => ?_)
  refine lv_iload_n hx hb dX11_shareNow_16 rfl (lv_at hl 1 rfl) ?_
  obtain ⟨r3, hc3, hf⟩ := ok_1 hf
  refine z_calli0 rfl rfl hI (va_runS (As := [.int r1, .int r2, .int x1]) (rest := []) ⟨hx, hb, hml, hown, hts⟩ (m_X11_shareOf G l  hc3) (va_cwS 3 hts gX11_shareNow_X11_shareOf rfl rfl rfl (by decide +kernel) ⟨Nat.le_of_ble_eq_true rfl, Nat.le_of_ble_eq_true rfl⟩) (z_pre hK hG hI) rfl rfl hl.1 rfl (lv_room (Nat.le_of_ble_eq_true rfl)) dX11_shareNow_17 ⟨Nat.zero_le _, Nat.zero_le _⟩) (fun H locs hI => ?_)
  cases hf
  exact z_iret hx hb hr hlk hK hG hI dX11_shareNow_20

-- ===== FenceYards.strip(II)I
set_option maxRecDepth 100000 in
theorem i_X11_strip_0 : ∀ w ∈ u_ws RX0 TX0 3, w ∈ wsX11_strip := by decide +kernel
set_option maxRecDepth 100000 in
theorem i_X11_strip_1 : ∀ w ∈ u_ws RX1 TX1 3, w ∈ wsX11_strip := by decide +kernel
set_option maxRecDepth 100000 in
theorem i_X11_strip_2 : ∀ w ∈ u_ws RX2 TX2 3, w ∈ wsX11_strip := by decide +kernel
set_option maxRecDepth 100000 in
theorem i_X11_strip_3 : ∀ w ∈ u_ws RX3 TX3 3, w ∈ wsX11_strip := by decide +kernel
set_option maxRecDepth 100000 in
theorem i_X11_strip_7 : ∀ w ∈ u_ws RX7 TX7 3, w ∈ wsX11_strip := by decide +kernel
set_option maxRecDepth 100000 in
theorem i_X11_strip_10 : ∀ w ∈ u_ws RX11 TX11 9, w ∈ wsX11_strip := by decide +kernel
def f_X11_strip (σ : Hp) (x1 : Int32) (x2 : Int32) : Option (Int32) :=
  bd1 (f_X4_toldStrip σ (lnd σ) x1) fun r1 => opc r1 (some (-1000001)) fun q1 => (if x2 = 0 then (chk (okS σ q1) <| some (gI σ q1 1)) else if x2 = 1 then (chk (okS σ q1) <| some (gI σ q1 2)) else if x2 = 2 then (bd1 (f_X11_shareNow σ x1) fun r2 => bd1 (f_X11_fraction σ r2 0) fun r3 => some r3) else if x2 = 3 then (bd1 (f_X11_shareNow σ x1) fun r4 => bd1 (f_X11_fraction σ r4 1) fun r5 => some r5) else (some (-1000001)))
set_option maxRecDepth 100000 in
set_option maxHeartbeats 4000000 in
theorem m_X11_strip (G : GT) (l : Launch) {σ : Hp} {x1 : Int32} {x2 : Int32} {r : Int32}  (hf : f_X11_strip σ x1 x2 = some r) : MetG G l yX11_strip wsX11_strip (rmk 3 71) σ [.ref (G.1 + 0), .int x1, .int x2] (QI G σ r) := by
  refine met_of (cc := cX11_strip) (nL := 4) (ret := (some .int)) (by decide) rfl (Nat.le_of_ble_eq_true rfl) ?_
  intro p e s m below meth c C0 hnm hI ls hl
  obtain ⟨hx, hb, hr, hml, hown, hts, hlk, hK, hG⟩ := id C0
  have hl : lv_has ls 4 [(0, .ref (G.1 + 0)), (1, .int x1), (2, .int x2)] := hl
  unfold f_X11_strip at hf
  refine lv_aload_n hx hb dX11_strip_0 rfl (lv_at hl 0 rfl) ?_
  have hg1 : isG (lnd σ) := hI.2.2.2.2.1
  refine z_get (C := RX11) (T := TX11) (N := 9) (ci := 10) (v := .ref (G.1 + (lnd σ))) hx hb hts i_X11_strip_10 hown hK hI 0 rfl (by decide) rfl 6 (by decide) (hts (.fieldLink RX11 47 "FenceYards" "land" "LFenceYards$Ground;") (by decide +kernel)) (fun _ h9 => h9) rfl dX11_strip_1 ?_
  refine lv_iload_n hx hb dX11_strip_4 rfl (lv_at hl 1 rfl) ?_
  obtain ⟨r1, hc1, hf⟩ := ok_1 hf
  refine z_callq0 rfl rfl hI (va_runVN (As := [.int x1]) (rest := []) ⟨hx, hb, hml, hown, hts⟩ (m_X4_toldStrip G l hg1 hc1) ⟨va_cnB (host := "FenceYards") 1 hts gX11_strip_X4_toldStrip_n150 rfl rfl rfl (hG.1.2.1 ("FenceYards", 150, ⟨"FenceYards$Ground", "toldStrip", "(I)LFenceYards$Strip;"⟩) (by decide +kernel)) (hts (.initialized "FenceYards$Ground") (by decide +kernel)) (by decide +kernel) ⟨Nat.le_of_ble_eq_true rfl, Nat.le_of_ble_eq_true rfl⟩, hts (.instanceMethod yX4_toldStrip) (by decide +kernel), hts (.selects "FenceYards$Ground" yX4_toldStrip yX4_toldStrip) (by decide +kernel)⟩ (z_preV hK hG hI (z_rc (q := lnd σ) (ci := 4) (n := 0) hK hI (kd_G hg1) (by decide) rfl)) rfl rfl hl.1 rfl (lv_room (Nat.le_of_ble_eq_true rfl)) dX11_strip_5 ⟨Nat.zero_le _, Nat.zero_le _⟩) (fun H locs hI => ?_)
  cases r1 with
  | none =>
    have hf := ok_on hf
    refine W.eq (g2 := F0 m 8 ls [.null]) rfl ?_
    refine lv_astore_nN (lv' := [(3, .null), (0, .ref (G.1 + 0)), (1, .int x1), (2, .int x2)]) hx hb dX11_strip_8 rfl hl (by decide) rfl (fun ls hl => ?_)
    refine lv_aload_nN hx hb dX11_strip_9 rfl (lv_at hl 0 rfl) ?_
    refine lv_ifnonnullN hx hb dX11_strip_10 ?_
    refine lv_ldc (v := (-1000001)) hx hb hown (hts (.constant RX11 57 (-1000001)) (by decide +kernel)) dX11_strip_13 ?_
    cases hf
    exact z_iret hx hb hr hlk hK hG hI dX11_strip_15
  | some q1 =>
    have hf := ok_os hf
    refine W.eq (g2 := F0 m 8 ls [.ref (G.1 + q1)]) rfl ?_
    refine lv_astore_n (lv' := [(3, .ref (G.1 + q1)), (0, .ref (G.1 + 0)), (1, .int x1), (2, .int x2)]) hx hb dX11_strip_8 rfl hl (by decide) rfl (fun ls hl => ?_)
    refine lv_aload_n hx hb dX11_strip_9 rfl (lv_at hl 0 rfl) ?_
    refine lv_ifnonnull (tgt := 16) hx hb dX11_strip_10 (by decide) ?_
    refine lv_iload_n hx hb dX11_strip_16 rfl (lv_at hl 3 rfl) ?_
    by_cases c1 : x2 = 0
    · have hf := ok_t c1 hf
      refine lv_tableIn (tgt := 48) hx hb dX11_strip_17 (by rw [c1]; decide) (by rw [c1]; decide) (by rw [c1]; rfl) (by decide) ?_
      refine lv_aload_n hx hb dX11_strip_48 rfl (lv_at hl 0 rfl) ?_
      obtain ⟨h1, hf⟩ := ok_c hf
      refine z_getS hx hb hts i_X11_strip_0 i_X11_strip_1 i_X11_strip_2 i_X11_strip_3 i_X11_strip_7 hown hK hI (q := q1) h1 1 (by decide) ⟨rfl, rfl, rfl, rfl, rfl⟩ (hts (.fieldLink RX11 154 "FenceYards$Strip" "worth" "I") (by decide +kernel)) (fun _ h9 => h9) (fun _ => rfl) dX11_strip_49 ?_
      cases hf
      exact z_iret hx hb hr hlk hK hG hI dX11_strip_52
    have hf := ok_f c1 hf
    by_cases c2 : x2 = 1
    · have hf := ok_t c2 hf
      refine lv_tableIn (tgt := 53) hx hb dX11_strip_17 (by rw [c2]; decide) (by rw [c2]; decide) (by rw [c2]; rfl) (by decide) ?_
      refine lv_aload_n hx hb dX11_strip_53 rfl (lv_at hl 0 rfl) ?_
      obtain ⟨h2, hf⟩ := ok_c hf
      refine z_getS hx hb hts i_X11_strip_0 i_X11_strip_1 i_X11_strip_2 i_X11_strip_3 i_X11_strip_7 hown hK hI (q := q1) h2 2 (by decide) ⟨rfl, rfl, rfl, rfl, rfl⟩ (hts (.fieldLink RX11 159 "FenceYards$Strip" "ripe" "I") (by decide +kernel)) (fun _ h9 => h9) (fun _ => rfl) dX11_strip_54 ?_
      cases hf
      exact z_iret hx hb hr hlk hK hG hI dX11_strip_57
    have hf := ok_f c2 hf
    by_cases c3 : x2 = 2
    · have hf := ok_t c3 hf
      refine lv_tableIn (tgt := 58) hx hb dX11_strip_17 (by rw [c3]; decide) (by rw [c3]; decide) (by rw [c3]; rfl) (by decide) ?_
      refine lv_aload_n hx hb dX11_strip_58 rfl (lv_at hl 1 rfl) ?_
      refine lv_iload_n hx hb dX11_strip_59 rfl (lv_at hl 2 rfl) ?_
      obtain ⟨r2, hc2, hf⟩ := ok_1 hf
      refine z_calli0 rfl rfl hI (va_runV (As := [.int x1]) (rest := []) ⟨hx, hb, hml, hown, hts⟩ (m_X11_shareNow G l  hc2) (cwV 1 hts gX11_strip_X11_shareNow rfl rfl rfl (by decide +kernel) ⟨Nat.le_of_ble_eq_true rfl, Nat.le_of_ble_eq_true rfl⟩) (z_preV hK hG hI (z_rc (q := 0) (ci := 10) (n := 0) hK hI rfl (by decide) rfl)) rfl rfl hl.1 rfl (lv_room (Nat.le_of_ble_eq_true rfl)) dX11_strip_60 ⟨Nat.zero_le _, Nat.zero_le _⟩) (fun H locs hI => ?_)
      refine lv_iconst (v := 0) hx hb dX11_strip_63 (by decide) ?_
      obtain ⟨r3, hc3, hf⟩ := ok_1 hf
      refine z_calli0 rfl rfl hI (va_runS (As := [.int r2, .int 0]) (rest := []) ⟨hx, hb, hml, hown, hts⟩ (m_X11_fraction G l  hc3) (va_cwS 2 hts gX11_strip_X11_fraction rfl rfl rfl (by decide +kernel) ⟨Nat.le_of_ble_eq_true rfl, Nat.le_of_ble_eq_true rfl⟩) (z_pre hK hG hI) rfl rfl hl.1 rfl (lv_room (Nat.le_of_ble_eq_true rfl)) dX11_strip_64 ⟨Nat.zero_le _, Nat.zero_le _⟩) (fun H locs hI => ?_)
      cases hf
      exact z_iret hx hb hr hlk hK hG hI dX11_strip_67
    have hf := ok_f c3 hf
    by_cases c4 : x2 = 3
    · have hf := ok_t c4 hf
      refine lv_tableIn (tgt := 68) hx hb dX11_strip_17 (by rw [c4]; decide) (by rw [c4]; decide) (by rw [c4]; rfl) (by decide) ?_
      refine lv_aload_n hx hb dX11_strip_68 rfl (lv_at hl 1 rfl) ?_
      refine lv_iload_n hx hb dX11_strip_69 rfl (lv_at hl 2 rfl) ?_
      obtain ⟨r4, hc4, hf⟩ := ok_1 hf
      refine z_calli0 rfl rfl hI (va_runV (As := [.int x1]) (rest := []) ⟨hx, hb, hml, hown, hts⟩ (m_X11_shareNow G l  hc4) (cwV 1 hts gX11_strip_X11_shareNow rfl rfl rfl (by decide +kernel) ⟨Nat.le_of_ble_eq_true rfl, Nat.le_of_ble_eq_true rfl⟩) (z_preV hK hG hI (z_rc (q := 0) (ci := 10) (n := 0) hK hI rfl (by decide) rfl)) rfl rfl hl.1 rfl (lv_room (Nat.le_of_ble_eq_true rfl)) dX11_strip_70 ⟨Nat.zero_le _, Nat.zero_le _⟩) (fun H locs hI => ?_)
      refine lv_iconst (v := 1) hx hb dX11_strip_73 (by decide) ?_
      obtain ⟨r5, hc5, hf⟩ := ok_1 hf
      refine z_calli0 rfl rfl hI (va_runS (As := [.int r4, .int 1]) (rest := []) ⟨hx, hb, hml, hown, hts⟩ (m_X11_fraction G l  hc5) (va_cwS 2 hts gX11_strip_X11_fraction rfl rfl rfl (by decide +kernel) ⟨Nat.le_of_ble_eq_true rfl, Nat.le_of_ble_eq_true rfl⟩) (z_pre hK hG hI) rfl rfl hl.1 rfl (lv_room (Nat.le_of_ble_eq_true rfl)) dX11_strip_74 ⟨Nat.zero_le _, Nat.zero_le _⟩) (fun H locs hI => ?_)
      cases hf
      exact z_iret hx hb hr hlk hK hG hI dX11_strip_77
    have hf := ok_f c4 hf
    refine lv_tableOut (tgt := 78) hx hb dX11_strip_17 (by have a0 := sw_ne (k := 0) (by decide) c1; have a1 := sw_ne (k := 1) (by decide) c2; have a2 := sw_ne (k := 2) (by decide) c3; have a3 := sw_ne (k := 3) (by decide) c4; omega) (by decide) ?_
    refine lv_ldc (v := (-1000001)) hx hb hown (hts (.constant RX11 57 (-1000001)) (by decide +kernel)) dX11_strip_78 ?_
    cases hf
    exact z_iret hx hb hr hlk hK hG hI dX11_strip_80

-- ===== FenceYards.crop(II)I
set_option maxRecDepth 100000 in
theorem i_X11_crop_10 : ∀ w ∈ u_ws RX11 TX11 9, w ∈ wsX11_crop := by decide +kernel
def f_X11_crop (σ : Hp) (x1 : Int32) (x2 : Int32) : Option (Int32) :=
  bd1 (f_X4_toldStrip σ (lnd σ) x1) fun r1 => opc r1 (some (-1000001)) fun q1 => (if x2 < 0 then (some (-1000001)) else (if x2 < 12 then (chk (okS σ q1) <| bd1 (v_Strip_cropOn σ q1 x2) fun r2 => some r2) else (some (-1000001))))
set_option maxRecDepth 100000 in
set_option maxHeartbeats 4000000 in
theorem m_X11_crop (G : GT) (l : Launch) {σ : Hp} {x1 : Int32} {x2 : Int32} {r : Int32}  (hf : f_X11_crop σ x1 x2 = some r) : MetG G l yX11_crop wsX11_crop (rmk 2 45) σ [.ref (G.1 + 0), .int x1, .int x2] (QI G σ r) := by
  refine met_of (cc := cX11_crop) (nL := 4) (ret := (some .int)) (by decide) rfl (Nat.le_of_ble_eq_true rfl) ?_
  intro p e s m below meth c C0 hnm hI ls hl
  obtain ⟨hx, hb, hr, hml, hown, hts, hlk, hK, hG⟩ := id C0
  have hl : lv_has ls 4 [(0, .ref (G.1 + 0)), (1, .int x1), (2, .int x2)] := hl
  unfold f_X11_crop at hf
  refine lv_aload_n hx hb dX11_crop_0 rfl (lv_at hl 0 rfl) ?_
  have hg1 : isG (lnd σ) := hI.2.2.2.2.1
  refine z_get (C := RX11) (T := TX11) (N := 9) (ci := 10) (v := .ref (G.1 + (lnd σ))) hx hb hts i_X11_crop_10 hown hK hI 0 rfl (by decide) rfl 6 (by decide) (hts (.fieldLink RX11 47 "FenceYards" "land" "LFenceYards$Ground;") (by decide +kernel)) (fun _ h9 => h9) rfl dX11_crop_1 ?_
  refine lv_iload_n hx hb dX11_crop_4 rfl (lv_at hl 1 rfl) ?_
  obtain ⟨r1, hc1, hf⟩ := ok_1 hf
  refine z_callq0 rfl rfl hI (va_runVN (As := [.int x1]) (rest := []) ⟨hx, hb, hml, hown, hts⟩ (m_X4_toldStrip G l hg1 hc1) ⟨va_cnB (host := "FenceYards") 1 hts gX11_crop_X4_toldStrip_n150 rfl rfl rfl (hG.1.2.1 ("FenceYards", 150, ⟨"FenceYards$Ground", "toldStrip", "(I)LFenceYards$Strip;"⟩) (by decide +kernel)) (hts (.initialized "FenceYards$Ground") (by decide +kernel)) (by decide +kernel) ⟨Nat.le_of_ble_eq_true rfl, Nat.le_of_ble_eq_true rfl⟩, hts (.instanceMethod yX4_toldStrip) (by decide +kernel), hts (.selects "FenceYards$Ground" yX4_toldStrip yX4_toldStrip) (by decide +kernel)⟩ (z_preV hK hG hI (z_rc (q := lnd σ) (ci := 4) (n := 0) hK hI (kd_G hg1) (by decide) rfl)) rfl rfl hl.1 rfl (lv_room (Nat.le_of_ble_eq_true rfl)) dX11_crop_5 ⟨Nat.zero_le _, Nat.zero_le _⟩) (fun H locs hI => ?_)
  cases r1 with
  | none =>
    have hf := ok_on hf
    refine W.eq (g2 := F0 m 8 ls [.null]) rfl ?_
    refine lv_astore_nN (lv' := [(3, .null), (0, .ref (G.1 + 0)), (1, .int x1), (2, .int x2)]) hx hb dX11_crop_8 rfl hl (by decide) rfl (fun ls hl => ?_)
    refine lv_aload_nN hx hb dX11_crop_9 rfl (lv_at hl 0 rfl) ?_
    refine lv_ifnullN (tgt := 23) hx hb dX11_crop_10 (by decide) ?_
    refine lv_ldc (v := (-1000001)) hx hb hown (hts (.constant RX11 57 (-1000001)) (by decide +kernel)) dX11_crop_23 ?_
    cases hf
    exact z_iret hx hb hr hlk hK hG hI dX11_crop_25
  | some q1 =>
    have hf := ok_os hf
    refine W.eq (g2 := F0 m 8 ls [.ref (G.1 + q1)]) rfl ?_
    refine lv_astore_n (lv' := [(3, .ref (G.1 + q1)), (0, .ref (G.1 + 0)), (1, .int x1), (2, .int x2)]) hx hb dX11_crop_8 rfl hl (by decide) rfl (fun ls hl => ?_)
    refine lv_aload_n hx hb dX11_crop_9 rfl (lv_at hl 0 rfl) ?_
    refine lv_ifnull hx hb dX11_crop_10 ?_
    refine lv_iload_n hx hb dX11_crop_13 rfl (lv_at hl 3 rfl) ?_
    refine lv_if_lt (tgt := 23) hx hb dX11_crop_14 (by decide) (fun c1 => ?_) (fun c1 => ?_)
    · have hf := ok_t c1 hf
      refine lv_ldc (v := (-1000001)) hx hb hown (hts (.constant RX11 57 (-1000001)) (by decide +kernel)) dX11_crop_23 ?_
      cases hf
      exact z_iret hx hb hr hlk hK hG hI dX11_crop_25
    · have hf := ok_f c1 hf
      refine lv_iload_n hx hb dX11_crop_17 rfl (lv_at hl 3 rfl) ?_
      refine lv_bipush (v := 12) hx hb dX11_crop_18 (by decide) ?_
      refine lv_icmp_lt (tgt := 26) hx hb dX11_crop_20 (by decide) (fun c2 => ?_) (fun c2 => ?_)
      · have hf := ok_t c2 hf
        refine lv_aload_n hx hb dX11_crop_26 rfl (lv_at hl 0 rfl) ?_
        refine lv_iload_n hx hb dX11_crop_27 rfl (lv_at hl 3 rfl) ?_
        obtain ⟨h1, hf⟩ := ok_c hf
        obtain ⟨r2, hc2, hf⟩ := ok_1 hf
        refine z_calli0 (σ1 := σ) (r := r2) (a := (.ref (G.1 + q1) :: [.int x2]).toArray) (rest := []) (mc := 0) (ms := 0) rfl rfl hI ?_ (fun H locs hI => ?_)
        · unfold v_Strip_cropOn at hc2
          by_cases k1 : gK σ q1 = 0
          · have hc2 := ok_t k1 hc2
            exact va_runU (As := [.int x2]) (rest := []) ⟨hx, hb, hml, hown, hts⟩ (m_X1_cropOn G l h1 hc2) (va_cwA 1 hts gX11_crop_X1_cropOn_u168X0 rfl rfl rfl (hG.1.2.2.1 ⟨"FenceYards$Strip", "cropOn", "(I)I"⟩ (by decide +kernel)) (by decide +kernel) ⟨Nat.le_of_ble_eq_true rfl, Nat.le_of_ble_eq_true rfl⟩) (z_preV hK hG hI (z_rc (q := q1) (ci := 0) (n := 0) hK hI (kd_S h1 k1) (by decide) rfl)) rfl rfl hl.1 rfl (lv_room (Nat.le_of_ble_eq_true rfl)) dX11_crop_28 ⟨Nat.zero_le _, Nat.zero_le _⟩
          have hc2 := ok_f k1 hc2
          by_cases k2 : gK σ q1 = 1
          · have hc2 := ok_t k2 hc2
            exact va_runU (As := [.int x2]) (rest := []) ⟨hx, hb, hml, hown, hts⟩ (m_X1_cropOn G l h1 hc2) (va_cwA 1 hts gX11_crop_X1_cropOn_u168X1 rfl rfl rfl (hG.1.2.2.1 ⟨"FenceYards$Strip", "cropOn", "(I)I"⟩ (by decide +kernel)) (by decide +kernel) ⟨Nat.le_of_ble_eq_true rfl, Nat.le_of_ble_eq_true rfl⟩) (z_preV hK hG hI (z_rc (q := q1) (ci := 1) (n := 0) hK hI (kd_S h1 k2) (by decide) rfl)) rfl rfl hl.1 rfl (lv_room (Nat.le_of_ble_eq_true rfl)) dX11_crop_28 ⟨Nat.zero_le _, Nat.zero_le _⟩
          have hc2 := ok_f k2 hc2
          by_cases k3 : gK σ q1 = 2
          · have hc2 := ok_t k3 hc2
            exact va_runU (As := [.int x2]) (rest := []) ⟨hx, hb, hml, hown, hts⟩ (m_X2_cropOn G l h1 hc2) (va_cwA 1 hts gX11_crop_X2_cropOn_u168X2 rfl rfl rfl (hG.1.2.2.1 ⟨"FenceYards$Strip", "cropOn", "(I)I"⟩ (by decide +kernel)) (by decide +kernel) ⟨Nat.le_of_ble_eq_true rfl, Nat.le_of_ble_eq_true rfl⟩) (z_preV hK hG hI (z_rc (q := q1) (ci := 2) (n := 0) hK hI (kd_S h1 k3) (by decide) rfl)) rfl rfl hl.1 rfl (lv_room (Nat.le_of_ble_eq_true rfl)) dX11_crop_28 ⟨Nat.zero_le _, Nat.zero_le _⟩
          have hc2 := ok_f k3 hc2
          by_cases k4 : gK σ q1 = 3
          · have hc2 := ok_t k4 hc2
            exact va_runU (As := [.int x2]) (rest := []) ⟨hx, hb, hml, hown, hts⟩ (m_X3_cropOn G l h1 hc2) (va_cwA 1 hts gX11_crop_X3_cropOn_u168X3 rfl rfl rfl (hG.1.2.2.1 ⟨"FenceYards$Strip", "cropOn", "(I)I"⟩ (by decide +kernel)) (by decide +kernel) ⟨Nat.le_of_ble_eq_true rfl, Nat.le_of_ble_eq_true rfl⟩) (z_preV hK hG hI (z_rc (q := q1) (ci := 3) (n := 0) hK hI (kd_S h1 k4) (by decide) rfl)) rfl rfl hl.1 rfl (lv_room (Nat.le_of_ble_eq_true rfl)) dX11_crop_28 ⟨Nat.zero_le _, Nat.zero_le _⟩
          have hc2 := ok_f k4 hc2
          by_cases k5 : gK σ q1 = 7
          · have hc2 := ok_t k5 hc2
            exact va_runU (As := [.int x2]) (rest := []) ⟨hx, hb, hml, hown, hts⟩ (m_X7_cropOn G l h1 hc2) (va_cwA 1 hts gX11_crop_X7_cropOn_u168X7 rfl rfl rfl (hG.1.2.2.1 ⟨"FenceYards$Strip", "cropOn", "(I)I"⟩ (by decide +kernel)) (by decide +kernel) ⟨Nat.le_of_ble_eq_true rfl, Nat.le_of_ble_eq_true rfl⟩) (z_preV hK hG hI (z_rc (q := q1) (ci := 7) (n := 0) hK hI (kd_S h1 k5) (by decide) rfl)) rfl rfl hl.1 rfl (lv_room (Nat.le_of_ble_eq_true rfl)) dX11_crop_28 ⟨Nat.zero_le _, Nat.zero_le _⟩
          have hc2 := ok_f k5 hc2
          cases hc2
        cases hf
        exact z_iret hx hb hr hlk hK hG hI dX11_crop_31
      · have hf := ok_f c2 hf
        refine lv_ldc (v := (-1000001)) hx hb hown (hts (.constant RX11 57 (-1000001)) (by decide +kernel)) dX11_crop_23 ?_
        cases hf
        exact z_iret hx hb hr hlk hK hG hI dX11_crop_25

-- ===== FenceYards.reaped(II)I
set_option maxRecDepth 100000 in
theorem i_X11_reaped_4 : ∀ w ∈ u_ws RX4 TX4 11, w ∈ wsX11_reaped := by decide +kernel
set_option maxRecDepth 100000 in
theorem i_X11_reaped_10 : ∀ w ∈ u_ws RX11 TX11 9, w ∈ wsX11_reaped := by decide +kernel
def f_X11_reaped (σ : Hp) (x1 : Int32) (x2 : Int32) : Option (Int32) :=
  if (gI σ (lnd σ) 5) = 0 then (some (-1000002)) else (bd1 (f_X11_isUpOrDown σ x1) fun r1 => if r1 = 0 then (some (-1000001)) else (bd1 (f_X11_isUpOrDown σ x2) fun r2 => if r2 = 0 then (some (-1000001)) else (if x1 = 0 then (bd1 (f_X4_leftSoFar σ (lnd σ)) fun r5 => bd1 (f_X11_fraction σ r5 x2) fun r6 => some r6) else (bd1 (f_X4_rightSoFar σ (lnd σ)) fun r3 => bd1 (f_X11_fraction σ r3 x2) fun r4 => some r4))))
set_option maxRecDepth 100000 in
set_option maxHeartbeats 4000000 in
theorem m_X11_reaped (G : GT) (l : Launch) {σ : Hp} {x1 : Int32} {x2 : Int32} {r : Int32}  (hf : f_X11_reaped σ x1 x2 = some r) : MetG G l yX11_reaped wsX11_reaped (rmk 3 71) σ [.ref (G.1 + 0), .int x1, .int x2] (QI G σ r) := by
  refine met_of (cc := cX11_reaped) (nL := 3) (ret := (some .int)) (by decide) rfl (Nat.le_of_ble_eq_true rfl) ?_
  intro p e s m below meth c C0 hnm hI ls hl
  obtain ⟨hx, hb, hr, hml, hown, hts, hlk, hK, hG⟩ := id C0
  have hl : lv_has ls 3 [(0, .ref (G.1 + 0)), (1, .int x1), (2, .int x2)] := hl
  unfold f_X11_reaped at hf
  refine lv_aload_n hx hb dX11_reaped_0 rfl (lv_at hl 0 rfl) ?_
  have hg1 : isG (lnd σ) := hI.2.2.2.2.1
  refine z_get (C := RX11) (T := TX11) (N := 9) (ci := 10) (v := .ref (G.1 + (lnd σ))) hx hb hts i_X11_reaped_10 hown hK hI 0 rfl (by decide) rfl 6 (by decide) (hts (.fieldLink RX11 47 "FenceYards" "land" "LFenceYards$Ground;") (by decide +kernel)) (fun _ h9 => h9) rfl dX11_reaped_1 ?_
  refine z_getN (C := RX4) (T := TX4) (N := 11) (ci := 4) (v := .int (gI σ (lnd σ) 5)) hx hb hts i_X11_reaped_4 hown hK hI (lnd σ) (kd_G hg1) (by decide) rfl 5 (by decide) (hG.1.1 ("FenceYards", 117, "FenceYards$Ground", "stands", "Z") (by decide +kernel)) (fun _ h9 => h9) rfl dX11_reaped_4 ?_
  refine lv_if_ne (tgt := 13) hx hb dX11_reaped_7 (by decide) (fun c1 => ?_) (fun c1 => ?_)
  · have hf := ok_f c1 hf
    refine lv_iload_n hx hb dX11_reaped_13 rfl (lv_at hl 1 rfl) ?_
    obtain ⟨r1, hc1, hf⟩ := ok_1 hf
    refine z_calli0 rfl rfl hI (va_runS (As := [.int x1]) (rest := []) ⟨hx, hb, hml, hown, hts⟩ (m_X11_isUpOrDown G l  hc1) (va_cwS 1 hts gX11_reaped_X11_isUpOrDown rfl rfl rfl (by decide +kernel) ⟨Nat.le_of_ble_eq_true rfl, Nat.le_of_ble_eq_true rfl⟩) (z_pre hK hG hI) rfl rfl hl.1 rfl (lv_room (Nat.le_of_ble_eq_true rfl)) dX11_reaped_14 ⟨Nat.zero_le _, Nat.zero_le _⟩) (fun H locs hI => ?_)
    refine lv_if_eq (tgt := 27) hx hb dX11_reaped_17 (by decide) (fun c2 => ?_) (fun c2 => ?_)
    · have hf := ok_t c2 hf
      refine lv_ldc (v := (-1000001)) hx hb hown (hts (.constant RX11 57 (-1000001)) (by decide +kernel)) dX11_reaped_27 ?_
      cases hf
      exact z_iret hx hb hr hlk hK hG hI dX11_reaped_29
    · have hf := ok_f c2 hf
      refine lv_iload_n hx hb dX11_reaped_20 rfl (lv_at hl 2 rfl) ?_
      obtain ⟨r2, hc2, hf⟩ := ok_1 hf
      refine z_calli0 rfl rfl hI (va_runS (As := [.int x2]) (rest := []) ⟨hx, hb, hml, hown, hts⟩ (m_X11_isUpOrDown G l  hc2) (va_cwS 1 hts gX11_reaped_X11_isUpOrDown rfl rfl rfl (by decide +kernel) ⟨Nat.le_of_ble_eq_true rfl, Nat.le_of_ble_eq_true rfl⟩) (z_pre hK hG hI) rfl rfl hl.1 rfl (lv_room (Nat.le_of_ble_eq_true rfl)) dX11_reaped_21 ⟨Nat.zero_le _, Nat.zero_le _⟩) (fun H locs hI => ?_)
      refine lv_if_ne (tgt := 30) hx hb dX11_reaped_24 (by decide) (fun c3 => ?_) (fun c3 => ?_)
      · have hf := ok_f c3 hf
        refine lv_iload_n hx hb dX11_reaped_30 rfl (lv_at hl 1 rfl) ?_
        refine lv_if_ne (tgt := 44) hx hb dX11_reaped_31 (by decide) (fun c4 => ?_) (fun c4 => ?_)
        · have hf := ok_f c4 hf
          refine lv_aload_n hx hb dX11_reaped_44 rfl (lv_at hl 0 rfl) ?_
          have hg2 : isG (lnd σ) := hI.2.2.2.2.1
          refine z_get (C := RX11) (T := TX11) (N := 9) (ci := 10) (v := .ref (G.1 + (lnd σ))) hx hb hts i_X11_reaped_10 hown hK hI 0 rfl (by decide) rfl 6 (by decide) (hts (.fieldLink RX11 47 "FenceYards" "land" "LFenceYards$Ground;") (by decide +kernel)) (fun _ h9 => h9) rfl dX11_reaped_45 ?_
          obtain ⟨r3, hc3, hf⟩ := ok_1 hf
          refine z_calli0 rfl rfl hI (va_runVN (As := []) (rest := []) ⟨hx, hb, hml, hown, hts⟩ (m_X4_rightSoFar G l hg2 hc3) ⟨va_cnB (host := "FenceYards") 0 hts gX11_reaped_X4_rightSoFar_n177 rfl rfl rfl (hG.1.2.1 ("FenceYards", 177, ⟨"FenceYards$Ground", "rightSoFar", "()I"⟩) (by decide +kernel)) (hts (.initialized "FenceYards$Ground") (by decide +kernel)) (by decide +kernel) ⟨Nat.le_of_ble_eq_true rfl, Nat.le_of_ble_eq_true rfl⟩, hts (.instanceMethod yX4_rightSoFar) (by decide +kernel), hts (.selects "FenceYards$Ground" yX4_rightSoFar yX4_rightSoFar) (by decide +kernel)⟩ (z_preV hK hG hI (z_rc (q := lnd σ) (ci := 4) (n := 0) hK hI (kd_G hg2) (by decide) rfl)) rfl rfl hl.1 rfl (lv_room (Nat.le_of_ble_eq_true rfl)) dX11_reaped_48 ⟨Nat.zero_le _, Nat.zero_le _⟩) (fun H locs hI => ?_)
          refine lv_iload_n hx hb dX11_reaped_51 rfl (lv_at hl 2 rfl) ?_
          obtain ⟨r4, hc4, hf⟩ := ok_1 hf
          refine z_calli0 rfl rfl hI (va_runS (As := [.int r3, .int x2]) (rest := []) ⟨hx, hb, hml, hown, hts⟩ (m_X11_fraction G l  hc4) (va_cwS 2 hts gX11_reaped_X11_fraction rfl rfl rfl (by decide +kernel) ⟨Nat.le_of_ble_eq_true rfl, Nat.le_of_ble_eq_true rfl⟩) (z_pre hK hG hI) rfl rfl hl.1 rfl (lv_room (Nat.le_of_ble_eq_true rfl)) dX11_reaped_52 ⟨Nat.zero_le _, Nat.zero_le _⟩) (fun H locs hI => ?_)
          cases hf
          exact z_iret hx hb hr hlk hK hG hI dX11_reaped_55
        · have hf := ok_t c4 hf
          refine lv_aload_n hx hb dX11_reaped_34 rfl (lv_at hl 0 rfl) ?_
          have hg3 : isG (lnd σ) := hI.2.2.2.2.1
          refine z_get (C := RX11) (T := TX11) (N := 9) (ci := 10) (v := .ref (G.1 + (lnd σ))) hx hb hts i_X11_reaped_10 hown hK hI 0 rfl (by decide) rfl 6 (by decide) (hts (.fieldLink RX11 47 "FenceYards" "land" "LFenceYards$Ground;") (by decide +kernel)) (fun _ h9 => h9) rfl dX11_reaped_35 ?_
          obtain ⟨r5, hc5, hf⟩ := ok_1 hf
          refine z_calli0 rfl rfl hI (va_runVN (As := []) (rest := []) ⟨hx, hb, hml, hown, hts⟩ (m_X4_leftSoFar G l hg3 hc5) ⟨va_cnB (host := "FenceYards") 0 hts gX11_reaped_X4_leftSoFar_n174 rfl rfl rfl (hG.1.2.1 ("FenceYards", 174, ⟨"FenceYards$Ground", "leftSoFar", "()I"⟩) (by decide +kernel)) (hts (.initialized "FenceYards$Ground") (by decide +kernel)) (by decide +kernel) ⟨Nat.le_of_ble_eq_true rfl, Nat.le_of_ble_eq_true rfl⟩, hts (.instanceMethod yX4_leftSoFar) (by decide +kernel), hts (.selects "FenceYards$Ground" yX4_leftSoFar yX4_leftSoFar) (by decide +kernel)⟩ (z_preV hK hG hI (z_rc (q := lnd σ) (ci := 4) (n := 0) hK hI (kd_G hg3) (by decide) rfl)) rfl rfl hl.1 rfl (lv_room (Nat.le_of_ble_eq_true rfl)) dX11_reaped_38 ⟨Nat.zero_le _, Nat.zero_le _⟩) (fun H locs hI => ?_)
          refine lv_goto (tgt := 51) hx hb dX11_reaped_41 (by decide) ?_
          refine lv_iload_n hx hb dX11_reaped_51 rfl (lv_at hl 2 rfl) ?_
          obtain ⟨r6, hc6, hf⟩ := ok_1 hf
          refine z_calli0 rfl rfl hI (va_runS (As := [.int r5, .int x2]) (rest := []) ⟨hx, hb, hml, hown, hts⟩ (m_X11_fraction G l  hc6) (va_cwS 2 hts gX11_reaped_X11_fraction rfl rfl rfl (by decide +kernel) ⟨Nat.le_of_ble_eq_true rfl, Nat.le_of_ble_eq_true rfl⟩) (z_pre hK hG hI) rfl rfl hl.1 rfl (lv_room (Nat.le_of_ble_eq_true rfl)) dX11_reaped_52 ⟨Nat.zero_le _, Nat.zero_le _⟩) (fun H locs hI => ?_)
          cases hf
          exact z_iret hx hb hr hlk hK hG hI dX11_reaped_55
      · have hf := ok_t c3 hf
        refine lv_ldc (v := (-1000001)) hx hb hown (hts (.constant RX11 57 (-1000001)) (by decide +kernel)) dX11_reaped_27 ?_
        cases hf
        exact z_iret hx hb hr hlk hK hG hI dX11_reaped_29
  · have hf := ok_t c1 hf
    refine lv_ldc (v := (-1000002)) hx hb hown (hts (.constant RX11 121 (-1000002)) (by decide +kernel)) dX11_reaped_10 ?_
    cases hf
    exact z_iret hx hb hr hlk hK hG hI dX11_reaped_12

-- ===== FenceYards.best(III)I
set_option maxRecDepth 100000 in
theorem i_X11_best_4 : ∀ w ∈ u_ws RX4 TX4 11, w ∈ wsX11_best := by decide +kernel
set_option maxRecDepth 100000 in
theorem i_X11_best_6 : ∀ w ∈ u_ws RX6 TX6 3, w ∈ wsX11_best := by decide +kernel
set_option maxRecDepth 100000 in
theorem i_X11_best_10 : ∀ w ∈ u_ws RX11 TX11 9, w ∈ wsX11_best := by decide +kernel
def f_X11_best (σ : Hp) (x1 : Int32) (x2 : Int32) (x3 : Int32) : Option (Hp × Int32) :=
  if (gI σ (lnd σ) 5) = 0 then (some (σ, (-1000002))) else (bd1 (f_X11_isRow σ x1) fun r1 => if r1 = 0 then (some (σ, (-1000001))) else (bd1 (f_X11_isSpan σ x2) fun r2 => if r2 = 0 then (some (σ, (-1000001))) else (if (-2) ≤ x3 then (bd1 (f_X6_isMissing σ x1) fun r3 => if r3 = 0 then (bd1 (f_X6_holds σ x1 0 x2) fun r4 => if r4 = 0 then (bd2 (f_X11_found σ 2) fun s5 r13 => some (s5, r13)) else (bd1 (f_X6_startsWithMoves σ x1 x2) fun r5 => if r5 = 0 then (some (σ, (-1000001))) else (chk (inb x1 8) <| bd2 (f_X8_bestOf σ (lnd σ) (3 + x1.toNatClampNeg) x2) fun s1 r6 => if 0 ≤ x3 then (bd1 (f_X4_daysOf s1 (lnd s1) x2) fun r7 => if r7 ≤ x3 then (bd2 (f_X11_fine s1 (-1000000)) fun s2 r8 => some (s2, r8)) else (bd1 (f_X8_bestMove s1 x3) fun r9 => bd2 (f_X11_fine s1 r9) fun s3 r10 => some (s3, r10))) else (bd1 (f_X11_fraction s1 r6 (x3 + 2)) fun r11 => bd2 (f_X11_fine s1 r11) fun s4 r12 => some (s4, r12))))) else (bd2 (f_X11_found σ 1) fun s6 r14 => some (s6, r14))) else (some (σ, (-1000001))))))
set_option maxRecDepth 100000 in
set_option maxHeartbeats 4000000 in
theorem m_X11_best (G : GT) (l : Launch) {σ : Hp} {x1 : Int32} {x2 : Int32} {x3 : Int32} {σ' : Hp} {r : Int32}  (hf : f_X11_best σ x1 x2 x3 = some (σ', r)) : MetG G l yX11_best wsX11_best (rmk 4 101) σ [.ref (G.1 + 0), .int x1, .int x2, .int x3] (QI G σ' r) := by
  refine met_of (cc := cX11_best) (nL := 5) (ret := (some .int)) (by decide) rfl (Nat.le_of_ble_eq_true rfl) ?_
  intro p e s m below meth c C0 hnm hI ls hl
  obtain ⟨hx, hb, hr, hml, hown, hts, hlk, hK, hG⟩ := id C0
  have hl : lv_has ls 5 [(0, .ref (G.1 + 0)), (1, .int x1), (2, .int x2), (3, .int x3)] := hl
  unfold f_X11_best at hf
  refine lv_aload_n hx hb dX11_best_0 rfl (lv_at hl 0 rfl) ?_
  have hg1 : isG (lnd σ) := hI.2.2.2.2.1
  refine z_get (C := RX11) (T := TX11) (N := 9) (ci := 10) (v := .ref (G.1 + (lnd σ))) hx hb hts i_X11_best_10 hown hK hI 0 rfl (by decide) rfl 6 (by decide) (hts (.fieldLink RX11 47 "FenceYards" "land" "LFenceYards$Ground;") (by decide +kernel)) (fun _ h9 => h9) rfl dX11_best_1 ?_
  refine z_getN (C := RX4) (T := TX4) (N := 11) (ci := 4) (v := .int (gI σ (lnd σ) 5)) hx hb hts i_X11_best_4 hown hK hI (lnd σ) (kd_G hg1) (by decide) rfl 5 (by decide) (hG.1.1 ("FenceYards", 117, "FenceYards$Ground", "stands", "Z") (by decide +kernel)) (fun _ h9 => h9) rfl dX11_best_4 ?_
  refine lv_if_ne (tgt := 13) hx hb dX11_best_7 (by decide) (fun c1 => ?_) (fun c1 => ?_)
  · have hf := ok_f c1 hf
    refine lv_iload_n hx hb dX11_best_13 rfl (lv_at hl 1 rfl) ?_
    obtain ⟨r1, hc1, hf⟩ := ok_1 hf
    refine z_calli0 rfl rfl hI (va_runS (As := [.int x1]) (rest := []) ⟨hx, hb, hml, hown, hts⟩ (m_X11_isRow G l  hc1) (va_cwS 1 hts gX11_best_X11_isRow rfl rfl rfl (by decide +kernel) ⟨Nat.le_of_ble_eq_true rfl, Nat.le_of_ble_eq_true rfl⟩) (z_pre hK hG hI) rfl rfl hl.1 rfl (lv_room (Nat.le_of_ble_eq_true rfl)) dX11_best_14 ⟨Nat.zero_le _, Nat.zero_le _⟩) (fun H locs hI => ?_)
    refine lv_if_eq (tgt := 33) hx hb dX11_best_17 (by decide) (fun c2 => ?_) (fun c2 => ?_)
    · have hf := ok_t c2 hf
      refine lv_ldc (v := (-1000001)) hx hb hown (hts (.constant RX11 57 (-1000001)) (by decide +kernel)) dX11_best_33 ?_
      cases hf
      exact z_iret hx hb hr hlk hK hG hI dX11_best_35
    · have hf := ok_f c2 hf
      refine lv_iload_n hx hb dX11_best_20 rfl (lv_at hl 2 rfl) ?_
      obtain ⟨r2, hc2, hf⟩ := ok_1 hf
      refine z_calli0 rfl rfl hI (va_runS (As := [.int x2]) (rest := []) ⟨hx, hb, hml, hown, hts⟩ (m_X11_isSpan G l  hc2) (va_cwS 1 hts gX11_best_X11_isSpan rfl rfl rfl (by decide +kernel) ⟨Nat.le_of_ble_eq_true rfl, Nat.le_of_ble_eq_true rfl⟩) (z_pre hK hG hI) rfl rfl hl.1 rfl (lv_room (Nat.le_of_ble_eq_true rfl)) dX11_best_21 ⟨Nat.zero_le _, Nat.zero_le _⟩) (fun H locs hI => ?_)
      refine lv_if_eq (tgt := 33) hx hb dX11_best_24 (by decide) (fun c3 => ?_) (fun c3 => ?_)
      · have hf := ok_t c3 hf
        refine lv_ldc (v := (-1000001)) hx hb hown (hts (.constant RX11 57 (-1000001)) (by decide +kernel)) dX11_best_33 ?_
        cases hf
        exact z_iret hx hb hr hlk hK hG hI dX11_best_35
      · have hf := ok_f c3 hf
        refine lv_iload_n hx hb dX11_best_27 rfl (lv_at hl 3 rfl) ?_
        refine lv_bipush (v := (-2)) hx hb dX11_best_28 (by decide) ?_
        refine lv_icmp_ge (tgt := 36) hx hb dX11_best_30 (by decide) (fun c4 => ?_) (fun c4 => ?_)
        · have hf := ok_t c4 hf
          refine lv_aload_n hx hb dX11_best_36 rfl (lv_at hl 0 rfl) ?_
          refine z_get (C := RX11) (T := TX11) (N := 9) (ci := 10) (v := .ref (G.1 + 1)) hx hb hts i_X11_best_10 hown hK hI 0 rfl (by decide) rfl 0 (by decide) (hts (.fieldLink RX11 12 "FenceYards" "rows" "LFenceYards$Rows;") (by decide +kernel)) (fun _ h9 => h9) rfl dX11_best_37 ?_
          refine lv_iload_n hx hb dX11_best_40 rfl (lv_at hl 1 rfl) ?_
          obtain ⟨r3, hc3, hf⟩ := ok_1 hf
          refine z_calli0 rfl rfl hI (va_runVN (As := [.int x1]) (rest := []) ⟨hx, hb, hml, hown, hts⟩ (m_X6_isMissing G l  hc3) ⟨va_cnB (host := "FenceYards") 1 hts gX11_best_X6_isMissing_n69 rfl rfl rfl (hG.1.2.1 ("FenceYards", 69, ⟨"FenceYards$Rows", "isMissing", "(I)Z"⟩) (by decide +kernel)) (hts (.initialized "FenceYards$Rows") (by decide +kernel)) (by decide +kernel) ⟨Nat.le_of_ble_eq_true rfl, Nat.le_of_ble_eq_true rfl⟩, hts (.instanceMethod yX6_isMissing) (by decide +kernel), hts (.selects "FenceYards$Rows" yX6_isMissing yX6_isMissing) (by decide +kernel)⟩ (z_preV hK hG hI (z_rc (q := 1) (ci := 6) (n := 0) hK hI rfl (by decide) rfl)) rfl rfl hl.1 rfl (lv_room (Nat.le_of_ble_eq_true rfl)) dX11_best_41 ⟨Nat.zero_le _, Nat.zero_le _⟩) (fun H locs hI => ?_)
          refine lv_if_eq (tgt := 53) hx hb dX11_best_44 (by decide) (fun c5 => ?_) (fun c5 => ?_)
          · have hf := ok_t c5 hf
            refine lv_aload_n hx hb dX11_best_53 rfl (lv_at hl 0 rfl) ?_
            refine z_get (C := RX11) (T := TX11) (N := 9) (ci := 10) (v := .ref (G.1 + 1)) hx hb hts i_X11_best_10 hown hK hI 0 rfl (by decide) rfl 0 (by decide) (hts (.fieldLink RX11 12 "FenceYards" "rows" "LFenceYards$Rows;") (by decide +kernel)) (fun _ h9 => h9) rfl dX11_best_54 ?_
            refine lv_iload_n hx hb dX11_best_57 rfl (lv_at hl 1 rfl) ?_
            refine lv_iconst (v := 0) hx hb dX11_best_58 (by decide) ?_
            refine lv_iload_n hx hb dX11_best_59 rfl (lv_at hl 2 rfl) ?_
            obtain ⟨r4, hc4, hf⟩ := ok_1 hf
            refine z_calli0 rfl rfl hI (va_runVN (As := [.int x1, .int 0, .int x2]) (rest := []) ⟨hx, hb, hml, hown, hts⟩ (m_X6_holds G l  hc4) ⟨va_cnB (host := "FenceYards") 3 hts gX11_best_X6_holds_n83 rfl rfl rfl (hG.1.2.1 ("FenceYards", 83, ⟨"FenceYards$Rows", "holds", "(III)Z"⟩) (by decide +kernel)) (hts (.initialized "FenceYards$Rows") (by decide +kernel)) (by decide +kernel) ⟨Nat.le_of_ble_eq_true rfl, Nat.le_of_ble_eq_true rfl⟩, hts (.instanceMethod yX6_holds) (by decide +kernel), hts (.selects "FenceYards$Rows" yX6_holds yX6_holds) (by decide +kernel)⟩ (z_preV hK hG hI (z_rc (q := 1) (ci := 6) (n := 0) hK hI rfl (by decide) rfl)) rfl rfl hl.1 rfl (lv_room (Nat.le_of_ble_eq_true rfl)) dX11_best_60 ⟨Nat.zero_le _, Nat.zero_le _⟩) (fun H locs hI => ?_)
            refine lv_if_ne (tgt := 72) hx hb dX11_best_63 (by decide) (fun c6 => ?_) (fun c6 => ?_)
            · have hf := ok_f c6 hf
              refine lv_aload_n hx hb dX11_best_72 rfl (lv_at hl 0 rfl) ?_
              refine z_get (C := RX11) (T := TX11) (N := 9) (ci := 10) (v := .ref (G.1 + 1)) hx hb hts i_X11_best_10 hown hK hI 0 rfl (by decide) rfl 0 (by decide) (hts (.fieldLink RX11 12 "FenceYards" "rows" "LFenceYards$Rows;") (by decide +kernel)) (fun _ h9 => h9) rfl dX11_best_73 ?_
              refine lv_iload_n hx hb dX11_best_76 rfl (lv_at hl 1 rfl) ?_
              refine lv_iload_n hx hb dX11_best_77 rfl (lv_at hl 2 rfl) ?_
              obtain ⟨r5, hc5, hf⟩ := ok_1 hf
              refine z_calli0 rfl rfl hI (va_runVN (As := [.int x1, .int x2]) (rest := []) ⟨hx, hb, hml, hown, hts⟩ (m_X6_startsWithMoves G l  hc5) ⟨va_cnB (host := "FenceYards") 2 hts gX11_best_X6_startsWithMoves_n183 rfl rfl rfl (hG.1.2.1 ("FenceYards", 183, ⟨"FenceYards$Rows", "startsWithMoves", "(II)Z"⟩) (by decide +kernel)) (hts (.initialized "FenceYards$Rows") (by decide +kernel)) (by decide +kernel) ⟨Nat.le_of_ble_eq_true rfl, Nat.le_of_ble_eq_true rfl⟩, hts (.instanceMethod yX6_startsWithMoves) (by decide +kernel), hts (.selects "FenceYards$Rows" yX6_startsWithMoves yX6_startsWithMoves) (by decide +kernel)⟩ (z_preV hK hG hI (z_rc (q := 1) (ci := 6) (n := 0) hK hI rfl (by decide) rfl)) rfl rfl hl.1 rfl (lv_room (Nat.le_of_ble_eq_true rfl)) dX11_best_78 ⟨Nat.zero_le _, Nat.zero_le _⟩) (fun H locs hI => ?_)
              refine lv_if_ne (tgt := 87) hx hb dX11_best_81 (by decide) (fun c7 => ?_) (fun c7 => ?_)
              · have hf := ok_f c7 hf
                refine lv_aload_n hx hb dX11_best_87 rfl (lv_at hl 0 rfl) ?_
                refine z_get (C := RX11) (T := TX11) (N := 9) (ci := 10) (v := .ref (G.1 + 15)) hx hb hts i_X11_best_10 hown hK hI 0 rfl (by decide) rfl 2 (by decide) (hts (.fieldLink RX11 26 "FenceYards" "seer" "LFenceYards$Seer;") (by decide +kernel)) (fun _ h9 => h9) rfl dX11_best_88 ?_
                refine lv_aload_n hx hb dX11_best_91 rfl (lv_at hl 0 rfl) ?_
                have hg2 : isG (lnd σ) := hI.2.2.2.2.1
                refine z_get (C := RX11) (T := TX11) (N := 9) (ci := 10) (v := .ref (G.1 + (lnd σ))) hx hb hts i_X11_best_10 hown hK hI 0 rfl (by decide) rfl 6 (by decide) (hts (.fieldLink RX11 47 "FenceYards" "land" "LFenceYards$Ground;") (by decide +kernel)) (fun _ h9 => h9) rfl dX11_best_92 ?_
                refine lv_aload_n hx hb dX11_best_95 rfl (lv_at hl 0 rfl) ?_
                refine z_get (C := RX11) (T := TX11) (N := 9) (ci := 10) (v := .ref (G.1 + 1)) hx hb hts i_X11_best_10 hown hK hI 0 rfl (by decide) rfl 0 (by decide) (hts (.fieldLink RX11 12 "FenceYards" "rows" "LFenceYards$Rows;") (by decide +kernel)) (fun _ h9 => h9) rfl dX11_best_96 ?_
                refine z_getN (C := RX6) (T := TX6) (N := 3) (ci := 6) (v := .ref (G.1 + 2)) hx hb hts i_X11_best_6 hown hK hI 1 rfl (by decide) rfl 0 (by decide) (hG.1.1 ("FenceYards", 186, "FenceYards$Rows", "items", "[[I") (by decide +kernel)) (fun _ h9 => h9) rfl dX11_best_99 ?_
                refine lv_iload_n hx hb dX11_best_102 rfl (lv_at hl 1 rfl) ?_
                obtain ⟨h1, hf⟩ := ok_c hf
                refine z_aldW hx hb hK hI (k := x1.toNatClampNeg) h1 rfl dX11_best_103 ?_
                have hw1 : isW (3 + x1.toNatClampNeg) := isW_of h1
                refine lv_iload_n hx hb dX11_best_104 rfl (lv_at hl 2 rfl) ?_
                obtain ⟨s1, r6, hc6, hf⟩ := ok_2 hf
                refine z_calli0 rfl rfl hI (va_runVN (As := [.ref (G.1 + (lnd σ)), .ref (G.1 + (3 + x1.toNatClampNeg)), .int x2]) (rest := []) ⟨hx, hb, hml, hown, hts⟩ (m_X8_bestOf G l hg2 hw1 hc6) ⟨va_cnB (host := "FenceYards") 3 hts gX11_best_X8_bestOf_n190 rfl rfl rfl (hG.1.2.1 ("FenceYards", 190, ⟨"FenceYards$Seer", "bestOf", "(LFenceYards$Ground;[II)I"⟩) (by decide +kernel)) (hts (.initialized "FenceYards$Seer") (by decide +kernel)) (by decide +kernel) ⟨Nat.le_of_ble_eq_true rfl, Nat.le_of_ble_eq_true rfl⟩, hts (.instanceMethod yX8_bestOf) (by decide +kernel), hts (.selects "FenceYards$Seer" yX8_bestOf yX8_bestOf) (by decide +kernel)⟩ (z_preV hK hG hI (z_rc (q := 15) (ci := 8) (n := 0) hK hI rfl (by decide) rfl)) rfl rfl hl.1 rfl (lv_room (Nat.le_of_ble_eq_true rfl)) dX11_best_105 ⟨Nat.zero_le _, Nat.zero_le _⟩) (fun H locs hI => ?_)
                refine lv_istore (lv' := [(4, .int r6), (0, .ref (G.1 + 0)), (1, .int x1), (2, .int x2), (3, .int x3)]) hx hb dX11_best_108 hl (by decide) rfl (fun ls hl => ?_)
                refine lv_iload_n hx hb dX11_best_110 rfl (lv_at hl 4 rfl) ?_
                refine lv_if_ge (tgt := 127) hx hb dX11_best_111 (by decide) (fun c8 => ?_) (fun c8 => ?_)
                · have hf := ok_t c8 hf
                  refine lv_aload_n hx hb dX11_best_127 rfl (lv_at hl 1 rfl) ?_
                  refine lv_iload_n hx hb dX11_best_128 rfl (lv_at hl 4 rfl) ?_
                  refine lv_aload_n hx hb dX11_best_129 rfl (lv_at hl 1 rfl) ?_
                  have hg3 : isG (lnd s1) := hI.2.2.2.2.1
                  refine z_get (C := RX11) (T := TX11) (N := 9) (ci := 10) (v := .ref (G.1 + (lnd s1))) hx hb hts i_X11_best_10 hown hK hI 0 rfl (by decide) rfl 6 (by decide) (hts (.fieldLink RX11 47 "FenceYards" "land" "LFenceYards$Ground;") (by decide +kernel)) (fun _ h9 => h9) rfl dX11_best_130 ?_
                  refine lv_iload_n hx hb dX11_best_133 rfl (lv_at hl 3 rfl) ?_
                  obtain ⟨r7, hc7, hf⟩ := ok_1 hf
                  refine z_calli0 rfl rfl hI (va_runVN (As := [.int x2]) (rest := [.int x3, .ref (G.1 + 0)]) ⟨hx, hb, hml, hown, hts⟩ (m_X4_daysOf G l hg3 hc7) ⟨va_cnB (host := "FenceYards") 1 hts gX11_best_X4_daysOf_n194 rfl rfl rfl (hG.1.2.1 ("FenceYards", 194, ⟨"FenceYards$Ground", "daysOf", "(I)I"⟩) (by decide +kernel)) (hts (.initialized "FenceYards$Ground") (by decide +kernel)) (by decide +kernel) ⟨Nat.le_of_ble_eq_true rfl, Nat.le_of_ble_eq_true rfl⟩, hts (.instanceMethod yX4_daysOf) (by decide +kernel), hts (.selects "FenceYards$Ground" yX4_daysOf yX4_daysOf) (by decide +kernel)⟩ (z_preV hK hG hI (z_rc (q := lnd s1) (ci := 4) (n := 0) hK hI (kd_G hg3) (by decide) rfl)) rfl rfl hl.1 rfl (lv_room (Nat.le_of_ble_eq_true rfl)) dX11_best_134 ⟨Nat.zero_le _, Nat.zero_le _⟩) (fun H locs hI => ?_)
                  refine lv_icmp_ge (tgt := 151) hx hb dX11_best_137 (by decide) (fun c9 => ?_) (fun c9 => ?_)
                  · have hf := ok_t c9 hf
                    refine lv_ldc (v := (-1000000)) hx hb hown (hts (.constant RX11 200 (-1000000)) (by decide +kernel)) dX11_best_151 ?_
                    obtain ⟨s2, r8, hc8, hf⟩ := ok_2 hf
                    refine z_calli0 rfl rfl hI (va_runV (As := [.int (-1000000)]) (rest := []) ⟨hx, hb, hml, hown, hts⟩ (m_X11_fine G l  hc8) (cwV 1 hts gX11_best_X11_fine rfl rfl rfl (by decide +kernel) ⟨Nat.le_of_ble_eq_true rfl, Nat.le_of_ble_eq_true rfl⟩) (z_preV hK hG hI (z_rc (q := 0) (ci := 10) (n := 0) hK hI rfl (by decide) rfl)) rfl rfl hl.1 rfl (lv_room (Nat.le_of_ble_eq_true rfl)) dX11_best_153 ⟨Nat.zero_le _, Nat.zero_le _⟩) (fun H locs hI => ?_)
                    cases hf
                    exact z_iret hx hb hr hlk hK hG hI dX11_best_156
                  · have hf := ok_f c9 hf
                    refine lv_aload_n hx hb dX11_best_140 rfl (lv_at hl 1 rfl) ?_
                    refine z_get (C := RX11) (T := TX11) (N := 9) (ci := 10) (v := .ref (G.1 + 15)) hx hb hts i_X11_best_10 hown hK hI 0 rfl (by decide) rfl 2 (by decide) (hts (.fieldLink RX11 26 "FenceYards" "seer" "LFenceYards$Seer;") (by decide +kernel)) (fun _ h9 => h9) rfl dX11_best_141 ?_
                    refine lv_iload_n hx hb dX11_best_144 rfl (lv_at hl 4 rfl) ?_
                    obtain ⟨r9, hc9, hf⟩ := ok_1 hf
                    refine z_calli0 rfl rfl hI (va_runVN (As := [.int x3]) (rest := [.ref (G.1 + 0)]) ⟨hx, hb, hml, hown, hts⟩ (m_X8_bestMove G l  hc9) ⟨va_cnB (host := "FenceYards") 1 hts gX11_best_X8_bestMove_n197 rfl rfl rfl (hG.1.2.1 ("FenceYards", 197, ⟨"FenceYards$Seer", "bestMove", "(I)I"⟩) (by decide +kernel)) (hts (.initialized "FenceYards$Seer") (by decide +kernel)) (by decide +kernel) ⟨Nat.le_of_ble_eq_true rfl, Nat.le_of_ble_eq_true rfl⟩, hts (.instanceMethod yX8_bestMove) (by decide +kernel), hts (.selects "FenceYards$Seer" yX8_bestMove yX8_bestMove) (by decide +kernel)⟩ (z_preV hK hG hI (z_rc (q := 15) (ci := 8) (n := 0) hK hI rfl (by decide) rfl)) rfl rfl hl.1 rfl (lv_room (Nat.le_of_ble_eq_true rfl)) dX11_best_145 ⟨Nat.zero_le _, Nat.zero_le _⟩) (fun H locs hI => ?_)
                    refine lv_goto (tgt := 153) hx hb dX11_best_148 (by decide) ?_
                    obtain ⟨s3, r10, hc10, hf⟩ := ok_2 hf
                    refine z_calli0 rfl rfl hI (va_runV (As := [.int r9]) (rest := []) ⟨hx, hb, hml, hown, hts⟩ (m_X11_fine G l  hc10) (cwV 1 hts gX11_best_X11_fine rfl rfl rfl (by decide +kernel) ⟨Nat.le_of_ble_eq_true rfl, Nat.le_of_ble_eq_true rfl⟩) (z_preV hK hG hI (z_rc (q := 0) (ci := 10) (n := 0) hK hI rfl (by decide) rfl)) rfl rfl hl.1 rfl (lv_room (Nat.le_of_ble_eq_true rfl)) dX11_best_153 ⟨Nat.zero_le _, Nat.zero_le _⟩) (fun H locs hI => ?_)
                    cases hf
                    exact z_iret hx hb hr hlk hK hG hI dX11_best_156
                · have hf := ok_f c8 hf
                  refine lv_aload_n hx hb dX11_best_114 rfl (lv_at hl 1 rfl) ?_
                  refine lv_iload hx hb dX11_best_115 (lv_at hl 0 rfl) ?_
                  refine lv_iload_n hx hb dX11_best_117 rfl (lv_at hl 4 rfl) ?_
                  refine lv_iconst (v := 2) hx hb dX11_best_118 (by decide) ?_
                  refine lv_iadd hx hb dX11_best_119 ?_
                  obtain ⟨r11, hc11, hf⟩ := ok_1 hf
                  refine z_calli0 rfl rfl hI (va_runS (As := [.int r6, .int (x3 + 2)]) (rest := [.ref (G.1 + 0)]) ⟨hx, hb, hml, hown, hts⟩ (m_X11_fraction G l  hc11) (va_cwS 2 hts gX11_best_X11_fraction rfl rfl rfl (by decide +kernel) ⟨Nat.le_of_ble_eq_true rfl, Nat.le_of_ble_eq_true rfl⟩) (z_pre hK hG hI) rfl rfl hl.1 rfl (lv_room (Nat.le_of_ble_eq_true rfl)) dX11_best_120 ⟨Nat.zero_le _, Nat.zero_le _⟩) (fun H locs hI => ?_)
                  obtain ⟨s4, r12, hc12, hf⟩ := ok_2 hf
                  refine z_calli0 rfl rfl hI (va_runV (As := [.int r11]) (rest := []) ⟨hx, hb, hml, hown, hts⟩ (m_X11_fine G l  hc12) (cwV 1 hts gX11_best_X11_fine rfl rfl rfl (by decide +kernel) ⟨Nat.le_of_ble_eq_true rfl, Nat.le_of_ble_eq_true rfl⟩) (z_preV hK hG hI (z_rc (q := 0) (ci := 10) (n := 0) hK hI rfl (by decide) rfl)) rfl rfl hl.1 rfl (lv_room (Nat.le_of_ble_eq_true rfl)) dX11_best_123 ⟨Nat.zero_le _, Nat.zero_le _⟩) (fun H locs hI => ?_)
                  cases hf
                  exact z_iret hx hb hr hlk hK hG hI dX11_best_126
              · have hf := ok_t c7 hf
                refine lv_ldc (v := (-1000001)) hx hb hown (hts (.constant RX11 57 (-1000001)) (by decide +kernel)) dX11_best_84 ?_
                cases hf
                exact z_iret hx hb hr hlk hK hG hI dX11_best_86
            · have hf := ok_t c6 hf
              refine lv_aload_n hx hb dX11_best_66 rfl (lv_at hl 0 rfl) ?_
              refine lv_iconst (v := 2) hx hb dX11_best_67 (by decide) ?_
              obtain ⟨s5, r13, hc13, hf⟩ := ok_2 hf
              refine z_calli0 rfl rfl hI (va_runV (As := [.int 2]) (rest := []) ⟨hx, hb, hml, hown, hts⟩ (m_X11_found G l  hc13) (cwV 1 hts gX11_best_X11_found rfl rfl rfl (by decide +kernel) ⟨Nat.le_of_ble_eq_true rfl, Nat.le_of_ble_eq_true rfl⟩) (z_preV hK hG hI (z_rc (q := 0) (ci := 10) (n := 0) hK hI rfl (by decide) rfl)) rfl rfl hl.1 rfl (lv_room (Nat.le_of_ble_eq_true rfl)) dX11_best_68 ⟨Nat.zero_le _, Nat.zero_le _⟩) (fun H locs hI => ?_)
              cases hf
              exact z_iret hx hb hr hlk hK hG hI dX11_best_71
          · have hf := ok_f c5 hf
            refine lv_aload_n hx hb dX11_best_47 rfl (lv_at hl 0 rfl) ?_
            refine lv_iconst (v := 1) hx hb dX11_best_48 (by decide) ?_
            obtain ⟨s6, r14, hc14, hf⟩ := ok_2 hf
            refine z_calli0 rfl rfl hI (va_runV (As := [.int 1]) (rest := []) ⟨hx, hb, hml, hown, hts⟩ (m_X11_found G l  hc14) (cwV 1 hts gX11_best_X11_found rfl rfl rfl (by decide +kernel) ⟨Nat.le_of_ble_eq_true rfl, Nat.le_of_ble_eq_true rfl⟩) (z_preV hK hG hI (z_rc (q := 0) (ci := 10) (n := 0) hK hI rfl (by decide) rfl)) rfl rfl hl.1 rfl (lv_room (Nat.le_of_ble_eq_true rfl)) dX11_best_49 ⟨Nat.zero_le _, Nat.zero_le _⟩) (fun H locs hI => ?_)
            cases hf
            exact z_iret hx hb hr hlk hK hG hI dX11_best_52
        · have hf := ok_f c4 hf
          refine lv_ldc (v := (-1000001)) hx hb hown (hts (.constant RX11 57 (-1000001)) (by decide +kernel)) dX11_best_33 ?_
          cases hf
          exact z_iret hx hb hr hlk hK hG hI dX11_best_35
  · have hf := ok_t c1 hf
    refine lv_ldc (v := (-1000002)) hx hb hown (hts (.constant RX11 121 (-1000002)) (by decide +kernel)) dX11_best_10 ?_
    cases hf
    exact z_iret hx hb hr hlk hK hG hI dX11_best_12

-- ===== FenceYards.game(II)I
set_option maxRecDepth 100000 in
theorem i_X11_game_4 : ∀ w ∈ u_ws RX4 TX4 11, w ∈ wsX11_game := by decide +kernel
set_option maxRecDepth 100000 in
theorem i_X11_game_10 : ∀ w ∈ u_ws RX11 TX11 9, w ∈ wsX11_game := by decide +kernel
def f_X11_game (σ : Hp) (x1 : Int32) (x2 : Int32) : Option (Hp × Int32) :=
  if (gI σ (lnd σ) 5) = 0 then (some (σ, (-1000002))) else (bd1 (f_X11_isSpan σ x1) fun r1 => if r1 = 0 then (some (σ, (-1000001))) else (if x2 < 0 then (some (σ, (-1000001))) else (if x2 ≤ 2 then (bd2 (f_X8_gameOf σ (lnd σ) x1) fun s1 r2 => if x2 = 2 then (bd1 (f_X8_firstMove s1 (lnd s1) x1) fun r4 => some (s1, r4)) else (bd1 (f_X11_fraction s1 r2 x2) fun r3 => some (s1, r3))) else (some (σ, (-1000001))))))
set_option maxRecDepth 100000 in
set_option maxHeartbeats 4000000 in
theorem m_X11_game (G : GT) (l : Launch) {σ : Hp} {x1 : Int32} {x2 : Int32} {σ' : Hp} {r : Int32}  (hf : f_X11_game σ x1 x2 = some (σ', r)) : MetG G l yX11_game wsX11_game (rmk 5 120) σ [.ref (G.1 + 0), .int x1, .int x2] (QI G σ' r) := by
  refine met_of (cc := cX11_game) (nL := 4) (ret := (some .int)) (by decide) rfl (Nat.le_of_ble_eq_true rfl) ?_
  intro p e s m below meth c C0 hnm hI ls hl
  obtain ⟨hx, hb, hr, hml, hown, hts, hlk, hK, hG⟩ := id C0
  have hl : lv_has ls 4 [(0, .ref (G.1 + 0)), (1, .int x1), (2, .int x2)] := hl
  unfold f_X11_game at hf
  refine lv_aload_n hx hb dX11_game_0 rfl (lv_at hl 0 rfl) ?_
  have hg1 : isG (lnd σ) := hI.2.2.2.2.1
  refine z_get (C := RX11) (T := TX11) (N := 9) (ci := 10) (v := .ref (G.1 + (lnd σ))) hx hb hts i_X11_game_10 hown hK hI 0 rfl (by decide) rfl 6 (by decide) (hts (.fieldLink RX11 47 "FenceYards" "land" "LFenceYards$Ground;") (by decide +kernel)) (fun _ h9 => h9) rfl dX11_game_1 ?_
  refine z_getN (C := RX4) (T := TX4) (N := 11) (ci := 4) (v := .int (gI σ (lnd σ) 5)) hx hb hts i_X11_game_4 hown hK hI (lnd σ) (kd_G hg1) (by decide) rfl 5 (by decide) (hG.1.1 ("FenceYards", 117, "FenceYards$Ground", "stands", "Z") (by decide +kernel)) (fun _ h9 => h9) rfl dX11_game_4 ?_
  refine lv_if_ne (tgt := 13) hx hb dX11_game_7 (by decide) (fun c1 => ?_) (fun c1 => ?_)
  · have hf := ok_f c1 hf
    refine lv_iload_n hx hb dX11_game_13 rfl (lv_at hl 1 rfl) ?_
    obtain ⟨r1, hc1, hf⟩ := ok_1 hf
    refine z_calli0 rfl rfl hI (va_runS (As := [.int x1]) (rest := []) ⟨hx, hb, hml, hown, hts⟩ (m_X11_isSpan G l  hc1) (va_cwS 1 hts gX11_game_X11_isSpan rfl rfl rfl (by decide +kernel) ⟨Nat.le_of_ble_eq_true rfl, Nat.le_of_ble_eq_true rfl⟩) (z_pre hK hG hI) rfl rfl hl.1 rfl (lv_room (Nat.le_of_ble_eq_true rfl)) dX11_game_14 ⟨Nat.zero_le _, Nat.zero_le _⟩) (fun H locs hI => ?_)
    refine lv_if_eq (tgt := 29) hx hb dX11_game_17 (by decide) (fun c2 => ?_) (fun c2 => ?_)
    · have hf := ok_t c2 hf
      refine lv_ldc (v := (-1000001)) hx hb hown (hts (.constant RX11 57 (-1000001)) (by decide +kernel)) dX11_game_29 ?_
      cases hf
      exact z_iret hx hb hr hlk hK hG hI dX11_game_31
    · have hf := ok_f c2 hf
      refine lv_iload_n hx hb dX11_game_20 rfl (lv_at hl 2 rfl) ?_
      refine lv_if_lt (tgt := 29) hx hb dX11_game_21 (by decide) (fun c3 => ?_) (fun c3 => ?_)
      · have hf := ok_t c3 hf
        refine lv_ldc (v := (-1000001)) hx hb hown (hts (.constant RX11 57 (-1000001)) (by decide +kernel)) dX11_game_29 ?_
        cases hf
        exact z_iret hx hb hr hlk hK hG hI dX11_game_31
      · have hf := ok_f c3 hf
        refine lv_iload_n hx hb dX11_game_24 rfl (lv_at hl 2 rfl) ?_
        refine lv_iconst (v := 2) hx hb dX11_game_25 (by decide) ?_
        refine lv_icmp_le (tgt := 32) hx hb dX11_game_26 (by decide) (fun c4 => ?_) (fun c4 => ?_)
        · have hf := ok_t c4 hf
          refine lv_aload_n hx hb dX11_game_32 rfl (lv_at hl 0 rfl) ?_
          refine z_get (C := RX11) (T := TX11) (N := 9) (ci := 10) (v := .ref (G.1 + 15)) hx hb hts i_X11_game_10 hown hK hI 0 rfl (by decide) rfl 2 (by decide) (hts (.fieldLink RX11 26 "FenceYards" "seer" "LFenceYards$Seer;") (by decide +kernel)) (fun _ h9 => h9) rfl dX11_game_33 ?_
          refine lv_aload_n hx hb dX11_game_36 rfl (lv_at hl 0 rfl) ?_
          have hg2 : isG (lnd σ) := hI.2.2.2.2.1
          refine z_get (C := RX11) (T := TX11) (N := 9) (ci := 10) (v := .ref (G.1 + (lnd σ))) hx hb hts i_X11_game_10 hown hK hI 0 rfl (by decide) rfl 6 (by decide) (hts (.fieldLink RX11 47 "FenceYards" "land" "LFenceYards$Ground;") (by decide +kernel)) (fun _ h9 => h9) rfl dX11_game_37 ?_
          refine lv_iload_n hx hb dX11_game_40 rfl (lv_at hl 1 rfl) ?_
          obtain ⟨s1, r2, hc2, hf⟩ := ok_2 hf
          refine z_calli0 rfl rfl hI (va_runVN (As := [.ref (G.1 + (lnd σ)), .int x1]) (rest := []) ⟨hx, hb, hml, hown, hts⟩ (m_X8_gameOf G l hg2 hc2) ⟨va_cnB (host := "FenceYards") 2 hts gX11_game_X8_gameOf_n201 rfl rfl rfl (hG.1.2.1 ("FenceYards", 201, ⟨"FenceYards$Seer", "gameOf", "(LFenceYards$Ground;I)I"⟩) (by decide +kernel)) (hts (.initialized "FenceYards$Seer") (by decide +kernel)) (by decide +kernel) ⟨Nat.le_of_ble_eq_true rfl, Nat.le_of_ble_eq_true rfl⟩, hts (.instanceMethod yX8_gameOf) (by decide +kernel), hts (.selects "FenceYards$Seer" yX8_gameOf yX8_gameOf) (by decide +kernel)⟩ (z_preV hK hG hI (z_rc (q := 15) (ci := 8) (n := 0) hK hI rfl (by decide) rfl)) rfl rfl hl.1 rfl (lv_room (Nat.le_of_ble_eq_true rfl)) dX11_game_41 ⟨Nat.zero_le _, Nat.zero_le _⟩) (fun H locs hI => ?_)
          refine lv_istore_n (lv' := [(3, .int r2), (0, .ref (G.1 + 0)), (1, .int x1), (2, .int x2)]) hx hb dX11_game_44 rfl hl (by decide) rfl (fun ls hl => ?_)
          refine lv_iload_n hx hb dX11_game_45 rfl (lv_at hl 3 rfl) ?_
          refine lv_iconst (v := 2) hx hb dX11_game_46 (by decide) ?_
          refine lv_icmp_ne (tgt := 65) hx hb dX11_game_47 (by decide) (fun c5 => ?_) (fun c5 => ?_)
          · have hf := ok_f c5 hf
            refine lv_iload_n hx hb dX11_game_65 rfl (lv_at hl 0 rfl) ?_
            refine lv_iload_n hx hb dX11_game_66 rfl (lv_at hl 3 rfl) ?_
            obtain ⟨r3, hc3, hf⟩ := ok_1 hf
            refine z_calli0 rfl rfl hI (va_runS (As := [.int r2, .int x2]) (rest := []) ⟨hx, hb, hml, hown, hts⟩ (m_X11_fraction G l  hc3) (va_cwS 2 hts gX11_game_X11_fraction rfl rfl rfl (by decide +kernel) ⟨Nat.le_of_ble_eq_true rfl, Nat.le_of_ble_eq_true rfl⟩) (z_pre hK hG hI) rfl rfl hl.1 rfl (lv_room (Nat.le_of_ble_eq_true rfl)) dX11_game_67 ⟨Nat.zero_le _, Nat.zero_le _⟩) (fun H locs hI => ?_)
            cases hf
            exact z_iret hx hb hr hlk hK hG hI dX11_game_70
          · have hf := ok_t c5 hf
            refine lv_aload_n hx hb dX11_game_50 rfl (lv_at hl 1 rfl) ?_
            refine z_get (C := RX11) (T := TX11) (N := 9) (ci := 10) (v := .ref (G.1 + 15)) hx hb hts i_X11_game_10 hown hK hI 0 rfl (by decide) rfl 2 (by decide) (hts (.fieldLink RX11 26 "FenceYards" "seer" "LFenceYards$Seer;") (by decide +kernel)) (fun _ h9 => h9) rfl dX11_game_51 ?_
            refine lv_aload_n hx hb dX11_game_54 rfl (lv_at hl 1 rfl) ?_
            have hg3 : isG (lnd s1) := hI.2.2.2.2.1
            refine z_get (C := RX11) (T := TX11) (N := 9) (ci := 10) (v := .ref (G.1 + (lnd s1))) hx hb hts i_X11_game_10 hown hK hI 0 rfl (by decide) rfl 6 (by decide) (hts (.fieldLink RX11 47 "FenceYards" "land" "LFenceYards$Ground;") (by decide +kernel)) (fun _ h9 => h9) rfl dX11_game_55 ?_
            refine lv_iload_n hx hb dX11_game_58 rfl (lv_at hl 2 rfl) ?_
            obtain ⟨r4, hc4, hf⟩ := ok_1 hf
            refine z_calli0 rfl rfl hI (va_runVN (As := [.ref (G.1 + (lnd s1)), .int x1]) (rest := []) ⟨hx, hb, hml, hown, hts⟩ (m_X8_firstMove G l hg3 hc4) ⟨va_cnB (host := "FenceYards") 2 hts gX11_game_X8_firstMove_n205 rfl rfl rfl (hG.1.2.1 ("FenceYards", 205, ⟨"FenceYards$Seer", "firstMove", "(LFenceYards$Ground;I)I"⟩) (by decide +kernel)) (hts (.initialized "FenceYards$Seer") (by decide +kernel)) (by decide +kernel) ⟨Nat.le_of_ble_eq_true rfl, Nat.le_of_ble_eq_true rfl⟩, hts (.instanceMethod yX8_firstMove) (by decide +kernel), hts (.selects "FenceYards$Seer" yX8_firstMove yX8_firstMove) (by decide +kernel)⟩ (z_preV hK hG hI (z_rc (q := 15) (ci := 8) (n := 0) hK hI rfl (by decide) rfl)) rfl rfl hl.1 rfl (lv_room (Nat.le_of_ble_eq_true rfl)) dX11_game_59 ⟨Nat.zero_le _, Nat.zero_le _⟩) (fun H locs hI => ?_)
            refine lv_goto (tgt := 70) hx hb dX11_game_62 (by decide) ?_
            cases hf
            exact z_iret hx hb hr hlk hK hG hI dX11_game_70
        · have hf := ok_f c4 hf
          refine lv_ldc (v := (-1000001)) hx hb hown (hts (.constant RX11 57 (-1000001)) (by decide +kernel)) dX11_game_29 ?_
          cases hf
          exact z_iret hx hb hr hlk hK hG hI dX11_game_31
  · have hf := ok_t c1 hf
    refine lv_ldc (v := (-1000002)) hx hb hown (hts (.constant RX11 121 (-1000002)) (by decide +kernel)) dX11_game_10 ?_
    cases hf
    exact z_iret hx hb hr hlk hK hG hI dX11_game_12

-- ===== FenceYards.treaty(II)I
set_option maxRecDepth 100000 in
theorem i_X11_treaty_4 : ∀ w ∈ u_ws RX4 TX4 11, w ∈ wsX11_treaty := by decide +kernel
set_option maxRecDepth 100000 in
theorem i_X11_treaty_10 : ∀ w ∈ u_ws RX11 TX11 9, w ∈ wsX11_treaty := by decide +kernel
def f_X11_treaty (σ : Hp) (x1 : Int32) (x2 : Int32) : Option (Hp × Int32) :=
  if (gI σ (lnd σ) 5) = 0 then (some (σ, (-1000002))) else (bd1 (f_X11_isSpan σ x1) fun r1 => if r1 = 0 then (some (σ, (-1000001))) else (bd1 (f_X11_isUpOrDown σ x2) fun r2 => if r2 = 0 then (some (σ, (-1000001))) else (bd2 (f_X8_restingOf σ (lnd σ) x1) fun s1 r3 => bd2 (f_X8_gameOf s1 (lnd s1) x1) fun s2 r4 => bd1 (f_X11_fraction s2 (r3 - r4) x2) fun r5 => some (s2, r5))))
set_option maxRecDepth 100000 in
set_option maxHeartbeats 4000000 in
theorem m_X11_treaty (G : GT) (l : Launch) {σ : Hp} {x1 : Int32} {x2 : Int32} {σ' : Hp} {r : Int32}  (hf : f_X11_treaty σ x1 x2 = some (σ', r)) : MetG G l yX11_treaty wsX11_treaty (rmk 5 120) σ [.ref (G.1 + 0), .int x1, .int x2] (QI G σ' r) := by
  refine met_of (cc := cX11_treaty) (nL := 3) (ret := (some .int)) (by decide) rfl (Nat.le_of_ble_eq_true rfl) ?_
  intro p e s m below meth c C0 hnm hI ls hl
  obtain ⟨hx, hb, hr, hml, hown, hts, hlk, hK, hG⟩ := id C0
  have hl : lv_has ls 3 [(0, .ref (G.1 + 0)), (1, .int x1), (2, .int x2)] := hl
  unfold f_X11_treaty at hf
  refine lv_aload_n hx hb dX11_treaty_0 rfl (lv_at hl 0 rfl) ?_
  have hg1 : isG (lnd σ) := hI.2.2.2.2.1
  refine z_get (C := RX11) (T := TX11) (N := 9) (ci := 10) (v := .ref (G.1 + (lnd σ))) hx hb hts i_X11_treaty_10 hown hK hI 0 rfl (by decide) rfl 6 (by decide) (hts (.fieldLink RX11 47 "FenceYards" "land" "LFenceYards$Ground;") (by decide +kernel)) (fun _ h9 => h9) rfl dX11_treaty_1 ?_
  refine z_getN (C := RX4) (T := TX4) (N := 11) (ci := 4) (v := .int (gI σ (lnd σ) 5)) hx hb hts i_X11_treaty_4 hown hK hI (lnd σ) (kd_G hg1) (by decide) rfl 5 (by decide) (hG.1.1 ("FenceYards", 117, "FenceYards$Ground", "stands", "Z") (by decide +kernel)) (fun _ h9 => h9) rfl dX11_treaty_4 ?_
  refine lv_if_ne (tgt := 13) hx hb dX11_treaty_7 (by decide) (fun c1 => ?_) (fun c1 => ?_)
  · have hf := ok_f c1 hf
    refine lv_iload_n hx hb dX11_treaty_13 rfl (lv_at hl 1 rfl) ?_
    obtain ⟨r1, hc1, hf⟩ := ok_1 hf
    refine z_calli0 rfl rfl hI (va_runS (As := [.int x1]) (rest := []) ⟨hx, hb, hml, hown, hts⟩ (m_X11_isSpan G l  hc1) (va_cwS 1 hts gX11_treaty_X11_isSpan rfl rfl rfl (by decide +kernel) ⟨Nat.le_of_ble_eq_true rfl, Nat.le_of_ble_eq_true rfl⟩) (z_pre hK hG hI) rfl rfl hl.1 rfl (lv_room (Nat.le_of_ble_eq_true rfl)) dX11_treaty_14 ⟨Nat.zero_le _, Nat.zero_le _⟩) (fun H locs hI => ?_)
    refine lv_if_eq (tgt := 27) hx hb dX11_treaty_17 (by decide) (fun c2 => ?_) (fun c2 => ?_)
    · have hf := ok_t c2 hf
      refine lv_ldc (v := (-1000001)) hx hb hown (hts (.constant RX11 57 (-1000001)) (by decide +kernel)) dX11_treaty_27 ?_
      cases hf
      exact z_iret hx hb hr hlk hK hG hI dX11_treaty_29
    · have hf := ok_f c2 hf
      refine lv_iload_n hx hb dX11_treaty_20 rfl (lv_at hl 2 rfl) ?_
      obtain ⟨r2, hc2, hf⟩ := ok_1 hf
      refine z_calli0 rfl rfl hI (va_runS (As := [.int x2]) (rest := []) ⟨hx, hb, hml, hown, hts⟩ (m_X11_isUpOrDown G l  hc2) (va_cwS 1 hts gX11_treaty_X11_isUpOrDown rfl rfl rfl (by decide +kernel) ⟨Nat.le_of_ble_eq_true rfl, Nat.le_of_ble_eq_true rfl⟩) (z_pre hK hG hI) rfl rfl hl.1 rfl (lv_room (Nat.le_of_ble_eq_true rfl)) dX11_treaty_21 ⟨Nat.zero_le _, Nat.zero_le _⟩) (fun H locs hI => ?_)
      refine lv_if_ne (tgt := 30) hx hb dX11_treaty_24 (by decide) (fun c3 => ?_) (fun c3 => ?_)
      · have hf := ok_f c3 hf
        refine lv_aload_n hx hb dX11_treaty_30 rfl (lv_at hl 0 rfl) ?_
        refine z_get (C := RX11) (T := TX11) (N := 9) (ci := 10) (v := .ref (G.1 + 15)) hx hb hts i_X11_treaty_10 hown hK hI 0 rfl (by decide) rfl 2 (by decide) (hts (.fieldLink RX11 26 "FenceYards" "seer" "LFenceYards$Seer;") (by decide +kernel)) (fun _ h9 => h9) rfl dX11_treaty_31 ?_
        refine lv_aload_n hx hb dX11_treaty_34 rfl (lv_at hl 0 rfl) ?_
        have hg2 : isG (lnd σ) := hI.2.2.2.2.1
        refine z_get (C := RX11) (T := TX11) (N := 9) (ci := 10) (v := .ref (G.1 + (lnd σ))) hx hb hts i_X11_treaty_10 hown hK hI 0 rfl (by decide) rfl 6 (by decide) (hts (.fieldLink RX11 47 "FenceYards" "land" "LFenceYards$Ground;") (by decide +kernel)) (fun _ h9 => h9) rfl dX11_treaty_35 ?_
        refine lv_iload_n hx hb dX11_treaty_38 rfl (lv_at hl 1 rfl) ?_
        obtain ⟨s1, r3, hc3, hf⟩ := ok_2 hf
        refine z_calli0 rfl rfl hI (va_runVN (As := [.ref (G.1 + (lnd σ)), .int x1]) (rest := []) ⟨hx, hb, hml, hown, hts⟩ (m_X8_restingOf G l hg2 hc3) ⟨va_cnB (host := "FenceYards") 2 hts gX11_treaty_X8_restingOf_n208 rfl rfl rfl (hG.1.2.1 ("FenceYards", 208, ⟨"FenceYards$Seer", "restingOf", "(LFenceYards$Ground;I)I"⟩) (by decide +kernel)) (hts (.initialized "FenceYards$Seer") (by decide +kernel)) (by decide +kernel) ⟨Nat.le_of_ble_eq_true rfl, Nat.le_of_ble_eq_true rfl⟩, hts (.instanceMethod yX8_restingOf) (by decide +kernel), hts (.selects "FenceYards$Seer" yX8_restingOf yX8_restingOf) (by decide +kernel)⟩ (z_preV hK hG hI (z_rc (q := 15) (ci := 8) (n := 0) hK hI rfl (by decide) rfl)) rfl rfl hl.1 rfl (lv_room (Nat.le_of_ble_eq_true rfl)) dX11_treaty_39 ⟨Nat.zero_le _, Nat.zero_le _⟩) (fun H locs hI => ?_)
        refine lv_aload_n hx hb dX11_treaty_42 rfl (lv_at hl 0 rfl) ?_
        refine z_get (C := RX11) (T := TX11) (N := 9) (ci := 10) (v := .ref (G.1 + 15)) hx hb hts i_X11_treaty_10 hown hK hI 0 rfl (by decide) rfl 2 (by decide) (hts (.fieldLink RX11 26 "FenceYards" "seer" "LFenceYards$Seer;") (by decide +kernel)) (fun _ h9 => h9) rfl dX11_treaty_43 ?_
        refine lv_aload_n hx hb dX11_treaty_46 rfl (lv_at hl 0 rfl) ?_
        have hg3 : isG (lnd s1) := hI.2.2.2.2.1
        refine z_get (C := RX11) (T := TX11) (N := 9) (ci := 10) (v := .ref (G.1 + (lnd s1))) hx hb hts i_X11_treaty_10 hown hK hI 0 rfl (by decide) rfl 6 (by decide) (hts (.fieldLink RX11 47 "FenceYards" "land" "LFenceYards$Ground;") (by decide +kernel)) (fun _ h9 => h9) rfl dX11_treaty_47 ?_
        refine lv_iload_n hx hb dX11_treaty_50 rfl (lv_at hl 1 rfl) ?_
        obtain ⟨s2, r4, hc4, hf⟩ := ok_2 hf
        refine z_calli0 rfl rfl hI (va_runVN (As := [.ref (G.1 + (lnd s1)), .int x1]) (rest := [.int r3]) ⟨hx, hb, hml, hown, hts⟩ (m_X8_gameOf G l hg3 hc4) ⟨va_cnB (host := "FenceYards") 2 hts gX11_treaty_X8_gameOf_n201 rfl rfl rfl (hG.1.2.1 ("FenceYards", 201, ⟨"FenceYards$Seer", "gameOf", "(LFenceYards$Ground;I)I"⟩) (by decide +kernel)) (hts (.initialized "FenceYards$Seer") (by decide +kernel)) (by decide +kernel) ⟨Nat.le_of_ble_eq_true rfl, Nat.le_of_ble_eq_true rfl⟩, hts (.instanceMethod yX8_gameOf) (by decide +kernel), hts (.selects "FenceYards$Seer" yX8_gameOf yX8_gameOf) (by decide +kernel)⟩ (z_preV hK hG hI (z_rc (q := 15) (ci := 8) (n := 0) hK hI rfl (by decide) rfl)) rfl rfl hl.1 rfl (lv_room (Nat.le_of_ble_eq_true rfl)) dX11_treaty_51 ⟨Nat.zero_le _, Nat.zero_le _⟩) (fun H locs hI => ?_)
        refine lv_isub hx hb dX11_treaty_54 ?_
        refine lv_iload_n hx hb dX11_treaty_55 rfl (lv_at hl 2 rfl) ?_
        obtain ⟨r5, hc5, hf⟩ := ok_1 hf
        refine z_calli0 rfl rfl hI (va_runS (As := [.int (r3 - r4), .int x2]) (rest := []) ⟨hx, hb, hml, hown, hts⟩ (m_X11_fraction G l  hc5) (va_cwS 2 hts gX11_treaty_X11_fraction rfl rfl rfl (by decide +kernel) ⟨Nat.le_of_ble_eq_true rfl, Nat.le_of_ble_eq_true rfl⟩) (z_pre hK hG hI) rfl rfl hl.1 rfl (lv_room (Nat.le_of_ble_eq_true rfl)) dX11_treaty_56 ⟨Nat.zero_le _, Nat.zero_le _⟩) (fun H locs hI => ?_)
        cases hf
        exact z_iret hx hb hr hlk hK hG hI dX11_treaty_59
      · have hf := ok_t c3 hf
        refine lv_ldc (v := (-1000001)) hx hb hown (hts (.constant RX11 57 (-1000001)) (by decide +kernel)) dX11_treaty_27 ?_
        cases hf
        exact z_iret hx hb hr hlk hK hG hI dX11_treaty_29
  · have hf := ok_t c1 hf
    refine lv_ldc (v := (-1000002)) hx hb hown (hts (.constant RX11 121 (-1000002)) (by decide +kernel)) dX11_treaty_10 ?_
    cases hf
    exact z_iret hx hb hr hlk hK hG hI dX11_treaty_12

-- ===== FenceYards.sow(IIIIII)I
set_option maxRecDepth 100000 in
theorem i_X11_sow_10 : ∀ w ∈ u_ws RX11 TX11 9, w ∈ wsX11_sow := by decide +kernel
def f_X11_sow (σ : Hp) (x1 : Int32) (x2 : Int32) (x3 : Int32) (x4 : Int32) (x5 : Int32) (x6 : Int32) : Option (Hp × Int32) :=
  bd1 (f_X4_toldStrip σ (lnd σ) x1) fun r1 => opc r1 (some (σ, (-1000001))) fun q1 => (if x3 < 0 then (some (σ, (-1000001))) else (if 99 < x3 then (some (σ, (-1000001))) else (if x4 < 0 then (some (σ, (-1000001))) else (if x4 < 12 then (bd2 (f_X11_newStrip σ x2 x1 x3 x4) fun s1 r2 => opc r2 (some (s1, (-1000001))) fun q2 => (bd1 (f_X11_isSpan s1 x5) fun r3 => if r3 = 0 then (some (s1, (-1000001))) else (bd1 (f_X11_isUpOrDown s1 x6) fun r4 => if r4 = 0 then (some (s1, (-1000001))) else (bd2 (f_X8_gameOf s1 (lnd s1) x5) fun s2 r5 => chk (okS s2 q2) <| bd1 (f_X4_putStrip s2 (lnd s2) x1 q2) fun s3 => bd2 (f_X8_gameOf s3 (lnd s3) x5) fun s4 r6 => chk (okS s4 q1) <| bd1 (f_X4_putStrip s4 (lnd s4) x1 q1) fun s5 => bd1 (f_X11_fraction s5 (r6 - r5) x6) fun r7 => some (s5, r7))))) else (some (σ, (-1000001)))))))
set_option maxRecDepth 100000 in
set_option maxHeartbeats 4000000 in
theorem m_X11_sow (G : GT) (l : Launch) {σ : Hp} {x1 : Int32} {x2 : Int32} {x3 : Int32} {x4 : Int32} {x5 : Int32} {x6 : Int32} {σ' : Hp} {r : Int32}  (hf : f_X11_sow σ x1 x2 x3 x4 x5 x6 = some (σ', r)) : MetG G l yX11_sow wsX11_sow (rmc 5 1 3 120) σ [.ref (G.1 + 0), .int x1, .int x2, .int x3, .int x4, .int x5, .int x6] (QI G σ' r) := by
  refine met_of (cc := cX11_sow) (nL := 11) (ret := (some .int)) (by decide) rfl (Nat.le_of_ble_eq_true rfl) ?_
  intro p e s m below meth c C0 hnm hI ls hl
  obtain ⟨hx, hb, hr, hml, hown, hts, hlk, hK, hG⟩ := id C0
  have hl : lv_has ls 11 [(0, .ref (G.1 + 0)), (1, .int x1), (2, .int x2), (3, .int x3), (4, .int x4), (5, .int x5), (6, .int x6)] := hl
  unfold f_X11_sow at hf
  refine lv_aload_n hx hb dX11_sow_0 rfl (lv_at hl 0 rfl) ?_
  have hg1 : isG (lnd σ) := hI.2.2.2.2.1
  refine z_get (C := RX11) (T := TX11) (N := 9) (ci := 10) (v := .ref (G.1 + (lnd σ))) hx hb hts i_X11_sow_10 hown hK hI 0 rfl (by decide) rfl 6 (by decide) (hts (.fieldLink RX11 47 "FenceYards" "land" "LFenceYards$Ground;") (by decide +kernel)) (fun _ h9 => h9) rfl dX11_sow_1 ?_
  refine lv_iload_n hx hb dX11_sow_4 rfl (lv_at hl 1 rfl) ?_
  obtain ⟨r1, hc1, hf⟩ := ok_1 hf
  refine z_callq0 rfl rfl hI (va_runVN (As := [.int x1]) (rest := []) ⟨hx, hb, hml, hown, hts⟩ (m_X4_toldStrip G l hg1 hc1) ⟨va_cnB (host := "FenceYards") 1 hts gX11_sow_X4_toldStrip_n150 rfl rfl rfl (hG.1.2.1 ("FenceYards", 150, ⟨"FenceYards$Ground", "toldStrip", "(I)LFenceYards$Strip;"⟩) (by decide +kernel)) (hts (.initialized "FenceYards$Ground") (by decide +kernel)) (by decide +kernel) ⟨Nat.le_of_ble_eq_true rfl, Nat.le_of_ble_eq_true rfl⟩, hts (.instanceMethod yX4_toldStrip) (by decide +kernel), hts (.selects "FenceYards$Ground" yX4_toldStrip yX4_toldStrip) (by decide +kernel)⟩ (z_preV hK hG hI (z_rc (q := lnd σ) (ci := 4) (n := 0) hK hI (kd_G hg1) (by decide) rfl)) rfl rfl hl.1 rfl (lv_room (Nat.le_of_ble_eq_true rfl)) dX11_sow_5 ⟨Nat.le_of_ble_eq_true rfl, Nat.le_of_ble_eq_true rfl⟩) (fun H locs hI => ?_)
  cases r1 with
  | none =>
    have hf := ok_on hf
    refine W.eq (g2 := F0 m 8 ls [.null]) rfl ?_
    refine lv_astoreN (lv' := [(7, .null), (0, .ref (G.1 + 0)), (1, .int x1), (2, .int x2), (3, .int x3), (4, .int x4), (5, .int x5), (6, .int x6)]) hx hb dX11_sow_8 hl (by decide) rfl (fun ls hl => ?_)
    refine lv_aloadN hx hb dX11_sow_10 (lv_at hl 0 rfl) ?_
    refine lv_ifnullN (tgt := 37) hx hb dX11_sow_12 (by decide) ?_
    refine lv_ldc (v := (-1000001)) hx hb hown (hts (.constant RX11 57 (-1000001)) (by decide +kernel)) dX11_sow_37 ?_
    cases hf
    refine W.widen (k := 1) (n := 3) (Nat.le_of_ble_eq_true rfl) (Nat.le_of_ble_eq_true rfl) ?_
    exact z_iret hx hb hr hlk hK hG hI dX11_sow_39
  | some q1 =>
    have hf := ok_os hf
    refine W.eq (g2 := F0 m 8 ls [.ref (G.1 + q1)]) rfl ?_
    refine lv_astore (lv' := [(7, .ref (G.1 + q1)), (0, .ref (G.1 + 0)), (1, .int x1), (2, .int x2), (3, .int x3), (4, .int x4), (5, .int x5), (6, .int x6)]) hx hb dX11_sow_8 hl (by decide) rfl (fun ls hl => ?_)
    refine lv_aload hx hb dX11_sow_10 (lv_at hl 0 rfl) ?_
    refine lv_ifnull hx hb dX11_sow_12 ?_
    refine lv_iload_n hx hb dX11_sow_15 rfl (lv_at hl 4 rfl) ?_
    refine lv_if_lt (tgt := 37) hx hb dX11_sow_16 (by decide) (fun c1 => ?_) (fun c1 => ?_)
    · have hf := ok_t c1 hf
      refine lv_ldc (v := (-1000001)) hx hb hown (hts (.constant RX11 57 (-1000001)) (by decide +kernel)) dX11_sow_37 ?_
      cases hf
      refine W.widen (k := 1) (n := 3) (Nat.le_of_ble_eq_true rfl) (Nat.le_of_ble_eq_true rfl) ?_
      exact z_iret hx hb hr hlk hK hG hI dX11_sow_39
    · have hf := ok_f c1 hf
      refine lv_iload_n hx hb dX11_sow_19 rfl (lv_at hl 4 rfl) ?_
      refine lv_bipush (v := 99) hx hb dX11_sow_20 (by decide) ?_
      refine lv_icmp_gt (tgt := 37) hx hb dX11_sow_22 (by decide) (fun c2 => ?_) (fun c2 => ?_)
      · have hf := ok_t c2 hf
        refine lv_ldc (v := (-1000001)) hx hb hown (hts (.constant RX11 57 (-1000001)) (by decide +kernel)) dX11_sow_37 ?_
        cases hf
        refine W.widen (k := 1) (n := 3) (Nat.le_of_ble_eq_true rfl) (Nat.le_of_ble_eq_true rfl) ?_
        exact z_iret hx hb hr hlk hK hG hI dX11_sow_39
      · have hf := ok_f c2 hf
        refine lv_iload hx hb dX11_sow_25 (lv_at hl 5 rfl) ?_
        refine lv_if_lt (tgt := 37) hx hb dX11_sow_27 (by decide) (fun c3 => ?_) (fun c3 => ?_)
        · have hf := ok_t c3 hf
          refine lv_ldc (v := (-1000001)) hx hb hown (hts (.constant RX11 57 (-1000001)) (by decide +kernel)) dX11_sow_37 ?_
          cases hf
          refine W.widen (k := 1) (n := 3) (Nat.le_of_ble_eq_true rfl) (Nat.le_of_ble_eq_true rfl) ?_
          exact z_iret hx hb hr hlk hK hG hI dX11_sow_39
        · have hf := ok_f c3 hf
          refine lv_iload hx hb dX11_sow_30 (lv_at hl 5 rfl) ?_
          refine lv_bipush (v := 12) hx hb dX11_sow_32 (by decide) ?_
          refine lv_icmp_lt (tgt := 40) hx hb dX11_sow_34 (by decide) (fun c4 => ?_) (fun c4 => ?_)
          · have hf := ok_t c4 hf
            refine lv_iload_n hx hb dX11_sow_40 rfl (lv_at hl 3 rfl) ?_
            refine lv_iload_n hx hb dX11_sow_41 rfl (lv_at hl 2 rfl) ?_
            refine lv_iload_n hx hb dX11_sow_42 rfl (lv_at hl 4 rfl) ?_
            refine lv_iload hx hb dX11_sow_43 (lv_at hl 5 rfl) ?_
            obtain ⟨s1, r2, hc2, hf⟩ := ok_2 hf
            refine z_callq hI (va_runS (As := [.int x2, .int x1, .int x3, .int x4]) (rest := []) ⟨hx, hb, hml, hown, hts⟩ (m_X11_newStrip G l  hc2) (va_cwS 4 hts gX11_sow_X11_newStrip rfl rfl rfl (by decide +kernel) ⟨Nat.le_of_ble_eq_true rfl, Nat.le_of_ble_eq_true rfl⟩) (z_pre hK hG hI) rfl rfl hl.1 rfl (lv_room (Nat.le_of_ble_eq_true rfl)) dX11_sow_45 ⟨Nat.le_of_ble_eq_true rfl, Nat.le_of_ble_eq_true rfl⟩) (fun H locs hI => ?_)
            cases r2 with
            | none =>
              have hf := ok_on hf
              refine W.eq (g2 := F0 m 48 ls [.null]) rfl ?_
              refine lv_astoreN (lv' := [(8, .null), (7, .ref (G.1 + q1)), (0, .ref (G.1 + 0)), (1, .int x1), (2, .int x2), (3, .int x3), (4, .int x4), (5, .int x5), (6, .int x6)]) hx hb dX11_sow_48 hl (by decide) rfl (fun ls hl => ?_)
              refine lv_aloadN hx hb dX11_sow_50 (lv_at hl 0 rfl) ?_
              refine lv_ifnullN (tgt := 71) hx hb dX11_sow_52 (by decide) ?_
              refine lv_ldc (v := (-1000001)) hx hb hown (hts (.constant RX11 57 (-1000001)) (by decide +kernel)) dX11_sow_71 ?_
              cases hf
              refine W.widen (k := 1) (n := 3) (Nat.le_of_ble_eq_true rfl) (Nat.le_of_ble_eq_true rfl) ?_
              exact z_iret hx hb hr hlk hK hG hI dX11_sow_73
            | some q2 =>
              have hf := ok_os hf
              refine W.eq (g2 := F0 m 48 ls [.ref (G.1 + q2)]) rfl ?_
              refine lv_astore (lv' := [(8, .ref (G.1 + q2)), (7, .ref (G.1 + q1)), (0, .ref (G.1 + 0)), (1, .int x1), (2, .int x2), (3, .int x3), (4, .int x4), (5, .int x5), (6, .int x6)]) hx hb dX11_sow_48 hl (by decide) rfl (fun ls hl => ?_)
              refine lv_aload hx hb dX11_sow_50 (lv_at hl 0 rfl) ?_
              refine lv_ifnull hx hb dX11_sow_52 ?_
              refine lv_iload hx hb dX11_sow_55 (lv_at hl 7 rfl) ?_
              obtain ⟨r3, hc3, hf⟩ := ok_1 hf
              refine z_calli0 rfl rfl hI (va_runS (As := [.int x5]) (rest := []) ⟨hx, hb, hml, hown, hts⟩ (m_X11_isSpan G l  hc3) (va_cwS 1 hts gX11_sow_X11_isSpan rfl rfl rfl (by decide +kernel) ⟨Nat.le_of_ble_eq_true rfl, Nat.le_of_ble_eq_true rfl⟩) (z_pre hK hG hI) rfl rfl hl.1 rfl (lv_room (Nat.le_of_ble_eq_true rfl)) dX11_sow_57 ⟨Nat.le_of_ble_eq_true rfl, Nat.le_of_ble_eq_true rfl⟩) (fun H locs hI => ?_)
              refine lv_if_eq (tgt := 71) hx hb dX11_sow_60 (by decide) (fun c5 => ?_) (fun c5 => ?_)
              · have hf := ok_t c5 hf
                refine lv_ldc (v := (-1000001)) hx hb hown (hts (.constant RX11 57 (-1000001)) (by decide +kernel)) dX11_sow_71 ?_
                cases hf
                refine W.widen (k := 1) (n := 3) (Nat.le_of_ble_eq_true rfl) (Nat.le_of_ble_eq_true rfl) ?_
                exact z_iret hx hb hr hlk hK hG hI dX11_sow_73
              · have hf := ok_f c5 hf
                refine lv_iload hx hb dX11_sow_63 (lv_at hl 8 rfl) ?_
                obtain ⟨r4, hc4, hf⟩ := ok_1 hf
                refine z_calli0 rfl rfl hI (va_runS (As := [.int x6]) (rest := []) ⟨hx, hb, hml, hown, hts⟩ (m_X11_isUpOrDown G l  hc4) (va_cwS 1 hts gX11_sow_X11_isUpOrDown rfl rfl rfl (by decide +kernel) ⟨Nat.le_of_ble_eq_true rfl, Nat.le_of_ble_eq_true rfl⟩) (z_pre hK hG hI) rfl rfl hl.1 rfl (lv_room (Nat.le_of_ble_eq_true rfl)) dX11_sow_65 ⟨Nat.le_of_ble_eq_true rfl, Nat.le_of_ble_eq_true rfl⟩) (fun H locs hI => ?_)
                refine lv_if_ne (tgt := 74) hx hb dX11_sow_68 (by decide) (fun c6 => ?_) (fun c6 => ?_)
                · have hf := ok_f c6 hf
                  refine lv_aload_n hx hb dX11_sow_74 rfl (lv_at hl 2 rfl) ?_
                  refine z_get (C := RX11) (T := TX11) (N := 9) (ci := 10) (v := .ref (G.1 + 15)) hx hb hts i_X11_sow_10 hown hK hI 0 rfl (by decide) rfl 2 (by decide) (hts (.fieldLink RX11 26 "FenceYards" "seer" "LFenceYards$Seer;") (by decide +kernel)) (fun _ h9 => h9) rfl dX11_sow_75 ?_
                  refine lv_aload_n hx hb dX11_sow_78 rfl (lv_at hl 2 rfl) ?_
                  have hg2 : isG (lnd s1) := hI.2.2.2.2.1
                  refine z_get (C := RX11) (T := TX11) (N := 9) (ci := 10) (v := .ref (G.1 + (lnd s1))) hx hb hts i_X11_sow_10 hown hK hI 0 rfl (by decide) rfl 6 (by decide) (hts (.fieldLink RX11 47 "FenceYards" "land" "LFenceYards$Ground;") (by decide +kernel)) (fun _ h9 => h9) rfl dX11_sow_79 ?_
                  refine lv_iload hx hb dX11_sow_82 (lv_at hl 7 rfl) ?_
                  obtain ⟨s2, r5, hc5, hf⟩ := ok_2 hf
                  refine z_calli0 rfl rfl hI (va_runVN (As := [.ref (G.1 + (lnd s1)), .int x5]) (rest := []) ⟨hx, hb, hml, hown, hts⟩ (m_X8_gameOf G l hg2 hc5) ⟨va_cnB (host := "FenceYards") 2 hts gX11_sow_X8_gameOf_n201 rfl rfl rfl (hG.1.2.1 ("FenceYards", 201, ⟨"FenceYards$Seer", "gameOf", "(LFenceYards$Ground;I)I"⟩) (by decide +kernel)) (hts (.initialized "FenceYards$Seer") (by decide +kernel)) (by decide +kernel) ⟨Nat.le_of_ble_eq_true rfl, Nat.le_of_ble_eq_true rfl⟩, hts (.instanceMethod yX8_gameOf) (by decide +kernel), hts (.selects "FenceYards$Seer" yX8_gameOf yX8_gameOf) (by decide +kernel)⟩ (z_preV hK hG hI (z_rc (q := 15) (ci := 8) (n := 0) hK hI rfl (by decide) rfl)) rfl rfl hl.1 rfl (lv_room (Nat.le_of_ble_eq_true rfl)) dX11_sow_84 ⟨Nat.le_of_ble_eq_true rfl, Nat.le_of_ble_eq_true rfl⟩) (fun H locs hI => ?_)
                  refine lv_istore (lv' := [(9, .int r5), (8, .ref (G.1 + q2)), (7, .ref (G.1 + q1)), (0, .ref (G.1 + 0)), (1, .int x1), (2, .int x2), (3, .int x3), (4, .int x4), (5, .int x5), (6, .int x6)]) hx hb dX11_sow_87 hl (by decide) rfl (fun ls hl => ?_)
                  refine lv_aload_n hx hb dX11_sow_89 rfl (lv_at hl 3 rfl) ?_
                  have hg3 : isG (lnd s2) := hI.2.2.2.2.1
                  refine z_get (C := RX11) (T := TX11) (N := 9) (ci := 10) (v := .ref (G.1 + (lnd s2))) hx hb hts i_X11_sow_10 hown hK hI 0 rfl (by decide) rfl 6 (by decide) (hts (.fieldLink RX11 47 "FenceYards" "land" "LFenceYards$Ground;") (by decide +kernel)) (fun _ h9 => h9) rfl dX11_sow_90 ?_
                  refine lv_iload_n hx hb dX11_sow_93 rfl (lv_at hl 4 rfl) ?_
                  refine lv_aload hx hb dX11_sow_94 (lv_at hl 1 rfl) ?_
                  obtain ⟨h1, hf⟩ := ok_c hf
                  obtain ⟨s3, hc6, hf⟩ := ok_1 hf
                  refine z_callv0 rfl rfl hI (va_runVN (As := [.int x1, .ref (G.1 + q2)]) (rest := []) ⟨hx, hb, hml, hown, hts⟩ (m_X4_putStrip G l hg3 h1 hc6) ⟨va_cnB (host := "FenceYards") 2 hts gX11_sow_X4_putStrip_n215 rfl rfl rfl (hG.1.2.1 ("FenceYards", 215, ⟨"FenceYards$Ground", "putStrip", "(ILFenceYards$Strip;)V"⟩) (by decide +kernel)) (hts (.initialized "FenceYards$Ground") (by decide +kernel)) (by decide +kernel) ⟨Nat.le_of_ble_eq_true rfl, Nat.le_of_ble_eq_true rfl⟩, hts (.instanceMethod yX4_putStrip) (by decide +kernel), hts (.selects "FenceYards$Ground" yX4_putStrip yX4_putStrip) (by decide +kernel)⟩ (z_preV hK hG hI (z_rc (q := lnd s2) (ci := 4) (n := 0) hK hI (kd_G hg3) (by decide) rfl)) rfl rfl hl.1 rfl (lv_room (Nat.le_of_ble_eq_true rfl)) dX11_sow_96 ⟨Nat.le_of_ble_eq_true rfl, Nat.le_of_ble_eq_true rfl⟩) (fun H locs hI => ?_)
                  refine lv_aload_n hx hb dX11_sow_99 rfl (lv_at hl 3 rfl) ?_
                  refine z_get (C := RX11) (T := TX11) (N := 9) (ci := 10) (v := .ref (G.1 + 15)) hx hb hts i_X11_sow_10 hown hK hI 0 rfl (by decide) rfl 2 (by decide) (hts (.fieldLink RX11 26 "FenceYards" "seer" "LFenceYards$Seer;") (by decide +kernel)) (fun _ h9 => h9) rfl dX11_sow_100 ?_
                  refine lv_aload_n hx hb dX11_sow_103 rfl (lv_at hl 3 rfl) ?_
                  have hg4 : isG (lnd s3) := hI.2.2.2.2.1
                  refine z_get (C := RX11) (T := TX11) (N := 9) (ci := 10) (v := .ref (G.1 + (lnd s3))) hx hb hts i_X11_sow_10 hown hK hI 0 rfl (by decide) rfl 6 (by decide) (hts (.fieldLink RX11 47 "FenceYards" "land" "LFenceYards$Ground;") (by decide +kernel)) (fun _ h9 => h9) rfl dX11_sow_104 ?_
                  refine lv_iload hx hb dX11_sow_107 (lv_at hl 8 rfl) ?_
                  obtain ⟨s4, r6, hc7, hf⟩ := ok_2 hf
                  refine z_calli0 rfl rfl hI (va_runVN (As := [.ref (G.1 + (lnd s3)), .int x5]) (rest := []) ⟨hx, hb, hml, hown, hts⟩ (m_X8_gameOf G l hg4 hc7) ⟨va_cnB (host := "FenceYards") 2 hts gX11_sow_X8_gameOf_n201 rfl rfl rfl (hG.1.2.1 ("FenceYards", 201, ⟨"FenceYards$Seer", "gameOf", "(LFenceYards$Ground;I)I"⟩) (by decide +kernel)) (hts (.initialized "FenceYards$Seer") (by decide +kernel)) (by decide +kernel) ⟨Nat.le_of_ble_eq_true rfl, Nat.le_of_ble_eq_true rfl⟩, hts (.instanceMethod yX8_gameOf) (by decide +kernel), hts (.selects "FenceYards$Seer" yX8_gameOf yX8_gameOf) (by decide +kernel)⟩ (z_preV hK hG hI (z_rc (q := 15) (ci := 8) (n := 0) hK hI rfl (by decide) rfl)) rfl rfl hl.1 rfl (lv_room (Nat.le_of_ble_eq_true rfl)) dX11_sow_109 ⟨Nat.le_of_ble_eq_true rfl, Nat.le_of_ble_eq_true rfl⟩) (fun H locs hI => ?_)
                  refine lv_istore (lv' := [(10, .int r6), (9, .int r5), (8, .ref (G.1 + q2)), (7, .ref (G.1 + q1)), (0, .ref (G.1 + 0)), (1, .int x1), (2, .int x2), (3, .int x3), (4, .int x4), (5, .int x5), (6, .int x6)]) hx hb dX11_sow_112 hl (by decide) rfl (fun ls hl => ?_)
                  refine lv_aload_n hx hb dX11_sow_114 rfl (lv_at hl 4 rfl) ?_
                  have hg5 : isG (lnd s4) := hI.2.2.2.2.1
                  refine z_get (C := RX11) (T := TX11) (N := 9) (ci := 10) (v := .ref (G.1 + (lnd s4))) hx hb hts i_X11_sow_10 hown hK hI 0 rfl (by decide) rfl 6 (by decide) (hts (.fieldLink RX11 47 "FenceYards" "land" "LFenceYards$Ground;") (by decide +kernel)) (fun _ h9 => h9) rfl dX11_sow_115 ?_
                  refine lv_iload_n hx hb dX11_sow_118 rfl (lv_at hl 5 rfl) ?_
                  refine lv_aload hx hb dX11_sow_119 (lv_at hl 3 rfl) ?_
                  obtain ⟨h2, hf⟩ := ok_c hf
                  obtain ⟨s5, hc8, hf⟩ := ok_1 hf
                  refine z_callv0 rfl rfl hI (va_runVN (As := [.int x1, .ref (G.1 + q1)]) (rest := []) ⟨hx, hb, hml, hown, hts⟩ (m_X4_putStrip G l hg5 h2 hc8) ⟨va_cnB (host := "FenceYards") 2 hts gX11_sow_X4_putStrip_n215 rfl rfl rfl (hG.1.2.1 ("FenceYards", 215, ⟨"FenceYards$Ground", "putStrip", "(ILFenceYards$Strip;)V"⟩) (by decide +kernel)) (hts (.initialized "FenceYards$Ground") (by decide +kernel)) (by decide +kernel) ⟨Nat.le_of_ble_eq_true rfl, Nat.le_of_ble_eq_true rfl⟩, hts (.instanceMethod yX4_putStrip) (by decide +kernel), hts (.selects "FenceYards$Ground" yX4_putStrip yX4_putStrip) (by decide +kernel)⟩ (z_preV hK hG hI (z_rc (q := lnd s4) (ci := 4) (n := 0) hK hI (kd_G hg5) (by decide) rfl)) rfl rfl hl.1 rfl (lv_room (Nat.le_of_ble_eq_true rfl)) dX11_sow_121 ⟨Nat.le_of_ble_eq_true rfl, Nat.le_of_ble_eq_true rfl⟩) (fun H locs hI => ?_)
                  refine lv_iload hx hb dX11_sow_124 (lv_at hl 0 rfl) ?_
                  refine lv_iload hx hb dX11_sow_126 (lv_at hl 1 rfl) ?_
                  refine lv_isub hx hb dX11_sow_128 ?_
                  refine lv_iload hx hb dX11_sow_129 (lv_at hl 10 rfl) ?_
                  obtain ⟨r7, hc9, hf⟩ := ok_1 hf
                  refine z_calli0 rfl rfl hI (va_runS (As := [.int (r6 - r5), .int x6]) (rest := []) ⟨hx, hb, hml, hown, hts⟩ (m_X11_fraction G l  hc9) (va_cwS 2 hts gX11_sow_X11_fraction rfl rfl rfl (by decide +kernel) ⟨Nat.le_of_ble_eq_true rfl, Nat.le_of_ble_eq_true rfl⟩) (z_pre hK hG hI) rfl rfl hl.1 rfl (lv_room (Nat.le_of_ble_eq_true rfl)) dX11_sow_131 ⟨Nat.le_of_ble_eq_true rfl, Nat.le_of_ble_eq_true rfl⟩) (fun H locs hI => ?_)
                  cases hf
                  refine W.widen (k := 1) (n := 3) (Nat.le_of_ble_eq_true rfl) (Nat.le_of_ble_eq_true rfl) ?_
                  exact z_iret hx hb hr hlk hK hG hI dX11_sow_134
                · have hf := ok_t c6 hf
                  refine lv_ldc (v := (-1000001)) hx hb hown (hts (.constant RX11 57 (-1000001)) (by decide +kernel)) dX11_sow_71 ?_
                  cases hf
                  refine W.widen (k := 1) (n := 3) (Nat.le_of_ble_eq_true rfl) (Nat.le_of_ble_eq_true rfl) ?_
                  exact z_iret hx hb hr hlk hK hG hI dX11_sow_73
          · have hf := ok_f c4 hf
            refine lv_ldc (v := (-1000001)) hx hb hown (hts (.constant RX11 57 (-1000001)) (by decide +kernel)) dX11_sow_37 ?_
            cases hf
            refine W.widen (k := 1) (n := 3) (Nat.le_of_ble_eq_true rfl) (Nat.le_of_ble_eq_true rfl) ?_
            exact z_iret hx hb hr hlk hK hG hI dX11_sow_39

-- ===== FenceYards.unseen(III)I
set_option maxRecDepth 100000 in
theorem i_X11_unseen_4 : ∀ w ∈ u_ws RX4 TX4 11, w ∈ wsX11_unseen := by decide +kernel
set_option maxRecDepth 100000 in
theorem i_X11_unseen_8 : ∀ w ∈ u_ws RX8 TX8 16, w ∈ wsX11_unseen := by decide +kernel
set_option maxRecDepth 100000 in
theorem i_X11_unseen_10 : ∀ w ∈ u_ws RX11 TX11 9, w ∈ wsX11_unseen := by decide +kernel
def f_X11_unseen (σ : Hp) (x1 : Int32) (x2 : Int32) (x3 : Int32) : Option (Hp × Int32) :=
  if (gI σ (lnd σ) 5) = 0 then (some (σ, (-1000002))) else (if x1 < 0 then (some (σ, (-1000001))) else (if 9999 < x1 then (some (σ, (-1000001))) else (if x2 < 1 then (some (σ, (-1000001))) else (if 99 < x2 then (some (σ, (-1000001))) else (bd1 (f_X11_isUpOrDown σ x3) fun r1 => if r1 = 0 then (some (σ, (-1000001))) else (bd1 (f_X8_guessMoves σ (lnd σ) x1 x2) fun s1 => if x3 = 0 then (some (s1, gI s1 15 14)) else (some (s1, gI s1 15 15))))))))
set_option maxRecDepth 100000 in
set_option maxHeartbeats 4000000 in
theorem m_X11_unseen (G : GT) (l : Launch) {σ : Hp} {x1 : Int32} {x2 : Int32} {x3 : Int32} {σ' : Hp} {r : Int32}  (hf : f_X11_unseen σ x1 x2 x3 = some (σ', r)) : MetG G l yX11_unseen wsX11_unseen (rmk 4 99) σ [.ref (G.1 + 0), .int x1, .int x2, .int x3] (QI G σ' r) := by
  refine met_of (cc := cX11_unseen) (nL := 4) (ret := (some .int)) (by decide) rfl (Nat.le_of_ble_eq_true rfl) ?_
  intro p e s m below meth c C0 hnm hI ls hl
  obtain ⟨hx, hb, hr, hml, hown, hts, hlk, hK, hG⟩ := id C0
  have hl : lv_has ls 4 [(0, .ref (G.1 + 0)), (1, .int x1), (2, .int x2), (3, .int x3)] := hl
  unfold f_X11_unseen at hf
  refine lv_aload_n hx hb dX11_unseen_0 rfl (lv_at hl 0 rfl) ?_
  have hg1 : isG (lnd σ) := hI.2.2.2.2.1
  refine z_get (C := RX11) (T := TX11) (N := 9) (ci := 10) (v := .ref (G.1 + (lnd σ))) hx hb hts i_X11_unseen_10 hown hK hI 0 rfl (by decide) rfl 6 (by decide) (hts (.fieldLink RX11 47 "FenceYards" "land" "LFenceYards$Ground;") (by decide +kernel)) (fun _ h9 => h9) rfl dX11_unseen_1 ?_
  refine z_getN (C := RX4) (T := TX4) (N := 11) (ci := 4) (v := .int (gI σ (lnd σ) 5)) hx hb hts i_X11_unseen_4 hown hK hI (lnd σ) (kd_G hg1) (by decide) rfl 5 (by decide) (hG.1.1 ("FenceYards", 117, "FenceYards$Ground", "stands", "Z") (by decide +kernel)) (fun _ h9 => h9) rfl dX11_unseen_4 ?_
  refine lv_if_ne (tgt := 13) hx hb dX11_unseen_7 (by decide) (fun c1 => ?_) (fun c1 => ?_)
  · have hf := ok_f c1 hf
    refine lv_iload_n hx hb dX11_unseen_13 rfl (lv_at hl 1 rfl) ?_
    refine lv_if_lt (tgt := 42) hx hb dX11_unseen_14 (by decide) (fun c2 => ?_) (fun c2 => ?_)
    · have hf := ok_t c2 hf
      refine lv_ldc (v := (-1000001)) hx hb hown (hts (.constant RX11 57 (-1000001)) (by decide +kernel)) dX11_unseen_42 ?_
      cases hf
      exact z_iret hx hb hr hlk hK hG hI dX11_unseen_44
    · have hf := ok_f c2 hf
      refine lv_iload_n hx hb dX11_unseen_17 rfl (lv_at hl 1 rfl) ?_
      refine lv_sipush (v := 9999) hx hb dX11_unseen_18 (by decide) ?_
      refine lv_icmp_gt (tgt := 42) hx hb dX11_unseen_21 (by decide) (fun c3 => ?_) (fun c3 => ?_)
      · have hf := ok_t c3 hf
        refine lv_ldc (v := (-1000001)) hx hb hown (hts (.constant RX11 57 (-1000001)) (by decide +kernel)) dX11_unseen_42 ?_
        cases hf
        exact z_iret hx hb hr hlk hK hG hI dX11_unseen_44
      · have hf := ok_f c3 hf
        refine lv_iload_n hx hb dX11_unseen_24 rfl (lv_at hl 2 rfl) ?_
        refine lv_iconst (v := 1) hx hb dX11_unseen_25 (by decide) ?_
        refine lv_icmp_lt (tgt := 42) hx hb dX11_unseen_26 (by decide) (fun c4 => ?_) (fun c4 => ?_)
        · have hf := ok_t c4 hf
          refine lv_ldc (v := (-1000001)) hx hb hown (hts (.constant RX11 57 (-1000001)) (by decide +kernel)) dX11_unseen_42 ?_
          cases hf
          exact z_iret hx hb hr hlk hK hG hI dX11_unseen_44
        · have hf := ok_f c4 hf
          refine lv_iload_n hx hb dX11_unseen_29 rfl (lv_at hl 2 rfl) ?_
          refine lv_bipush (v := 99) hx hb dX11_unseen_30 (by decide) ?_
          refine lv_icmp_gt (tgt := 42) hx hb dX11_unseen_32 (by decide) (fun c5 => ?_) (fun c5 => ?_)
          · have hf := ok_t c5 hf
            refine lv_ldc (v := (-1000001)) hx hb hown (hts (.constant RX11 57 (-1000001)) (by decide +kernel)) dX11_unseen_42 ?_
            cases hf
            exact z_iret hx hb hr hlk hK hG hI dX11_unseen_44
          · have hf := ok_f c5 hf
            refine lv_iload_n hx hb dX11_unseen_35 rfl (lv_at hl 3 rfl) ?_
            obtain ⟨r1, hc1, hf⟩ := ok_1 hf
            refine z_calli0 rfl rfl hI (va_runS (As := [.int x3]) (rest := []) ⟨hx, hb, hml, hown, hts⟩ (m_X11_isUpOrDown G l  hc1) (va_cwS 1 hts gX11_unseen_X11_isUpOrDown rfl rfl rfl (by decide +kernel) ⟨Nat.le_of_ble_eq_true rfl, Nat.le_of_ble_eq_true rfl⟩) (z_pre hK hG hI) rfl rfl hl.1 rfl (lv_room (Nat.le_of_ble_eq_true rfl)) dX11_unseen_36 ⟨Nat.zero_le _, Nat.zero_le _⟩) (fun H locs hI => ?_)
            refine lv_if_ne (tgt := 45) hx hb dX11_unseen_39 (by decide) (fun c6 => ?_) (fun c6 => ?_)
            · have hf := ok_f c6 hf
              refine lv_aload_n hx hb dX11_unseen_45 rfl (lv_at hl 0 rfl) ?_
              refine z_get (C := RX11) (T := TX11) (N := 9) (ci := 10) (v := .ref (G.1 + 15)) hx hb hts i_X11_unseen_10 hown hK hI 0 rfl (by decide) rfl 2 (by decide) (hts (.fieldLink RX11 26 "FenceYards" "seer" "LFenceYards$Seer;") (by decide +kernel)) (fun _ h9 => h9) rfl dX11_unseen_46 ?_
              refine lv_aload_n hx hb dX11_unseen_49 rfl (lv_at hl 0 rfl) ?_
              have hg2 : isG (lnd σ) := hI.2.2.2.2.1
              refine z_get (C := RX11) (T := TX11) (N := 9) (ci := 10) (v := .ref (G.1 + (lnd σ))) hx hb hts i_X11_unseen_10 hown hK hI 0 rfl (by decide) rfl 6 (by decide) (hts (.fieldLink RX11 47 "FenceYards" "land" "LFenceYards$Ground;") (by decide +kernel)) (fun _ h9 => h9) rfl dX11_unseen_50 ?_
              refine lv_iload_n hx hb dX11_unseen_53 rfl (lv_at hl 1 rfl) ?_
              refine lv_iload_n hx hb dX11_unseen_54 rfl (lv_at hl 2 rfl) ?_
              obtain ⟨s1, hc2, hf⟩ := ok_1 hf
              refine z_callv0 rfl rfl hI (va_runVN (As := [.ref (G.1 + (lnd σ)), .int x1, .int x2]) (rest := []) ⟨hx, hb, hml, hown, hts⟩ (m_X8_guessMoves G l hg2 hc2) ⟨va_cnB (host := "FenceYards") 3 hts gX11_unseen_X8_guessMoves_n219 rfl rfl rfl (hG.1.2.1 ("FenceYards", 219, ⟨"FenceYards$Seer", "guessMoves", "(LFenceYards$Ground;II)V"⟩) (by decide +kernel)) (hts (.initialized "FenceYards$Seer") (by decide +kernel)) (by decide +kernel) ⟨Nat.le_of_ble_eq_true rfl, Nat.le_of_ble_eq_true rfl⟩, hts (.instanceMethod yX8_guessMoves) (by decide +kernel), hts (.selects "FenceYards$Seer" yX8_guessMoves yX8_guessMoves) (by decide +kernel)⟩ (z_preV hK hG hI (z_rc (q := 15) (ci := 8) (n := 0) hK hI rfl (by decide) rfl)) rfl rfl hl.1 rfl (lv_room (Nat.le_of_ble_eq_true rfl)) dX11_unseen_55 ⟨Nat.zero_le _, Nat.zero_le _⟩) (fun H locs hI => ?_)
              refine lv_iload_n hx hb dX11_unseen_58 rfl (lv_at hl 3 rfl) ?_
              refine lv_if_ne (tgt := 72) hx hb dX11_unseen_59 (by decide) (fun c7 => ?_) (fun c7 => ?_)
              · have hf := ok_f c7 hf
                refine lv_aload_n hx hb dX11_unseen_72 rfl (lv_at hl 0 rfl) ?_
                refine z_get (C := RX11) (T := TX11) (N := 9) (ci := 10) (v := .ref (G.1 + 15)) hx hb hts i_X11_unseen_10 hown hK hI 0 rfl (by decide) rfl 2 (by decide) (hts (.fieldLink RX11 26 "FenceYards" "seer" "LFenceYards$Seer;") (by decide +kernel)) (fun _ h9 => h9) rfl dX11_unseen_73 ?_
                refine z_getN (C := RX8) (T := TX8) (N := 16) (ci := 8) (v := .int (gI s1 15 15)) hx hb hts i_X11_unseen_8 hown hK hI 15 rfl (by decide) rfl 15 (by decide) (hG.1.1 ("FenceYards", 226, "FenceYards$Seer", "firstGuess", "I") (by decide +kernel)) (fun _ h9 => h9) rfl dX11_unseen_76 ?_
                cases hf
                exact z_iret hx hb hr hlk hK hG hI dX11_unseen_79
              · have hf := ok_t c7 hf
                refine lv_aload_n hx hb dX11_unseen_62 rfl (lv_at hl 0 rfl) ?_
                refine z_get (C := RX11) (T := TX11) (N := 9) (ci := 10) (v := .ref (G.1 + 15)) hx hb hts i_X11_unseen_10 hown hK hI 0 rfl (by decide) rfl 2 (by decide) (hts (.fieldLink RX11 26 "FenceYards" "seer" "LFenceYards$Seer;") (by decide +kernel)) (fun _ h9 => h9) rfl dX11_unseen_63 ?_
                refine z_getN (C := RX8) (T := TX8) (N := 16) (ci := 8) (v := .int (gI s1 15 14)) hx hb hts i_X11_unseen_8 hown hK hI 15 rfl (by decide) rfl 14 (by decide) (hG.1.1 ("FenceYards", 223, "FenceYards$Seer", "guesses", "I") (by decide +kernel)) (fun _ h9 => h9) rfl dX11_unseen_66 ?_
                refine lv_goto (tgt := 79) hx hb dX11_unseen_69 (by decide) ?_
                cases hf
                exact z_iret hx hb hr hlk hK hG hI dX11_unseen_79
            · have hf := ok_t c6 hf
              refine lv_ldc (v := (-1000001)) hx hb hown (hts (.constant RX11 57 (-1000001)) (by decide +kernel)) dX11_unseen_42 ?_
              cases hf
              exact z_iret hx hb hr hlk hK hG hI dX11_unseen_44
  · have hf := ok_t c1 hf
    refine lv_ldc (v := (-1000002)) hx hb hown (hts (.constant RX11 121 (-1000002)) (by decide +kernel)) dX11_unseen_10 ?_
    cases hf
    exact z_iret hx hb hr hlk hK hG hI dX11_unseen_12

-- ===== FenceYards.sure(I)I
set_option maxRecDepth 100000 in
theorem i_X11_sure_4 : ∀ w ∈ u_ws RX4 TX4 11, w ∈ wsX11_sure := by decide +kernel
set_option maxRecDepth 100000 in
theorem i_X11_sure_10 : ∀ w ∈ u_ws RX11 TX11 9, w ∈ wsX11_sure := by decide +kernel
def f_X11_sure (σ : Hp) (x1 : Int32) : Option (Int32) :=
  if (gI σ (lnd σ) 5) = 0 then (some (-1000002)) else (bd1 (f_X11_isSpan σ x1) fun r1 => if r1 = 0 then (some (-1000001)) else (bd1 (f_X4_lowestOn σ (lnd σ) 0 x1) fun r2 => bd1 (f_X4_lowestOn σ (lnd σ) 1 x1) fun r3 => bnd (if r3 < r2 then r3 else r2) fun v1 => some ((1 <<< (v1 &&& 31)) - 1)))
set_option maxRecDepth 100000 in
set_option maxHeartbeats 4000000 in
theorem m_X11_sure (G : GT) (l : Launch) {σ : Hp} {x1 : Int32} {r : Int32}  (hf : f_X11_sure σ x1 = some r) : MetG G l yX11_sure wsX11_sure (rmk 2 47) σ [.ref (G.1 + 0), .int x1] (QI G σ r) := by
  refine met_of (cc := cX11_sure) (nL := 3) (ret := (some .int)) (by decide) rfl (Nat.le_of_ble_eq_true rfl) ?_
  intro p e s m below meth c C0 hnm hI ls hl
  obtain ⟨hx, hb, hr, hml, hown, hts, hlk, hK, hG⟩ := id C0
  have hl : lv_has ls 3 [(0, .ref (G.1 + 0)), (1, .int x1)] := hl
  unfold f_X11_sure at hf
  refine lv_aload_n hx hb dX11_sure_0 rfl (lv_at hl 0 rfl) ?_
  have hg1 : isG (lnd σ) := hI.2.2.2.2.1
  refine z_get (C := RX11) (T := TX11) (N := 9) (ci := 10) (v := .ref (G.1 + (lnd σ))) hx hb hts i_X11_sure_10 hown hK hI 0 rfl (by decide) rfl 6 (by decide) (hts (.fieldLink RX11 47 "FenceYards" "land" "LFenceYards$Ground;") (by decide +kernel)) (fun _ h9 => h9) rfl dX11_sure_1 ?_
  refine z_getN (C := RX4) (T := TX4) (N := 11) (ci := 4) (v := .int (gI σ (lnd σ) 5)) hx hb hts i_X11_sure_4 hown hK hI (lnd σ) (kd_G hg1) (by decide) rfl 5 (by decide) (hG.1.1 ("FenceYards", 117, "FenceYards$Ground", "stands", "Z") (by decide +kernel)) (fun _ h9 => h9) rfl dX11_sure_4 ?_
  refine lv_if_ne (tgt := 13) hx hb dX11_sure_7 (by decide) (fun c1 => ?_) (fun c1 => ?_)
  · have hf := ok_f c1 hf
    refine lv_iload_n hx hb dX11_sure_13 rfl (lv_at hl 1 rfl) ?_
    obtain ⟨r1, hc1, hf⟩ := ok_1 hf
    refine z_calli0 rfl rfl hI (va_runS (As := [.int x1]) (rest := []) ⟨hx, hb, hml, hown, hts⟩ (m_X11_isSpan G l  hc1) (va_cwS 1 hts gX11_sure_X11_isSpan rfl rfl rfl (by decide +kernel) ⟨Nat.le_of_ble_eq_true rfl, Nat.le_of_ble_eq_true rfl⟩) (z_pre hK hG hI) rfl rfl hl.1 rfl (lv_room (Nat.le_of_ble_eq_true rfl)) dX11_sure_14 ⟨Nat.zero_le _, Nat.zero_le _⟩) (fun H locs hI => ?_)
    refine lv_if_ne (tgt := 23) hx hb dX11_sure_17 (by decide) (fun c2 => ?_) (fun c2 => ?_)
    · have hf := ok_f c2 hf
      refine lv_aload_n hx hb dX11_sure_23 rfl (lv_at hl 0 rfl) ?_
      have hg2 : isG (lnd σ) := hI.2.2.2.2.1
      refine z_get (C := RX11) (T := TX11) (N := 9) (ci := 10) (v := .ref (G.1 + (lnd σ))) hx hb hts i_X11_sure_10 hown hK hI 0 rfl (by decide) rfl 6 (by decide) (hts (.fieldLink RX11 47 "FenceYards" "land" "LFenceYards$Ground;") (by decide +kernel)) (fun _ h9 => h9) rfl dX11_sure_24 ?_
      refine lv_iconst (v := 0) hx hb dX11_sure_27 (by decide) ?_
      refine lv_iload_n hx hb dX11_sure_28 rfl (lv_at hl 1 rfl) ?_
      obtain ⟨r2, hc2, hf⟩ := ok_1 hf
      refine z_calli0 rfl rfl hI (va_runVN (As := [.int 0, .int x1]) (rest := []) ⟨hx, hb, hml, hown, hts⟩ (m_X4_lowestOn G l hg2 hc2) ⟨va_cnB (host := "FenceYards") 2 hts gX11_sure_X4_lowestOn_n229 rfl rfl rfl (hG.1.2.1 ("FenceYards", 229, ⟨"FenceYards$Ground", "lowestOn", "(II)I"⟩) (by decide +kernel)) (hts (.initialized "FenceYards$Ground") (by decide +kernel)) (by decide +kernel) ⟨Nat.le_of_ble_eq_true rfl, Nat.le_of_ble_eq_true rfl⟩, hts (.instanceMethod yX4_lowestOn) (by decide +kernel), hts (.selects "FenceYards$Ground" yX4_lowestOn yX4_lowestOn) (by decide +kernel)⟩ (z_preV hK hG hI (z_rc (q := lnd σ) (ci := 4) (n := 0) hK hI (kd_G hg2) (by decide) rfl)) rfl rfl hl.1 rfl (lv_room (Nat.le_of_ble_eq_true rfl)) dX11_sure_29 ⟨Nat.zero_le _, Nat.zero_le _⟩) (fun H locs hI => ?_)
      refine lv_aload_n hx hb dX11_sure_32 rfl (lv_at hl 0 rfl) ?_
      have hg3 : isG (lnd σ) := hI.2.2.2.2.1
      refine z_get (C := RX11) (T := TX11) (N := 9) (ci := 10) (v := .ref (G.1 + (lnd σ))) hx hb hts i_X11_sure_10 hown hK hI 0 rfl (by decide) rfl 6 (by decide) (hts (.fieldLink RX11 47 "FenceYards" "land" "LFenceYards$Ground;") (by decide +kernel)) (fun _ h9 => h9) rfl dX11_sure_33 ?_
      refine lv_iconst (v := 1) hx hb dX11_sure_36 (by decide) ?_
      refine lv_iload_n hx hb dX11_sure_37 rfl (lv_at hl 1 rfl) ?_
      obtain ⟨r3, hc3, hf⟩ := ok_1 hf
      refine z_calli0 rfl rfl hI (va_runVN (As := [.int 1, .int x1]) (rest := [.int r2]) ⟨hx, hb, hml, hown, hts⟩ (m_X4_lowestOn G l hg3 hc3) ⟨va_cnB (host := "FenceYards") 2 hts gX11_sure_X4_lowestOn_n229 rfl rfl rfl (hG.1.2.1 ("FenceYards", 229, ⟨"FenceYards$Ground", "lowestOn", "(II)I"⟩) (by decide +kernel)) (hts (.initialized "FenceYards$Ground") (by decide +kernel)) (by decide +kernel) ⟨Nat.le_of_ble_eq_true rfl, Nat.le_of_ble_eq_true rfl⟩, hts (.instanceMethod yX4_lowestOn) (by decide +kernel), hts (.selects "FenceYards$Ground" yX4_lowestOn yX4_lowestOn) (by decide +kernel)⟩ (z_preV hK hG hI (z_rc (q := lnd σ) (ci := 4) (n := 0) hK hI (kd_G hg3) (by decide) rfl)) rfl rfl hl.1 rfl (lv_room (Nat.le_of_ble_eq_true rfl)) dX11_sure_38 ⟨Nat.zero_le _, Nat.zero_le _⟩) (fun H locs hI => ?_)
      refine va_mmin hx hb (hml.trans hl.1.symm) hown (hts (.methodLink RX11 232 Lib.Math.min.name) (by decide +kernel)) (hts (.static Lib.Math.min.name) (by decide +kernel)) (hts (.initialized "java/lang/Math") (by decide +kernel)) (hts (.code Lib.Math.min.name Lib.Math.min.code 2 (some .int)) (by decide +kernel)) (Nat.le_of_ble_eq_true rfl) (Nat.le_of_ble_eq_true rfl) (Nat.zero_le _) (Nat.zero_le _) dX11_sure_41 ?_
      refine lv_topi (fun v1 ev1 => ?_)
      have hf := ok_n hf ev1
      refine lv_istore_n (lv' := [(2, .int v1), (0, .ref (G.1 + 0)), (1, .int x1)]) hx hb dX11_sure_44 rfl hl (by decide) rfl (fun ls hl => ?_)
      refine lv_iconst (v := 1) hx hb dX11_sure_45 (by decide) ?_
      refine lv_iload_n hx hb dX11_sure_46 rfl (lv_at hl 0 rfl) ?_
      refine lv_ishl hx hb dX11_sure_47 ?_
      refine lv_iconst (v := 1) hx hb dX11_sure_48 (by decide) ?_
      refine lv_isub hx hb dX11_sure_49 ?_
      cases hf
      exact z_iret hx hb hr hlk hK hG hI dX11_sure_50
    · have hf := ok_t c2 hf
      refine lv_ldc (v := (-1000001)) hx hb hown (hts (.constant RX11 57 (-1000001)) (by decide +kernel)) dX11_sure_20 ?_
      cases hf
      exact z_iret hx hb hr hlk hK hG hI dX11_sure_22
  · have hf := ok_t c1 hf
    refine lv_ldc (v := (-1000002)) hx hb hown (hts (.constant RX11 121 (-1000002)) (by decide +kernel)) dX11_sure_10 ?_
    cases hf
    exact z_iret hx hb hr hlk hK hG hI dX11_sure_12

-- ===== FenceYards.imageOf(I)LFenceYards$Ground;
set_option maxRecDepth 100000 in
theorem i_X11_imageOf_10 : ∀ w ∈ u_ws RX11 TX11 9, w ∈ wsX11_imageOf := by decide +kernel
def f_X11_imageOf (σ : Hp) (x1 : Int32) : Option (Nat) :=
  if x1 = 0 then (some 27) else (some 33)
set_option maxRecDepth 100000 in
set_option maxHeartbeats 4000000 in
theorem m_X11_imageOf (G : GT) (l : Launch) {σ : Hp} {x1 : Int32} {r : Nat}  (hf : f_X11_imageOf σ x1 = some r) : MetG G l yX11_imageOf wsX11_imageOf (rmk 0 0) σ [.ref (G.1 + 0), .int x1] (QQ G σ (some r)) := by
  refine met_of (cc := cX11_imageOf) (nL := 2) (ret := (some (.object "FenceYards$Ground"))) (by decide) rfl (Nat.le_of_ble_eq_true rfl) ?_
  intro p e s m below meth c C0 hnm hI ls hl
  obtain ⟨hx, hb, hr, hml, hown, hts, hlk, hK, hG⟩ := id C0
  have hl : lv_has ls 2 [(0, .ref (G.1 + 0)), (1, .int x1)] := hl
  unfold f_X11_imageOf at hf
  refine lv_iload_n hx hb dX11_imageOf_0 rfl (lv_at hl 1 rfl) ?_
  refine lv_if_ne (tgt := 11) hx hb dX11_imageOf_1 (by decide) (fun c1 => ?_) (fun c1 => ?_)
  · have hf := ok_f c1 hf
    refine lv_aload_n hx hb dX11_imageOf_11 rfl (lv_at hl 0 rfl) ?_
    refine z_get (C := RX11) (T := TX11) (N := 9) (ci := 10) (v := .ref (G.1 + 33)) hx hb hts i_X11_imageOf_10 hown hK hI 0 rfl (by decide) rfl 5 (by decide) (hts (.fieldLink RX11 44 "FenceYards" "secondImage" "LFenceYards$Ground;") (by decide +kernel)) (fun _ h9 => h9) rfl dX11_imageOf_12 ?_
    cases hf
    exact z_aret (r := (some 33)) rfl hx hb hr hlk hK hG hI dX11_imageOf_15
  · have hf := ok_t c1 hf
    refine lv_aload_n hx hb dX11_imageOf_4 rfl (lv_at hl 0 rfl) ?_
    refine z_get (C := RX11) (T := TX11) (N := 9) (ci := 10) (v := .ref (G.1 + 27)) hx hb hts i_X11_imageOf_10 hown hK hI 0 rfl (by decide) rfl 4 (by decide) (hts (.fieldLink RX11 40 "FenceYards" "firstImage" "LFenceYards$Ground;") (by decide +kernel)) (fun _ h9 => h9) rfl dX11_imageOf_5 ?_
    refine lv_goto (tgt := 15) hx hb dX11_imageOf_8 (by decide) ?_
    cases hf
    exact z_aret (r := (some 27)) rfl hx hb hr hlk hK hG hI dX11_imageOf_15

-- ===== FenceYards.image(I)I
set_option maxRecDepth 100000 in
theorem i_X11_image_4 : ∀ w ∈ u_ws RX4 TX4 11, w ∈ wsX11_image := by decide +kernel
set_option maxRecDepth 100000 in
theorem i_X11_image_10 : ∀ w ∈ u_ws RX11 TX11 9, w ∈ wsX11_image := by decide +kernel
def f_X11_image (σ : Hp) (x1 : Int32) : Option (Hp × Int32) :=
  if x1 < 0 then (some (σ, (-1000001))) else (if x1 ≤ 1 then (if (gI σ (lnd σ) 5) = 0 then (some (σ, (-1000002))) else (bd1 (f_X11_imageOf σ x1) fun r1 => chk (isG r1) <| bd1 (f_X4_become σ r1 (lnd σ)) fun s1 => some (s1, 1))) else (some (σ, (-1000001))))
set_option maxRecDepth 100000 in
set_option maxHeartbeats 4000000 in
theorem m_X11_image (G : GT) (l : Launch) {σ : Hp} {x1 : Int32} {σ' : Hp} {r : Int32}  (hf : f_X11_image σ x1 = some (σ', r)) : MetG G l yX11_image wsX11_image (rmk 2 82) σ [.ref (G.1 + 0), .int x1] (QI G σ' r) := by
  refine met_of (cc := cX11_image) (nL := 2) (ret := (some .int)) (by decide) rfl (Nat.le_of_ble_eq_true rfl) ?_
  intro p e s m below meth c C0 hnm hI ls hl
  obtain ⟨hx, hb, hr, hml, hown, hts, hlk, hK, hG⟩ := id C0
  have hl : lv_has ls 2 [(0, .ref (G.1 + 0)), (1, .int x1)] := hl
  unfold f_X11_image at hf
  refine lv_iload_n hx hb dX11_image_0 rfl (lv_at hl 1 rfl) ?_
  refine lv_if_lt (tgt := 9) hx hb dX11_image_1 (by decide) (fun c1 => ?_) (fun c1 => ?_)
  · have hf := ok_t c1 hf
    refine lv_ldc (v := (-1000001)) hx hb hown (hts (.constant RX11 57 (-1000001)) (by decide +kernel)) dX11_image_9 ?_
    cases hf
    exact z_iret hx hb hr hlk hK hG hI dX11_image_11
  · have hf := ok_f c1 hf
    refine lv_iload_n hx hb dX11_image_4 rfl (lv_at hl 1 rfl) ?_
    refine lv_iconst (v := 1) hx hb dX11_image_5 (by decide) ?_
    refine lv_icmp_le (tgt := 12) hx hb dX11_image_6 (by decide) (fun c2 => ?_) (fun c2 => ?_)
    · have hf := ok_t c2 hf
      refine lv_aload_n hx hb dX11_image_12 rfl (lv_at hl 0 rfl) ?_
      have hg1 : isG (lnd σ) := hI.2.2.2.2.1
      refine z_get (C := RX11) (T := TX11) (N := 9) (ci := 10) (v := .ref (G.1 + (lnd σ))) hx hb hts i_X11_image_10 hown hK hI 0 rfl (by decide) rfl 6 (by decide) (hts (.fieldLink RX11 47 "FenceYards" "land" "LFenceYards$Ground;") (by decide +kernel)) (fun _ h9 => h9) rfl dX11_image_13 ?_
      refine z_getN (C := RX4) (T := TX4) (N := 11) (ci := 4) (v := .int (gI σ (lnd σ) 5)) hx hb hts i_X11_image_4 hown hK hI (lnd σ) (kd_G hg1) (by decide) rfl 5 (by decide) (hG.1.1 ("FenceYards", 117, "FenceYards$Ground", "stands", "Z") (by decide +kernel)) (fun _ h9 => h9) rfl dX11_image_16 ?_
      refine lv_if_ne (tgt := 25) hx hb dX11_image_19 (by decide) (fun c3 => ?_) (fun c3 => ?_)
      · have hf := ok_f c3 hf
        refine lv_aload_n hx hb dX11_image_25 rfl (lv_at hl 0 rfl) ?_
        refine lv_iload_n hx hb dX11_image_26 rfl (lv_at hl 1 rfl) ?_
        obtain ⟨r1, hc1, hf⟩ := ok_1 hf
        refine z_callq0 rfl rfl hI (va_runV (As := [.int x1]) (rest := []) ⟨hx, hb, hml, hown, hts⟩ (m_X11_imageOf G l  hc1) (cwV 1 hts gX11_image_X11_imageOf rfl rfl rfl (by decide +kernel) ⟨Nat.le_of_ble_eq_true rfl, Nat.le_of_ble_eq_true rfl⟩) (z_preV hK hG hI (z_rc (q := 0) (ci := 10) (n := 0) hK hI rfl (by decide) rfl)) rfl rfl hl.1 rfl (lv_room (Nat.le_of_ble_eq_true rfl)) dX11_image_27 ⟨Nat.zero_le _, Nat.zero_le _⟩) (fun H locs hI => ?_)
        obtain ⟨hg2, hf⟩ := ok_c hf
        refine W.eq (g2 := F0 m 30 ls [.ref (G.1 + r1)]) rfl ?_
        refine lv_aload_n hx hb dX11_image_30 rfl (lv_at hl 0 rfl) ?_
        have hg3 : isG (lnd σ) := hI.2.2.2.2.1
        refine z_get (C := RX11) (T := TX11) (N := 9) (ci := 10) (v := .ref (G.1 + (lnd σ))) hx hb hts i_X11_image_10 hown hK hI 0 rfl (by decide) rfl 6 (by decide) (hts (.fieldLink RX11 47 "FenceYards" "land" "LFenceYards$Ground;") (by decide +kernel)) (fun _ h9 => h9) rfl dX11_image_31 ?_
        obtain ⟨s1, hc2, hf⟩ := ok_1 hf
        refine z_callv0 rfl rfl hI (va_runVN (As := [.ref (G.1 + (lnd σ))]) (rest := []) ⟨hx, hb, hml, hown, hts⟩ (m_X4_become G l hg2 hg3 hc2) ⟨va_cnB (host := "FenceYards") 1 hts gX11_image_X4_become_n241 rfl rfl rfl (hG.1.2.1 ("FenceYards", 241, ⟨"FenceYards$Ground", "become", "(LFenceYards$Ground;)V"⟩) (by decide +kernel)) (hts (.initialized "FenceYards$Ground") (by decide +kernel)) (by decide +kernel) ⟨Nat.le_of_ble_eq_true rfl, Nat.le_of_ble_eq_true rfl⟩, hts (.instanceMethod yX4_become) (by decide +kernel), hts (.selects "FenceYards$Ground" yX4_become yX4_become) (by decide +kernel)⟩ (z_preV hK hG hI (z_rc (q := r1) (ci := 4) (n := 0) hK hI (kd_G hg2) (by decide) rfl)) rfl rfl hl.1 rfl (lv_room (Nat.le_of_ble_eq_true rfl)) dX11_image_34 ⟨Nat.zero_le _, Nat.zero_le _⟩) (fun H locs hI => ?_)
        refine lv_iconst (v := 1) hx hb dX11_image_37 (by decide) ?_
        cases hf
        exact z_iret hx hb hr hlk hK hG hI dX11_image_38
      · have hf := ok_t c3 hf
        refine lv_ldc (v := (-1000002)) hx hb hown (hts (.constant RX11 121 (-1000002)) (by decide +kernel)) dX11_image_22 ?_
        cases hf
        exact z_iret hx hb hr hlk hK hG hI dX11_image_24
    · have hf := ok_f c2 hf
      refine lv_ldc (v := (-1000001)) hx hb hown (hts (.constant RX11 57 (-1000001)) (by decide +kernel)) dX11_image_9 ?_
      cases hf
      exact z_iret hx hb hr hlk hK hG hI dX11_image_11

-- ===== FenceYards.restore(I)I
set_option maxRecDepth 100000 in
theorem i_X11_restore_4 : ∀ w ∈ u_ws RX4 TX4 11, w ∈ wsX11_restore := by decide +kernel
set_option maxRecDepth 100000 in
theorem i_X11_restore_10 : ∀ w ∈ u_ws RX11 TX11 9, w ∈ wsX11_restore := by decide +kernel
def f_X11_restore (σ : Hp) (x1 : Int32) : Option (Hp × Int32) :=
  if x1 < 0 then (some (σ, (-1000001))) else (if x1 ≤ 1 then (bd1 (f_X11_imageOf σ x1) fun r1 => chk (isG r1) <| if (gI σ r1 5) = 0 then (some (σ, (-1000002))) else (bd1 (f_X11_imageOf σ x1) fun r2 => chk (isG r2) <| bd1 (f_X4_become σ (lnd σ) r2) fun s1 => some (s1, 1))) else (some (σ, (-1000001))))
set_option maxRecDepth 100000 in
set_option maxHeartbeats 4000000 in
theorem m_X11_restore (G : GT) (l : Launch) {σ : Hp} {x1 : Int32} {σ' : Hp} {r : Int32}  (hf : f_X11_restore σ x1 = some (σ', r)) : MetG G l yX11_restore wsX11_restore (rmk 2 82) σ [.ref (G.1 + 0), .int x1] (QI G σ' r) := by
  refine met_of (cc := cX11_restore) (nL := 2) (ret := (some .int)) (by decide) rfl (Nat.le_of_ble_eq_true rfl) ?_
  intro p e s m below meth c C0 hnm hI ls hl
  obtain ⟨hx, hb, hr, hml, hown, hts, hlk, hK, hG⟩ := id C0
  have hl : lv_has ls 2 [(0, .ref (G.1 + 0)), (1, .int x1)] := hl
  unfold f_X11_restore at hf
  refine lv_iload_n hx hb dX11_restore_0 rfl (lv_at hl 1 rfl) ?_
  refine lv_if_lt (tgt := 9) hx hb dX11_restore_1 (by decide) (fun c1 => ?_) (fun c1 => ?_)
  · have hf := ok_t c1 hf
    refine lv_ldc (v := (-1000001)) hx hb hown (hts (.constant RX11 57 (-1000001)) (by decide +kernel)) dX11_restore_9 ?_
    cases hf
    exact z_iret hx hb hr hlk hK hG hI dX11_restore_11
  · have hf := ok_f c1 hf
    refine lv_iload_n hx hb dX11_restore_4 rfl (lv_at hl 1 rfl) ?_
    refine lv_iconst (v := 1) hx hb dX11_restore_5 (by decide) ?_
    refine lv_icmp_le (tgt := 12) hx hb dX11_restore_6 (by decide) (fun c2 => ?_) (fun c2 => ?_)
    · have hf := ok_t c2 hf
      refine lv_aload_n hx hb dX11_restore_12 rfl (lv_at hl 0 rfl) ?_
      refine lv_iload_n hx hb dX11_restore_13 rfl (lv_at hl 1 rfl) ?_
      obtain ⟨r1, hc1, hf⟩ := ok_1 hf
      refine z_callq0 rfl rfl hI (va_runV (As := [.int x1]) (rest := []) ⟨hx, hb, hml, hown, hts⟩ (m_X11_imageOf G l  hc1) (cwV 1 hts gX11_restore_X11_imageOf rfl rfl rfl (by decide +kernel) ⟨Nat.le_of_ble_eq_true rfl, Nat.le_of_ble_eq_true rfl⟩) (z_preV hK hG hI (z_rc (q := 0) (ci := 10) (n := 0) hK hI rfl (by decide) rfl)) rfl rfl hl.1 rfl (lv_room (Nat.le_of_ble_eq_true rfl)) dX11_restore_14 ⟨Nat.zero_le _, Nat.zero_le _⟩) (fun H locs hI => ?_)
      obtain ⟨hg1, hf⟩ := ok_c hf
      refine W.eq (g2 := F0 m 17 ls [.ref (G.1 + r1)]) rfl ?_
      refine z_getN (C := RX4) (T := TX4) (N := 11) (ci := 4) (v := .int (gI σ r1 5)) hx hb hts i_X11_restore_4 hown hK hI r1 (kd_G hg1) (by decide) rfl 5 (by decide) (hG.1.1 ("FenceYards", 117, "FenceYards$Ground", "stands", "Z") (by decide +kernel)) (fun _ h9 => h9) rfl dX11_restore_17 ?_
      refine lv_if_ne (tgt := 26) hx hb dX11_restore_20 (by decide) (fun c3 => ?_) (fun c3 => ?_)
      · have hf := ok_f c3 hf
        refine lv_aload_n hx hb dX11_restore_26 rfl (lv_at hl 0 rfl) ?_
        have hg2 : isG (lnd σ) := hI.2.2.2.2.1
        refine z_get (C := RX11) (T := TX11) (N := 9) (ci := 10) (v := .ref (G.1 + (lnd σ))) hx hb hts i_X11_restore_10 hown hK hI 0 rfl (by decide) rfl 6 (by decide) (hts (.fieldLink RX11 47 "FenceYards" "land" "LFenceYards$Ground;") (by decide +kernel)) (fun _ h9 => h9) rfl dX11_restore_27 ?_
        refine lv_aload_n hx hb dX11_restore_30 rfl (lv_at hl 0 rfl) ?_
        refine lv_iload_n hx hb dX11_restore_31 rfl (lv_at hl 1 rfl) ?_
        obtain ⟨r2, hc2, hf⟩ := ok_1 hf
        refine z_callq0 rfl rfl hI (va_runV (As := [.int x1]) (rest := [.ref (G.1 + (lnd σ))]) ⟨hx, hb, hml, hown, hts⟩ (m_X11_imageOf G l  hc2) (cwV 1 hts gX11_restore_X11_imageOf rfl rfl rfl (by decide +kernel) ⟨Nat.le_of_ble_eq_true rfl, Nat.le_of_ble_eq_true rfl⟩) (z_preV hK hG hI (z_rc (q := 0) (ci := 10) (n := 0) hK hI rfl (by decide) rfl)) rfl rfl hl.1 rfl (lv_room (Nat.le_of_ble_eq_true rfl)) dX11_restore_32 ⟨Nat.zero_le _, Nat.zero_le _⟩) (fun H locs hI => ?_)
        obtain ⟨hg3, hf⟩ := ok_c hf
        refine W.eq (g2 := F0 m 35 ls [.ref (G.1 + r2), .ref (G.1 + (lnd σ))]) rfl ?_
        obtain ⟨s1, hc3, hf⟩ := ok_1 hf
        refine z_callv0 rfl rfl hI (va_runVN (As := [.ref (G.1 + r2)]) (rest := []) ⟨hx, hb, hml, hown, hts⟩ (m_X4_become G l hg2 hg3 hc3) ⟨va_cnB (host := "FenceYards") 1 hts gX11_restore_X4_become_n241 rfl rfl rfl (hG.1.2.1 ("FenceYards", 241, ⟨"FenceYards$Ground", "become", "(LFenceYards$Ground;)V"⟩) (by decide +kernel)) (hts (.initialized "FenceYards$Ground") (by decide +kernel)) (by decide +kernel) ⟨Nat.le_of_ble_eq_true rfl, Nat.le_of_ble_eq_true rfl⟩, hts (.instanceMethod yX4_become) (by decide +kernel), hts (.selects "FenceYards$Ground" yX4_become yX4_become) (by decide +kernel)⟩ (z_preV hK hG hI (z_rc (q := lnd σ) (ci := 4) (n := 0) hK hI (kd_G hg2) (by decide) rfl)) rfl rfl hl.1 rfl (lv_room (Nat.le_of_ble_eq_true rfl)) dX11_restore_35 ⟨Nat.zero_le _, Nat.zero_le _⟩) (fun H locs hI => ?_)
        refine lv_iconst (v := 1) hx hb dX11_restore_38 (by decide) ?_
        cases hf
        exact z_iret hx hb hr hlk hK hG hI dX11_restore_39
      · have hf := ok_t c3 hf
        refine lv_ldc (v := (-1000002)) hx hb hown (hts (.constant RX11 121 (-1000002)) (by decide +kernel)) dX11_restore_23 ?_
        cases hf
        exact z_iret hx hb hr hlk hK hG hI dX11_restore_25
    · have hf := ok_f c2 hf
      refine lv_ldc (v := (-1000001)) hx hb hown (hts (.constant RX11 57 (-1000001)) (by decide +kernel)) dX11_restore_9 ?_
      cases hf
      exact z_iret hx hb hr hlk hK hG hI dX11_restore_11

-- ===== FenceYards.kind(I)I
def v_Strip_kindNumber (σ : Hp) (q : Nat) : Option (Int32) :=
  if gK σ q = 0 then f_X0_kindNumber σ q else if gK σ q = 1 then f_X1_kindNumber σ q else if gK σ q = 2 then f_X2_kindNumber σ q else if gK σ q = 3 then f_X3_kindNumber σ q else if gK σ q = 7 then f_X7_kindNumber σ q else none
set_option maxRecDepth 100000 in
theorem i_X11_kind_10 : ∀ w ∈ u_ws RX11 TX11 9, w ∈ wsX11_kind := by decide +kernel
def f_X11_kind (σ : Hp) (x1 : Int32) : Option (Int32) :=
  bd1 (f_X4_toldStrip σ (lnd σ) x1) fun r1 => opc r1 (some (-1000001)) fun q1 => (chk (okS σ q1) <| bd1 (v_Strip_kindNumber σ q1) fun r2 => some r2)
set_option maxRecDepth 100000 in
set_option maxHeartbeats 4000000 in
theorem m_X11_kind (G : GT) (l : Launch) {σ : Hp} {x1 : Int32} {r : Int32}  (hf : f_X11_kind σ x1 = some r) : MetG G l yX11_kind wsX11_kind (rmk 1 21) σ [.ref (G.1 + 0), .int x1] (QI G σ r) := by
  refine met_of (cc := cX11_kind) (nL := 3) (ret := (some .int)) (by decide) rfl (Nat.le_of_ble_eq_true rfl) ?_
  intro p e s m below meth c C0 hnm hI ls hl
  obtain ⟨hx, hb, hr, hml, hown, hts, hlk, hK, hG⟩ := id C0
  have hl : lv_has ls 3 [(0, .ref (G.1 + 0)), (1, .int x1)] := hl
  unfold f_X11_kind at hf
  refine lv_aload_n hx hb dX11_kind_0 rfl (lv_at hl 0 rfl) ?_
  have hg1 : isG (lnd σ) := hI.2.2.2.2.1
  refine z_get (C := RX11) (T := TX11) (N := 9) (ci := 10) (v := .ref (G.1 + (lnd σ))) hx hb hts i_X11_kind_10 hown hK hI 0 rfl (by decide) rfl 6 (by decide) (hts (.fieldLink RX11 47 "FenceYards" "land" "LFenceYards$Ground;") (by decide +kernel)) (fun _ h9 => h9) rfl dX11_kind_1 ?_
  refine lv_iload_n hx hb dX11_kind_4 rfl (lv_at hl 1 rfl) ?_
  obtain ⟨r1, hc1, hf⟩ := ok_1 hf
  refine z_callq0 rfl rfl hI (va_runVN (As := [.int x1]) (rest := []) ⟨hx, hb, hml, hown, hts⟩ (m_X4_toldStrip G l hg1 hc1) ⟨va_cnB (host := "FenceYards") 1 hts gX11_kind_X4_toldStrip_n150 rfl rfl rfl (hG.1.2.1 ("FenceYards", 150, ⟨"FenceYards$Ground", "toldStrip", "(I)LFenceYards$Strip;"⟩) (by decide +kernel)) (hts (.initialized "FenceYards$Ground") (by decide +kernel)) (by decide +kernel) ⟨Nat.le_of_ble_eq_true rfl, Nat.le_of_ble_eq_true rfl⟩, hts (.instanceMethod yX4_toldStrip) (by decide +kernel), hts (.selects "FenceYards$Ground" yX4_toldStrip yX4_toldStrip) (by decide +kernel)⟩ (z_preV hK hG hI (z_rc (q := lnd σ) (ci := 4) (n := 0) hK hI (kd_G hg1) (by decide) rfl)) rfl rfl hl.1 rfl (lv_room (Nat.le_of_ble_eq_true rfl)) dX11_kind_5 ⟨Nat.zero_le _, Nat.zero_le _⟩) (fun H locs hI => ?_)
  cases r1 with
  | none =>
    have hf := ok_on hf
    refine W.eq (g2 := F0 m 8 ls [.null]) rfl ?_
    refine lv_astore_nN (lv' := [(2, .null), (0, .ref (G.1 + 0)), (1, .int x1)]) hx hb dX11_kind_8 rfl hl (by decide) rfl (fun ls hl => ?_)
    refine lv_aload_nN hx hb dX11_kind_9 rfl (lv_at hl 0 rfl) ?_
    refine lv_ifnonnullN hx hb dX11_kind_10 ?_
    refine lv_ldc (v := (-1000001)) hx hb hown (hts (.constant RX11 57 (-1000001)) (by decide +kernel)) dX11_kind_13 ?_
    refine lv_goto (tgt := 22) hx hb dX11_kind_15 (by decide) ?_
    cases hf
    exact z_iret hx hb hr hlk hK hG hI dX11_kind_22
  | some q1 =>
    have hf := ok_os hf
    refine W.eq (g2 := F0 m 8 ls [.ref (G.1 + q1)]) rfl ?_
    refine lv_astore_n (lv' := [(2, .ref (G.1 + q1)), (0, .ref (G.1 + 0)), (1, .int x1)]) hx hb dX11_kind_8 rfl hl (by decide) rfl (fun ls hl => ?_)
    refine lv_aload_n hx hb dX11_kind_9 rfl (lv_at hl 0 rfl) ?_
    refine lv_ifnonnull (tgt := 18) hx hb dX11_kind_10 (by decide) ?_
    refine lv_aload_n hx hb dX11_kind_18 rfl (lv_at hl 0 rfl) ?_
    obtain ⟨h1, hf⟩ := ok_c hf
    obtain ⟨r2, hc2, hf⟩ := ok_1 hf
    refine z_calli0 (σ1 := σ) (r := r2) (a := (.ref (G.1 + q1) :: []).toArray) (rest := []) (mc := 0) (ms := 0) rfl rfl hI ?_ (fun H locs hI => ?_)
    · unfold v_Strip_kindNumber at hc2
      by_cases k1 : gK σ q1 = 0
      · have hc2 := ok_t k1 hc2
        exact va_runU (As := []) (rest := []) ⟨hx, hb, hml, hown, hts⟩ (m_X0_kindNumber G l h1 hc2) (va_cwA 0 hts gX11_kind_X0_kindNumber_u245X0 rfl rfl rfl (hG.1.2.2.1 ⟨"FenceYards$Strip", "kindNumber", "()I"⟩ (by decide +kernel)) (by decide +kernel) ⟨Nat.le_of_ble_eq_true rfl, Nat.le_of_ble_eq_true rfl⟩) (z_preV hK hG hI (z_rc (q := q1) (ci := 0) (n := 0) hK hI (kd_S h1 k1) (by decide) rfl)) rfl rfl hl.1 rfl (lv_room (Nat.le_of_ble_eq_true rfl)) dX11_kind_19 ⟨Nat.zero_le _, Nat.zero_le _⟩
      have hc2 := ok_f k1 hc2
      by_cases k2 : gK σ q1 = 1
      · have hc2 := ok_t k2 hc2
        exact va_runU (As := []) (rest := []) ⟨hx, hb, hml, hown, hts⟩ (m_X1_kindNumber G l h1 hc2) (va_cwA 0 hts gX11_kind_X1_kindNumber_u245X1 rfl rfl rfl (hG.1.2.2.1 ⟨"FenceYards$Strip", "kindNumber", "()I"⟩ (by decide +kernel)) (by decide +kernel) ⟨Nat.le_of_ble_eq_true rfl, Nat.le_of_ble_eq_true rfl⟩) (z_preV hK hG hI (z_rc (q := q1) (ci := 1) (n := 0) hK hI (kd_S h1 k2) (by decide) rfl)) rfl rfl hl.1 rfl (lv_room (Nat.le_of_ble_eq_true rfl)) dX11_kind_19 ⟨Nat.zero_le _, Nat.zero_le _⟩
      have hc2 := ok_f k2 hc2
      by_cases k3 : gK σ q1 = 2
      · have hc2 := ok_t k3 hc2
        exact va_runU (As := []) (rest := []) ⟨hx, hb, hml, hown, hts⟩ (m_X2_kindNumber G l h1 hc2) (va_cwA 0 hts gX11_kind_X2_kindNumber_u245X2 rfl rfl rfl (hG.1.2.2.1 ⟨"FenceYards$Strip", "kindNumber", "()I"⟩ (by decide +kernel)) (by decide +kernel) ⟨Nat.le_of_ble_eq_true rfl, Nat.le_of_ble_eq_true rfl⟩) (z_preV hK hG hI (z_rc (q := q1) (ci := 2) (n := 0) hK hI (kd_S h1 k3) (by decide) rfl)) rfl rfl hl.1 rfl (lv_room (Nat.le_of_ble_eq_true rfl)) dX11_kind_19 ⟨Nat.zero_le _, Nat.zero_le _⟩
      have hc2 := ok_f k3 hc2
      by_cases k4 : gK σ q1 = 3
      · have hc2 := ok_t k4 hc2
        exact va_runU (As := []) (rest := []) ⟨hx, hb, hml, hown, hts⟩ (m_X3_kindNumber G l h1 hc2) (va_cwA 0 hts gX11_kind_X3_kindNumber_u245X3 rfl rfl rfl (hG.1.2.2.1 ⟨"FenceYards$Strip", "kindNumber", "()I"⟩ (by decide +kernel)) (by decide +kernel) ⟨Nat.le_of_ble_eq_true rfl, Nat.le_of_ble_eq_true rfl⟩) (z_preV hK hG hI (z_rc (q := q1) (ci := 3) (n := 0) hK hI (kd_S h1 k4) (by decide) rfl)) rfl rfl hl.1 rfl (lv_room (Nat.le_of_ble_eq_true rfl)) dX11_kind_19 ⟨Nat.zero_le _, Nat.zero_le _⟩
      have hc2 := ok_f k4 hc2
      by_cases k5 : gK σ q1 = 7
      · have hc2 := ok_t k5 hc2
        exact va_runU (As := []) (rest := []) ⟨hx, hb, hml, hown, hts⟩ (m_X7_kindNumber G l h1 hc2) (va_cwA 0 hts gX11_kind_X7_kindNumber_u245X7 rfl rfl rfl (hG.1.2.2.1 ⟨"FenceYards$Strip", "kindNumber", "()I"⟩ (by decide +kernel)) (by decide +kernel) ⟨Nat.le_of_ble_eq_true rfl, Nat.le_of_ble_eq_true rfl⟩) (z_preV hK hG hI (z_rc (q := q1) (ci := 7) (n := 0) hK hI (kd_S h1 k5) (by decide) rfl)) rfl rfl hl.1 rfl (lv_room (Nat.le_of_ble_eq_true rfl)) dX11_kind_19 ⟨Nat.zero_le _, Nat.zero_le _⟩
      have hc2 := ok_f k5 hc2
      cases hc2
    cases hf
    exact z_iret hx hb hr hlk hK hG hI dX11_kind_22

-- ===== FenceYards.as(II)I
set_option maxRecDepth 100000 in
theorem i_X11_as_0 : ∀ w ∈ u_ws RX0 TX0 3, w ∈ wsX11_as := by decide +kernel
set_option maxRecDepth 100000 in
theorem i_X11_as_1 : ∀ w ∈ u_ws RX1 TX1 3, w ∈ wsX11_as := by decide +kernel
set_option maxRecDepth 100000 in
theorem i_X11_as_2 : ∀ w ∈ u_ws RX2 TX2 3, w ∈ wsX11_as := by decide +kernel
set_option maxRecDepth 100000 in
theorem i_X11_as_3 : ∀ w ∈ u_ws RX3 TX3 3, w ∈ wsX11_as := by decide +kernel
set_option maxRecDepth 100000 in
theorem i_X11_as_7 : ∀ w ∈ u_ws RX7 TX7 3, w ∈ wsX11_as := by decide +kernel
set_option maxRecDepth 100000 in
theorem i_X11_as_10 : ∀ w ∈ u_ws RX11 TX11 9, w ∈ wsX11_as := by decide +kernel
def f_X11_as (σ : Hp) (x1 : Int32) (x2 : Int32) : Option (Hp × Int32) :=
  bd1 (f_X4_toldStrip σ (lnd σ) x1) fun r1 => opc r1 (some (σ, (-1000001))) fun q1 => (if x2 < 0 then (some (σ, (-1000001))) else (if x2 ≤ 5 then (chk (okS σ q1) <| bd1 (f_X11_isOfKind σ q1 x2) fun r2 => if r2 = 0 then (bd2 (f_X11_found σ 3) fun s1 r3 => some (s1, r3)) else (chk (okS σ q1) <| bd2 (f_X11_fine σ (gI σ q1 0)) fun s2 r4 => some (s2, r4))) else (some (σ, (-1000001)))))
set_option maxRecDepth 100000 in
set_option maxHeartbeats 4000000 in
theorem m_X11_as (G : GT) (l : Launch) {σ : Hp} {x1 : Int32} {x2 : Int32} {σ' : Hp} {r : Int32}  (hf : f_X11_as σ x1 x2 = some (σ', r)) : MetG G l yX11_as wsX11_as (rmk 1 21) σ [.ref (G.1 + 0), .int x1, .int x2] (QI G σ' r) := by
  refine met_of (cc := cX11_as) (nL := 4) (ret := (some .int)) (by decide) rfl (Nat.le_of_ble_eq_true rfl) ?_
  intro p e s m below meth c C0 hnm hI ls hl
  obtain ⟨hx, hb, hr, hml, hown, hts, hlk, hK, hG⟩ := id C0
  have hl : lv_has ls 4 [(0, .ref (G.1 + 0)), (1, .int x1), (2, .int x2)] := hl
  unfold f_X11_as at hf
  refine lv_aload_n hx hb dX11_as_0 rfl (lv_at hl 0 rfl) ?_
  have hg1 : isG (lnd σ) := hI.2.2.2.2.1
  refine z_get (C := RX11) (T := TX11) (N := 9) (ci := 10) (v := .ref (G.1 + (lnd σ))) hx hb hts i_X11_as_10 hown hK hI 0 rfl (by decide) rfl 6 (by decide) (hts (.fieldLink RX11 47 "FenceYards" "land" "LFenceYards$Ground;") (by decide +kernel)) (fun _ h9 => h9) rfl dX11_as_1 ?_
  refine lv_iload_n hx hb dX11_as_4 rfl (lv_at hl 1 rfl) ?_
  obtain ⟨r1, hc1, hf⟩ := ok_1 hf
  refine z_callq0 rfl rfl hI (va_runVN (As := [.int x1]) (rest := []) ⟨hx, hb, hml, hown, hts⟩ (m_X4_toldStrip G l hg1 hc1) ⟨va_cnB (host := "FenceYards") 1 hts gX11_as_X4_toldStrip_n150 rfl rfl rfl (hG.1.2.1 ("FenceYards", 150, ⟨"FenceYards$Ground", "toldStrip", "(I)LFenceYards$Strip;"⟩) (by decide +kernel)) (hts (.initialized "FenceYards$Ground") (by decide +kernel)) (by decide +kernel) ⟨Nat.le_of_ble_eq_true rfl, Nat.le_of_ble_eq_true rfl⟩, hts (.instanceMethod yX4_toldStrip) (by decide +kernel), hts (.selects "FenceYards$Ground" yX4_toldStrip yX4_toldStrip) (by decide +kernel)⟩ (z_preV hK hG hI (z_rc (q := lnd σ) (ci := 4) (n := 0) hK hI (kd_G hg1) (by decide) rfl)) rfl rfl hl.1 rfl (lv_room (Nat.le_of_ble_eq_true rfl)) dX11_as_5 ⟨Nat.zero_le _, Nat.zero_le _⟩) (fun H locs hI => ?_)
  cases r1 with
  | none =>
    have hf := ok_on hf
    refine W.eq (g2 := F0 m 8 ls [.null]) rfl ?_
    refine lv_astore_nN (lv' := [(3, .null), (0, .ref (G.1 + 0)), (1, .int x1), (2, .int x2)]) hx hb dX11_as_8 rfl hl (by decide) rfl (fun ls hl => ?_)
    refine lv_aload_nN hx hb dX11_as_9 rfl (lv_at hl 0 rfl) ?_
    refine lv_ifnullN (tgt := 22) hx hb dX11_as_10 (by decide) ?_
    refine lv_ldc (v := (-1000001)) hx hb hown (hts (.constant RX11 57 (-1000001)) (by decide +kernel)) dX11_as_22 ?_
    cases hf
    exact z_iret hx hb hr hlk hK hG hI dX11_as_24
  | some q1 =>
    have hf := ok_os hf
    refine W.eq (g2 := F0 m 8 ls [.ref (G.1 + q1)]) rfl ?_
    refine lv_astore_n (lv' := [(3, .ref (G.1 + q1)), (0, .ref (G.1 + 0)), (1, .int x1), (2, .int x2)]) hx hb dX11_as_8 rfl hl (by decide) rfl (fun ls hl => ?_)
    refine lv_aload_n hx hb dX11_as_9 rfl (lv_at hl 0 rfl) ?_
    refine lv_ifnull hx hb dX11_as_10 ?_
    refine lv_iload_n hx hb dX11_as_13 rfl (lv_at hl 3 rfl) ?_
    refine lv_if_lt (tgt := 22) hx hb dX11_as_14 (by decide) (fun c1 => ?_) (fun c1 => ?_)
    · have hf := ok_t c1 hf
      refine lv_ldc (v := (-1000001)) hx hb hown (hts (.constant RX11 57 (-1000001)) (by decide +kernel)) dX11_as_22 ?_
      cases hf
      exact z_iret hx hb hr hlk hK hG hI dX11_as_24
    · have hf := ok_f c1 hf
      refine lv_iload_n hx hb dX11_as_17 rfl (lv_at hl 3 rfl) ?_
      refine lv_iconst (v := 5) hx hb dX11_as_18 (by decide) ?_
      refine lv_icmp_le (tgt := 25) hx hb dX11_as_19 (by decide) (fun c2 => ?_) (fun c2 => ?_)
      · have hf := ok_t c2 hf
        refine lv_aload_n hx hb dX11_as_25 rfl (lv_at hl 0 rfl) ?_
        refine lv_iload_n hx hb dX11_as_26 rfl (lv_at hl 3 rfl) ?_
        obtain ⟨h1, hf⟩ := ok_c hf
        obtain ⟨r2, hc2, hf⟩ := ok_1 hf
        refine z_calli0 rfl rfl hI (va_runS (As := [.ref (G.1 + q1), .int x2]) (rest := []) ⟨hx, hb, hml, hown, hts⟩ (m_X11_isOfKind G l h1 hc2) (va_cwS 2 hts gX11_as_X11_isOfKind rfl rfl rfl (by decide +kernel) ⟨Nat.le_of_ble_eq_true rfl, Nat.le_of_ble_eq_true rfl⟩) (z_pre hK hG hI) rfl rfl hl.1 rfl (lv_room (Nat.le_of_ble_eq_true rfl)) dX11_as_27 ⟨Nat.zero_le _, Nat.zero_le _⟩) (fun H locs hI => ?_)
        refine lv_if_eq (tgt := 44) hx hb dX11_as_30 (by decide) (fun c3 => ?_) (fun c3 => ?_)
        · have hf := ok_t c3 hf
          refine lv_aload_n hx hb dX11_as_44 rfl (lv_at hl 1 rfl) ?_
          refine lv_iconst (v := 3) hx hb dX11_as_45 (by decide) ?_
          obtain ⟨s1, r3, hc3, hf⟩ := ok_2 hf
          refine z_calli0 rfl rfl hI (va_runV (As := [.int 3]) (rest := []) ⟨hx, hb, hml, hown, hts⟩ (m_X11_found G l  hc3) (cwV 1 hts gX11_as_X11_found rfl rfl rfl (by decide +kernel) ⟨Nat.le_of_ble_eq_true rfl, Nat.le_of_ble_eq_true rfl⟩) (z_preV hK hG hI (z_rc (q := 0) (ci := 10) (n := 0) hK hI rfl (by decide) rfl)) rfl rfl hl.1 rfl (lv_room (Nat.le_of_ble_eq_true rfl)) dX11_as_46 ⟨Nat.zero_le _, Nat.zero_le _⟩) (fun H locs hI => ?_)
          cases hf
          exact z_iret hx hb hr hlk hK hG hI dX11_as_49
        · have hf := ok_f c3 hf
          refine lv_aload_n hx hb dX11_as_33 rfl (lv_at hl 1 rfl) ?_
          refine lv_aload_n hx hb dX11_as_34 rfl (lv_at hl 0 rfl) ?_
          obtain ⟨h2, hf⟩ := ok_c hf
          refine z_getS hx hb hts i_X11_as_0 i_X11_as_1 i_X11_as_2 i_X11_as_3 i_X11_as_7 hown hK hI (q := q1) h2 0 (by decide) ⟨rfl, rfl, rfl, rfl, rfl⟩ (hts (.fieldLink RX11 252 "FenceYards$Strip" "number" "I") (by decide +kernel)) (fun _ h9 => h9) (fun _ => rfl) dX11_as_35 ?_
          obtain ⟨s2, r4, hc4, hf⟩ := ok_2 hf
          refine z_calli0 rfl rfl hI (va_runV (As := [.int (gI σ q1 0)]) (rest := []) ⟨hx, hb, hml, hown, hts⟩ (m_X11_fine G l  hc4) (cwV 1 hts gX11_as_X11_fine rfl rfl rfl (by decide +kernel) ⟨Nat.le_of_ble_eq_true rfl, Nat.le_of_ble_eq_true rfl⟩) (z_preV hK hG hI (z_rc (q := 0) (ci := 10) (n := 0) hK hI rfl (by decide) rfl)) rfl rfl hl.1 rfl (lv_room (Nat.le_of_ble_eq_true rfl)) dX11_as_38 ⟨Nat.zero_le _, Nat.zero_le _⟩) (fun H locs hI => ?_)
          refine lv_goto (tgt := 49) hx hb dX11_as_41 (by decide) ?_
          cases hf
          exact z_iret hx hb hr hlk hK hG hI dX11_as_49
      · have hf := ok_f c2 hf
        refine lv_ldc (v := (-1000001)) hx hb hown (hts (.constant RX11 57 (-1000001)) (by decide +kernel)) dX11_as_22 ?_
        cases hf
        exact z_iret hx hb hr hlk hK hG hI dX11_as_24

-- ===== FenceYards.ask(II)I
def v_Strip_askMark (σ : Hp) (q : Nat) : Option (Hp × Int32) :=
  if gK σ q = 0 then f_X0_askMark σ q else if gK σ q = 1 then f_X1_askMark σ q else if gK σ q = 2 then f_X3_askMark σ q else if gK σ q = 3 then f_X3_askMark σ q else if gK σ q = 7 then f_X7_askMark σ q else none
def v_Strip_askSize (σ : Hp) (q : Nat) : Option (Hp × Int32) :=
  if gK σ q = 0 then f_X0_askSize σ q else if gK σ q = 1 then f_X1_askSize σ q else if gK σ q = 2 then f_X2_askSize σ q else if gK σ q = 3 then f_X3_askSize σ q else if gK σ q = 7 then f_X1_askSize σ q else none
set_option maxRecDepth 100000 in
theorem i_X11_ask_9 : ∀ w ∈ u_ws RX10 TX10 2, w ∈ wsX11_ask := by decide +kernel
set_option maxRecDepth 100000 in
theorem i_X11_ask_10 : ∀ w ∈ u_ws RX11 TX11 9, w ∈ wsX11_ask := by decide +kernel
def f_X11_ask (σ : Hp) (x1 : Int32) (x2 : Int32) : Option (Hp × Int32) :=
  bd1 (f_X4_toldStrip σ (lnd σ) x1) fun r1 => opc r1 (some (σ, (-1000001))) fun q1 => (bd1 (f_X11_isUpOrDown σ x2) fun r2 => if r2 = 0 then (some (σ, (-1000001))) else (if x2 = 0 then (chk (okS (sI σ 25 1 0) q1) <| bd2 (v_Strip_askSize (sI σ 25 1 0) q1) fun s2 r4 => some (s2, r4)) else (chk (okS (sI σ 25 1 0) q1) <| bd2 (v_Strip_askMark (sI σ 25 1 0) q1) fun s1 r3 => some (s1, r3))))
set_option maxRecDepth 100000 in
set_option maxHeartbeats 4000000 in
theorem m_X11_ask (G : GT) (l : Launch) {σ : Hp} {x1 : Int32} {x2 : Int32} {σ' : Hp} {r : Int32}  (hf : f_X11_ask σ x1 x2 = some (σ', r)) : MetG G l yX11_ask wsX11_ask (rmk 6 127) σ [.ref (G.1 + 0), .int x1, .int x2] (QI G σ' r) := by
  refine met_of (cc := cX11_ask) (nL := 4) (ret := (some .int)) (by decide) rfl (Nat.le_of_ble_eq_true rfl) ?_
  intro p e s m below meth c C0 hnm hI ls hl
  obtain ⟨hx, hb, hr, hml, hown, hts, hlk, hK, hG⟩ := id C0
  have hl : lv_has ls 4 [(0, .ref (G.1 + 0)), (1, .int x1), (2, .int x2)] := hl
  unfold f_X11_ask at hf
  refine lv_aload_n hx hb dX11_ask_0 rfl (lv_at hl 0 rfl) ?_
  have hg1 : isG (lnd σ) := hI.2.2.2.2.1
  refine z_get (C := RX11) (T := TX11) (N := 9) (ci := 10) (v := .ref (G.1 + (lnd σ))) hx hb hts i_X11_ask_10 hown hK hI 0 rfl (by decide) rfl 6 (by decide) (hts (.fieldLink RX11 47 "FenceYards" "land" "LFenceYards$Ground;") (by decide +kernel)) (fun _ h9 => h9) rfl dX11_ask_1 ?_
  refine lv_iload_n hx hb dX11_ask_4 rfl (lv_at hl 1 rfl) ?_
  obtain ⟨r1, hc1, hf⟩ := ok_1 hf
  refine z_callq0 rfl rfl hI (va_runVN (As := [.int x1]) (rest := []) ⟨hx, hb, hml, hown, hts⟩ (m_X4_toldStrip G l hg1 hc1) ⟨va_cnB (host := "FenceYards") 1 hts gX11_ask_X4_toldStrip_n150 rfl rfl rfl (hG.1.2.1 ("FenceYards", 150, ⟨"FenceYards$Ground", "toldStrip", "(I)LFenceYards$Strip;"⟩) (by decide +kernel)) (hts (.initialized "FenceYards$Ground") (by decide +kernel)) (by decide +kernel) ⟨Nat.le_of_ble_eq_true rfl, Nat.le_of_ble_eq_true rfl⟩, hts (.instanceMethod yX4_toldStrip) (by decide +kernel), hts (.selects "FenceYards$Ground" yX4_toldStrip yX4_toldStrip) (by decide +kernel)⟩ (z_preV hK hG hI (z_rc (q := lnd σ) (ci := 4) (n := 0) hK hI (kd_G hg1) (by decide) rfl)) rfl rfl hl.1 rfl (lv_room (Nat.le_of_ble_eq_true rfl)) dX11_ask_5 ⟨Nat.zero_le _, Nat.zero_le _⟩) (fun H locs hI => ?_)
  cases r1 with
  | none =>
    have hf := ok_on hf
    refine W.eq (g2 := F0 m 8 ls [.null]) rfl ?_
    refine lv_astore_nN (lv' := [(3, .null), (0, .ref (G.1 + 0)), (1, .int x1), (2, .int x2)]) hx hb dX11_ask_8 rfl hl (by decide) rfl (fun ls hl => ?_)
    refine lv_aload_nN hx hb dX11_ask_9 rfl (lv_at hl 0 rfl) ?_
    refine lv_ifnullN (tgt := 20) hx hb dX11_ask_10 (by decide) ?_
    refine lv_ldc (v := (-1000001)) hx hb hown (hts (.constant RX11 57 (-1000001)) (by decide +kernel)) dX11_ask_20 ?_
    cases hf
    exact z_iret hx hb hr hlk hK hG hI dX11_ask_22
  | some q1 =>
    have hf := ok_os hf
    refine W.eq (g2 := F0 m 8 ls [.ref (G.1 + q1)]) rfl ?_
    refine lv_astore_n (lv' := [(3, .ref (G.1 + q1)), (0, .ref (G.1 + 0)), (1, .int x1), (2, .int x2)]) hx hb dX11_ask_8 rfl hl (by decide) rfl (fun ls hl => ?_)
    refine lv_aload_n hx hb dX11_ask_9 rfl (lv_at hl 0 rfl) ?_
    refine lv_ifnull hx hb dX11_ask_10 ?_
    refine lv_iload_n hx hb dX11_ask_13 rfl (lv_at hl 3 rfl) ?_
    obtain ⟨r2, hc2, hf⟩ := ok_1 hf
    refine z_calli0 rfl rfl hI (va_runS (As := [.int x2]) (rest := []) ⟨hx, hb, hml, hown, hts⟩ (m_X11_isUpOrDown G l  hc2) (va_cwS 1 hts gX11_ask_X11_isUpOrDown rfl rfl rfl (by decide +kernel) ⟨Nat.le_of_ble_eq_true rfl, Nat.le_of_ble_eq_true rfl⟩) (z_pre hK hG hI) rfl rfl hl.1 rfl (lv_room (Nat.le_of_ble_eq_true rfl)) dX11_ask_14 ⟨Nat.zero_le _, Nat.zero_le _⟩) (fun H locs hI => ?_)
    refine lv_if_ne (tgt := 23) hx hb dX11_ask_17 (by decide) (fun c1 => ?_) (fun c1 => ?_)
    · have hf := ok_f c1 hf
      refine lv_aload_n hx hb dX11_ask_23 rfl (lv_at hl 1 rfl) ?_
      refine z_get (C := RX11) (T := TX11) (N := 9) (ci := 10) (v := .ref (G.1 + 25)) hx hb hts i_X11_ask_10 hown hK hI 0 rfl (by decide) rfl 3 (by decide) (hts (.fieldLink RX11 33 "FenceYards" "bodies" "LFenceYards$Trace;") (by decide +kernel)) (fun _ h9 => h9) rfl dX11_ask_24 ?_
      refine lv_iconst (v := 0) hx hb dX11_ask_27 (by decide) ?_
      refine z_putN (C := RX10) (T := TX10) (N := 2) (ci := 9) (ty := .int) (v := .int 0) hx hb hts i_X11_ask_9 tyX10 tyX10_ok nmX10 hown hK hI 25 rfl (by decide) rfl 1 (by decide) (hG.1.1 ("FenceYards", 255, "FenceYards$Trace", "size", "I") (by decide +kernel)) (fun _ h9 => h9) rfl (by decide +kernel) rfl rfl (Nat.le_of_ble_eq_true rfl) (set_I hI.2.2.2 rfl (by decide) rfl) rfl hI.2.2.2 dX11_ask_28 (fun H locs hI => ?_)
      refine lv_iload_n hx hb dX11_ask_31 rfl (lv_at hl 3 rfl) ?_
      refine lv_if_ne (tgt := 46) hx hb dX11_ask_32 (by decide) (fun c2 => ?_) (fun c2 => ?_)
      · have hf := ok_f c2 hf
        refine lv_aload_n hx hb dX11_ask_46 rfl (lv_at hl 0 rfl) ?_
        refine lv_aload_n hx hb dX11_ask_47 rfl (lv_at hl 1 rfl) ?_
        refine z_get (C := RX11) (T := TX11) (N := 9) (ci := 10) (v := .ref (G.1 + 25)) hx hb hts i_X11_ask_10 hown hK hI 0 rfl (by decide) rfl 3 (by decide) (hts (.fieldLink RX11 33 "FenceYards" "bodies" "LFenceYards$Trace;") (by decide +kernel)) (fun _ h9 => h9) rfl dX11_ask_48 ?_
        obtain ⟨h1, hf⟩ := ok_c hf
        obtain ⟨s1, r3, hc3, hf⟩ := ok_2 hf
        refine z_calli0 (σ1 := s1) (r := r3) (a := (.ref (G.1 + q1) :: [.ref (G.1 + 25)]).toArray) (rest := []) (mc := 0) (ms := 0) rfl rfl hI ?_ (fun H locs hI => ?_)
        · unfold v_Strip_askMark at hc3
          by_cases k1 : gK (sI σ 25 1 0) q1 = 0
          · have hc3 := ok_t k1 hc3
            exact va_runU (As := [.ref (G.1 + 25)]) (rest := []) ⟨hx, hb, hml, hown, hts⟩ (m_X0_askMark G l h1 hc3) (va_cwO 1 hts gX11_ask_X0_askMark_u260X0 rfl rfl rfl (b0 := cX9_askMark) (m0 := 2) (r0 := (some .int)) (by decide +kernel) (by decide +kernel) ⟨Nat.le_of_ble_eq_true rfl, Nat.le_of_ble_eq_true rfl⟩) (z_preV hK hG hI (z_rc (q := q1) (ci := 0) (n := 0) hK hI (kd_S h1 k1) (by decide) rfl)) rfl rfl hl.1 rfl (lv_room (Nat.le_of_ble_eq_true rfl)) dX11_ask_51 ⟨Nat.zero_le _, Nat.zero_le _⟩
          have hc3 := ok_f k1 hc3
          by_cases k2 : gK (sI σ 25 1 0) q1 = 1
          · have hc3 := ok_t k2 hc3
            exact va_runU (As := [.ref (G.1 + 25)]) (rest := []) ⟨hx, hb, hml, hown, hts⟩ (m_X1_askMark G l h1 hc3) (va_cwO 1 hts gX11_ask_X1_askMark_u260X1 rfl rfl rfl (b0 := cX9_askMark) (m0 := 2) (r0 := (some .int)) (by decide +kernel) (by decide +kernel) ⟨Nat.le_of_ble_eq_true rfl, Nat.le_of_ble_eq_true rfl⟩) (z_preV hK hG hI (z_rc (q := q1) (ci := 1) (n := 0) hK hI (kd_S h1 k2) (by decide) rfl)) rfl rfl hl.1 rfl (lv_room (Nat.le_of_ble_eq_true rfl)) dX11_ask_51 ⟨Nat.zero_le _, Nat.zero_le _⟩
          have hc3 := ok_f k2 hc3
          by_cases k3 : gK (sI σ 25 1 0) q1 = 2
          · have hc3 := ok_t k3 hc3
            exact va_runU (As := [.ref (G.1 + 25)]) (rest := []) ⟨hx, hb, hml, hown, hts⟩ (m_X3_askMark G l h1 hc3) (va_cwO 1 hts gX11_ask_X3_askMark_u260X2 rfl rfl rfl (b0 := cX9_askMark) (m0 := 2) (r0 := (some .int)) (by decide +kernel) (by decide +kernel) ⟨Nat.le_of_ble_eq_true rfl, Nat.le_of_ble_eq_true rfl⟩) (z_preV hK hG hI (z_rc (q := q1) (ci := 2) (n := 0) hK hI (kd_S h1 k3) (by decide) rfl)) rfl rfl hl.1 rfl (lv_room (Nat.le_of_ble_eq_true rfl)) dX11_ask_51 ⟨Nat.zero_le _, Nat.zero_le _⟩
          have hc3 := ok_f k3 hc3
          by_cases k4 : gK (sI σ 25 1 0) q1 = 3
          · have hc3 := ok_t k4 hc3
            exact va_runU (As := [.ref (G.1 + 25)]) (rest := []) ⟨hx, hb, hml, hown, hts⟩ (m_X3_askMark G l h1 hc3) (va_cwO 1 hts gX11_ask_X3_askMark_u260X3 rfl rfl rfl (b0 := cX9_askMark) (m0 := 2) (r0 := (some .int)) (by decide +kernel) (by decide +kernel) ⟨Nat.le_of_ble_eq_true rfl, Nat.le_of_ble_eq_true rfl⟩) (z_preV hK hG hI (z_rc (q := q1) (ci := 3) (n := 0) hK hI (kd_S h1 k4) (by decide) rfl)) rfl rfl hl.1 rfl (lv_room (Nat.le_of_ble_eq_true rfl)) dX11_ask_51 ⟨Nat.zero_le _, Nat.zero_le _⟩
          have hc3 := ok_f k4 hc3
          by_cases k5 : gK (sI σ 25 1 0) q1 = 7
          · have hc3 := ok_t k5 hc3
            exact va_runU (As := [.ref (G.1 + 25)]) (rest := []) ⟨hx, hb, hml, hown, hts⟩ (m_X7_askMark G l h1 hc3) (va_cwO 1 hts gX11_ask_X7_askMark_u260X7 rfl rfl rfl (b0 := cX9_askMark) (m0 := 2) (r0 := (some .int)) (by decide +kernel) (by decide +kernel) ⟨Nat.le_of_ble_eq_true rfl, Nat.le_of_ble_eq_true rfl⟩) (z_preV hK hG hI (z_rc (q := q1) (ci := 7) (n := 0) hK hI (kd_S h1 k5) (by decide) rfl)) rfl rfl hl.1 rfl (lv_room (Nat.le_of_ble_eq_true rfl)) dX11_ask_51 ⟨Nat.zero_le _, Nat.zero_le _⟩
          have hc3 := ok_f k5 hc3
          cases hc3
        cases hf
        exact z_iret hx hb hr hlk hK hG hI dX11_ask_54
      · have hf := ok_t c2 hf
        refine lv_aload_n hx hb dX11_ask_35 rfl (lv_at hl 0 rfl) ?_
        refine lv_aload_n hx hb dX11_ask_36 rfl (lv_at hl 1 rfl) ?_
        refine z_get (C := RX11) (T := TX11) (N := 9) (ci := 10) (v := .ref (G.1 + 25)) hx hb hts i_X11_ask_10 hown hK hI 0 rfl (by decide) rfl 3 (by decide) (hts (.fieldLink RX11 33 "FenceYards" "bodies" "LFenceYards$Trace;") (by decide +kernel)) (fun _ h9 => h9) rfl dX11_ask_37 ?_
        obtain ⟨h2, hf⟩ := ok_c hf
        obtain ⟨s2, r4, hc4, hf⟩ := ok_2 hf
        refine z_calli0 (σ1 := s2) (r := r4) (a := (.ref (G.1 + q1) :: [.ref (G.1 + 25)]).toArray) (rest := []) (mc := 0) (ms := 0) rfl rfl hI ?_ (fun H locs hI => ?_)
        · unfold v_Strip_askSize at hc4
          by_cases k6 : gK (sI σ 25 1 0) q1 = 0
          · have hc4 := ok_t k6 hc4
            exact va_runU (As := [.ref (G.1 + 25)]) (rest := []) ⟨hx, hb, hml, hown, hts⟩ (m_X0_askSize G l h2 hc4) (va_cwO 1 hts gX11_ask_X0_askSize_u256X0 rfl rfl rfl (b0 := cX9_askSize) (m0 := 2) (r0 := (some .int)) (by decide +kernel) (by decide +kernel) ⟨Nat.le_of_ble_eq_true rfl, Nat.le_of_ble_eq_true rfl⟩) (z_preV hK hG hI (z_rc (q := q1) (ci := 0) (n := 0) hK hI (kd_S h2 k6) (by decide) rfl)) rfl rfl hl.1 rfl (lv_room (Nat.le_of_ble_eq_true rfl)) dX11_ask_40 ⟨Nat.zero_le _, Nat.zero_le _⟩
          have hc4 := ok_f k6 hc4
          by_cases k7 : gK (sI σ 25 1 0) q1 = 1
          · have hc4 := ok_t k7 hc4
            exact va_runU (As := [.ref (G.1 + 25)]) (rest := []) ⟨hx, hb, hml, hown, hts⟩ (m_X1_askSize G l h2 hc4) (va_cwO 1 hts gX11_ask_X1_askSize_u256X1 rfl rfl rfl (b0 := cX9_askSize) (m0 := 2) (r0 := (some .int)) (by decide +kernel) (by decide +kernel) ⟨Nat.le_of_ble_eq_true rfl, Nat.le_of_ble_eq_true rfl⟩) (z_preV hK hG hI (z_rc (q := q1) (ci := 1) (n := 0) hK hI (kd_S h2 k7) (by decide) rfl)) rfl rfl hl.1 rfl (lv_room (Nat.le_of_ble_eq_true rfl)) dX11_ask_40 ⟨Nat.zero_le _, Nat.zero_le _⟩
          have hc4 := ok_f k7 hc4
          by_cases k8 : gK (sI σ 25 1 0) q1 = 2
          · have hc4 := ok_t k8 hc4
            exact va_runU (As := [.ref (G.1 + 25)]) (rest := []) ⟨hx, hb, hml, hown, hts⟩ (m_X2_askSize G l h2 hc4) (va_cwO 1 hts gX11_ask_X2_askSize_u256X2 rfl rfl rfl (b0 := cX9_askSize) (m0 := 2) (r0 := (some .int)) (by decide +kernel) (by decide +kernel) ⟨Nat.le_of_ble_eq_true rfl, Nat.le_of_ble_eq_true rfl⟩) (z_preV hK hG hI (z_rc (q := q1) (ci := 2) (n := 0) hK hI (kd_S h2 k8) (by decide) rfl)) rfl rfl hl.1 rfl (lv_room (Nat.le_of_ble_eq_true rfl)) dX11_ask_40 ⟨Nat.zero_le _, Nat.zero_le _⟩
          have hc4 := ok_f k8 hc4
          by_cases k9 : gK (sI σ 25 1 0) q1 = 3
          · have hc4 := ok_t k9 hc4
            exact va_runU (As := [.ref (G.1 + 25)]) (rest := []) ⟨hx, hb, hml, hown, hts⟩ (m_X3_askSize G l h2 hc4) (va_cwO 1 hts gX11_ask_X3_askSize_u256X3 rfl rfl rfl (b0 := cX9_askSize) (m0 := 2) (r0 := (some .int)) (by decide +kernel) (by decide +kernel) ⟨Nat.le_of_ble_eq_true rfl, Nat.le_of_ble_eq_true rfl⟩) (z_preV hK hG hI (z_rc (q := q1) (ci := 3) (n := 0) hK hI (kd_S h2 k9) (by decide) rfl)) rfl rfl hl.1 rfl (lv_room (Nat.le_of_ble_eq_true rfl)) dX11_ask_40 ⟨Nat.zero_le _, Nat.zero_le _⟩
          have hc4 := ok_f k9 hc4
          by_cases k10 : gK (sI σ 25 1 0) q1 = 7
          · have hc4 := ok_t k10 hc4
            exact va_runU (As := [.ref (G.1 + 25)]) (rest := []) ⟨hx, hb, hml, hown, hts⟩ (m_X1_askSize G l h2 hc4) (va_cwO 1 hts gX11_ask_X1_askSize_u256X7 rfl rfl rfl (b0 := cX9_askSize) (m0 := 2) (r0 := (some .int)) (by decide +kernel) (by decide +kernel) ⟨Nat.le_of_ble_eq_true rfl, Nat.le_of_ble_eq_true rfl⟩) (z_preV hK hG hI (z_rc (q := q1) (ci := 7) (n := 0) hK hI (kd_S h2 k10) (by decide) rfl)) rfl rfl hl.1 rfl (lv_room (Nat.le_of_ble_eq_true rfl)) dX11_ask_40 ⟨Nat.zero_le _, Nat.zero_le _⟩
          have hc4 := ok_f k10 hc4
          cases hc4
        refine lv_goto (tgt := 54) hx hb dX11_ask_43 (by decide) ?_
        cases hf
        exact z_iret hx hb hr hlk hK hG hI dX11_ask_54
    · have hf := ok_t c1 hf
      refine lv_ldc (v := (-1000001)) hx hb hown (hts (.constant RX11 57 (-1000001)) (by decide +kernel)) dX11_ask_20 ?_
      cases hf
      exact z_iret hx hb hr hlk hK hG hI dX11_ask_22

-- ===== FenceYards.trace(I)I
set_option maxRecDepth 100000 in
theorem i_X11_trace_10 : ∀ w ∈ u_ws RX11 TX11 9, w ∈ wsX11_trace := by decide +kernel
def f_X11_trace (σ : Hp) (x1 : Int32) : Option (Int32) :=
  bd1 (f_X10_numberAt σ x1) fun r1 => some r1
set_option maxRecDepth 100000 in
set_option maxHeartbeats 4000000 in
theorem m_X11_trace (G : GT) (l : Launch) {σ : Hp} {x1 : Int32} {r : Int32}  (hf : f_X11_trace σ x1 = some r) : MetG G l yX11_trace wsX11_trace (rmk 1 21) σ [.ref (G.1 + 0), .int x1] (QI G σ r) := by
  refine met_of (cc := cX11_trace) (nL := 2) (ret := (some .int)) (by decide) rfl (Nat.le_of_ble_eq_true rfl) ?_
  intro p e s m below meth c C0 hnm hI ls hl
  obtain ⟨hx, hb, hr, hml, hown, hts, hlk, hK, hG⟩ := id C0
  have hl : lv_has ls 2 [(0, .ref (G.1 + 0)), (1, .int x1)] := hl
  unfold f_X11_trace at hf
  refine lv_aload_n hx hb dX11_trace_0 rfl (lv_at hl 0 rfl) ?_
  refine z_get (C := RX11) (T := TX11) (N := 9) (ci := 10) (v := .ref (G.1 + 25)) hx hb hts i_X11_trace_10 hown hK hI 0 rfl (by decide) rfl 3 (by decide) (hts (.fieldLink RX11 33 "FenceYards" "bodies" "LFenceYards$Trace;") (by decide +kernel)) (fun _ h9 => h9) rfl dX11_trace_1 ?_
  refine lv_iload_n hx hb dX11_trace_4 rfl (lv_at hl 1 rfl) ?_
  obtain ⟨r1, hc1, hf⟩ := ok_1 hf
  refine z_calli0 rfl rfl hI (va_runVN (As := [.int x1]) (rest := []) ⟨hx, hb, hml, hown, hts⟩ (m_X10_numberAt G l  hc1) ⟨va_cnB (host := "FenceYards") 1 hts gX11_trace_X10_numberAt_n263 rfl rfl rfl (hG.1.2.1 ("FenceYards", 263, ⟨"FenceYards$Trace", "numberAt", "(I)I"⟩) (by decide +kernel)) (hts (.initialized "FenceYards$Trace") (by decide +kernel)) (by decide +kernel) ⟨Nat.le_of_ble_eq_true rfl, Nat.le_of_ble_eq_true rfl⟩, hts (.instanceMethod yX10_numberAt) (by decide +kernel), hts (.selects "FenceYards$Trace" yX10_numberAt yX10_numberAt) (by decide +kernel)⟩ (z_preV hK hG hI (z_rc (q := 25) (ci := 9) (n := 0) hK hI rfl (by decide) rfl)) rfl rfl hl.1 rfl (lv_room (Nat.le_of_ble_eq_true rfl)) dX11_trace_5 ⟨Nat.zero_le _, Nat.zero_le _⟩) (fun H locs hI => ?_)
  cases hf
  exact z_iret hx hb hr hlk hK hG hI dX11_trace_8

-- ===== FenceYards.count(I)I
set_option maxRecDepth 100000 in
theorem i_X11_count_4 : ∀ w ∈ u_ws RX4 TX4 11, w ∈ wsX11_count := by decide +kernel
set_option maxRecDepth 100000 in
theorem i_X11_count_5 : ∀ w ∈ u_ws RX5 TX5 8, w ∈ wsX11_count := by decide +kernel
set_option maxRecDepth 100000 in
theorem i_X11_count_10 : ∀ w ∈ u_ws RX11 TX11 9, w ∈ wsX11_count := by decide +kernel
def f_X11_count (σ : Hp) (x1 : Int32) : Option (Int32) :=
  if x1 = 0 then (bd1 (f_X6_present σ) fun r1 => some r1) else if x1 = 1 then (some (gI σ (lnd σ) 6)) else if x1 = 2 then (some (gI σ (lnd σ) 10)) else if x1 = 3 then (bd1 (f_X4_endOn σ (lnd σ) 0) fun r2 => some r2) else if x1 = 4 then (bd1 (f_X4_endOn σ (lnd σ) 1) fun r3 => some r3) else if x1 = 5 then (some (gI σ (lnd σ) 7)) else if x1 = 6 then (some (gI σ 13 1)) else (some (-1000001))
set_option maxRecDepth 100000 in
set_option maxHeartbeats 4000000 in
theorem m_X11_count (G : GT) (l : Launch) {σ : Hp} {x1 : Int32} {r : Int32}  (hf : f_X11_count σ x1 = some r) : MetG G l yX11_count wsX11_count (rmk 2 43) σ [.ref (G.1 + 0), .int x1] (QI G σ r) := by
  refine met_of (cc := cX11_count) (nL := 2) (ret := (some .int)) (by decide) rfl (Nat.le_of_ble_eq_true rfl) ?_
  intro p e s m below meth c C0 hnm hI ls hl
  obtain ⟨hx, hb, hr, hml, hown, hts, hlk, hK, hG⟩ := id C0
  have hl : lv_has ls 2 [(0, .ref (G.1 + 0)), (1, .int x1)] := hl
  unfold f_X11_count at hf
  refine lv_iload_n hx hb dX11_count_0 rfl (lv_at hl 1 rfl) ?_
  by_cases c1 : x1 = 0
  · have hf := ok_t c1 hf
    refine lv_tableIn (tgt := 44) hx hb dX11_count_1 (by rw [c1]; decide) (by rw [c1]; decide) (by rw [c1]; rfl) (by decide) ?_
    refine lv_aload_n hx hb dX11_count_44 rfl (lv_at hl 0 rfl) ?_
    refine z_get (C := RX11) (T := TX11) (N := 9) (ci := 10) (v := .ref (G.1 + 1)) hx hb hts i_X11_count_10 hown hK hI 0 rfl (by decide) rfl 0 (by decide) (hts (.fieldLink RX11 12 "FenceYards" "rows" "LFenceYards$Rows;") (by decide +kernel)) (fun _ h9 => h9) rfl dX11_count_45 ?_
    obtain ⟨r1, hc1, hf⟩ := ok_1 hf
    refine z_calli0 rfl rfl hI (va_runVN (As := []) (rest := []) ⟨hx, hb, hml, hown, hts⟩ (m_X6_present G l  hc1) ⟨va_cnB (host := "FenceYards") 0 hts gX11_count_X6_present_n266 rfl rfl rfl (hG.1.2.1 ("FenceYards", 266, ⟨"FenceYards$Rows", "present", "()I"⟩) (by decide +kernel)) (hts (.initialized "FenceYards$Rows") (by decide +kernel)) (by decide +kernel) ⟨Nat.le_of_ble_eq_true rfl, Nat.le_of_ble_eq_true rfl⟩, hts (.instanceMethod yX6_present) (by decide +kernel), hts (.selects "FenceYards$Rows" yX6_present yX6_present) (by decide +kernel)⟩ (z_preV hK hG hI (z_rc (q := 1) (ci := 6) (n := 0) hK hI rfl (by decide) rfl)) rfl rfl hl.1 rfl (lv_room (Nat.le_of_ble_eq_true rfl)) dX11_count_48 ⟨Nat.zero_le _, Nat.zero_le _⟩) (fun H locs hI => ?_)
    cases hf
    exact z_iret hx hb hr hlk hK hG hI dX11_count_51
  have hf := ok_f c1 hf
  by_cases c2 : x1 = 1
  · have hf := ok_t c2 hf
    refine lv_tableIn (tgt := 52) hx hb dX11_count_1 (by rw [c2]; decide) (by rw [c2]; decide) (by rw [c2]; rfl) (by decide) ?_
    refine lv_aload_n hx hb dX11_count_52 rfl (lv_at hl 0 rfl) ?_
    have hg1 : isG (lnd σ) := hI.2.2.2.2.1
    refine z_get (C := RX11) (T := TX11) (N := 9) (ci := 10) (v := .ref (G.1 + (lnd σ))) hx hb hts i_X11_count_10 hown hK hI 0 rfl (by decide) rfl 6 (by decide) (hts (.fieldLink RX11 47 "FenceYards" "land" "LFenceYards$Ground;") (by decide +kernel)) (fun _ h9 => h9) rfl dX11_count_53 ?_
    refine z_getN (C := RX4) (T := TX4) (N := 11) (ci := 4) (v := .int (gI σ (lnd σ) 6)) hx hb hts i_X11_count_4 hown hK hI (lnd σ) (kd_G hg1) (by decide) rfl 6 (by decide) (hG.1.1 ("FenceYards", 111, "FenceYards$Ground", "told", "I") (by decide +kernel)) (fun _ h9 => h9) rfl dX11_count_56 ?_
    cases hf
    exact z_iret hx hb hr hlk hK hG hI dX11_count_59
  have hf := ok_f c2 hf
  by_cases c3 : x1 = 2
  · have hf := ok_t c3 hf
    refine lv_tableIn (tgt := 60) hx hb dX11_count_1 (by rw [c3]; decide) (by rw [c3]; decide) (by rw [c3]; rfl) (by decide) ?_
    refine lv_aload_n hx hb dX11_count_60 rfl (lv_at hl 0 rfl) ?_
    have hg2 : isG (lnd σ) := hI.2.2.2.2.1
    refine z_get (C := RX11) (T := TX11) (N := 9) (ci := 10) (v := .ref (G.1 + (lnd σ))) hx hb hts i_X11_count_10 hown hK hI 0 rfl (by decide) rfl 6 (by decide) (hts (.fieldLink RX11 47 "FenceYards" "land" "LFenceYards$Ground;") (by decide +kernel)) (fun _ h9 => h9) rfl dX11_count_61 ?_
    refine z_getN (C := RX4) (T := TX4) (N := 11) (ci := 4) (v := .int (gI σ (lnd σ) 10)) hx hb hts i_X11_count_4 hown hK hI (lnd σ) (kd_G hg2) (by decide) rfl 10 (by decide) (hG.1.1 ("FenceYards", 128, "FenceYards$Ground", "today", "I") (by decide +kernel)) (fun _ h9 => h9) rfl dX11_count_64 ?_
    cases hf
    exact z_iret hx hb hr hlk hK hG hI dX11_count_67
  have hf := ok_f c3 hf
  by_cases c4 : x1 = 3
  · have hf := ok_t c4 hf
    refine lv_tableIn (tgt := 68) hx hb dX11_count_1 (by rw [c4]; decide) (by rw [c4]; decide) (by rw [c4]; rfl) (by decide) ?_
    refine lv_aload_n hx hb dX11_count_68 rfl (lv_at hl 0 rfl) ?_
    have hg3 : isG (lnd σ) := hI.2.2.2.2.1
    refine z_get (C := RX11) (T := TX11) (N := 9) (ci := 10) (v := .ref (G.1 + (lnd σ))) hx hb hts i_X11_count_10 hown hK hI 0 rfl (by decide) rfl 6 (by decide) (hts (.fieldLink RX11 47 "FenceYards" "land" "LFenceYards$Ground;") (by decide +kernel)) (fun _ h9 => h9) rfl dX11_count_69 ?_
    refine lv_iconst (v := 0) hx hb dX11_count_72 (by decide) ?_
    obtain ⟨r2, hc2, hf⟩ := ok_1 hf
    refine z_calli0 rfl rfl hI (va_runVN (As := [.int 0]) (rest := []) ⟨hx, hb, hml, hown, hts⟩ (m_X4_endOn G l hg3 hc2) ⟨va_cnB (host := "FenceYards") 1 hts gX11_count_X4_endOn_n125 rfl rfl rfl (hG.1.2.1 ("FenceYards", 125, ⟨"FenceYards$Ground", "endOn", "(I)I"⟩) (by decide +kernel)) (hts (.initialized "FenceYards$Ground") (by decide +kernel)) (by decide +kernel) ⟨Nat.le_of_ble_eq_true rfl, Nat.le_of_ble_eq_true rfl⟩, hts (.instanceMethod yX4_endOn) (by decide +kernel), hts (.selects "FenceYards$Ground" yX4_endOn yX4_endOn) (by decide +kernel)⟩ (z_preV hK hG hI (z_rc (q := lnd σ) (ci := 4) (n := 0) hK hI (kd_G hg3) (by decide) rfl)) rfl rfl hl.1 rfl (lv_room (Nat.le_of_ble_eq_true rfl)) dX11_count_73 ⟨Nat.zero_le _, Nat.zero_le _⟩) (fun H locs hI => ?_)
    cases hf
    exact z_iret hx hb hr hlk hK hG hI dX11_count_76
  have hf := ok_f c4 hf
  by_cases c5 : x1 = 4
  · have hf := ok_t c5 hf
    refine lv_tableIn (tgt := 77) hx hb dX11_count_1 (by rw [c5]; decide) (by rw [c5]; decide) (by rw [c5]; rfl) (by decide) ?_
    refine lv_aload_n hx hb dX11_count_77 rfl (lv_at hl 0 rfl) ?_
    have hg4 : isG (lnd σ) := hI.2.2.2.2.1
    refine z_get (C := RX11) (T := TX11) (N := 9) (ci := 10) (v := .ref (G.1 + (lnd σ))) hx hb hts i_X11_count_10 hown hK hI 0 rfl (by decide) rfl 6 (by decide) (hts (.fieldLink RX11 47 "FenceYards" "land" "LFenceYards$Ground;") (by decide +kernel)) (fun _ h9 => h9) rfl dX11_count_78 ?_
    refine lv_iconst (v := 1) hx hb dX11_count_81 (by decide) ?_
    obtain ⟨r3, hc3, hf⟩ := ok_1 hf
    refine z_calli0 rfl rfl hI (va_runVN (As := [.int 1]) (rest := []) ⟨hx, hb, hml, hown, hts⟩ (m_X4_endOn G l hg4 hc3) ⟨va_cnB (host := "FenceYards") 1 hts gX11_count_X4_endOn_n125 rfl rfl rfl (hG.1.2.1 ("FenceYards", 125, ⟨"FenceYards$Ground", "endOn", "(I)I"⟩) (by decide +kernel)) (hts (.initialized "FenceYards$Ground") (by decide +kernel)) (by decide +kernel) ⟨Nat.le_of_ble_eq_true rfl, Nat.le_of_ble_eq_true rfl⟩, hts (.instanceMethod yX4_endOn) (by decide +kernel), hts (.selects "FenceYards$Ground" yX4_endOn yX4_endOn) (by decide +kernel)⟩ (z_preV hK hG hI (z_rc (q := lnd σ) (ci := 4) (n := 0) hK hI (kd_G hg4) (by decide) rfl)) rfl rfl hl.1 rfl (lv_room (Nat.le_of_ble_eq_true rfl)) dX11_count_82 ⟨Nat.zero_le _, Nat.zero_le _⟩) (fun H locs hI => ?_)
    cases hf
    exact z_iret hx hb hr hlk hK hG hI dX11_count_85
  have hf := ok_f c5 hf
  by_cases c6 : x1 = 5
  · have hf := ok_t c6 hf
    refine lv_tableIn (tgt := 86) hx hb dX11_count_1 (by rw [c6]; decide) (by rw [c6]; decide) (by rw [c6]; rfl) (by decide) ?_
    refine lv_aload_n hx hb dX11_count_86 rfl (lv_at hl 0 rfl) ?_
    have hg5 : isG (lnd σ) := hI.2.2.2.2.1
    refine z_get (C := RX11) (T := TX11) (N := 9) (ci := 10) (v := .ref (G.1 + (lnd σ))) hx hb hts i_X11_count_10 hown hK hI 0 rfl (by decide) rfl 6 (by decide) (hts (.fieldLink RX11 47 "FenceYards" "land" "LFenceYards$Ground;") (by decide +kernel)) (fun _ h9 => h9) rfl dX11_count_87 ?_
    refine z_getN (C := RX4) (T := TX4) (N := 11) (ci := 4) (v := .int (gI σ (lnd σ) 7)) hx hb hts i_X11_count_4 hown hK hI (lnd σ) (kd_G hg5) (by decide) rfl 7 (by decide) (hG.1.1 ("FenceYards", 269, "FenceYards$Ground", "ponds", "I") (by decide +kernel)) (fun _ h9 => h9) rfl dX11_count_90 ?_
    cases hf
    exact z_iret hx hb hr hlk hK hG hI dX11_count_93
  have hf := ok_f c6 hf
  by_cases c7 : x1 = 6
  · have hf := ok_t c7 hf
    refine lv_tableIn (tgt := 94) hx hb dX11_count_1 (by rw [c7]; decide) (by rw [c7]; decide) (by rw [c7]; rfl) (by decide) ?_
    refine lv_aload_n hx hb dX11_count_94 rfl (lv_at hl 0 rfl) ?_
    refine z_get (C := RX11) (T := TX11) (N := 9) (ci := 10) (v := .ref (G.1 + 13)) hx hb hts i_X11_count_10 hown hK hI 0 rfl (by decide) rfl 1 (by decide) (hts (.fieldLink RX11 19 "FenceYards" "reader" "LFenceYards$Reader;") (by decide +kernel)) (fun _ h9 => h9) rfl dX11_count_95 ?_
    refine z_getN (C := RX5) (T := TX5) (N := 8) (ci := 5) (v := .int (gI σ 13 1)) hx hb hts i_X11_count_5 hown hK hI 13 rfl (by decide) rfl 1 (by decide) (hG.1.1 ("FenceYards", 94, "FenceYards$Reader", "size", "I") (by decide +kernel)) (fun _ h9 => h9) rfl dX11_count_98 ?_
    cases hf
    exact z_iret hx hb hr hlk hK hG hI dX11_count_101
  have hf := ok_f c7 hf
  refine lv_tableOut (tgt := 102) hx hb dX11_count_1 (by have a0 := sw_ne (k := 0) (by decide) c1; have a1 := sw_ne (k := 1) (by decide) c2; have a2 := sw_ne (k := 2) (by decide) c3; have a3 := sw_ne (k := 3) (by decide) c4; have a4 := sw_ne (k := 4) (by decide) c5; have a5 := sw_ne (k := 5) (by decide) c6; have a6 := sw_ne (k := 6) (by decide) c7; omega) (by decide) ?_
  refine lv_ldc (v := (-1000001)) hx hb hown (hts (.constant RX11 57 (-1000001)) (by decide +kernel)) dX11_count_102 ?_
  cases hf
  exact z_iret hx hb hr hlk hK hG hI dX11_count_104

-- ===== FenceYards.status()I
set_option maxRecDepth 100000 in
theorem i_X11_status_10 : ∀ w ∈ u_ws RX11 TX11 9, w ∈ wsX11_status := by decide +kernel
def f_X11_status (σ : Hp)  : Option (Int32) :=
  some (gI σ 0 8)
set_option maxRecDepth 100000 in
set_option maxHeartbeats 4000000 in
theorem m_X11_status (G : GT) (l : Launch) {σ : Hp}  {r : Int32}  (hf : f_X11_status σ = some r) : MetG G l yX11_status wsX11_status (rmk 0 0) σ [.ref (G.1 + 0)] (QI G σ r) := by
  refine met_of (cc := cX11_status) (nL := 1) (ret := (some .int)) (by decide) rfl (Nat.le_of_ble_eq_true rfl) ?_
  intro p e s m below meth c C0 hnm hI ls hl
  obtain ⟨hx, hb, hr, hml, hown, hts, hlk, hK, hG⟩ := id C0
  have hl : lv_has ls 1 [(0, .ref (G.1 + 0))] := hl
  unfold f_X11_status at hf
  refine lv_aload_n hx hb dX11_status_0 rfl (lv_at hl 0 rfl) ?_
  refine z_get (C := RX11) (T := TX11) (N := 9) (ci := 10) (v := .int (gI σ 0 8)) hx hb hts i_X11_status_10 hown hK hI 0 rfl (by decide) rfl 8 (by decide) (hts (.fieldLink RX11 272 "FenceYards" "finding" "I") (by decide +kernel)) (fun _ h9 => h9) rfl dX11_status_1 ?_
  cases hf
  exact z_iret hx hb hr hlk hK hG hI dX11_status_4

