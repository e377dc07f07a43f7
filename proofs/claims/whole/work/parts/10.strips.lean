-- ===== FenceYards$Strip.<init>(III)V
set_option maxRecDepth 100000 in
theorem i_X9_init_0 : ∀ w ∈ u_ws RX0 TX0 3, w ∈ wsX9_init := by decide +kernel
set_option maxRecDepth 100000 in
theorem i_X9_init_1 : ∀ w ∈ u_ws RX1 TX1 3, w ∈ wsX9_init := by decide +kernel
set_option maxRecDepth 100000 in
theorem i_X9_init_2 : ∀ w ∈ u_ws RX2 TX2 3, w ∈ wsX9_init := by decide +kernel
set_option maxRecDepth 100000 in
theorem i_X9_init_3 : ∀ w ∈ u_ws RX3 TX3 3, w ∈ wsX9_init := by decide +kernel
set_option maxRecDepth 100000 in
theorem i_X9_init_7 : ∀ w ∈ u_ws RX7 TX7 3, w ∈ wsX9_init := by decide +kernel
def f_X9_init (σ : Hp) (q : Nat) (x1 : Int32) (x2 : Int32) (x3 : Int32) : Option (Hp) :=
  chk (okS (sI σ q 0 x1) q) <| chk (okS (sI (sI σ q 0 x1) q 1 x2) q) <| some (sI (sI (sI σ q 0 x1) q 1 x2) q 2 x3)
set_option maxRecDepth 100000 in
set_option maxHeartbeats 4000000 in
theorem m_X9_init (G : GT) (l : Launch) {σ : Hp} {q : Nat} {x1 : Int32} {x2 : Int32} {x3 : Int32} {σ' : Hp} (hq : okS σ q) (hf : f_X9_init σ q x1 x2 x3 = some σ') : MetG G l yX9_init wsX9_init (rmk 1 24) σ [.ref (G.1 + q), .int x1, .int x2, .int x3] (QV G σ') := by
  refine met_of (cc := cX9_init) (nL := 4) (ret := none) (by decide) rfl (Nat.le_of_ble_eq_true rfl) ?_
  intro p e s m below meth c C0 hnm hI ls hl
  obtain ⟨hx, hb, hr, hml, hown, hts, hlk, hK, hG⟩ := id C0
  have hl : lv_has ls 4 [(0, .ref (G.1 + q)), (1, .int x1), (2, .int x2), (3, .int x3)] := hl
  unfold f_X9_init at hf
  refine lv_aload_n hx hb dX9_init_0 rfl (lv_at hl 0 rfl) ?_
  refine W.objInit hx hb hown (hts (.methodLink RX9 1 objectInit) (by decide +kernel)) (hts (.instanceMethod objectInit) (by decide +kernel)) (hts (.code objectInit ⟨#[0xb1]⟩ 1 none) (by decide +kernel)) rfl (by rw [hml]; exact hl.1) rfl dX9_init_1 (Nat.le_of_ble_eq_true rfl) (Nat.le_of_ble_eq_true rfl) ?_
  refine W.eq (g2 := F0 m 4 ls []) rfl ?_
  refine lv_aload_n hx hb dX9_init_4 rfl (lv_at hl 0 rfl) ?_
  refine lv_iload_n hx hb dX9_init_5 rfl (lv_at hl 1 rfl) ?_
  refine z_putS hx hb hts i_X9_init_0 i_X9_init_1 i_X9_init_2 i_X9_init_3 i_X9_init_7 hown hnm rfl hK hI (q := q) hq 0 (by decide) ⟨rfl, rfl, rfl, rfl, rfl⟩ (hts (.fieldLink RX9 7 "FenceYards$Strip" "number" "I") (by decide +kernel)) (fun _ h9 => h9) (fun _ => rfl) dX9_init_6 (fun H locs hI => ?_)
  refine lv_aload_n hx hb dX9_init_9 rfl (lv_at hl 0 rfl) ?_
  refine lv_iload_n hx hb dX9_init_10 rfl (lv_at hl 2 rfl) ?_
  obtain ⟨h1, hf⟩ := ok_c hf
  refine z_putS hx hb hts i_X9_init_0 i_X9_init_1 i_X9_init_2 i_X9_init_3 i_X9_init_7 hown hnm rfl hK hI (q := q) h1 1 (by decide) ⟨rfl, rfl, rfl, rfl, rfl⟩ (hts (.fieldLink RX9 13 "FenceYards$Strip" "worth" "I") (by decide +kernel)) (fun _ h9 => h9) (fun _ => rfl) dX9_init_11 (fun H locs hI => ?_)
  refine lv_aload_n hx hb dX9_init_14 rfl (lv_at hl 0 rfl) ?_
  refine lv_iload_n hx hb dX9_init_15 rfl (lv_at hl 3 rfl) ?_
  obtain ⟨h2, hf⟩ := ok_c hf
  refine z_putS hx hb hts i_X9_init_0 i_X9_init_1 i_X9_init_2 i_X9_init_3 i_X9_init_7 hown hnm rfl hK hI (q := q) h2 2 (by decide) ⟨rfl, rfl, rfl, rfl, rfl⟩ (hts (.fieldLink RX9 16 "FenceYards$Strip" "ripe" "I") (by decide +kernel)) (fun _ h9 => h9) (fun _ => rfl) dX9_init_16 (fun H locs hI => ?_)
  cases hf
  exact z_vret hx hb hr hlk hK hG hI dX9_init_19

-- ===== FenceYards$Bean.<init>(III)V
def f_X1_init (σ : Hp) (q : Nat) (x1 : Int32) (x2 : Int32) (x3 : Int32) : Option (Hp) :=
  bd1 (f_X9_init σ q x1 x2 x3) fun s1 => some s1
set_option maxRecDepth 100000 in
set_option maxHeartbeats 4000000 in
theorem m_X1_init (G : GT) (l : Launch) {σ : Hp} {q : Nat} {x1 : Int32} {x2 : Int32} {x3 : Int32} {σ' : Hp} (hq : okS σ q) (hf : f_X1_init σ q x1 x2 x3 = some σ') : MetG G l yX1_init wsX1_init (rmk 2 47) σ [.ref (G.1 + q), .int x1, .int x2, .int x3] (QV G σ') := by
  refine met_of (cc := cX1_init) (nL := 4) (ret := none) (by decide) rfl (Nat.le_of_ble_eq_true rfl) ?_
  intro p e s m below meth c C0 hnm hI ls hl
  obtain ⟨hx, hb, hr, hml, hown, hts, hlk, hK, hG⟩ := id C0
  have hl : lv_has ls 4 [(0, .ref (G.1 + q)), (1, .int x1), (2, .int x2), (3, .int x3)] := hl
  unfold f_X1_init at hf
  refine lv_aload_n hx hb dX1_init_0 rfl (lv_at hl 0 rfl) ?_
  refine lv_iload_n hx hb dX1_init_1 rfl (lv_at hl 1 rfl) ?_
  refine lv_iload_n hx hb dX1_init_2 rfl (lv_at hl 2 rfl) ?_
  refine lv_iload_n hx hb dX1_init_3 rfl (lv_at hl 3 rfl) ?_
  obtain ⟨s1, hc1, hf⟩ := ok_1 hf
  refine z_callv0 rfl rfl hI (va_runI (As := [.int x1, .int x2, .int x3]) (rest := []) ⟨hx, hb, hml, hown, hts⟩ (m_X9_init G l hq hc1) (cwI 3 hts gX1_init_X9_init rfl rfl rfl (hts (.initialized "FenceYards$Strip") (by decide +kernel)) (hts (.methodLink RX1 1 yX9_init) (by decide +kernel)) (hts (.instanceMethod yX9_init) (by decide +kernel)) rfl (by decide +kernel) ⟨Nat.le_of_ble_eq_true rfl, Nat.le_of_ble_eq_true rfl⟩) (z_pre hK hG hI) rfl rfl hl.1 rfl (lv_room (Nat.le_of_ble_eq_true rfl)) dX1_init_4 ⟨Nat.zero_le _, Nat.zero_le _⟩) (fun H locs hI => ?_)
  cases hf
  exact z_vret hx hb hr hlk hK hG hI dX1_init_7

-- ===== FenceYards$Apple.<init>(III)V
def f_X0_init (σ : Hp) (q : Nat) (x1 : Int32) (x2 : Int32) (x3 : Int32) : Option (Hp) :=
  bd1 (f_X1_init σ q x1 x2 x3) fun s1 => some s1
set_option maxRecDepth 100000 in
set_option maxHeartbeats 4000000 in
theorem m_X0_init (G : GT) (l : Launch) {σ : Hp} {q : Nat} {x1 : Int32} {x2 : Int32} {x3 : Int32} {σ' : Hp} (hq : okS σ q) (hf : f_X0_init σ q x1 x2 x3 = some σ') : MetG G l yX0_init wsX0_init (rmk 3 70) σ [.ref (G.1 + q), .int x1, .int x2, .int x3] (QV G σ') := by
  refine met_of (cc := cX0_init) (nL := 4) (ret := none) (by decide) rfl (Nat.le_of_ble_eq_true rfl) ?_
  intro p e s m below meth c C0 hnm hI ls hl
  obtain ⟨hx, hb, hr, hml, hown, hts, hlk, hK, hG⟩ := id C0
  have hl : lv_has ls 4 [(0, .ref (G.1 + q)), (1, .int x1), (2, .int x2), (3, .int x3)] := hl
  unfold f_X0_init at hf
  refine lv_aload_n hx hb dX0_init_0 rfl (lv_at hl 0 rfl) ?_
  refine lv_iload_n hx hb dX0_init_1 rfl (lv_at hl 1 rfl) ?_
  refine lv_iload_n hx hb dX0_init_2 rfl (lv_at hl 2 rfl) ?_
  refine lv_iload_n hx hb dX0_init_3 rfl (lv_at hl 3 rfl) ?_
  obtain ⟨s1, hc1, hf⟩ := ok_1 hf
  refine z_callv0 rfl rfl hI (va_runI (As := [.int x1, .int x2, .int x3]) (rest := []) ⟨hx, hb, hml, hown, hts⟩ (m_X1_init G l hq hc1) (cwI 3 hts gX0_init_X1_init rfl rfl rfl (hts (.initialized "FenceYards$Bean") (by decide +kernel)) (hts (.methodLink RX0 1 yX1_init) (by decide +kernel)) (hts (.instanceMethod yX1_init) (by decide +kernel)) rfl (by decide +kernel) ⟨Nat.le_of_ble_eq_true rfl, Nat.le_of_ble_eq_true rfl⟩) (z_pre hK hG hI) rfl rfl hl.1 rfl (lv_room (Nat.le_of_ble_eq_true rfl)) dX0_init_4 ⟨Nat.zero_le _, Nat.zero_le _⟩) (fun H locs hI => ?_)
  cases hf
  exact z_vret hx hb hr hlk hK hG hI dX0_init_7

-- ===== FenceYards$Rye.<init>(III)V
def f_X7_init (σ : Hp) (q : Nat) (x1 : Int32) (x2 : Int32) (x3 : Int32) : Option (Hp) :=
  bd1 (f_X1_init σ q x1 x2 x3) fun s1 => some s1
set_option maxRecDepth 100000 in
set_option maxHeartbeats 4000000 in
theorem m_X7_init (G : GT) (l : Launch) {σ : Hp} {q : Nat} {x1 : Int32} {x2 : Int32} {x3 : Int32} {σ' : Hp} (hq : okS σ q) (hf : f_X7_init σ q x1 x2 x3 = some σ') : MetG G l yX7_init wsX7_init (rmk 3 70) σ [.ref (G.1 + q), .int x1, .int x2, .int x3] (QV G σ') := by
  refine met_of (cc := cX7_init) (nL := 4) (ret := none) (by decide) rfl (Nat.le_of_ble_eq_true rfl) ?_
  intro p e s m below meth c C0 hnm hI ls hl
  obtain ⟨hx, hb, hr, hml, hown, hts, hlk, hK, hG⟩ := id C0
  have hl : lv_has ls 4 [(0, .ref (G.1 + q)), (1, .int x1), (2, .int x2), (3, .int x3)] := hl
  unfold f_X7_init at hf
  refine lv_aload_n hx hb dX7_init_0 rfl (lv_at hl 0 rfl) ?_
  refine lv_iload_n hx hb dX7_init_1 rfl (lv_at hl 1 rfl) ?_
  refine lv_iload_n hx hb dX7_init_2 rfl (lv_at hl 2 rfl) ?_
  refine lv_iload_n hx hb dX7_init_3 rfl (lv_at hl 3 rfl) ?_
  obtain ⟨s1, hc1, hf⟩ := ok_1 hf
  refine z_callv0 rfl rfl hI (va_runI (As := [.int x1, .int x2, .int x3]) (rest := []) ⟨hx, hb, hml, hown, hts⟩ (m_X1_init G l hq hc1) (cwI 3 hts gX7_init_X1_init rfl rfl rfl (hts (.initialized "FenceYards$Bean") (by decide +kernel)) (hts (.methodLink RX7 1 yX1_init) (by decide +kernel)) (hts (.instanceMethod yX1_init) (by decide +kernel)) rfl (by decide +kernel) ⟨Nat.le_of_ble_eq_true rfl, Nat.le_of_ble_eq_true rfl⟩) (z_pre hK hG hI) rfl rfl hl.1 rfl (lv_room (Nat.le_of_ble_eq_true rfl)) dX7_init_4 ⟨Nat.zero_le _, Nat.zero_le _⟩) (fun H locs hI => ?_)
  cases hf
  exact z_vret hx hb hr hlk hK hG hI dX7_init_7

-- ===== FenceYards$Grass.<init>(III)V
def f_X3_init (σ : Hp) (q : Nat) (x1 : Int32) (x2 : Int32) (x3 : Int32) : Option (Hp) :=
  bd1 (f_X9_init σ q x1 x2 x3) fun s1 => some s1
set_option maxRecDepth 100000 in
set_option maxHeartbeats 4000000 in
theorem m_X3_init (G : GT) (l : Launch) {σ : Hp} {q : Nat} {x1 : Int32} {x2 : Int32} {x3 : Int32} {σ' : Hp} (hq : okS σ q) (hf : f_X3_init σ q x1 x2 x3 = some σ') : MetG G l yX3_init wsX3_init (rmk 2 47) σ [.ref (G.1 + q), .int x1, .int x2, .int x3] (QV G σ') := by
  refine met_of (cc := cX3_init) (nL := 4) (ret := none) (by decide) rfl (Nat.le_of_ble_eq_true rfl) ?_
  intro p e s m below meth c C0 hnm hI ls hl
  obtain ⟨hx, hb, hr, hml, hown, hts, hlk, hK, hG⟩ := id C0
  have hl : lv_has ls 4 [(0, .ref (G.1 + q)), (1, .int x1), (2, .int x2), (3, .int x3)] := hl
  unfold f_X3_init at hf
  refine lv_aload_n hx hb dX3_init_0 rfl (lv_at hl 0 rfl) ?_
  refine lv_iload_n hx hb dX3_init_1 rfl (lv_at hl 1 rfl) ?_
  refine lv_iload_n hx hb dX3_init_2 rfl (lv_at hl 2 rfl) ?_
  refine lv_iload_n hx hb dX3_init_3 rfl (lv_at hl 3 rfl) ?_
  obtain ⟨s1, hc1, hf⟩ := ok_1 hf
  refine z_callv0 rfl rfl hI (va_runI (As := [.int x1, .int x2, .int x3]) (rest := []) ⟨hx, hb, hml, hown, hts⟩ (m_X9_init G l hq hc1) (cwI 3 hts gX3_init_X9_init rfl rfl rfl (hts (.initialized "FenceYards$Strip") (by decide +kernel)) (hts (.methodLink RX3 1 yX9_init) (by decide +kernel)) (hts (.instanceMethod yX9_init) (by decide +kernel)) rfl (by decide +kernel) ⟨Nat.le_of_ble_eq_true rfl, Nat.le_of_ble_eq_true rfl⟩) (z_pre hK hG hI) rfl rfl hl.1 rfl (lv_room (Nat.le_of_ble_eq_true rfl)) dX3_init_4 ⟨Nat.zero_le _, Nat.zero_le _⟩) (fun H locs hI => ?_)
  cases hf
  exact z_vret hx hb hr hlk hK hG hI dX3_init_7

-- ===== FenceYards$Clover.<init>(III)V
def f_X2_init (σ : Hp) (q : Nat) (x1 : Int32) (x2 : Int32) (x3 : Int32) : Option (Hp) :=
  bd1 (f_X3_init σ q x1 x2 x3) fun s1 => some s1
set_option maxRecDepth 100000 in
set_option maxHeartbeats 4000000 in
theorem m_X2_init (G : GT) (l : Launch) {σ : Hp} {q : Nat} {x1 : Int32} {x2 : Int32} {x3 : Int32} {σ' : Hp} (hq : okS σ q) (hf : f_X2_init σ q x1 x2 x3 = some σ') : MetG G l yX2_init wsX2_init (rmk 3 70) σ [.ref (G.1 + q), .int x1, .int x2, .int x3] (QV G σ') := by
  refine met_of (cc := cX2_init) (nL := 4) (ret := none) (by decide) rfl (Nat.le_of_ble_eq_true rfl) ?_
  intro p e s m below meth c C0 hnm hI ls hl
  obtain ⟨hx, hb, hr, hml, hown, hts, hlk, hK, hG⟩ := id C0
  have hl : lv_has ls 4 [(0, .ref (G.1 + q)), (1, .int x1), (2, .int x2), (3, .int x3)] := hl
  unfold f_X2_init at hf
  refine lv_aload_n hx hb dX2_init_0 rfl (lv_at hl 0 rfl) ?_
  refine lv_iload_n hx hb dX2_init_1 rfl (lv_at hl 1 rfl) ?_
  refine lv_iload_n hx hb dX2_init_2 rfl (lv_at hl 2 rfl) ?_
  refine lv_iload_n hx hb dX2_init_3 rfl (lv_at hl 3 rfl) ?_
  obtain ⟨s1, hc1, hf⟩ := ok_1 hf
  refine z_callv0 rfl rfl hI (va_runI (As := [.int x1, .int x2, .int x3]) (rest := []) ⟨hx, hb, hml, hown, hts⟩ (m_X3_init G l hq hc1) (cwI 3 hts gX2_init_X3_init rfl rfl rfl (hts (.initialized "FenceYards$Grass") (by decide +kernel)) (hts (.methodLink RX2 1 yX3_init) (by decide +kernel)) (hts (.instanceMethod yX3_init) (by decide +kernel)) rfl (by decide +kernel) ⟨Nat.le_of_ble_eq_true rfl, Nat.le_of_ble_eq_true rfl⟩) (z_pre hK hG hI) rfl rfl hl.1 rfl (lv_room (Nat.le_of_ble_eq_true rfl)) dX2_init_4 ⟨Nat.zero_le _, Nat.zero_le _⟩) (fun H locs hI => ?_)
  cases hf
  exact z_vret hx hb hr hlk hK hG hI dX2_init_7

-- ===== FenceYards$Bean.cropOn(I)I
set_option maxRecDepth 100000 in
theorem i_X1_cropOn_0 : ∀ w ∈ u_ws RX0 TX0 3, w ∈ wsX1_cropOn := by decide +kernel
set_option maxRecDepth 100000 in
theorem i_X1_cropOn_1 : ∀ w ∈ u_ws RX1 TX1 3, w ∈ wsX1_cropOn := by decide +kernel
set_option maxRecDepth 100000 in
theorem i_X1_cropOn_2 : ∀ w ∈ u_ws RX2 TX2 3, w ∈ wsX1_cropOn := by decide +kernel
set_option maxRecDepth 100000 in
theorem i_X1_cropOn_3 : ∀ w ∈ u_ws RX3 TX3 3, w ∈ wsX1_cropOn := by decide +kernel
set_option maxRecDepth 100000 in
theorem i_X1_cropOn_7 : ∀ w ∈ u_ws RX7 TX7 3, w ∈ wsX1_cropOn := by decide +kernel
def f_X1_cropOn (σ : Hp) (q : Nat) (x1 : Int32) : Option (Int32) :=
  if x1 = (gI σ q 2) then (some (gI σ q 1)) else (some 0)
set_option maxRecDepth 100000 in
set_option maxHeartbeats 4000000 in
theorem m_X1_cropOn (G : GT) (l : Launch) {σ : Hp} {q : Nat} {x1 : Int32} {r : Int32} (hq : okS σ q) (hf : f_X1_cropOn σ q x1 = some r) : MetG G l yX1_cropOn wsX1_cropOn (rmk 0 0) σ [.ref (G.1 + q), .int x1] (QI G σ r) := by
  refine met_of (cc := cX1_cropOn) (nL := 2) (ret := (some .int)) (by decide) rfl (Nat.le_of_ble_eq_true rfl) ?_
  intro p e s m below meth c C0 hnm hI ls hl
  obtain ⟨hx, hb, hr, hml, hown, hts, hlk, hK, hG⟩ := id C0
  have hl : lv_has ls 2 [(0, .ref (G.1 + q)), (1, .int x1)] := hl
  unfold f_X1_cropOn at hf
  refine lv_iload_n hx hb dX1_cropOn_0 rfl (lv_at hl 1 rfl) ?_
  refine lv_aload_n hx hb dX1_cropOn_1 rfl (lv_at hl 0 rfl) ?_
  refine z_getS hx hb hts i_X1_cropOn_0 i_X1_cropOn_1 i_X1_cropOn_2 i_X1_cropOn_3 i_X1_cropOn_7 hown hK hI (q := q) hq 2 (by decide) ⟨rfl, rfl, rfl, rfl, rfl⟩ (hts (.fieldLink RX1 7 "FenceYards$Bean" "ripe" "I") (by decide +kernel)) (u_same (hts (.sameField "FenceYards$Bean" "FenceYards$Strip" "ripe" "I") (by decide +kernel))) (fun _ => rfl) dX1_cropOn_2 ?_
  refine lv_icmp_ne (tgt := 15) hx hb dX1_cropOn_5 (by decide) (fun c1 => ?_) (fun c1 => ?_)
  · have hf := ok_f c1 hf
    refine lv_iconst (v := 0) hx hb dX1_cropOn_15 (by decide) ?_
    cases hf
    exact z_iret hx hb hr hlk hK hG hI dX1_cropOn_16
  · have hf := ok_t c1 hf
    refine lv_aload_n hx hb dX1_cropOn_8 rfl (lv_at hl 0 rfl) ?_
    refine z_getS hx hb hts i_X1_cropOn_0 i_X1_cropOn_1 i_X1_cropOn_2 i_X1_cropOn_3 i_X1_cropOn_7 hown hK hI (q := q) hq 1 (by decide) ⟨rfl, rfl, rfl, rfl, rfl⟩ (hts (.fieldLink RX1 13 "FenceYards$Bean" "worth" "I") (by decide +kernel)) (u_same (hts (.sameField "FenceYards$Bean" "FenceYards$Strip" "worth" "I") (by decide +kernel))) (fun _ => rfl) dX1_cropOn_9 ?_
    refine lv_goto (tgt := 16) hx hb dX1_cropOn_12 (by decide) ?_
    cases hf
    exact z_iret hx hb hr hlk hK hG hI dX1_cropOn_16

-- ===== FenceYards$Clover.cropOn(I)I
set_option maxRecDepth 100000 in
theorem i_X2_cropOn_0 : ∀ w ∈ u_ws RX0 TX0 3, w ∈ wsX2_cropOn := by decide +kernel
set_option maxRecDepth 100000 in
theorem i_X2_cropOn_1 : ∀ w ∈ u_ws RX1 TX1 3, w ∈ wsX2_cropOn := by decide +kernel
set_option maxRecDepth 100000 in
theorem i_X2_cropOn_2 : ∀ w ∈ u_ws RX2 TX2 3, w ∈ wsX2_cropOn := by decide +kernel
set_option maxRecDepth 100000 in
theorem i_X2_cropOn_3 : ∀ w ∈ u_ws RX3 TX3 3, w ∈ wsX2_cropOn := by decide +kernel
set_option maxRecDepth 100000 in
theorem i_X2_cropOn_7 : ∀ w ∈ u_ws RX7 TX7 3, w ∈ wsX2_cropOn := by decide +kernel
def f_X2_cropOn (σ : Hp) (q : Nat) (x1 : Int32) : Option (Int32) :=
  if x1 = (gI σ q 2) then (some (gI σ q 1)) else (if x1 = ((gI σ q 2) + 1) then (some (gI σ q 1)) else (some 0))
set_option maxRecDepth 100000 in
set_option maxHeartbeats 4000000 in
theorem m_X2_cropOn (G : GT) (l : Launch) {σ : Hp} {q : Nat} {x1 : Int32} {r : Int32} (hq : okS σ q) (hf : f_X2_cropOn σ q x1 = some r) : MetG G l yX2_cropOn wsX2_cropOn (rmk 0 0) σ [.ref (G.1 + q), .int x1] (QI G σ r) := by
  refine met_of (cc := cX2_cropOn) (nL := 2) (ret := (some .int)) (by decide) rfl (Nat.le_of_ble_eq_true rfl) ?_
  intro p e s m below meth c C0 hnm hI ls hl
  obtain ⟨hx, hb, hr, hml, hown, hts, hlk, hK, hG⟩ := id C0
  have hl : lv_has ls 2 [(0, .ref (G.1 + q)), (1, .int x1)] := hl
  unfold f_X2_cropOn at hf
  refine lv_iload_n hx hb dX2_cropOn_0 rfl (lv_at hl 1 rfl) ?_
  refine lv_aload_n hx hb dX2_cropOn_1 rfl (lv_at hl 0 rfl) ?_
  refine z_getS hx hb hts i_X2_cropOn_0 i_X2_cropOn_1 i_X2_cropOn_2 i_X2_cropOn_3 i_X2_cropOn_7 hown hK hI (q := q) hq 2 (by decide) ⟨rfl, rfl, rfl, rfl, rfl⟩ (hts (.fieldLink RX2 7 "FenceYards$Clover" "ripe" "I") (by decide +kernel)) (u_same (hts (.sameField "FenceYards$Clover" "FenceYards$Strip" "ripe" "I") (by decide +kernel))) (fun _ => rfl) dX2_cropOn_2 ?_
  refine lv_icmp_eq (tgt := 18) hx hb dX2_cropOn_5 (by decide) (fun c1 => ?_) (fun c1 => ?_)
  · have hf := ok_t c1 hf
    refine lv_aload_n hx hb dX2_cropOn_18 rfl (lv_at hl 0 rfl) ?_
    refine z_getS hx hb hts i_X2_cropOn_0 i_X2_cropOn_1 i_X2_cropOn_2 i_X2_cropOn_3 i_X2_cropOn_7 hown hK hI (q := q) hq 1 (by decide) ⟨rfl, rfl, rfl, rfl, rfl⟩ (hts (.fieldLink RX2 13 "FenceYards$Clover" "worth" "I") (by decide +kernel)) (u_same (hts (.sameField "FenceYards$Clover" "FenceYards$Strip" "worth" "I") (by decide +kernel))) (fun _ => rfl) dX2_cropOn_19 ?_
    refine lv_goto (tgt := 26) hx hb dX2_cropOn_22 (by decide) ?_
    cases hf
    exact z_iret hx hb hr hlk hK hG hI dX2_cropOn_26
  · have hf := ok_f c1 hf
    refine lv_iload_n hx hb dX2_cropOn_8 rfl (lv_at hl 1 rfl) ?_
    refine lv_aload_n hx hb dX2_cropOn_9 rfl (lv_at hl 0 rfl) ?_
    refine z_getS hx hb hts i_X2_cropOn_0 i_X2_cropOn_1 i_X2_cropOn_2 i_X2_cropOn_3 i_X2_cropOn_7 hown hK hI (q := q) hq 2 (by decide) ⟨rfl, rfl, rfl, rfl, rfl⟩ (hts (.fieldLink RX2 7 "FenceYards$Clover" "ripe" "I") (by decide +kernel)) (u_same (hts (.sameField "FenceYards$Clover" "FenceYards$Strip" "ripe" "I") (by decide +kernel))) (fun _ => rfl) dX2_cropOn_10 ?_
    refine lv_iconst (v := 1) hx hb dX2_cropOn_13 (by decide) ?_
    refine lv_iadd hx hb dX2_cropOn_14 ?_
    refine lv_icmp_ne (tgt := 25) hx hb dX2_cropOn_15 (by decide) (fun c2 => ?_) (fun c2 => ?_)
    · have hf := ok_f c2 hf
      refine lv_iconst (v := 0) hx hb dX2_cropOn_25 (by decide) ?_
      cases hf
      exact z_iret hx hb hr hlk hK hG hI dX2_cropOn_26
    · have hf := ok_t c2 hf
      refine lv_aload_n hx hb dX2_cropOn_18 rfl (lv_at hl 0 rfl) ?_
      refine z_getS hx hb hts i_X2_cropOn_0 i_X2_cropOn_1 i_X2_cropOn_2 i_X2_cropOn_3 i_X2_cropOn_7 hown hK hI (q := q) hq 1 (by decide) ⟨rfl, rfl, rfl, rfl, rfl⟩ (hts (.fieldLink RX2 13 "FenceYards$Clover" "worth" "I") (by decide +kernel)) (u_same (hts (.sameField "FenceYards$Clover" "FenceYards$Strip" "worth" "I") (by decide +kernel))) (fun _ => rfl) dX2_cropOn_19 ?_
      refine lv_goto (tgt := 26) hx hb dX2_cropOn_22 (by decide) ?_
      cases hf
      exact z_iret hx hb hr hlk hK hG hI dX2_cropOn_26

-- ===== FenceYards$Grass.cropOn(I)I
set_option maxRecDepth 100000 in
theorem i_X3_cropOn_0 : ∀ w ∈ u_ws RX0 TX0 3, w ∈ wsX3_cropOn := by decide +kernel
set_option maxRecDepth 100000 in
theorem i_X3_cropOn_1 : ∀ w ∈ u_ws RX1 TX1 3, w ∈ wsX3_cropOn := by decide +kernel
set_option maxRecDepth 100000 in
theorem i_X3_cropOn_2 : ∀ w ∈ u_ws RX2 TX2 3, w ∈ wsX3_cropOn := by decide +kernel
set_option maxRecDepth 100000 in
theorem i_X3_cropOn_3 : ∀ w ∈ u_ws RX3 TX3 3, w ∈ wsX3_cropOn := by decide +kernel
set_option maxRecDepth 100000 in
theorem i_X3_cropOn_7 : ∀ w ∈ u_ws RX7 TX7 3, w ∈ wsX3_cropOn := by decide +kernel
def f_X3_cropOn (σ : Hp) (q : Nat) (x1 : Int32) : Option (Int32) :=
  if x1 < (gI σ q 2) then (some 0) else (if ((x1 - (gI σ q 2)) - (x1 - (gI σ q 2)) / 3 * 3) = 0 then (some ((gI σ q 1) / 2)) else (some 0))
set_option maxRecDepth 100000 in
set_option maxHeartbeats 4000000 in
theorem m_X3_cropOn (G : GT) (l : Launch) {σ : Hp} {q : Nat} {x1 : Int32} {r : Int32} (hq : okS σ q) (hf : f_X3_cropOn σ q x1 = some r) : MetG G l yX3_cropOn wsX3_cropOn (rmk 0 0) σ [.ref (G.1 + q), .int x1] (QI G σ r) := by
  refine met_of (cc := cX3_cropOn) (nL := 2) (ret := (some .int)) (by decide) rfl (Nat.le_of_ble_eq_true rfl) ?_
  intro p e s m below meth c C0 hnm hI ls hl
  obtain ⟨hx, hb, hr, hml, hown, hts, hlk, hK, hG⟩ := id C0
  have hl : lv_has ls 2 [(0, .ref (G.1 + q)), (1, .int x1)] := hl
  unfold f_X3_cropOn at hf
  refine lv_iload_n hx hb dX3_cropOn_0 rfl (lv_at hl 1 rfl) ?_
  refine lv_aload_n hx hb dX3_cropOn_1 rfl (lv_at hl 0 rfl) ?_
  refine z_getS hx hb hts i_X3_cropOn_0 i_X3_cropOn_1 i_X3_cropOn_2 i_X3_cropOn_3 i_X3_cropOn_7 hown hK hI (q := q) hq 2 (by decide) ⟨rfl, rfl, rfl, rfl, rfl⟩ (hts (.fieldLink RX3 7 "FenceYards$Grass" "ripe" "I") (by decide +kernel)) (u_same (hts (.sameField "FenceYards$Grass" "FenceYards$Strip" "ripe" "I") (by decide +kernel))) (fun _ => rfl) dX3_cropOn_2 ?_
  refine lv_icmp_lt (tgt := 28) hx hb dX3_cropOn_5 (by decide) (fun c1 => ?_) (fun c1 => ?_)
  · have hf := ok_t c1 hf
    refine lv_iconst (v := 0) hx hb dX3_cropOn_28 (by decide) ?_
    cases hf
    exact z_iret hx hb hr hlk hK hG hI dX3_cropOn_29
  · have hf := ok_f c1 hf
    refine lv_iload_n hx hb dX3_cropOn_8 rfl (lv_at hl 1 rfl) ?_
    refine lv_aload_n hx hb dX3_cropOn_9 rfl (lv_at hl 0 rfl) ?_
    refine z_getS hx hb hts i_X3_cropOn_0 i_X3_cropOn_1 i_X3_cropOn_2 i_X3_cropOn_3 i_X3_cropOn_7 hown hK hI (q := q) hq 2 (by decide) ⟨rfl, rfl, rfl, rfl, rfl⟩ (hts (.fieldLink RX3 7 "FenceYards$Grass" "ripe" "I") (by decide +kernel)) (u_same (hts (.sameField "FenceYards$Grass" "FenceYards$Strip" "ripe" "I") (by decide +kernel))) (fun _ => rfl) dX3_cropOn_10 ?_
    refine lv_isub hx hb dX3_cropOn_13 ?_
    refine lv_iconst (v := 3) hx hb dX3_cropOn_14 (by decide) ?_
    refine lv_irem hx hb dX3_cropOn_15 (by decide) ?_
    refine lv_if_ne (tgt := 28) hx hb dX3_cropOn_16 (by decide) (fun c2 => ?_) (fun c2 => ?_)
    · have hf := ok_f c2 hf
      refine lv_iconst (v := 0) hx hb dX3_cropOn_28 (by decide) ?_
      cases hf
      exact z_iret hx hb hr hlk hK hG hI dX3_cropOn_29
    · have hf := ok_t c2 hf
      refine lv_aload_n hx hb dX3_cropOn_19 rfl (lv_at hl 0 rfl) ?_
      refine z_getS hx hb hts i_X3_cropOn_0 i_X3_cropOn_1 i_X3_cropOn_2 i_X3_cropOn_3 i_X3_cropOn_7 hown hK hI (q := q) hq 1 (by decide) ⟨rfl, rfl, rfl, rfl, rfl⟩ (hts (.fieldLink RX3 13 "FenceYards$Grass" "worth" "I") (by decide +kernel)) (u_same (hts (.sameField "FenceYards$Grass" "FenceYards$Strip" "worth" "I") (by decide +kernel))) (fun _ => rfl) dX3_cropOn_20 ?_
      refine lv_iconst (v := 2) hx hb dX3_cropOn_23 (by decide) ?_
      refine lv_idiv hx hb dX3_cropOn_24 (by decide) ?_
      refine lv_goto (tgt := 29) hx hb dX3_cropOn_25 (by decide) ?_
      cases hf
      exact z_iret hx hb hr hlk hK hG hI dX3_cropOn_29

-- ===== FenceYards$Rye.cropOn(I)I
set_option maxRecDepth 100000 in
theorem i_X7_cropOn_0 : ∀ w ∈ u_ws RX0 TX0 3, w ∈ wsX7_cropOn := by decide +kernel
set_option maxRecDepth 100000 in
theorem i_X7_cropOn_1 : ∀ w ∈ u_ws RX1 TX1 3, w ∈ wsX7_cropOn := by decide +kernel
set_option maxRecDepth 100000 in
theorem i_X7_cropOn_2 : ∀ w ∈ u_ws RX2 TX2 3, w ∈ wsX7_cropOn := by decide +kernel
set_option maxRecDepth 100000 in
theorem i_X7_cropOn_3 : ∀ w ∈ u_ws RX3 TX3 3, w ∈ wsX7_cropOn := by decide +kernel
set_option maxRecDepth 100000 in
theorem i_X7_cropOn_7 : ∀ w ∈ u_ws RX7 TX7 3, w ∈ wsX7_cropOn := by decide +kernel
def f_X7_cropOn (σ : Hp) (q : Nat) (x1 : Int32) : Option (Int32) :=
  if (gI σ q 2) ≤ x1 then (some (if 0 < ((gI σ q 1) - (10 * (x1 - (gI σ q 2)))) then ((gI σ q 1) - (10 * (x1 - (gI σ q 2)))) else 0)) else (some 0)
set_option maxRecDepth 100000 in
set_option maxHeartbeats 4000000 in
theorem m_X7_cropOn (G : GT) (l : Launch) {σ : Hp} {q : Nat} {x1 : Int32} {r : Int32} (hq : okS σ q) (hf : f_X7_cropOn σ q x1 = some r) : MetG G l yX7_cropOn wsX7_cropOn (rmk 1 24) σ [.ref (G.1 + q), .int x1] (QI G σ r) := by
  refine met_of (cc := cX7_cropOn) (nL := 2) (ret := (some .int)) (by decide) rfl (Nat.le_of_ble_eq_true rfl) ?_
  intro p e s m below meth c C0 hnm hI ls hl
  obtain ⟨hx, hb, hr, hml, hown, hts, hlk, hK, hG⟩ := id C0
  have hl : lv_has ls 2 [(0, .ref (G.1 + q)), (1, .int x1)] := hl
  unfold f_X7_cropOn at hf
  refine lv_iload_n hx hb dX7_cropOn_0 rfl (lv_at hl 1 rfl) ?_
  refine lv_aload_n hx hb dX7_cropOn_1 rfl (lv_at hl 0 rfl) ?_
  refine z_getS hx hb hts i_X7_cropOn_0 i_X7_cropOn_1 i_X7_cropOn_2 i_X7_cropOn_3 i_X7_cropOn_7 hown hK hI (q := q) hq 2 (by decide) ⟨rfl, rfl, rfl, rfl, rfl⟩ (hts (.fieldLink RX7 7 "FenceYards$Rye" "ripe" "I") (by decide +kernel)) (u_same (hts (.sameField "FenceYards$Rye" "FenceYards$Strip" "ripe" "I") (by decide +kernel))) (fun _ => rfl) dX7_cropOn_2 ?_
  refine lv_icmp_ge (tgt := 12) hx hb dX7_cropOn_5 (by decide) (fun c1 => ?_) (fun c1 => ?_)
  · have hf := ok_t c1 hf
    refine lv_iconst (v := 0) hx hb dX7_cropOn_12 (by decide) ?_
    refine lv_aload_n hx hb dX7_cropOn_13 rfl (lv_at hl 0 rfl) ?_
    refine z_getS hx hb hts i_X7_cropOn_0 i_X7_cropOn_1 i_X7_cropOn_2 i_X7_cropOn_3 i_X7_cropOn_7 hown hK hI (q := q) hq 1 (by decide) ⟨rfl, rfl, rfl, rfl, rfl⟩ (hts (.fieldLink RX7 13 "FenceYards$Rye" "worth" "I") (by decide +kernel)) (u_same (hts (.sameField "FenceYards$Rye" "FenceYards$Strip" "worth" "I") (by decide +kernel))) (fun _ => rfl) dX7_cropOn_14 ?_
    refine lv_bipush (v := 10) hx hb dX7_cropOn_17 (by decide) ?_
    refine lv_iload_n hx hb dX7_cropOn_19 rfl (lv_at hl 1 rfl) ?_
    refine lv_aload_n hx hb dX7_cropOn_20 rfl (lv_at hl 0 rfl) ?_
    refine z_getS hx hb hts i_X7_cropOn_0 i_X7_cropOn_1 i_X7_cropOn_2 i_X7_cropOn_3 i_X7_cropOn_7 hown hK hI (q := q) hq 2 (by decide) ⟨rfl, rfl, rfl, rfl, rfl⟩ (hts (.fieldLink RX7 7 "FenceYards$Rye" "ripe" "I") (by decide +kernel)) (u_same (hts (.sameField "FenceYards$Rye" "FenceYards$Strip" "ripe" "I") (by decide +kernel))) (fun _ => rfl) dX7_cropOn_21 ?_
    refine lv_isub hx hb dX7_cropOn_24 ?_
    refine lv_imul hx hb dX7_cropOn_25 ?_
    refine lv_isub hx hb dX7_cropOn_26 ?_
    refine va_mmax hx hb (hml.trans hl.1.symm) hown (hts (.methodLink RX7 16 Lib.Math.max.name) (by decide +kernel)) (hts (.static Lib.Math.max.name) (by decide +kernel)) (hts (.initialized "java/lang/Math") (by decide +kernel)) (hts (.code Lib.Math.max.name Lib.Math.max.code 2 (some .int)) (by decide +kernel)) (Nat.le_of_ble_eq_true rfl) (Nat.le_of_ble_eq_true rfl) (Nat.zero_le _) (Nat.zero_le _) dX7_cropOn_27 ?_
    cases hf
    exact z_iret hx hb hr hlk hK hG hI dX7_cropOn_30
  · have hf := ok_f c1 hf
    refine lv_iconst (v := 0) hx hb dX7_cropOn_8 (by decide) ?_
    refine lv_goto (tgt := 30) hx hb dX7_cropOn_9 (by decide) ?_
    cases hf
    exact z_iret hx hb hr hlk hK hG hI dX7_cropOn_30

-- ===== FenceYards$Apple.fallsWhole()Z
def f_X0_fallsWhole (σ : Hp) (q : Nat) : Option (Int32) :=
  some 1
set_option maxRecDepth 100000 in
set_option maxHeartbeats 4000000 in
theorem m_X0_fallsWhole (G : GT) (l : Launch) {σ : Hp} {q : Nat} {r : Int32} (hq : okS σ q) (hf : f_X0_fallsWhole σ q = some r) : MetG G l yX0_fallsWhole wsX0_fallsWhole (rmk 0 0) σ [.ref (G.1 + q)] (QI G σ r) := by
  refine met_of (cc := cX0_fallsWhole) (nL := 1) (ret := (some .boolean)) (by decide) rfl (Nat.le_of_ble_eq_true rfl) ?_
  intro p e s m below meth c C0 hnm hI ls hl
  obtain ⟨hx, hb, hr, hml, hown, hts, hlk, hK, hG⟩ := id C0
  have hl : lv_has ls 1 [(0, .ref (G.1 + q))] := hl
  unfold f_X0_fallsWhole at hf
  refine lv_iconst (v := 1) hx hb dX0_fallsWhole_0 (by decide) ?_
  cases hf
  exact z_zret hx hb hr hlk hK hG hI (Or.inr rfl) dX0_fallsWhole_1

-- ===== FenceYards$Strip.fallsWhole()Z
def f_X9_fallsWhole (σ : Hp) (q : Nat) : Option (Int32) :=
  some 0
set_option maxRecDepth 100000 in
set_option maxHeartbeats 4000000 in
theorem m_X9_fallsWhole (G : GT) (l : Launch) {σ : Hp} {q : Nat} {r : Int32} (hq : okS σ q) (hf : f_X9_fallsWhole σ q = some r) : MetG G l yX9_fallsWhole wsX9_fallsWhole (rmk 0 0) σ [.ref (G.1 + q)] (QI G σ r) := by
  refine met_of (cc := cX9_fallsWhole) (nL := 1) (ret := (some .boolean)) (by decide) rfl (Nat.le_of_ble_eq_true rfl) ?_
  intro p e s m below meth c C0 hnm hI ls hl
  obtain ⟨hx, hb, hr, hml, hown, hts, hlk, hK, hG⟩ := id C0
  have hl : lv_has ls 1 [(0, .ref (G.1 + q))] := hl
  unfold f_X9_fallsWhole at hf
  refine lv_iconst (v := 0) hx hb dX9_fallsWhole_0 (by decide) ?_
  cases hf
  exact z_zret hx hb hr hlk hK hG hI (Or.inl rfl) dX9_fallsWhole_1

-- ===== FenceYards$Apple.kindNumber()I
def f_X0_kindNumber (σ : Hp) (q : Nat) : Option (Int32) :=
  some 2
set_option maxRecDepth 100000 in
set_option maxHeartbeats 4000000 in
theorem m_X0_kindNumber (G : GT) (l : Launch) {σ : Hp} {q : Nat} {r : Int32} (hq : okS σ q) (hf : f_X0_kindNumber σ q = some r) : MetG G l yX0_kindNumber wsX0_kindNumber (rmk 0 0) σ [.ref (G.1 + q)] (QI G σ r) := by
  refine met_of (cc := cX0_kindNumber) (nL := 1) (ret := (some .int)) (by decide) rfl (Nat.le_of_ble_eq_true rfl) ?_
  intro p e s m below meth c C0 hnm hI ls hl
  obtain ⟨hx, hb, hr, hml, hown, hts, hlk, hK, hG⟩ := id C0
  have hl : lv_has ls 1 [(0, .ref (G.1 + q))] := hl
  unfold f_X0_kindNumber at hf
  refine lv_iconst (v := 2) hx hb dX0_kindNumber_0 (by decide) ?_
  cases hf
  exact z_iret hx hb hr hlk hK hG hI dX0_kindNumber_1

-- ===== FenceYards$Bean.kindNumber()I
def f_X1_kindNumber (σ : Hp) (q : Nat) : Option (Int32) :=
  some 1
set_option maxRecDepth 100000 in
set_option maxHeartbeats 4000000 in
theorem m_X1_kindNumber (G : GT) (l : Launch) {σ : Hp} {q : Nat} {r : Int32} (hq : okS σ q) (hf : f_X1_kindNumber σ q = some r) : MetG G l yX1_kindNumber wsX1_kindNumber (rmk 0 0) σ [.ref (G.1 + q)] (QI G σ r) := by
  refine met_of (cc := cX1_kindNumber) (nL := 1) (ret := (some .int)) (by decide) rfl (Nat.le_of_ble_eq_true rfl) ?_
  intro p e s m below meth c C0 hnm hI ls hl
  obtain ⟨hx, hb, hr, hml, hown, hts, hlk, hK, hG⟩ := id C0
  have hl : lv_has ls 1 [(0, .ref (G.1 + q))] := hl
  unfold f_X1_kindNumber at hf
  refine lv_iconst (v := 1) hx hb dX1_kindNumber_0 (by decide) ?_
  cases hf
  exact z_iret hx hb hr hlk hK hG hI dX1_kindNumber_1

-- ===== FenceYards$Clover.kindNumber()I
def f_X2_kindNumber (σ : Hp) (q : Nat) : Option (Int32) :=
  some 5
set_option maxRecDepth 100000 in
set_option maxHeartbeats 4000000 in
theorem m_X2_kindNumber (G : GT) (l : Launch) {σ : Hp} {q : Nat} {r : Int32} (hq : okS σ q) (hf : f_X2_kindNumber σ q = some r) : MetG G l yX2_kindNumber wsX2_kindNumber (rmk 0 0) σ [.ref (G.1 + q)] (QI G σ r) := by
  refine met_of (cc := cX2_kindNumber) (nL := 1) (ret := (some .int)) (by decide) rfl (Nat.le_of_ble_eq_true rfl) ?_
  intro p e s m below meth c C0 hnm hI ls hl
  obtain ⟨hx, hb, hr, hml, hown, hts, hlk, hK, hG⟩ := id C0
  have hl : lv_has ls 1 [(0, .ref (G.1 + q))] := hl
  unfold f_X2_kindNumber at hf
  refine lv_iconst (v := 5) hx hb dX2_kindNumber_0 (by decide) ?_
  cases hf
  exact z_iret hx hb hr hlk hK hG hI dX2_kindNumber_1

-- ===== FenceYards$Grass.kindNumber()I
def f_X3_kindNumber (σ : Hp) (q : Nat) : Option (Int32) :=
  some 4
set_option maxRecDepth 100000 in
set_option maxHeartbeats 4000000 in
theorem m_X3_kindNumber (G : GT) (l : Launch) {σ : Hp} {q : Nat} {r : Int32} (hq : okS σ q) (hf : f_X3_kindNumber σ q = some r) : MetG G l yX3_kindNumber wsX3_kindNumber (rmk 0 0) σ [.ref (G.1 + q)] (QI G σ r) := by
  refine met_of (cc := cX3_kindNumber) (nL := 1) (ret := (some .int)) (by decide) rfl (Nat.le_of_ble_eq_true rfl) ?_
  intro p e s m below meth c C0 hnm hI ls hl
  obtain ⟨hx, hb, hr, hml, hown, hts, hlk, hK, hG⟩ := id C0
  have hl : lv_has ls 1 [(0, .ref (G.1 + q))] := hl
  unfold f_X3_kindNumber at hf
  refine lv_iconst (v := 4) hx hb dX3_kindNumber_0 (by decide) ?_
  cases hf
  exact z_iret hx hb hr hlk hK hG hI dX3_kindNumber_1

-- ===== FenceYards$Rye.kindNumber()I
def f_X7_kindNumber (σ : Hp) (q : Nat) : Option (Int32) :=
  some 3
set_option maxRecDepth 100000 in
set_option maxHeartbeats 4000000 in
theorem m_X7_kindNumber (G : GT) (l : Launch) {σ : Hp} {q : Nat} {r : Int32} (hq : okS σ q) (hf : f_X7_kindNumber σ q = some r) : MetG G l yX7_kindNumber wsX7_kindNumber (rmk 0 0) σ [.ref (G.1 + q)] (QI G σ r) := by
  refine met_of (cc := cX7_kindNumber) (nL := 1) (ret := (some .int)) (by decide) rfl (Nat.le_of_ble_eq_true rfl) ?_
  intro p e s m below meth c C0 hnm hI ls hl
  obtain ⟨hx, hb, hr, hml, hown, hts, hlk, hK, hG⟩ := id C0
  have hl : lv_has ls 1 [(0, .ref (G.1 + q))] := hl
  unfold f_X7_kindNumber at hf
  refine lv_iconst (v := 3) hx hb dX7_kindNumber_0 (by decide) ?_
  cases hf
  exact z_iret hx hb hr hlk hK hG hI dX7_kindNumber_1

-- ===== FenceYards$Trace.leave(I)V
set_option maxRecDepth 100000 in
theorem i_X10_leave_9 : ∀ w ∈ u_ws RX10 TX10 2, w ∈ wsX10_leave := by decide +kernel
def f_X10_leave (σ : Hp) (x1 : Int32) : Option (Hp) :=
  if 16 ≤ (gI σ 25 1) then (some σ) else (chk (inb (gI σ 25 1) 16) <| bnd (sI (sI σ 26 ((gI σ 25 1).toNatClampNeg) x1) 25 1 ((gI (sI σ 26 ((gI σ 25 1).toNatClampNeg) x1) 25 1) + 1)) fun s1 => some s1)
set_option maxRecDepth 100000 in
set_option maxHeartbeats 4000000 in
theorem m_X10_leave (G : GT) (l : Launch) {σ : Hp} {x1 : Int32} {σ' : Hp}  (hf : f_X10_leave σ x1 = some σ') : MetG G l yX10_leave wsX10_leave (rmk 0 0) σ [.ref (G.1 + 25), .int x1] (QV G σ') := by
  refine met_of (cc := cX10_leave) (nL := 2) (ret := none) (by decide) rfl (Nat.le_of_ble_eq_true rfl) ?_
  intro p e s m below meth c C0 hnm hI ls hl
  obtain ⟨hx, hb, hr, hml, hown, hts, hlk, hK, hG⟩ := id C0
  have hl : lv_has ls 2 [(0, .ref (G.1 + 25)), (1, .int x1)] := hl
  unfold f_X10_leave at hf
  refine lv_aload_n hx hb dX10_leave_0 rfl (lv_at hl 0 rfl) ?_
  refine z_get (C := RX10) (T := TX10) (N := 2) (ci := 9) (v := .int (gI σ 25 1)) hx hb hts i_X10_leave_9 hown hK hI 25 rfl (by decide) rfl 1 (by decide) (hts (.fieldLink RX10 15 "FenceYards$Trace" "size" "I") (by decide +kernel)) (fun _ h9 => h9) rfl dX10_leave_1 ?_
  refine lv_aload_n hx hb dX10_leave_4 rfl (lv_at hl 0 rfl) ?_
  refine z_get (C := RX10) (T := TX10) (N := 2) (ci := 9) (v := .ref (G.1 + 26)) hx hb hts i_X10_leave_9 hown hK hI 25 rfl (by decide) rfl 0 (by decide) (hts (.fieldLink RX10 9 "FenceYards$Trace" "numbers" "[I") (by decide +kernel)) (fun _ h9 => h9) rfl dX10_leave_5 ?_
  refine z_alen hx hb hK hI 26 rfl (v := 16) (by decide) dX10_leave_8 ?_
  refine lv_icmp_ge (tgt := 32) hx hb dX10_leave_9 (by decide) (fun c1 => ?_) (fun c1 => ?_)
  · have hf := ok_t c1 hf
    cases hf
    exact z_vret hx hb hr hlk hK hG hI dX10_leave_32
  · have hf := ok_f c1 hf
    refine lv_aload_n hx hb dX10_leave_12 rfl (lv_at hl 0 rfl) ?_
    refine z_get (C := RX10) (T := TX10) (N := 2) (ci := 9) (v := .ref (G.1 + 26)) hx hb hts i_X10_leave_9 hown hK hI 25 rfl (by decide) rfl 0 (by decide) (hts (.fieldLink RX10 9 "FenceYards$Trace" "numbers" "[I") (by decide +kernel)) (fun _ h9 => h9) rfl dX10_leave_13 ?_
    refine lv_aload_n hx hb dX10_leave_16 rfl (lv_at hl 0 rfl) ?_
    refine z_get (C := RX10) (T := TX10) (N := 2) (ci := 9) (v := .int (gI σ 25 1)) hx hb hts i_X10_leave_9 hown hK hI 25 rfl (by decide) rfl 1 (by decide) (hts (.fieldLink RX10 15 "FenceYards$Trace" "size" "I") (by decide +kernel)) (fun _ h9 => h9) rfl dX10_leave_17 ?_
    refine lv_iload_n hx hb dX10_leave_20 rfl (lv_at hl 1 rfl) ?_
    obtain ⟨h1, hf⟩ := ok_c hf
    refine z_iast hx hb hK hI 26 (k := (gI σ 25 1).toNatClampNeg) rfl h1 rfl dX10_leave_21 (fun H locs hI => ?_)
    refine lv_aload_n hx hb dX10_leave_22 rfl (lv_at hl 0 rfl) ?_
    refine lv_dup hx hb dX10_leave_23 rfl ?_
    refine z_get (C := RX10) (T := TX10) (N := 2) (ci := 9) (v := .int (gI (sI σ 26 ((gI σ 25 1).toNatClampNeg) x1) 25 1)) hx hb hts i_X10_leave_9 hown hK hI 25 rfl (by decide) rfl 1 (by decide) (hts (.fieldLink RX10 15 "FenceYards$Trace" "size" "I") (by decide +kernel)) (fun _ h9 => h9) rfl dX10_leave_24 ?_
    refine lv_iconst (v := 1) hx hb dX10_leave_27 (by decide) ?_
    refine lv_iadd hx hb dX10_leave_28 ?_
    refine z_put (C := RX10) (T := TX10) (N := 2) (ci := 9) (ty := .int) (v := .int ((gI (sI σ 26 ((gI σ 25 1).toNatClampNeg) x1) 25 1) + 1)) hx hb hts i_X10_leave_9 tyX10 tyX10_ok nmX10 hown hK hI 25 rfl (by decide) rfl 1 (by decide) (hts (.fieldLink RX10 15 "FenceYards$Trace" "size" "I") (by decide +kernel)) (fun _ h9 => h9) rfl (by decide +kernel) rfl rfl (Nat.le_of_ble_eq_true rfl) (set_I hI.2.2.2 rfl (by decide) rfl) rfl hI.2.2.2 dX10_leave_29 (fun H locs hI => ?_)
    obtain ⟨s1, es1⟩ : ∃ z, z = sI (sI σ 26 ((gI σ 25 1).toNatClampNeg) x1) 25 1 ((gI (sI σ 26 ((gI σ 25 1).toNatClampNeg) x1) 25 1) + 1) := ⟨_, rfl⟩
    have hI : Inv G s s1 H locs := by rw [es1]; exact hI
    have hf := ok_n hf es1
    cases hf
    exact z_vret hx hb hr hlk hK hG hI dX10_leave_32

-- ===== FenceYards$Strip.askSize(LFenceYards$Trace;)I
set_option maxRecDepth 100000 in
theorem i_X9_askSize_0 : ∀ w ∈ u_ws RX0 TX0 3, w ∈ wsX9_askSize := by decide +kernel
set_option maxRecDepth 100000 in
theorem i_X9_askSize_1 : ∀ w ∈ u_ws RX1 TX1 3, w ∈ wsX9_askSize := by decide +kernel
set_option maxRecDepth 100000 in
theorem i_X9_askSize_2 : ∀ w ∈ u_ws RX2 TX2 3, w ∈ wsX9_askSize := by decide +kernel
set_option maxRecDepth 100000 in
theorem i_X9_askSize_3 : ∀ w ∈ u_ws RX3 TX3 3, w ∈ wsX9_askSize := by decide +kernel
set_option maxRecDepth 100000 in
theorem i_X9_askSize_7 : ∀ w ∈ u_ws RX7 TX7 3, w ∈ wsX9_askSize := by decide +kernel
def f_X9_askSize (σ : Hp) (q : Nat) : Option (Hp × Int32) :=
  bd1 (f_X10_leave σ 10) fun s1 => chk (okS s1 q) <| some (s1, gI s1 q 1)
set_option maxRecDepth 100000 in
set_option maxHeartbeats 4000000 in
theorem m_X9_askSize (G : GT) (l : Launch) {σ : Hp} {q : Nat} {σ' : Hp} {r : Int32} (hq : okS σ q) (hf : f_X9_askSize σ q = some (σ', r)) : MetG G l yX9_askSize wsX9_askSize (rmk 1 21) σ [.ref (G.1 + q), .ref (G.1 + 25)] (QI G σ' r) := by
  refine met_of (cc := cX9_askSize) (nL := 2) (ret := (some .int)) (by decide) rfl (Nat.le_of_ble_eq_true rfl) ?_
  intro p e s m below meth c C0 hnm hI ls hl
  obtain ⟨hx, hb, hr, hml, hown, hts, hlk, hK, hG⟩ := id C0
  have hl : lv_has ls 2 [(0, .ref (G.1 + q)), (1, .ref (G.1 + 25))] := hl
  unfold f_X9_askSize at hf
  refine lv_aload_n hx hb dX9_askSize_0 rfl (lv_at hl 1 rfl) ?_
  refine lv_bipush (v := 10) hx hb dX9_askSize_1 (by decide) ?_
  obtain ⟨s1, hc1, hf⟩ := ok_1 hf
  refine z_callv0 rfl rfl hI (va_runVN (As := [.int 10]) (rest := []) ⟨hx, hb, hml, hown, hts⟩ (m_X10_leave G l  hc1) ⟨va_cnB (host := "FenceYards") 1 hts gX9_askSize_X10_leave_n19 rfl rfl rfl (hG.1.2.1 ("FenceYards$Strip", 19, ⟨"FenceYards$Trace", "leave", "(I)V"⟩) (by decide +kernel)) (hts (.initialized "FenceYards$Trace") (by decide +kernel)) (by decide +kernel) ⟨Nat.le_of_ble_eq_true rfl, Nat.le_of_ble_eq_true rfl⟩, hts (.instanceMethod yX10_leave) (by decide +kernel), hts (.selects "FenceYards$Trace" yX10_leave yX10_leave) (by decide +kernel)⟩ (z_preV hK hG hI (z_rc (q := 25) (ci := 9) (n := 0) hK hI rfl (by decide) rfl)) rfl rfl hl.1 rfl (lv_room (Nat.le_of_ble_eq_true rfl)) dX9_askSize_3 ⟨Nat.zero_le _, Nat.zero_le _⟩) (fun H locs hI => ?_)
  refine lv_aload_n hx hb dX9_askSize_6 rfl (lv_at hl 0 rfl) ?_
  obtain ⟨h1, hf⟩ := ok_c hf
  refine z_getS hx hb hts i_X9_askSize_0 i_X9_askSize_1 i_X9_askSize_2 i_X9_askSize_3 i_X9_askSize_7 hown hK hI (q := q) h1 1 (by decide) ⟨rfl, rfl, rfl, rfl, rfl⟩ (hts (.fieldLink RX9 13 "FenceYards$Strip" "worth" "I") (by decide +kernel)) (fun _ h9 => h9) (fun _ => rfl) dX9_askSize_7 ?_
  cases hf
  exact z_iret hx hb hr hlk hK hG hI dX9_askSize_10

-- ===== FenceYards$Strip.askMark(LFenceYards$Trace;)I
set_option maxRecDepth 100000 in
theorem i_X9_askMark_0 : ∀ w ∈ u_ws RX0 TX0 3, w ∈ wsX9_askMark := by decide +kernel
set_option maxRecDepth 100000 in
theorem i_X9_askMark_1 : ∀ w ∈ u_ws RX1 TX1 3, w ∈ wsX9_askMark := by decide +kernel
set_option maxRecDepth 100000 in
theorem i_X9_askMark_2 : ∀ w ∈ u_ws RX2 TX2 3, w ∈ wsX9_askMark := by decide +kernel
set_option maxRecDepth 100000 in
theorem i_X9_askMark_3 : ∀ w ∈ u_ws RX3 TX3 3, w ∈ wsX9_askMark := by decide +kernel
set_option maxRecDepth 100000 in
theorem i_X9_askMark_7 : ∀ w ∈ u_ws RX7 TX7 3, w ∈ wsX9_askMark := by decide +kernel
def f_X9_askMark (σ : Hp) (q : Nat) : Option (Hp × Int32) :=
  bd1 (f_X10_leave σ 20) fun s1 => chk (okS s1 q) <| some (s1, gI s1 q 0)
set_option maxRecDepth 100000 in
set_option maxHeartbeats 4000000 in
theorem m_X9_askMark (G : GT) (l : Launch) {σ : Hp} {q : Nat} {σ' : Hp} {r : Int32} (hq : okS σ q) (hf : f_X9_askMark σ q = some (σ', r)) : MetG G l yX9_askMark wsX9_askMark (rmk 1 21) σ [.ref (G.1 + q), .ref (G.1 + 25)] (QI G σ' r) := by
  refine met_of (cc := cX9_askMark) (nL := 2) (ret := (some .int)) (by decide) rfl (Nat.le_of_ble_eq_true rfl) ?_
  intro p e s m below meth c C0 hnm hI ls hl
  obtain ⟨hx, hb, hr, hml, hown, hts, hlk, hK, hG⟩ := id C0
  have hl : lv_has ls 2 [(0, .ref (G.1 + q)), (1, .ref (G.1 + 25))] := hl
  unfold f_X9_askMark at hf
  refine lv_aload_n hx hb dX9_askMark_0 rfl (lv_at hl 1 rfl) ?_
  refine lv_bipush (v := 20) hx hb dX9_askMark_1 (by decide) ?_
  obtain ⟨s1, hc1, hf⟩ := ok_1 hf
  refine z_callv0 rfl rfl hI (va_runVN (As := [.int 20]) (rest := []) ⟨hx, hb, hml, hown, hts⟩ (m_X10_leave G l  hc1) ⟨va_cnB (host := "FenceYards") 1 hts gX9_askMark_X10_leave_n19 rfl rfl rfl (hG.1.2.1 ("FenceYards$Strip", 19, ⟨"FenceYards$Trace", "leave", "(I)V"⟩) (by decide +kernel)) (hts (.initialized "FenceYards$Trace") (by decide +kernel)) (by decide +kernel) ⟨Nat.le_of_ble_eq_true rfl, Nat.le_of_ble_eq_true rfl⟩, hts (.instanceMethod yX10_leave) (by decide +kernel), hts (.selects "FenceYards$Trace" yX10_leave yX10_leave) (by decide +kernel)⟩ (z_preV hK hG hI (z_rc (q := 25) (ci := 9) (n := 0) hK hI rfl (by decide) rfl)) rfl rfl hl.1 rfl (lv_room (Nat.le_of_ble_eq_true rfl)) dX9_askMark_3 ⟨Nat.zero_le _, Nat.zero_le _⟩) (fun H locs hI => ?_)
  refine lv_aload_n hx hb dX9_askMark_6 rfl (lv_at hl 0 rfl) ?_
  obtain ⟨h1, hf⟩ := ok_c hf
  refine z_getS hx hb hts i_X9_askMark_0 i_X9_askMark_1 i_X9_askMark_2 i_X9_askMark_3 i_X9_askMark_7 hown hK hI (q := q) h1 0 (by decide) ⟨rfl, rfl, rfl, rfl, rfl⟩ (hts (.fieldLink RX9 7 "FenceYards$Strip" "number" "I") (by decide +kernel)) (fun _ h9 => h9) (fun _ => rfl) dX9_askMark_7 ?_
  cases hf
  exact z_iret hx hb hr hlk hK hG hI dX9_askMark_10

-- ===== FenceYards$Bean.askMark(LFenceYards$Trace;)I
set_option maxRecDepth 100000 in
theorem i_X1_askMark_0 : ∀ w ∈ u_ws RX0 TX0 3, w ∈ wsX1_askMark := by decide +kernel
set_option maxRecDepth 100000 in
theorem i_X1_askMark_1 : ∀ w ∈ u_ws RX1 TX1 3, w ∈ wsX1_askMark := by decide +kernel
set_option maxRecDepth 100000 in
theorem i_X1_askMark_2 : ∀ w ∈ u_ws RX2 TX2 3, w ∈ wsX1_askMark := by decide +kernel
set_option maxRecDepth 100000 in
theorem i_X1_askMark_3 : ∀ w ∈ u_ws RX3 TX3 3, w ∈ wsX1_askMark := by decide +kernel
set_option maxRecDepth 100000 in
theorem i_X1_askMark_7 : ∀ w ∈ u_ws RX7 TX7 3, w ∈ wsX1_askMark := by decide +kernel
def f_X1_askMark (σ : Hp) (q : Nat) : Option (Hp × Int32) :=
  bd1 (f_X10_leave σ 21) fun s1 => chk (okS s1 q) <| bd2 (f_X9_askMark s1 q) fun s2 r1 => chk (okS s2 q) <| some (s2, r1 + (gI s2 q 2))
set_option maxRecDepth 100000 in
set_option maxHeartbeats 4000000 in
theorem m_X1_askMark (G : GT) (l : Launch) {σ : Hp} {q : Nat} {σ' : Hp} {r : Int32} (hq : okS σ q) (hf : f_X1_askMark σ q = some (σ', r)) : MetG G l yX1_askMark wsX1_askMark (rmk 2 42) σ [.ref (G.1 + q), .ref (G.1 + 25)] (QI G σ' r) := by
  refine met_of (cc := cX1_askMark) (nL := 2) (ret := (some .int)) (by decide) rfl (Nat.le_of_ble_eq_true rfl) ?_
  intro p e s m below meth c C0 hnm hI ls hl
  obtain ⟨hx, hb, hr, hml, hown, hts, hlk, hK, hG⟩ := id C0
  have hl : lv_has ls 2 [(0, .ref (G.1 + q)), (1, .ref (G.1 + 25))] := hl
  unfold f_X1_askMark at hf
  refine lv_aload_n hx hb dX1_askMark_0 rfl (lv_at hl 1 rfl) ?_
  refine lv_bipush (v := 21) hx hb dX1_askMark_1 (by decide) ?_
  obtain ⟨s1, hc1, hf⟩ := ok_1 hf
  refine z_callv0 rfl rfl hI (va_runVN (As := [.int 21]) (rest := []) ⟨hx, hb, hml, hown, hts⟩ (m_X10_leave G l  hc1) ⟨va_cnB (host := "FenceYards") 1 hts gX1_askMark_X10_leave_n16 rfl rfl rfl (hG.1.2.1 ("FenceYards$Bean", 16, ⟨"FenceYards$Trace", "leave", "(I)V"⟩) (by decide +kernel)) (hts (.initialized "FenceYards$Trace") (by decide +kernel)) (by decide +kernel) ⟨Nat.le_of_ble_eq_true rfl, Nat.le_of_ble_eq_true rfl⟩, hts (.instanceMethod yX10_leave) (by decide +kernel), hts (.selects "FenceYards$Trace" yX10_leave yX10_leave) (by decide +kernel)⟩ (z_preV hK hG hI (z_rc (q := 25) (ci := 9) (n := 0) hK hI rfl (by decide) rfl)) rfl rfl hl.1 rfl (lv_room (Nat.le_of_ble_eq_true rfl)) dX1_askMark_3 ⟨Nat.zero_le _, Nat.zero_le _⟩) (fun H locs hI => ?_)
  refine lv_aload_n hx hb dX1_askMark_6 rfl (lv_at hl 0 rfl) ?_
  refine lv_aload_n hx hb dX1_askMark_7 rfl (lv_at hl 1 rfl) ?_
  obtain ⟨h1, hf⟩ := ok_c hf
  obtain ⟨s2, r1, hc2, hf⟩ := ok_2 hf
  refine z_calli0 (σ1 := s2) (r := r1) (a := (.ref (G.1 + q) :: [.ref (G.1 + 25)]).toArray) (rest := []) (mc := 0) (ms := 0) rfl rfl hI ?_ (fun H locs hI => ?_)
  · rcases h1.2 with k9 | k9 | k9 | k9 | k9
    · exact va_runSU (hK.1 0 _ rfl).2 (As := [.ref (G.1 + 25)]) (rest := []) ⟨hx, hb, hml, hown, hts⟩ (m_X9_askMark G l h1 hc2) (va_cwSU 1 hts gX1_askMark_X9_askMark_s29 rfl rfl rfl (by decide +kernel) ⟨Nat.le_of_ble_eq_true rfl, Nat.le_of_ble_eq_true rfl⟩) (z_preV hK hG hI (z_rc (n := 0) hK hI (kd_S h1 k9) (by decide) rfl)) rfl rfl hl.1 rfl (lv_room (Nat.le_of_ble_eq_true rfl)) dX1_askMark_8 ⟨Nat.zero_le _, Nat.zero_le _⟩
    · exact va_runSU (hK.1 1 _ rfl).2 (As := [.ref (G.1 + 25)]) (rest := []) ⟨hx, hb, hml, hown, hts⟩ (m_X9_askMark G l h1 hc2) (va_cwSU 1 hts gX1_askMark_X9_askMark_s29 rfl rfl rfl (by decide +kernel) ⟨Nat.le_of_ble_eq_true rfl, Nat.le_of_ble_eq_true rfl⟩) (z_preV hK hG hI (z_rc (n := 0) hK hI (kd_S h1 k9) (by decide) rfl)) rfl rfl hl.1 rfl (lv_room (Nat.le_of_ble_eq_true rfl)) dX1_askMark_8 ⟨Nat.zero_le _, Nat.zero_le _⟩
    · exact va_runSU (hK.1 2 _ rfl).2 (As := [.ref (G.1 + 25)]) (rest := []) ⟨hx, hb, hml, hown, hts⟩ (m_X9_askMark G l h1 hc2) (va_cwSU 1 hts gX1_askMark_X9_askMark_s29 rfl rfl rfl (by decide +kernel) ⟨Nat.le_of_ble_eq_true rfl, Nat.le_of_ble_eq_true rfl⟩) (z_preV hK hG hI (z_rc (n := 0) hK hI (kd_S h1 k9) (by decide) rfl)) rfl rfl hl.1 rfl (lv_room (Nat.le_of_ble_eq_true rfl)) dX1_askMark_8 ⟨Nat.zero_le _, Nat.zero_le _⟩
    · exact va_runSU (hK.1 3 _ rfl).2 (As := [.ref (G.1 + 25)]) (rest := []) ⟨hx, hb, hml, hown, hts⟩ (m_X9_askMark G l h1 hc2) (va_cwSU 1 hts gX1_askMark_X9_askMark_s29 rfl rfl rfl (by decide +kernel) ⟨Nat.le_of_ble_eq_true rfl, Nat.le_of_ble_eq_true rfl⟩) (z_preV hK hG hI (z_rc (n := 0) hK hI (kd_S h1 k9) (by decide) rfl)) rfl rfl hl.1 rfl (lv_room (Nat.le_of_ble_eq_true rfl)) dX1_askMark_8 ⟨Nat.zero_le _, Nat.zero_le _⟩
    · exact va_runSU (hK.1 7 _ rfl).2 (As := [.ref (G.1 + 25)]) (rest := []) ⟨hx, hb, hml, hown, hts⟩ (m_X9_askMark G l h1 hc2) (va_cwSU 1 hts gX1_askMark_X9_askMark_s29 rfl rfl rfl (by decide +kernel) ⟨Nat.le_of_ble_eq_true rfl, Nat.le_of_ble_eq_true rfl⟩) (z_preV hK hG hI (z_rc (n := 0) hK hI (kd_S h1 k9) (by decide) rfl)) rfl rfl hl.1 rfl (lv_room (Nat.le_of_ble_eq_true rfl)) dX1_askMark_8 ⟨Nat.zero_le _, Nat.zero_le _⟩
  refine lv_aload_n hx hb dX1_askMark_11 rfl (lv_at hl 0 rfl) ?_
  obtain ⟨h2, hf⟩ := ok_c hf
  refine z_getS hx hb hts i_X1_askMark_0 i_X1_askMark_1 i_X1_askMark_2 i_X1_askMark_3 i_X1_askMark_7 hown hK hI (q := q) h2 2 (by decide) ⟨rfl, rfl, rfl, rfl, rfl⟩ (hts (.fieldLink RX1 7 "FenceYards$Bean" "ripe" "I") (by decide +kernel)) (u_same (hts (.sameField "FenceYards$Bean" "FenceYards$Strip" "ripe" "I") (by decide +kernel))) (fun _ => rfl) dX1_askMark_12 ?_
  refine lv_iadd hx hb dX1_askMark_15 ?_
  cases hf
  exact z_iret hx hb hr hlk hK hG hI dX1_askMark_16

-- ===== FenceYards$Apple.askMark(LFenceYards$Trace;)I
def f_X0_askMark (σ : Hp) (q : Nat) : Option (Hp × Int32) :=
  bd1 (f_X10_leave σ 24) fun s1 => chk (okS s1 q) <| bd2 (f_X1_askMark s1 q) fun s2 r1 => some (s2, 2 * r1)
set_option maxRecDepth 100000 in
set_option maxHeartbeats 4000000 in
theorem m_X0_askMark (G : GT) (l : Launch) {σ : Hp} {q : Nat} {σ' : Hp} {r : Int32} (hq : okS σ q) (hf : f_X0_askMark σ q = some (σ', r)) : MetG G l yX0_askMark wsX0_askMark (rmk 3 63) σ [.ref (G.1 + q), .ref (G.1 + 25)] (QI G σ' r) := by
  refine met_of (cc := cX0_askMark) (nL := 2) (ret := (some .int)) (by decide) rfl (Nat.le_of_ble_eq_true rfl) ?_
  intro p e s m below meth c C0 hnm hI ls hl
  obtain ⟨hx, hb, hr, hml, hown, hts, hlk, hK, hG⟩ := id C0
  have hl : lv_has ls 2 [(0, .ref (G.1 + q)), (1, .ref (G.1 + 25))] := hl
  unfold f_X0_askMark at hf
  refine lv_aload_n hx hb dX0_askMark_0 rfl (lv_at hl 1 rfl) ?_
  refine lv_bipush (v := 24) hx hb dX0_askMark_1 (by decide) ?_
  obtain ⟨s1, hc1, hf⟩ := ok_1 hf
  refine z_callv0 rfl rfl hI (va_runVN (As := [.int 24]) (rest := []) ⟨hx, hb, hml, hown, hts⟩ (m_X10_leave G l  hc1) ⟨va_cnB (host := "FenceYards") 1 hts gX0_askMark_X10_leave_n7 rfl rfl rfl (hG.1.2.1 ("FenceYards$Apple", 7, ⟨"FenceYards$Trace", "leave", "(I)V"⟩) (by decide +kernel)) (hts (.initialized "FenceYards$Trace") (by decide +kernel)) (by decide +kernel) ⟨Nat.le_of_ble_eq_true rfl, Nat.le_of_ble_eq_true rfl⟩, hts (.instanceMethod yX10_leave) (by decide +kernel), hts (.selects "FenceYards$Trace" yX10_leave yX10_leave) (by decide +kernel)⟩ (z_preV hK hG hI (z_rc (q := 25) (ci := 9) (n := 0) hK hI rfl (by decide) rfl)) rfl rfl hl.1 rfl (lv_room (Nat.le_of_ble_eq_true rfl)) dX0_askMark_3 ⟨Nat.zero_le _, Nat.zero_le _⟩) (fun H locs hI => ?_)
  refine lv_iconst (v := 2) hx hb dX0_askMark_6 (by decide) ?_
  refine lv_aload_n hx hb dX0_askMark_7 rfl (lv_at hl 0 rfl) ?_
  refine lv_aload_n hx hb dX0_askMark_8 rfl (lv_at hl 1 rfl) ?_
  obtain ⟨h1, hf⟩ := ok_c hf
  obtain ⟨s2, r1, hc2, hf⟩ := ok_2 hf
  refine z_calli0 (σ1 := s2) (r := r1) (a := (.ref (G.1 + q) :: [.ref (G.1 + 25)]).toArray) (rest := [.int 2]) (mc := 0) (ms := 0) rfl rfl hI ?_ (fun H locs hI => ?_)
  · rcases h1.2 with k9 | k9 | k9 | k9 | k9
    · exact va_runSU (hK.1 0 _ rfl).2 (As := [.ref (G.1 + 25)]) (rest := [.int 2]) ⟨hx, hb, hml, hown, hts⟩ (m_X1_askMark G l h1 hc2) (va_cwSU 1 hts gX0_askMark_X1_askMark_s17 rfl rfl rfl (by decide +kernel) ⟨Nat.le_of_ble_eq_true rfl, Nat.le_of_ble_eq_true rfl⟩) (z_preV hK hG hI (z_rc (n := 0) hK hI (kd_S h1 k9) (by decide) rfl)) rfl rfl hl.1 rfl (lv_room (Nat.le_of_ble_eq_true rfl)) dX0_askMark_9 ⟨Nat.zero_le _, Nat.zero_le _⟩
    · exact va_runSU (hK.1 1 _ rfl).2 (As := [.ref (G.1 + 25)]) (rest := [.int 2]) ⟨hx, hb, hml, hown, hts⟩ (m_X1_askMark G l h1 hc2) (va_cwSU 1 hts gX0_askMark_X1_askMark_s17 rfl rfl rfl (by decide +kernel) ⟨Nat.le_of_ble_eq_true rfl, Nat.le_of_ble_eq_true rfl⟩) (z_preV hK hG hI (z_rc (n := 0) hK hI (kd_S h1 k9) (by decide) rfl)) rfl rfl hl.1 rfl (lv_room (Nat.le_of_ble_eq_true rfl)) dX0_askMark_9 ⟨Nat.zero_le _, Nat.zero_le _⟩
    · exact va_runSU (hK.1 2 _ rfl).2 (As := [.ref (G.1 + 25)]) (rest := [.int 2]) ⟨hx, hb, hml, hown, hts⟩ (m_X1_askMark G l h1 hc2) (va_cwSU 1 hts gX0_askMark_X1_askMark_s17 rfl rfl rfl (by decide +kernel) ⟨Nat.le_of_ble_eq_true rfl, Nat.le_of_ble_eq_true rfl⟩) (z_preV hK hG hI (z_rc (n := 0) hK hI (kd_S h1 k9) (by decide) rfl)) rfl rfl hl.1 rfl (lv_room (Nat.le_of_ble_eq_true rfl)) dX0_askMark_9 ⟨Nat.zero_le _, Nat.zero_le _⟩
    · exact va_runSU (hK.1 3 _ rfl).2 (As := [.ref (G.1 + 25)]) (rest := [.int 2]) ⟨hx, hb, hml, hown, hts⟩ (m_X1_askMark G l h1 hc2) (va_cwSU 1 hts gX0_askMark_X1_askMark_s17 rfl rfl rfl (by decide +kernel) ⟨Nat.le_of_ble_eq_true rfl, Nat.le_of_ble_eq_true rfl⟩) (z_preV hK hG hI (z_rc (n := 0) hK hI (kd_S h1 k9) (by decide) rfl)) rfl rfl hl.1 rfl (lv_room (Nat.le_of_ble_eq_true rfl)) dX0_askMark_9 ⟨Nat.zero_le _, Nat.zero_le _⟩
    · exact va_runSU (hK.1 7 _ rfl).2 (As := [.ref (G.1 + 25)]) (rest := [.int 2]) ⟨hx, hb, hml, hown, hts⟩ (m_X1_askMark G l h1 hc2) (va_cwSU 1 hts gX0_askMark_X1_askMark_s17 rfl rfl rfl (by decide +kernel) ⟨Nat.le_of_ble_eq_true rfl, Nat.le_of_ble_eq_true rfl⟩) (z_preV hK hG hI (z_rc (n := 0) hK hI (kd_S h1 k9) (by decide) rfl)) rfl rfl hl.1 rfl (lv_room (Nat.le_of_ble_eq_true rfl)) dX0_askMark_9 ⟨Nat.zero_le _, Nat.zero_le _⟩
  refine lv_imul hx hb dX0_askMark_12 ?_
  cases hf
  exact z_iret hx hb hr hlk hK hG hI dX0_askMark_13

-- ===== FenceYards$Rye.askMark(LFenceYards$Trace;)I
def f_X7_askMark (σ : Hp) (q : Nat) : Option (Hp × Int32) :=
  bd1 (f_X10_leave σ 22) fun s1 => chk (okS s1 q) <| bd2 (f_X1_askMark s1 q) fun s2 r1 => some (s2, r1 - 1000)
set_option maxRecDepth 100000 in
set_option maxHeartbeats 4000000 in
theorem m_X7_askMark (G : GT) (l : Launch) {σ : Hp} {q : Nat} {σ' : Hp} {r : Int32} (hq : okS σ q) (hf : f_X7_askMark σ q = some (σ', r)) : MetG G l yX7_askMark wsX7_askMark (rmk 3 63) σ [.ref (G.1 + q), .ref (G.1 + 25)] (QI G σ' r) := by
  refine met_of (cc := cX7_askMark) (nL := 2) (ret := (some .int)) (by decide) rfl (Nat.le_of_ble_eq_true rfl) ?_
  intro p e s m below meth c C0 hnm hI ls hl
  obtain ⟨hx, hb, hr, hml, hown, hts, hlk, hK, hG⟩ := id C0
  have hl : lv_has ls 2 [(0, .ref (G.1 + q)), (1, .ref (G.1 + 25))] := hl
  unfold f_X7_askMark at hf
  refine lv_aload_n hx hb dX7_askMark_0 rfl (lv_at hl 1 rfl) ?_
  refine lv_bipush (v := 22) hx hb dX7_askMark_1 (by decide) ?_
  obtain ⟨s1, hc1, hf⟩ := ok_1 hf
  refine z_callv0 rfl rfl hI (va_runVN (As := [.int 22]) (rest := []) ⟨hx, hb, hml, hown, hts⟩ (m_X10_leave G l  hc1) ⟨va_cnB (host := "FenceYards") 1 hts gX7_askMark_X10_leave_n22 rfl rfl rfl (hG.1.2.1 ("FenceYards$Rye", 22, ⟨"FenceYards$Trace", "leave", "(I)V"⟩) (by decide +kernel)) (hts (.initialized "FenceYards$Trace") (by decide +kernel)) (by decide +kernel) ⟨Nat.le_of_ble_eq_true rfl, Nat.le_of_ble_eq_true rfl⟩, hts (.instanceMethod yX10_leave) (by decide +kernel), hts (.selects "FenceYards$Trace" yX10_leave yX10_leave) (by decide +kernel)⟩ (z_preV hK hG hI (z_rc (q := 25) (ci := 9) (n := 0) hK hI rfl (by decide) rfl)) rfl rfl hl.1 rfl (lv_room (Nat.le_of_ble_eq_true rfl)) dX7_askMark_3 ⟨Nat.zero_le _, Nat.zero_le _⟩) (fun H locs hI => ?_)
  refine lv_aload_n hx hb dX7_askMark_6 rfl (lv_at hl 0 rfl) ?_
  refine lv_aload_n hx hb dX7_askMark_7 rfl (lv_at hl 1 rfl) ?_
  obtain ⟨h1, hf⟩ := ok_c hf
  obtain ⟨s2, r1, hc2, hf⟩ := ok_2 hf
  refine z_calli0 (σ1 := s2) (r := r1) (a := (.ref (G.1 + q) :: [.ref (G.1 + 25)]).toArray) (rest := []) (mc := 0) (ms := 0) rfl rfl hI ?_ (fun H locs hI => ?_)
  · rcases h1.2 with k9 | k9 | k9 | k9 | k9
    · exact va_runSU (hK.1 0 _ rfl).2 (As := [.ref (G.1 + 25)]) (rest := []) ⟨hx, hb, hml, hown, hts⟩ (m_X1_askMark G l h1 hc2) (va_cwSU 1 hts gX7_askMark_X1_askMark_s28 rfl rfl rfl (by decide +kernel) ⟨Nat.le_of_ble_eq_true rfl, Nat.le_of_ble_eq_true rfl⟩) (z_preV hK hG hI (z_rc (n := 0) hK hI (kd_S h1 k9) (by decide) rfl)) rfl rfl hl.1 rfl (lv_room (Nat.le_of_ble_eq_true rfl)) dX7_askMark_8 ⟨Nat.zero_le _, Nat.zero_le _⟩
    · exact va_runSU (hK.1 1 _ rfl).2 (As := [.ref (G.1 + 25)]) (rest := []) ⟨hx, hb, hml, hown, hts⟩ (m_X1_askMark G l h1 hc2) (va_cwSU 1 hts gX7_askMark_X1_askMark_s28 rfl rfl rfl (by decide +kernel) ⟨Nat.le_of_ble_eq_true rfl, Nat.le_of_ble_eq_true rfl⟩) (z_preV hK hG hI (z_rc (n := 0) hK hI (kd_S h1 k9) (by decide) rfl)) rfl rfl hl.1 rfl (lv_room (Nat.le_of_ble_eq_true rfl)) dX7_askMark_8 ⟨Nat.zero_le _, Nat.zero_le _⟩
    · exact va_runSU (hK.1 2 _ rfl).2 (As := [.ref (G.1 + 25)]) (rest := []) ⟨hx, hb, hml, hown, hts⟩ (m_X1_askMark G l h1 hc2) (va_cwSU 1 hts gX7_askMark_X1_askMark_s28 rfl rfl rfl (by decide +kernel) ⟨Nat.le_of_ble_eq_true rfl, Nat.le_of_ble_eq_true rfl⟩) (z_preV hK hG hI (z_rc (n := 0) hK hI (kd_S h1 k9) (by decide) rfl)) rfl rfl hl.1 rfl (lv_room (Nat.le_of_ble_eq_true rfl)) dX7_askMark_8 ⟨Nat.zero_le _, Nat.zero_le _⟩
    · exact va_runSU (hK.1 3 _ rfl).2 (As := [.ref (G.1 + 25)]) (rest := []) ⟨hx, hb, hml, hown, hts⟩ (m_X1_askMark G l h1 hc2) (va_cwSU 1 hts gX7_askMark_X1_askMark_s28 rfl rfl rfl (by decide +kernel) ⟨Nat.le_of_ble_eq_true rfl, Nat.le_of_ble_eq_true rfl⟩) (z_preV hK hG hI (z_rc (n := 0) hK hI (kd_S h1 k9) (by decide) rfl)) rfl rfl hl.1 rfl (lv_room (Nat.le_of_ble_eq_true rfl)) dX7_askMark_8 ⟨Nat.zero_le _, Nat.zero_le _⟩
    · exact va_runSU (hK.1 7 _ rfl).2 (As := [.ref (G.1 + 25)]) (rest := []) ⟨hx, hb, hml, hown, hts⟩ (m_X1_askMark G l h1 hc2) (va_cwSU 1 hts gX7_askMark_X1_askMark_s28 rfl rfl rfl (by decide +kernel) ⟨Nat.le_of_ble_eq_true rfl, Nat.le_of_ble_eq_true rfl⟩) (z_preV hK hG hI (z_rc (n := 0) hK hI (kd_S h1 k9) (by decide) rfl)) rfl rfl hl.1 rfl (lv_room (Nat.le_of_ble_eq_true rfl)) dX7_askMark_8 ⟨Nat.zero_le _, Nat.zero_le _⟩
  refine lv_sipush (v := 1000) hx hb dX7_askMark_11 (by decide) ?_
  refine lv_isub hx hb dX7_askMark_14 ?_
  cases hf
  exact z_iret hx hb hr hlk hK hG hI dX7_askMark_15

-- ===== FenceYards$Bean.askSize(LFenceYards$Trace;)I
def v_Bean_askMark (σ : Hp) (q : Nat) : Option (Hp × Int32) :=
  if gK σ q = 0 then f_X0_askMark σ q else if gK σ q = 1 then f_X1_askMark σ q else if gK σ q = 7 then f_X7_askMark σ q else none
def f_X1_askSize (σ : Hp) (q : Nat) : Option (Hp × Int32) :=
  bd1 (f_X10_leave σ 11) fun s1 => chk (okS s1 q) <| bd2 (f_X9_askSize s1 q) fun s2 r1 => chk (okS s2 q) <| bd2 (v_Bean_askMark s2 q) fun s3 r2 => some (s3, r1 + r2)
set_option maxRecDepth 100000 in
set_option maxHeartbeats 4000000 in
theorem m_X1_askSize (G : GT) (l : Launch) {σ : Hp} {q : Nat} {σ' : Hp} {r : Int32} (hq : okS σ q) (hf : f_X1_askSize σ q = some (σ', r)) : MetG G l yX1_askSize wsX1_askSize (rmk 4 84) σ [.ref (G.1 + q), .ref (G.1 + 25)] (QI G σ' r) := by
  refine met_of (cc := cX1_askSize) (nL := 3) (ret := (some .int)) (by decide) rfl (Nat.le_of_ble_eq_true rfl) ?_
  intro p e s m below meth c C0 hnm hI ls hl
  obtain ⟨hx, hb, hr, hml, hown, hts, hlk, hK, hG⟩ := id C0
  have hl : lv_has ls 3 [(0, .ref (G.1 + q)), (1, .ref (G.1 + 25))] := hl
  unfold f_X1_askSize at hf
  refine lv_aload_n hx hb dX1_askSize_0 rfl (lv_at hl 1 rfl) ?_
  refine lv_bipush (v := 11) hx hb dX1_askSize_1 (by decide) ?_
  obtain ⟨s1, hc1, hf⟩ := ok_1 hf
  refine z_callv0 rfl rfl hI (va_runVN (As := [.int 11]) (rest := []) ⟨hx, hb, hml, hown, hts⟩ (m_X10_leave G l  hc1) ⟨va_cnB (host := "FenceYards") 1 hts gX1_askSize_X10_leave_n16 rfl rfl rfl (hG.1.2.1 ("FenceYards$Bean", 16, ⟨"FenceYards$Trace", "leave", "(I)V"⟩) (by decide +kernel)) (hts (.initialized "FenceYards$Trace") (by decide +kernel)) (by decide +kernel) ⟨Nat.le_of_ble_eq_true rfl, Nat.le_of_ble_eq_true rfl⟩, hts (.instanceMethod yX10_leave) (by decide +kernel), hts (.selects "FenceYards$Trace" yX10_leave yX10_leave) (by decide +kernel)⟩ (z_preV hK hG hI (z_rc (q := 25) (ci := 9) (n := 0) hK hI rfl (by decide) rfl)) rfl rfl hl.1 rfl (lv_room (Nat.le_of_ble_eq_true rfl)) dX1_askSize_3 ⟨Nat.zero_le _, Nat.zero_le _⟩) (fun H locs hI => ?_)
  refine lv_aload_n hx hb dX1_askSize_6 rfl (lv_at hl 0 rfl) ?_
  refine lv_aload_n hx hb dX1_askSize_7 rfl (lv_at hl 1 rfl) ?_
  obtain ⟨h1, hf⟩ := ok_c hf
  obtain ⟨s2, r1, hc2, hf⟩ := ok_2 hf
  refine z_calli0 (σ1 := s2) (r := r1) (a := (.ref (G.1 + q) :: [.ref (G.1 + 25)]).toArray) (rest := []) (mc := 0) (ms := 0) rfl rfl hI ?_ (fun H locs hI => ?_)
  · rcases h1.2 with k9 | k9 | k9 | k9 | k9
    · exact va_runSU (hK.1 0 _ rfl).2 (As := [.ref (G.1 + 25)]) (rest := []) ⟨hx, hb, hml, hown, hts⟩ (m_X9_askSize G l h1 hc2) (va_cwSU 1 hts gX1_askSize_X9_askSize_s22 rfl rfl rfl (by decide +kernel) ⟨Nat.le_of_ble_eq_true rfl, Nat.le_of_ble_eq_true rfl⟩) (z_preV hK hG hI (z_rc (n := 0) hK hI (kd_S h1 k9) (by decide) rfl)) rfl rfl hl.1 rfl (lv_room (Nat.le_of_ble_eq_true rfl)) dX1_askSize_8 ⟨Nat.zero_le _, Nat.zero_le _⟩
    · exact va_runSU (hK.1 1 _ rfl).2 (As := [.ref (G.1 + 25)]) (rest := []) ⟨hx, hb, hml, hown, hts⟩ (m_X9_askSize G l h1 hc2) (va_cwSU 1 hts gX1_askSize_X9_askSize_s22 rfl rfl rfl (by decide +kernel) ⟨Nat.le_of_ble_eq_true rfl, Nat.le_of_ble_eq_true rfl⟩) (z_preV hK hG hI (z_rc (n := 0) hK hI (kd_S h1 k9) (by decide) rfl)) rfl rfl hl.1 rfl (lv_room (Nat.le_of_ble_eq_true rfl)) dX1_askSize_8 ⟨Nat.zero_le _, Nat.zero_le _⟩
    · exact va_runSU (hK.1 2 _ rfl).2 (As := [.ref (G.1 + 25)]) (rest := []) ⟨hx, hb, hml, hown, hts⟩ (m_X9_askSize G l h1 hc2) (va_cwSU 1 hts gX1_askSize_X9_askSize_s22 rfl rfl rfl (by decide +kernel) ⟨Nat.le_of_ble_eq_true rfl, Nat.le_of_ble_eq_true rfl⟩) (z_preV hK hG hI (z_rc (n := 0) hK hI (kd_S h1 k9) (by decide) rfl)) rfl rfl hl.1 rfl (lv_room (Nat.le_of_ble_eq_true rfl)) dX1_askSize_8 ⟨Nat.zero_le _, Nat.zero_le _⟩
    · exact va_runSU (hK.1 3 _ rfl).2 (As := [.ref (G.1 + 25)]) (rest := []) ⟨hx, hb, hml, hown, hts⟩ (m_X9_askSize G l h1 hc2) (va_cwSU 1 hts gX1_askSize_X9_askSize_s22 rfl rfl rfl (by decide +kernel) ⟨Nat.le_of_ble_eq_true rfl, Nat.le_of_ble_eq_true rfl⟩) (z_preV hK hG hI (z_rc (n := 0) hK hI (kd_S h1 k9) (by decide) rfl)) rfl rfl hl.1 rfl (lv_room (Nat.le_of_ble_eq_true rfl)) dX1_askSize_8 ⟨Nat.zero_le _, Nat.zero_le _⟩
    · exact va_runSU (hK.1 7 _ rfl).2 (As := [.ref (G.1 + 25)]) (rest := []) ⟨hx, hb, hml, hown, hts⟩ (m_X9_askSize G l h1 hc2) (va_cwSU 1 hts gX1_askSize_X9_askSize_s22 rfl rfl rfl (by decide +kernel) ⟨Nat.le_of_ble_eq_true rfl, Nat.le_of_ble_eq_true rfl⟩) (z_preV hK hG hI (z_rc (n := 0) hK hI (kd_S h1 k9) (by decide) rfl)) rfl rfl hl.1 rfl (lv_room (Nat.le_of_ble_eq_true rfl)) dX1_askSize_8 ⟨Nat.zero_le _, Nat.zero_le _⟩
  refine lv_istore_n (lv' := [(2, .int r1), (0, .ref (G.1 + q)), (1, .ref (G.1 + 25))]) hx hb dX1_askSize_11 rfl hl (by decide) rfl (fun ls hl => ?_)
  refine lv_iload_n hx hb dX1_askSize_12 rfl (lv_at hl 0 rfl) ?_
  refine lv_aload_n hx hb dX1_askSize_13 rfl (lv_at hl 1 rfl) ?_
  refine lv_aload_n hx hb dX1_askSize_14 rfl (lv_at hl 2 rfl) ?_
  obtain ⟨h2, hf⟩ := ok_c hf
  obtain ⟨s3, r2, hc3, hf⟩ := ok_2 hf
  refine z_calli0 (σ1 := s3) (r := r2) (a := (.ref (G.1 + q) :: [.ref (G.1 + 25)]).toArray) (rest := [.int r1]) (mc := 0) (ms := 0) rfl rfl hI ?_ (fun H locs hI => ?_)
  · unfold v_Bean_askMark at hc3
    by_cases k6 : gK s2 q = 0
    · have hc3 := ok_t k6 hc3
      exact va_runU (As := [.ref (G.1 + 25)]) (rest := [.int r1]) ⟨hx, hb, hml, hown, hts⟩ (m_X0_askMark G l h2 hc3) (va_cwO 1 hts gX1_askSize_X0_askMark_u26X0 rfl rfl rfl (b0 := cX1_askMark) (m0 := 2) (r0 := (some .int)) (by decide +kernel) (by decide +kernel) ⟨Nat.le_of_ble_eq_true rfl, Nat.le_of_ble_eq_true rfl⟩) (z_preV hK hG hI (z_rc (q := q) (ci := 0) (n := 0) hK hI (kd_S h2 k6) (by decide) rfl)) rfl rfl hl.1 rfl (lv_room (Nat.le_of_ble_eq_true rfl)) dX1_askSize_15 ⟨Nat.zero_le _, Nat.zero_le _⟩
    have hc3 := ok_f k6 hc3
    by_cases k7 : gK s2 q = 1
    · have hc3 := ok_t k7 hc3
      exact va_runV (As := [.ref (G.1 + 25)]) (rest := [.int r1]) ⟨hx, hb, hml, hown, hts⟩ (m_X1_askMark G l h2 hc3) (cwV 1 hts gX1_askSize_X1_askMark rfl rfl rfl (by decide +kernel) ⟨Nat.le_of_ble_eq_true rfl, Nat.le_of_ble_eq_true rfl⟩) (z_preV hK hG hI (z_rc (q := q) (ci := 1) (n := 0) hK hI (kd_S h2 k7) (by decide) rfl)) rfl rfl hl.1 rfl (lv_room (Nat.le_of_ble_eq_true rfl)) dX1_askSize_15 ⟨Nat.zero_le _, Nat.zero_le _⟩
    have hc3 := ok_f k7 hc3
    by_cases k8 : gK s2 q = 7
    · have hc3 := ok_t k8 hc3
      exact va_runU (As := [.ref (G.1 + 25)]) (rest := [.int r1]) ⟨hx, hb, hml, hown, hts⟩ (m_X7_askMark G l h2 hc3) (va_cwO 1 hts gX1_askSize_X7_askMark_u26X7 rfl rfl rfl (b0 := cX1_askMark) (m0 := 2) (r0 := (some .int)) (by decide +kernel) (by decide +kernel) ⟨Nat.le_of_ble_eq_true rfl, Nat.le_of_ble_eq_true rfl⟩) (z_preV hK hG hI (z_rc (q := q) (ci := 7) (n := 0) hK hI (kd_S h2 k8) (by decide) rfl)) rfl rfl hl.1 rfl (lv_room (Nat.le_of_ble_eq_true rfl)) dX1_askSize_15 ⟨Nat.zero_le _, Nat.zero_le _⟩
    have hc3 := ok_f k8 hc3
    cases hc3
  refine lv_iadd hx hb dX1_askSize_18 ?_
  cases hf
  exact z_iret hx hb hr hlk hK hG hI dX1_askSize_19

-- ===== FenceYards$Apple.askSize(LFenceYards$Trace;)I
def f_X0_askSize (σ : Hp) (q : Nat) : Option (Hp × Int32) :=
  bd1 (f_X10_leave σ 12) fun s1 => chk (okS s1 q) <| bd2 (f_X1_askSize s1 q) fun s2 r1 => some (s2, -r1)
set_option maxRecDepth 100000 in
set_option maxHeartbeats 4000000 in
theorem m_X0_askSize (G : GT) (l : Launch) {σ : Hp} {q : Nat} {σ' : Hp} {r : Int32} (hq : okS σ q) (hf : f_X0_askSize σ q = some (σ', r)) : MetG G l yX0_askSize wsX0_askSize (rmk 5 106) σ [.ref (G.1 + q), .ref (G.1 + 25)] (QI G σ' r) := by
  refine met_of (cc := cX0_askSize) (nL := 2) (ret := (some .int)) (by decide) rfl (Nat.le_of_ble_eq_true rfl) ?_
  intro p e s m below meth c C0 hnm hI ls hl
  obtain ⟨hx, hb, hr, hml, hown, hts, hlk, hK, hG⟩ := id C0
  have hl : lv_has ls 2 [(0, .ref (G.1 + q)), (1, .ref (G.1 + 25))] := hl
  unfold f_X0_askSize at hf
  refine lv_aload_n hx hb dX0_askSize_0 rfl (lv_at hl 1 rfl) ?_
  refine lv_bipush (v := 12) hx hb dX0_askSize_1 (by decide) ?_
  obtain ⟨s1, hc1, hf⟩ := ok_1 hf
  refine z_callv0 rfl rfl hI (va_runVN (As := [.int 12]) (rest := []) ⟨hx, hb, hml, hown, hts⟩ (m_X10_leave G l  hc1) ⟨va_cnB (host := "FenceYards") 1 hts gX0_askSize_X10_leave_n7 rfl rfl rfl (hG.1.2.1 ("FenceYards$Apple", 7, ⟨"FenceYards$Trace", "leave", "(I)V"⟩) (by decide +kernel)) (hts (.initialized "FenceYards$Trace") (by decide +kernel)) (by decide +kernel) ⟨Nat.le_of_ble_eq_true rfl, Nat.le_of_ble_eq_true rfl⟩, hts (.instanceMethod yX10_leave) (by decide +kernel), hts (.selects "FenceYards$Trace" yX10_leave yX10_leave) (by decide +kernel)⟩ (z_preV hK hG hI (z_rc (q := 25) (ci := 9) (n := 0) hK hI rfl (by decide) rfl)) rfl rfl hl.1 rfl (lv_room (Nat.le_of_ble_eq_true rfl)) dX0_askSize_3 ⟨Nat.zero_le _, Nat.zero_le _⟩) (fun H locs hI => ?_)
  refine lv_aload_n hx hb dX0_askSize_6 rfl (lv_at hl 0 rfl) ?_
  refine lv_aload_n hx hb dX0_askSize_7 rfl (lv_at hl 1 rfl) ?_
  obtain ⟨h1, hf⟩ := ok_c hf
  obtain ⟨s2, r1, hc2, hf⟩ := ok_2 hf
  refine z_calli0 (σ1 := s2) (r := r1) (a := (.ref (G.1 + q) :: [.ref (G.1 + 25)]).toArray) (rest := []) (mc := 0) (ms := 0) rfl rfl hI ?_ (fun H locs hI => ?_)
  · rcases h1.2 with k9 | k9 | k9 | k9 | k9
    · exact va_runSU (hK.1 0 _ rfl).2 (As := [.ref (G.1 + 25)]) (rest := []) ⟨hx, hb, hml, hown, hts⟩ (m_X1_askSize G l h1 hc2) (va_cwSU 1 hts gX0_askSize_X1_askSize_s13 rfl rfl rfl (by decide +kernel) ⟨Nat.le_of_ble_eq_true rfl, Nat.le_of_ble_eq_true rfl⟩) (z_preV hK hG hI (z_rc (n := 0) hK hI (kd_S h1 k9) (by decide) rfl)) rfl rfl hl.1 rfl (lv_room (Nat.le_of_ble_eq_true rfl)) dX0_askSize_8 ⟨Nat.zero_le _, Nat.zero_le _⟩
    · exact va_runSU (hK.1 1 _ rfl).2 (As := [.ref (G.1 + 25)]) (rest := []) ⟨hx, hb, hml, hown, hts⟩ (m_X1_askSize G l h1 hc2) (va_cwSU 1 hts gX0_askSize_X1_askSize_s13 rfl rfl rfl (by decide +kernel) ⟨Nat.le_of_ble_eq_true rfl, Nat.le_of_ble_eq_true rfl⟩) (z_preV hK hG hI (z_rc (n := 0) hK hI (kd_S h1 k9) (by decide) rfl)) rfl rfl hl.1 rfl (lv_room (Nat.le_of_ble_eq_true rfl)) dX0_askSize_8 ⟨Nat.zero_le _, Nat.zero_le _⟩
    · exact va_runSU (hK.1 2 _ rfl).2 (As := [.ref (G.1 + 25)]) (rest := []) ⟨hx, hb, hml, hown, hts⟩ (m_X1_askSize G l h1 hc2) (va_cwSU 1 hts gX0_askSize_X1_askSize_s13 rfl rfl rfl (by decide +kernel) ⟨Nat.le_of_ble_eq_true rfl, Nat.le_of_ble_eq_true rfl⟩) (z_preV hK hG hI (z_rc (n := 0) hK hI (kd_S h1 k9) (by decide) rfl)) rfl rfl hl.1 rfl (lv_room (Nat.le_of_ble_eq_true rfl)) dX0_askSize_8 ⟨Nat.zero_le _, Nat.zero_le _⟩
    · exact va_runSU (hK.1 3 _ rfl).2 (As := [.ref (G.1 + 25)]) (rest := []) ⟨hx, hb, hml, hown, hts⟩ (m_X1_askSize G l h1 hc2) (va_cwSU 1 hts gX0_askSize_X1_askSize_s13 rfl rfl rfl (by decide +kernel) ⟨Nat.le_of_ble_eq_true rfl, Nat.le_of_ble_eq_true rfl⟩) (z_preV hK hG hI (z_rc (n := 0) hK hI (kd_S h1 k9) (by decide) rfl)) rfl rfl hl.1 rfl (lv_room (Nat.le_of_ble_eq_true rfl)) dX0_askSize_8 ⟨Nat.zero_le _, Nat.zero_le _⟩
    · exact va_runSU (hK.1 7 _ rfl).2 (As := [.ref (G.1 + 25)]) (rest := []) ⟨hx, hb, hml, hown, hts⟩ (m_X1_askSize G l h1 hc2) (va_cwSU 1 hts gX0_askSize_X1_askSize_s13 rfl rfl rfl (by decide +kernel) ⟨Nat.le_of_ble_eq_true rfl, Nat.le_of_ble_eq_true rfl⟩) (z_preV hK hG hI (z_rc (n := 0) hK hI (kd_S h1 k9) (by decide) rfl)) rfl rfl hl.1 rfl (lv_room (Nat.le_of_ble_eq_true rfl)) dX0_askSize_8 ⟨Nat.zero_le _, Nat.zero_le _⟩
  refine lv_ineg hx hb dX0_askSize_11 ?_
  cases hf
  exact z_iret hx hb hr hlk hK hG hI dX0_askSize_12

-- ===== FenceYards$Grass.askSize(LFenceYards$Trace;)I
def f_X3_askSize (σ : Hp) (q : Nat) : Option (Hp × Int32) :=
  bd1 (f_X10_leave σ 13) fun s1 => chk (okS s1 q) <| bd2 (f_X9_askSize s1 q) fun s2 r1 => some (s2, r1 - 100)
set_option maxRecDepth 100000 in
set_option maxHeartbeats 4000000 in
theorem m_X3_askSize (G : GT) (l : Launch) {σ : Hp} {q : Nat} {σ' : Hp} {r : Int32} (hq : okS σ q) (hf : f_X3_askSize σ q = some (σ', r)) : MetG G l yX3_askSize wsX3_askSize (rmk 2 42) σ [.ref (G.1 + q), .ref (G.1 + 25)] (QI G σ' r) := by
  refine met_of (cc := cX3_askSize) (nL := 2) (ret := (some .int)) (by decide) rfl (Nat.le_of_ble_eq_true rfl) ?_
  intro p e s m below meth c C0 hnm hI ls hl
  obtain ⟨hx, hb, hr, hml, hown, hts, hlk, hK, hG⟩ := id C0
  have hl : lv_has ls 2 [(0, .ref (G.1 + q)), (1, .ref (G.1 + 25))] := hl
  unfold f_X3_askSize at hf
  refine lv_aload_n hx hb dX3_askSize_0 rfl (lv_at hl 1 rfl) ?_
  refine lv_bipush (v := 13) hx hb dX3_askSize_1 (by decide) ?_
  obtain ⟨s1, hc1, hf⟩ := ok_1 hf
  refine z_callv0 rfl rfl hI (va_runVN (As := [.int 13]) (rest := []) ⟨hx, hb, hml, hown, hts⟩ (m_X10_leave G l  hc1) ⟨va_cnB (host := "FenceYards") 1 hts gX3_askSize_X10_leave_n16 rfl rfl rfl (hG.1.2.1 ("FenceYards$Grass", 16, ⟨"FenceYards$Trace", "leave", "(I)V"⟩) (by decide +kernel)) (hts (.initialized "FenceYards$Trace") (by decide +kernel)) (by decide +kernel) ⟨Nat.le_of_ble_eq_true rfl, Nat.le_of_ble_eq_true rfl⟩, hts (.instanceMethod yX10_leave) (by decide +kernel), hts (.selects "FenceYards$Trace" yX10_leave yX10_leave) (by decide +kernel)⟩ (z_preV hK hG hI (z_rc (q := 25) (ci := 9) (n := 0) hK hI rfl (by decide) rfl)) rfl rfl hl.1 rfl (lv_room (Nat.le_of_ble_eq_true rfl)) dX3_askSize_3 ⟨Nat.zero_le _, Nat.zero_le _⟩) (fun H locs hI => ?_)
  refine lv_aload_n hx hb dX3_askSize_6 rfl (lv_at hl 0 rfl) ?_
  refine lv_aload_n hx hb dX3_askSize_7 rfl (lv_at hl 1 rfl) ?_
  obtain ⟨h1, hf⟩ := ok_c hf
  obtain ⟨s2, r1, hc2, hf⟩ := ok_2 hf
  refine z_calli0 (σ1 := s2) (r := r1) (a := (.ref (G.1 + q) :: [.ref (G.1 + 25)]).toArray) (rest := []) (mc := 0) (ms := 0) rfl rfl hI ?_ (fun H locs hI => ?_)
  · rcases h1.2 with k9 | k9 | k9 | k9 | k9
    · exact va_runSU (hK.1 0 _ rfl).2 (As := [.ref (G.1 + 25)]) (rest := []) ⟨hx, hb, hml, hown, hts⟩ (m_X9_askSize G l h1 hc2) (va_cwSU 1 hts gX3_askSize_X9_askSize_s22 rfl rfl rfl (by decide +kernel) ⟨Nat.le_of_ble_eq_true rfl, Nat.le_of_ble_eq_true rfl⟩) (z_preV hK hG hI (z_rc (n := 0) hK hI (kd_S h1 k9) (by decide) rfl)) rfl rfl hl.1 rfl (lv_room (Nat.le_of_ble_eq_true rfl)) dX3_askSize_8 ⟨Nat.zero_le _, Nat.zero_le _⟩
    · exact va_runSU (hK.1 1 _ rfl).2 (As := [.ref (G.1 + 25)]) (rest := []) ⟨hx, hb, hml, hown, hts⟩ (m_X9_askSize G l h1 hc2) (va_cwSU 1 hts gX3_askSize_X9_askSize_s22 rfl rfl rfl (by decide +kernel) ⟨Nat.le_of_ble_eq_true rfl, Nat.le_of_ble_eq_true rfl⟩) (z_preV hK hG hI (z_rc (n := 0) hK hI (kd_S h1 k9) (by decide) rfl)) rfl rfl hl.1 rfl (lv_room (Nat.le_of_ble_eq_true rfl)) dX3_askSize_8 ⟨Nat.zero_le _, Nat.zero_le _⟩
    · exact va_runSU (hK.1 2 _ rfl).2 (As := [.ref (G.1 + 25)]) (rest := []) ⟨hx, hb, hml, hown, hts⟩ (m_X9_askSize G l h1 hc2) (va_cwSU 1 hts gX3_askSize_X9_askSize_s22 rfl rfl rfl (by decide +kernel) ⟨Nat.le_of_ble_eq_true rfl, Nat.le_of_ble_eq_true rfl⟩) (z_preV hK hG hI (z_rc (n := 0) hK hI (kd_S h1 k9) (by decide) rfl)) rfl rfl hl.1 rfl (lv_room (Nat.le_of_ble_eq_true rfl)) dX3_askSize_8 ⟨Nat.zero_le _, Nat.zero_le _⟩
    · exact va_runSU (hK.1 3 _ rfl).2 (As := [.ref (G.1 + 25)]) (rest := []) ⟨hx, hb, hml, hown, hts⟩ (m_X9_askSize G l h1 hc2) (va_cwSU 1 hts gX3_askSize_X9_askSize_s22 rfl rfl rfl (by decide +kernel) ⟨Nat.le_of_ble_eq_true rfl, Nat.le_of_ble_eq_true rfl⟩) (z_preV hK hG hI (z_rc (n := 0) hK hI (kd_S h1 k9) (by decide) rfl)) rfl rfl hl.1 rfl (lv_room (Nat.le_of_ble_eq_true rfl)) dX3_askSize_8 ⟨Nat.zero_le _, Nat.zero_le _⟩
    · exact va_runSU (hK.1 7 _ rfl).2 (As := [.ref (G.1 + 25)]) (rest := []) ⟨hx, hb, hml, hown, hts⟩ (m_X9_askSize G l h1 hc2) (va_cwSU 1 hts gX3_askSize_X9_askSize_s22 rfl rfl rfl (by decide +kernel) ⟨Nat.le_of_ble_eq_true rfl, Nat.le_of_ble_eq_true rfl⟩) (z_preV hK hG hI (z_rc (n := 0) hK hI (kd_S h1 k9) (by decide) rfl)) rfl rfl hl.1 rfl (lv_room (Nat.le_of_ble_eq_true rfl)) dX3_askSize_8 ⟨Nat.zero_le _, Nat.zero_le _⟩
  refine lv_bipush (v := 100) hx hb dX3_askSize_11 (by decide) ?_
  refine lv_isub hx hb dX3_askSize_13 ?_
  cases hf
  exact z_iret hx hb hr hlk hK hG hI dX3_askSize_14

-- ===== FenceYards$Clover.askSize(LFenceYards$Trace;)I
def f_X2_askSize (σ : Hp) (q : Nat) : Option (Hp × Int32) :=
  bd1 (f_X10_leave σ 14) fun s1 => chk (okS s1 q) <| bd2 (f_X3_askSize s1 q) fun s2 r1 => some (s2, 2 * r1)
set_option maxRecDepth 100000 in
set_option maxHeartbeats 4000000 in
theorem m_X2_askSize (G : GT) (l : Launch) {σ : Hp} {q : Nat} {σ' : Hp} {r : Int32} (hq : okS σ q) (hf : f_X2_askSize σ q = some (σ', r)) : MetG G l yX2_askSize wsX2_askSize (rmk 3 63) σ [.ref (G.1 + q), .ref (G.1 + 25)] (QI G σ' r) := by
  refine met_of (cc := cX2_askSize) (nL := 2) (ret := (some .int)) (by decide) rfl (Nat.le_of_ble_eq_true rfl) ?_
  intro p e s m below meth c C0 hnm hI ls hl
  obtain ⟨hx, hb, hr, hml, hown, hts, hlk, hK, hG⟩ := id C0
  have hl : lv_has ls 2 [(0, .ref (G.1 + q)), (1, .ref (G.1 + 25))] := hl
  unfold f_X2_askSize at hf
  refine lv_aload_n hx hb dX2_askSize_0 rfl (lv_at hl 1 rfl) ?_
  refine lv_bipush (v := 14) hx hb dX2_askSize_1 (by decide) ?_
  obtain ⟨s1, hc1, hf⟩ := ok_1 hf
  refine z_callv0 rfl rfl hI (va_runVN (As := [.int 14]) (rest := []) ⟨hx, hb, hml, hown, hts⟩ (m_X10_leave G l  hc1) ⟨va_cnB (host := "FenceYards") 1 hts gX2_askSize_X10_leave_n16 rfl rfl rfl (hG.1.2.1 ("FenceYards$Clover", 16, ⟨"FenceYards$Trace", "leave", "(I)V"⟩) (by decide +kernel)) (hts (.initialized "FenceYards$Trace") (by decide +kernel)) (by decide +kernel) ⟨Nat.le_of_ble_eq_true rfl, Nat.le_of_ble_eq_true rfl⟩, hts (.instanceMethod yX10_leave) (by decide +kernel), hts (.selects "FenceYards$Trace" yX10_leave yX10_leave) (by decide +kernel)⟩ (z_preV hK hG hI (z_rc (q := 25) (ci := 9) (n := 0) hK hI rfl (by decide) rfl)) rfl rfl hl.1 rfl (lv_room (Nat.le_of_ble_eq_true rfl)) dX2_askSize_3 ⟨Nat.zero_le _, Nat.zero_le _⟩) (fun H locs hI => ?_)
  refine lv_iconst (v := 2) hx hb dX2_askSize_6 (by decide) ?_
  refine lv_aload_n hx hb dX2_askSize_7 rfl (lv_at hl 0 rfl) ?_
  refine lv_aload_n hx hb dX2_askSize_8 rfl (lv_at hl 1 rfl) ?_
  obtain ⟨h1, hf⟩ := ok_c hf
  obtain ⟨s2, r1, hc2, hf⟩ := ok_2 hf
  refine z_calli0 (σ1 := s2) (r := r1) (a := (.ref (G.1 + q) :: [.ref (G.1 + 25)]).toArray) (rest := [.int 2]) (mc := 0) (ms := 0) rfl rfl hI ?_ (fun H locs hI => ?_)
  · rcases h1.2 with k9 | k9 | k9 | k9 | k9
    · exact va_runSU (hK.1 0 _ rfl).2 (As := [.ref (G.1 + 25)]) (rest := [.int 2]) ⟨hx, hb, hml, hown, hts⟩ (m_X3_askSize G l h1 hc2) (va_cwSU 1 hts gX2_askSize_X3_askSize_s22 rfl rfl rfl (by decide +kernel) ⟨Nat.le_of_ble_eq_true rfl, Nat.le_of_ble_eq_true rfl⟩) (z_preV hK hG hI (z_rc (n := 0) hK hI (kd_S h1 k9) (by decide) rfl)) rfl rfl hl.1 rfl (lv_room (Nat.le_of_ble_eq_true rfl)) dX2_askSize_9 ⟨Nat.zero_le _, Nat.zero_le _⟩
    · exact va_runSU (hK.1 1 _ rfl).2 (As := [.ref (G.1 + 25)]) (rest := [.int 2]) ⟨hx, hb, hml, hown, hts⟩ (m_X3_askSize G l h1 hc2) (va_cwSU 1 hts gX2_askSize_X3_askSize_s22 rfl rfl rfl (by decide +kernel) ⟨Nat.le_of_ble_eq_true rfl, Nat.le_of_ble_eq_true rfl⟩) (z_preV hK hG hI (z_rc (n := 0) hK hI (kd_S h1 k9) (by decide) rfl)) rfl rfl hl.1 rfl (lv_room (Nat.le_of_ble_eq_true rfl)) dX2_askSize_9 ⟨Nat.zero_le _, Nat.zero_le _⟩
    · exact va_runSU (hK.1 2 _ rfl).2 (As := [.ref (G.1 + 25)]) (rest := [.int 2]) ⟨hx, hb, hml, hown, hts⟩ (m_X3_askSize G l h1 hc2) (va_cwSU 1 hts gX2_askSize_X3_askSize_s22 rfl rfl rfl (by decide +kernel) ⟨Nat.le_of_ble_eq_true rfl, Nat.le_of_ble_eq_true rfl⟩) (z_preV hK hG hI (z_rc (n := 0) hK hI (kd_S h1 k9) (by decide) rfl)) rfl rfl hl.1 rfl (lv_room (Nat.le_of_ble_eq_true rfl)) dX2_askSize_9 ⟨Nat.zero_le _, Nat.zero_le _⟩
    · exact va_runSU (hK.1 3 _ rfl).2 (As := [.ref (G.1 + 25)]) (rest := [.int 2]) ⟨hx, hb, hml, hown, hts⟩ (m_X3_askSize G l h1 hc2) (va_cwSU 1 hts gX2_askSize_X3_askSize_s22 rfl rfl rfl (by decide +kernel) ⟨Nat.le_of_ble_eq_true rfl, Nat.le_of_ble_eq_true rfl⟩) (z_preV hK hG hI (z_rc (n := 0) hK hI (kd_S h1 k9) (by decide) rfl)) rfl rfl hl.1 rfl (lv_room (Nat.le_of_ble_eq_true rfl)) dX2_askSize_9 ⟨Nat.zero_le _, Nat.zero_le _⟩
    · exact va_runSU (hK.1 7 _ rfl).2 (As := [.ref (G.1 + 25)]) (rest := [.int 2]) ⟨hx, hb, hml, hown, hts⟩ (m_X3_askSize G l h1 hc2) (va_cwSU 1 hts gX2_askSize_X3_askSize_s22 rfl rfl rfl (by decide +kernel) ⟨Nat.le_of_ble_eq_true rfl, Nat.le_of_ble_eq_true rfl⟩) (z_preV hK hG hI (z_rc (n := 0) hK hI (kd_S h1 k9) (by decide) rfl)) rfl rfl hl.1 rfl (lv_room (Nat.le_of_ble_eq_true rfl)) dX2_askSize_9 ⟨Nat.zero_le _, Nat.zero_le _⟩
  refine lv_imul hx hb dX2_askSize_12 ?_
  cases hf
  exact z_iret hx hb hr hlk hK hG hI dX2_askSize_13

-- ===== FenceYards$Grass.askMark(LFenceYards$Trace;)I
def v_Grass_askSize (σ : Hp) (q : Nat) : Option (Hp × Int32) :=
  if gK σ q = 2 then f_X2_askSize σ q else if gK σ q = 3 then f_X3_askSize σ q else none
def f_X3_askMark (σ : Hp) (q : Nat) : Option (Hp × Int32) :=
  bd1 (f_X10_leave σ 23) fun s1 => chk (okS s1 q) <| bd2 (f_X9_askMark s1 q) fun s2 r1 => chk (okS s2 q) <| bd2 (v_Grass_askSize s2 q) fun s3 r2 => some (s3, r1 - r2)
set_option maxRecDepth 100000 in
set_option maxHeartbeats 4000000 in
theorem m_X3_askMark (G : GT) (l : Launch) {σ : Hp} {q : Nat} {σ' : Hp} {r : Int32} (hq : okS σ q) (hf : f_X3_askMark σ q = some (σ', r)) : MetG G l yX3_askMark wsX3_askMark (rmk 4 84) σ [.ref (G.1 + q), .ref (G.1 + 25)] (QI G σ' r) := by
  refine met_of (cc := cX3_askMark) (nL := 3) (ret := (some .int)) (by decide) rfl (Nat.le_of_ble_eq_true rfl) ?_
  intro p e s m below meth c C0 hnm hI ls hl
  obtain ⟨hx, hb, hr, hml, hown, hts, hlk, hK, hG⟩ := id C0
  have hl : lv_has ls 3 [(0, .ref (G.1 + q)), (1, .ref (G.1 + 25))] := hl
  unfold f_X3_askMark at hf
  refine lv_aload_n hx hb dX3_askMark_0 rfl (lv_at hl 1 rfl) ?_
  refine lv_bipush (v := 23) hx hb dX3_askMark_1 (by decide) ?_
  obtain ⟨s1, hc1, hf⟩ := ok_1 hf
  refine z_callv0 rfl rfl hI (va_runVN (As := [.int 23]) (rest := []) ⟨hx, hb, hml, hown, hts⟩ (m_X10_leave G l  hc1) ⟨va_cnB (host := "FenceYards") 1 hts gX3_askMark_X10_leave_n16 rfl rfl rfl (hG.1.2.1 ("FenceYards$Grass", 16, ⟨"FenceYards$Trace", "leave", "(I)V"⟩) (by decide +kernel)) (hts (.initialized "FenceYards$Trace") (by decide +kernel)) (by decide +kernel) ⟨Nat.le_of_ble_eq_true rfl, Nat.le_of_ble_eq_true rfl⟩, hts (.instanceMethod yX10_leave) (by decide +kernel), hts (.selects "FenceYards$Trace" yX10_leave yX10_leave) (by decide +kernel)⟩ (z_preV hK hG hI (z_rc (q := 25) (ci := 9) (n := 0) hK hI rfl (by decide) rfl)) rfl rfl hl.1 rfl (lv_room (Nat.le_of_ble_eq_true rfl)) dX3_askMark_3 ⟨Nat.zero_le _, Nat.zero_le _⟩) (fun H locs hI => ?_)
  refine lv_aload_n hx hb dX3_askMark_6 rfl (lv_at hl 0 rfl) ?_
  refine lv_aload_n hx hb dX3_askMark_7 rfl (lv_at hl 1 rfl) ?_
  obtain ⟨h1, hf⟩ := ok_c hf
  obtain ⟨s2, r1, hc2, hf⟩ := ok_2 hf
  refine z_calli0 (σ1 := s2) (r := r1) (a := (.ref (G.1 + q) :: [.ref (G.1 + 25)]).toArray) (rest := []) (mc := 0) (ms := 0) rfl rfl hI ?_ (fun H locs hI => ?_)
  · rcases h1.2 with k9 | k9 | k9 | k9 | k9
    · exact va_runSU (hK.1 0 _ rfl).2 (As := [.ref (G.1 + 25)]) (rest := []) ⟨hx, hb, hml, hown, hts⟩ (m_X9_askMark G l h1 hc2) (va_cwSU 1 hts gX3_askMark_X9_askMark_s26 rfl rfl rfl (by decide +kernel) ⟨Nat.le_of_ble_eq_true rfl, Nat.le_of_ble_eq_true rfl⟩) (z_preV hK hG hI (z_rc (n := 0) hK hI (kd_S h1 k9) (by decide) rfl)) rfl rfl hl.1 rfl (lv_room (Nat.le_of_ble_eq_true rfl)) dX3_askMark_8 ⟨Nat.zero_le _, Nat.zero_le _⟩
    · exact va_runSU (hK.1 1 _ rfl).2 (As := [.ref (G.1 + 25)]) (rest := []) ⟨hx, hb, hml, hown, hts⟩ (m_X9_askMark G l h1 hc2) (va_cwSU 1 hts gX3_askMark_X9_askMark_s26 rfl rfl rfl (by decide +kernel) ⟨Nat.le_of_ble_eq_true rfl, Nat.le_of_ble_eq_true rfl⟩) (z_preV hK hG hI (z_rc (n := 0) hK hI (kd_S h1 k9) (by decide) rfl)) rfl rfl hl.1 rfl (lv_room (Nat.le_of_ble_eq_true rfl)) dX3_askMark_8 ⟨Nat.zero_le _, Nat.zero_le _⟩
    · exact va_runSU (hK.1 2 _ rfl).2 (As := [.ref (G.1 + 25)]) (rest := []) ⟨hx, hb, hml, hown, hts⟩ (m_X9_askMark G l h1 hc2) (va_cwSU 1 hts gX3_askMark_X9_askMark_s26 rfl rfl rfl (by decide +kernel) ⟨Nat.le_of_ble_eq_true rfl, Nat.le_of_ble_eq_true rfl⟩) (z_preV hK hG hI (z_rc (n := 0) hK hI (kd_S h1 k9) (by decide) rfl)) rfl rfl hl.1 rfl (lv_room (Nat.le_of_ble_eq_true rfl)) dX3_askMark_8 ⟨Nat.zero_le _, Nat.zero_le _⟩
    · exact va_runSU (hK.1 3 _ rfl).2 (As := [.ref (G.1 + 25)]) (rest := []) ⟨hx, hb, hml, hown, hts⟩ (m_X9_askMark G l h1 hc2) (va_cwSU 1 hts gX3_askMark_X9_askMark_s26 rfl rfl rfl (by decide +kernel) ⟨Nat.le_of_ble_eq_true rfl, Nat.le_of_ble_eq_true rfl⟩) (z_preV hK hG hI (z_rc (n := 0) hK hI (kd_S h1 k9) (by decide) rfl)) rfl rfl hl.1 rfl (lv_room (Nat.le_of_ble_eq_true rfl)) dX3_askMark_8 ⟨Nat.zero_le _, Nat.zero_le _⟩
    · exact va_runSU (hK.1 7 _ rfl).2 (As := [.ref (G.1 + 25)]) (rest := []) ⟨hx, hb, hml, hown, hts⟩ (m_X9_askMark G l h1 hc2) (va_cwSU 1 hts gX3_askMark_X9_askMark_s26 rfl rfl rfl (by decide +kernel) ⟨Nat.le_of_ble_eq_true rfl, Nat.le_of_ble_eq_true rfl⟩) (z_preV hK hG hI (z_rc (n := 0) hK hI (kd_S h1 k9) (by decide) rfl)) rfl rfl hl.1 rfl (lv_room (Nat.le_of_ble_eq_true rfl)) dX3_askMark_8 ⟨Nat.zero_le _, Nat.zero_le _⟩
  refine lv_istore_n (lv' := [(2, .int r1), (0, .ref (G.1 + q)), (1, .ref (G.1 + 25))]) hx hb dX3_askMark_11 rfl hl (by decide) rfl (fun ls hl => ?_)
  refine lv_iload_n hx hb dX3_askMark_12 rfl (lv_at hl 0 rfl) ?_
  refine lv_aload_n hx hb dX3_askMark_13 rfl (lv_at hl 1 rfl) ?_
  refine lv_aload_n hx hb dX3_askMark_14 rfl (lv_at hl 2 rfl) ?_
  obtain ⟨h2, hf⟩ := ok_c hf
  obtain ⟨s3, r2, hc3, hf⟩ := ok_2 hf
  refine z_calli0 (σ1 := s3) (r := r2) (a := (.ref (G.1 + q) :: [.ref (G.1 + 25)]).toArray) (rest := [.int r1]) (mc := 0) (ms := 0) rfl rfl hI ?_ (fun H locs hI => ?_)
  · unfold v_Grass_askSize at hc3
    by_cases k6 : gK s2 q = 2
    · have hc3 := ok_t k6 hc3
      exact va_runU (As := [.ref (G.1 + 25)]) (rest := [.int r1]) ⟨hx, hb, hml, hown, hts⟩ (m_X2_askSize G l h2 hc3) (va_cwO 1 hts gX3_askMark_X2_askSize_u29X2 rfl rfl rfl (b0 := cX3_askSize) (m0 := 2) (r0 := (some .int)) (by decide +kernel) (by decide +kernel) ⟨Nat.le_of_ble_eq_true rfl, Nat.le_of_ble_eq_true rfl⟩) (z_preV hK hG hI (z_rc (q := q) (ci := 2) (n := 0) hK hI (kd_S h2 k6) (by decide) rfl)) rfl rfl hl.1 rfl (lv_room (Nat.le_of_ble_eq_true rfl)) dX3_askMark_15 ⟨Nat.zero_le _, Nat.zero_le _⟩
    have hc3 := ok_f k6 hc3
    by_cases k7 : gK s2 q = 3
    · have hc3 := ok_t k7 hc3
      exact va_runV (As := [.ref (G.1 + 25)]) (rest := [.int r1]) ⟨hx, hb, hml, hown, hts⟩ (m_X3_askSize G l h2 hc3) (cwV 1 hts gX3_askMark_X3_askSize rfl rfl rfl (by decide +kernel) ⟨Nat.le_of_ble_eq_true rfl, Nat.le_of_ble_eq_true rfl⟩) (z_preV hK hG hI (z_rc (q := q) (ci := 3) (n := 0) hK hI (kd_S h2 k7) (by decide) rfl)) rfl rfl hl.1 rfl (lv_room (Nat.le_of_ble_eq_true rfl)) dX3_askMark_15 ⟨Nat.zero_le _, Nat.zero_le _⟩
    have hc3 := ok_f k7 hc3
    cases hc3
  refine lv_isub hx hb dX3_askMark_18 ?_
  cases hf
  exact z_iret hx hb hr hlk hK hG hI dX3_askMark_19

-- ===== FenceYards$Trace.numberAt(I)I
set_option maxRecDepth 100000 in
theorem i_X10_numberAt_9 : ∀ w ∈ u_ws RX10 TX10 2, w ∈ wsX10_numberAt := by decide +kernel
def f_X10_numberAt (σ : Hp) (x1 : Int32) : Option (Int32) :=
  if x1 < 0 then (some (-1000000)) else (if (gI σ 25 1) ≤ x1 then (some (-1000000)) else (if 16 ≤ x1 then (some (-1000000)) else (chk (inb x1 16) <| some (gI σ 26 (x1.toNatClampNeg)))))
set_option maxRecDepth 100000 in
set_option maxHeartbeats 4000000 in
theorem m_X10_numberAt (G : GT) (l : Launch) {σ : Hp} {x1 : Int32} {r : Int32}  (hf : f_X10_numberAt σ x1 = some r) : MetG G l yX10_numberAt wsX10_numberAt (rmk 0 0) σ [.ref (G.1 + 25), .int x1] (QI G σ r) := by
  refine met_of (cc := cX10_numberAt) (nL := 2) (ret := (some .int)) (by decide) rfl (Nat.le_of_ble_eq_true rfl) ?_
  intro p e s m below meth c C0 hnm hI ls hl
  obtain ⟨hx, hb, hr, hml, hown, hts, hlk, hK, hG⟩ := id C0
  have hl : lv_has ls 2 [(0, .ref (G.1 + 25)), (1, .int x1)] := hl
  unfold f_X10_numberAt at hf
  refine lv_iload_n hx hb dX10_numberAt_0 rfl (lv_at hl 1 rfl) ?_
  refine lv_if_lt (tgt := 30) hx hb dX10_numberAt_1 (by decide) (fun c1 => ?_) (fun c1 => ?_)
  · have hf := ok_t c1 hf
    refine lv_ldc (v := (-1000000)) hx hb hown (hts (.constant RX10 19 (-1000000)) (by decide +kernel)) dX10_numberAt_30 ?_
    cases hf
    exact z_iret hx hb hr hlk hK hG hI dX10_numberAt_32
  · have hf := ok_f c1 hf
    refine lv_iload_n hx hb dX10_numberAt_4 rfl (lv_at hl 1 rfl) ?_
    refine lv_aload_n hx hb dX10_numberAt_5 rfl (lv_at hl 0 rfl) ?_
    refine z_get (C := RX10) (T := TX10) (N := 2) (ci := 9) (v := .int (gI σ 25 1)) hx hb hts i_X10_numberAt_9 hown hK hI 25 rfl (by decide) rfl 1 (by decide) (hts (.fieldLink RX10 15 "FenceYards$Trace" "size" "I") (by decide +kernel)) (fun _ h9 => h9) rfl dX10_numberAt_6 ?_
    refine lv_icmp_ge (tgt := 30) hx hb dX10_numberAt_9 (by decide) (fun c2 => ?_) (fun c2 => ?_)
    · have hf := ok_t c2 hf
      refine lv_ldc (v := (-1000000)) hx hb hown (hts (.constant RX10 19 (-1000000)) (by decide +kernel)) dX10_numberAt_30 ?_
      cases hf
      exact z_iret hx hb hr hlk hK hG hI dX10_numberAt_32
    · have hf := ok_f c2 hf
      refine lv_iload_n hx hb dX10_numberAt_12 rfl (lv_at hl 1 rfl) ?_
      refine lv_aload_n hx hb dX10_numberAt_13 rfl (lv_at hl 0 rfl) ?_
      refine z_get (C := RX10) (T := TX10) (N := 2) (ci := 9) (v := .ref (G.1 + 26)) hx hb hts i_X10_numberAt_9 hown hK hI 25 rfl (by decide) rfl 0 (by decide) (hts (.fieldLink RX10 9 "FenceYards$Trace" "numbers" "[I") (by decide +kernel)) (fun _ h9 => h9) rfl dX10_numberAt_14 ?_
      refine z_alen hx hb hK hI 26 rfl (v := 16) (by decide) dX10_numberAt_17 ?_
      refine lv_icmp_ge (tgt := 30) hx hb dX10_numberAt_18 (by decide) (fun c3 => ?_) (fun c3 => ?_)
      · have hf := ok_t c3 hf
        refine lv_ldc (v := (-1000000)) hx hb hown (hts (.constant RX10 19 (-1000000)) (by decide +kernel)) dX10_numberAt_30 ?_
        cases hf
        exact z_iret hx hb hr hlk hK hG hI dX10_numberAt_32
      · have hf := ok_f c3 hf
        refine lv_aload_n hx hb dX10_numberAt_21 rfl (lv_at hl 0 rfl) ?_
        refine z_get (C := RX10) (T := TX10) (N := 2) (ci := 9) (v := .ref (G.1 + 26)) hx hb hts i_X10_numberAt_9 hown hK hI 25 rfl (by decide) rfl 0 (by decide) (hts (.fieldLink RX10 9 "FenceYards$Trace" "numbers" "[I") (by decide +kernel)) (fun _ h9 => h9) rfl dX10_numberAt_22 ?_
        refine lv_iload_n hx hb dX10_numberAt_25 rfl (lv_at hl 1 rfl) ?_
        obtain ⟨h1, hf⟩ := ok_c hf
        refine z_iald hx hb hK hI 26 (k := x1.toNatClampNeg) rfl h1 rfl dX10_numberAt_26 ?_
        refine lv_goto (tgt := 32) hx hb dX10_numberAt_27 (by decide) ?_
        cases hf
        exact z_iret hx hb hr hlk hK hG hI dX10_numberAt_32

