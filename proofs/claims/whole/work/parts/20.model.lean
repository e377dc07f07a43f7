-- ===== FenceYardsModel.in(III)Z
def f_X12_in (σ : Hp) (x0 : Int32) (x1 : Int32) (x2 : Int32) : Option (Int32) :=
  if x0 < x1 then (some 0) else (if x2 < x0 then (some 0) else (some 1))
set_option maxRecDepth 100000 in
set_option maxHeartbeats 4000000 in
theorem m_X12_in (G : GT) (l : Launch) {σ : Hp} {x0 : Int32} {x1 : Int32} {x2 : Int32} {r : Int32}  (hf : f_X12_in σ x0 x1 x2 = some r) : MetG G l yX12_in wsX12_in (rmk 0 0) σ [.int x0, .int x1, .int x2] (QI G σ r) := by
  refine met_of (cc := cX12_in) (nL := 3) (ret := (some .boolean)) (by decide) rfl (Nat.le_of_ble_eq_true rfl) ?_
  intro p e s m below meth c C0 hnm hI ls hl
  obtain ⟨hx, hb, hr, hml, hown, hts, hlk, hK, hG⟩ := id C0
  have hl : lv_has ls 3 [(0, .int x0), (1, .int x1), (2, .int x2)] := hl
  unfold f_X12_in at hf
  refine lv_iload_n hx hb dX12_in_0 rfl (lv_at hl 0 rfl) ?_
  refine lv_iload_n hx hb dX12_in_1 rfl (lv_at hl 1 rfl) ?_
  refine lv_icmp_lt (tgt := 14) hx hb dX12_in_2 (by decide) (fun c1 => ?_) (fun c1 => ?_)
  · have hf := ok_t c1 hf
    refine lv_iconst (v := 0) hx hb dX12_in_14 (by decide) ?_
    cases hf
    exact z_zret hx hb hr hlk hK hG hI (Or.inl rfl) dX12_in_15
  · have hf := ok_f c1 hf
    refine lv_iload_n hx hb dX12_in_5 rfl (lv_at hl 0 rfl) ?_
    refine lv_iload_n hx hb dX12_in_6 rfl (lv_at hl 2 rfl) ?_
    refine lv_icmp_gt (tgt := 14) hx hb dX12_in_7 (by decide) (fun c2 => ?_) (fun c2 => ?_)
    · have hf := ok_t c2 hf
      refine lv_iconst (v := 0) hx hb dX12_in_14 (by decide) ?_
      cases hf
      exact z_zret hx hb hr hlk hK hG hI (Or.inl rfl) dX12_in_15
    · have hf := ok_f c2 hf
      refine lv_iconst (v := 1) hx hb dX12_in_10 (by decide) ?_
      refine lv_goto (tgt := 15) hx hb dX12_in_11 (by decide) ?_
      cases hf
      exact z_zret hx hb hr hlk hK hG hI (Or.inr rfl) dX12_in_15

-- ===== FenceYardsModel.found(I)I
set_option maxRecDepth 100000 in
theorem i_X12_found_11 : ∀ w ∈ u_ws RX12 TX12 26, w ∈ wsX12_found := by decide +kernel
def f_X12_found (σ : Hp) (x1 : Int32) : Option (Hp × Int32) :=
  some (sI σ 51 6 x1, (-1000010) - x1)
set_option maxRecDepth 100000 in
set_option maxHeartbeats 4000000 in
theorem m_X12_found (G : GT) (l : Launch) {σ : Hp} {x1 : Int32} {σ' : Hp} {r : Int32}  (hf : f_X12_found σ x1 = some (σ', r)) : MetG G l yX12_found wsX12_found (rmk 0 0) σ [.ref (G.1 + 51), .int x1] (QI G σ' r) := by
  refine met_of (cc := cX12_found) (nL := 2) (ret := (some .int)) (by decide) rfl (Nat.le_of_ble_eq_true rfl) ?_
  intro p e s m below meth c C0 hnm hI ls hl
  obtain ⟨hx, hb, hr, hml, hown, hts, hlk, hK, hG⟩ := id C0
  have hl : lv_has ls 2 [(0, .ref (G.1 + 51)), (1, .int x1)] := hl
  unfold f_X12_found at hf
  refine lv_aload_n hx hb dX12_found_0 rfl (lv_at hl 0 rfl) ?_
  refine lv_iload_n hx hb dX12_found_1 rfl (lv_at hl 1 rfl) ?_
  refine z_put (C := RX12) (T := TX12) (N := 26) (ci := 11) (ty := .int) (v := .int x1) hx hb hts i_X12_found_11 tyX12 tyX12_ok nmX12 hown hK hI 51 rfl (by decide) rfl 6 (by decide) (hts (.fieldLink RX12 58 "FenceYardsModel" "status" "I") (by decide +kernel)) (fun _ h9 => h9) rfl (by decide +kernel) rfl rfl (Nat.le_of_ble_eq_true rfl) (set_I hI.2.2.2 rfl (by decide) rfl) rfl hI.2.2.2 dX12_found_2 (fun H locs hI => ?_)
  refine lv_ldc (v := (-1000010)) hx hb hown (hts (.constant RX12 62 (-1000010)) (by decide +kernel)) dX12_found_5 ?_
  refine lv_iload_n hx hb dX12_found_7 rfl (lv_at hl 1 rfl) ?_
  refine lv_isub hx hb dX12_found_8 ?_
  cases hf
  exact z_iret hx hb hr hlk hK hG hI dX12_found_9

-- ===== FenceYardsModel.well(I)I
set_option maxRecDepth 100000 in
theorem i_X12_well_11 : ∀ w ∈ u_ws RX12 TX12 26, w ∈ wsX12_well := by decide +kernel
def f_X12_well (σ : Hp) (x1 : Int32) : Option (Hp × Int32) :=
  some (sI σ 51 6 0, x1)
set_option maxRecDepth 100000 in
set_option maxHeartbeats 4000000 in
theorem m_X12_well (G : GT) (l : Launch) {σ : Hp} {x1 : Int32} {σ' : Hp} {r : Int32}  (hf : f_X12_well σ x1 = some (σ', r)) : MetG G l yX12_well wsX12_well (rmk 0 0) σ [.ref (G.1 + 51), .int x1] (QI G σ' r) := by
  refine met_of (cc := cX12_well) (nL := 2) (ret := (some .int)) (by decide) rfl (Nat.le_of_ble_eq_true rfl) ?_
  intro p e s m below meth c C0 hnm hI ls hl
  obtain ⟨hx, hb, hr, hml, hown, hts, hlk, hK, hG⟩ := id C0
  have hl : lv_has ls 2 [(0, .ref (G.1 + 51)), (1, .int x1)] := hl
  unfold f_X12_well at hf
  refine lv_aload_n hx hb dX12_well_0 rfl (lv_at hl 0 rfl) ?_
  refine lv_iconst (v := 0) hx hb dX12_well_1 (by decide) ?_
  refine z_put (C := RX12) (T := TX12) (N := 26) (ci := 11) (ty := .int) (v := .int 0) hx hb hts i_X12_well_11 tyX12 tyX12_ok nmX12 hown hK hI 51 rfl (by decide) rfl 6 (by decide) (hts (.fieldLink RX12 58 "FenceYardsModel" "status" "I") (by decide +kernel)) (fun _ h9 => h9) rfl (by decide +kernel) rfl rfl (Nat.le_of_ble_eq_true rfl) (set_I hI.2.2.2 rfl (by decide) rfl) rfl hI.2.2.2 dX12_well_2 (fun H locs hI => ?_)
  refine lv_iload_n hx hb dX12_well_5 rfl (lv_at hl 1 rfl) ?_
  cases hf
  exact z_iret hx hb hr hlk hK hG hI dX12_well_6

-- ===== FenceYardsModel.isRow(I)Z
def f_X12_isRow (σ : Hp) (x0 : Int32) : Option (Int32) :=
  bd1 (f_X12_in σ x0 0 7) fun r1 => chk (r1 = 0 ∨ r1 = 1) <| some r1
set_option maxRecDepth 100000 in
set_option maxHeartbeats 4000000 in
theorem m_X12_isRow (G : GT) (l : Launch) {σ : Hp} {x0 : Int32} {r : Int32}  (hf : f_X12_isRow σ x0 = some r) : MetG G l yX12_isRow wsX12_isRow (rmk 1 22) σ [.int x0] (QI G σ r) := by
  refine met_of (cc := cX12_isRow) (nL := 1) (ret := (some .boolean)) (by decide) rfl (Nat.le_of_ble_eq_true rfl) ?_
  intro p e s m below meth c C0 hnm hI ls hl
  obtain ⟨hx, hb, hr, hml, hown, hts, hlk, hK, hG⟩ := id C0
  have hl : lv_has ls 1 [(0, .int x0)] := hl
  unfold f_X12_isRow at hf
  refine lv_iload_n hx hb dX12_isRow_0 rfl (lv_at hl 0 rfl) ?_
  refine lv_iconst (v := 0) hx hb dX12_isRow_1 (by decide) ?_
  refine lv_bipush (v := 7) hx hb dX12_isRow_2 (by decide) ?_
  obtain ⟨r1, hc1, hf⟩ := ok_1 hf
  refine z_calli0 rfl rfl hI (va_runS (As := [.int x0, .int 0, .int 7]) (rest := []) ⟨hx, hb, hml, hown, hts⟩ (m_X12_in G l  hc1) (va_cwS 3 hts gX12_isRow_X12_in rfl rfl rfl (by decide +kernel) ⟨Nat.le_of_ble_eq_true rfl, Nat.le_of_ble_eq_true rfl⟩) (z_pre hK hG hI) rfl rfl hl.1 rfl (lv_room (Nat.le_of_ble_eq_true rfl)) dX12_isRow_4 ⟨Nat.zero_le _, Nat.zero_le _⟩) (fun H locs hI => ?_)
  obtain ⟨h1, hf⟩ := ok_c hf
  cases hf
  exact z_zret hx hb hr hlk hK hG hI h1 dX12_isRow_7

-- ===== FenceYardsModel.row(III)I
set_option maxRecDepth 100000 in
theorem i_X12_row_11 : ∀ w ∈ u_ws RX12 TX12 26, w ∈ wsX12_row := by decide +kernel
def f_X12_row_52    (x1 : Int32) (x3 : Int32) : Nat → Hp → Int32 → Option (Hp × Int32)
  | 0, _, _ => none
  | n + 1, σ, x4 =>
    if 40 ≤ x4 then (bd2 (f_X12_well σ x3) fun s1 r1 => some (s1, r1)) else (chk (inb ((40 * x1) + x4) 320) <| f_X12_row_52 x1 x3 n (sI σ 57 (((40 * x1) + x4).toNatClampNeg) 0) (x4 + 1))
def f_X12_row (σ : Hp) (x1 : Int32) (x2 : Int32) (x3 : Int32) : Option (Hp × Int32) :=
  bd1 (f_X12_isRow σ x1) fun r1 => if r1 = 0 then (some (σ, (-1000001))) else (bd1 (f_X12_in σ x2 0 2) fun r2 => if r2 = 0 then (some (σ, (-1000001))) else (if x3 ≤ 40 then (if 0 ≤ x3 then (chk (inb x1 8) <| chk (inb x1 8) <| f_X12_row_52 x1 x3 fu (sI (sI σ 55 (x1.toNatClampNeg) x2) 56 (x1.toNatClampNeg) x3) 0) else (bd2 (f_X12_found σ 4) fun s1 r3 => some (s1, r3))) else (some (σ, (-1000001)))))
set_option maxRecDepth 100000 in
set_option maxHeartbeats 4000000 in
theorem w_X12_row_52 {G : GT} {p : Program} {l : Launch} {e : Env} {s : State} {m : MethodId} {args : Array Value} {below : List Frame} {meth : Method} {c : Code}  {σ' : Hp} {r : Int32}   {x1 : Int32} {x3 : Int32}  (C0 : Cx G cX12_row RX12 wsX12_row 5 (some .int) p s m args meth c)  :
    ∀ (n : Nat) (σ : Hp) (x4 : Int32), f_X12_row_52 x1 x3 n σ x4 = some (σ', r) → ∀ (H : Heap) (locs : List Loc), Inv G s σ H locs → ∀ ls : Array Slot, lv_has ls 5 [(0, .ref (G.1 + 51)), (1, .int x1), (3, .int x3), (4, .int x4)] → W p l e (rmk 2 42) s m args below meth c H locs 0 0 (MQ below (QI G σ' r) args s (rmk 2 42).cells (rmk 2 42).slots (gA G)) (F0 m 52 ls []) := by
  obtain ⟨hx, hb, hr, hml, hown, hts, hlk, hK, hG⟩ := id C0
  intro n
  induction n with
  | zero =>
    intro σ x4 hf
    cases hf
  | succ n ih =>
    intro σ x4 hf H locs hI ls hl
    rw [f_X12_row_52] at hf
    refine lv_iload hx hb dX12_row_52 (lv_at hl 3 rfl) ?_
    refine lv_bipush (v := 40) hx hb dX12_row_54 (by decide) ?_
    refine lv_icmp_ge (tgt := 78) hx hb dX12_row_56 (by decide) (fun c1 => ?_) (fun c1 => ?_)
    · have hf := ok_t c1 hf
      refine lv_aload_n hx hb dX12_row_78 rfl (lv_at hl 0 rfl) ?_
      refine lv_iload_n hx hb dX12_row_79 rfl (lv_at hl 2 rfl) ?_
      obtain ⟨s1, r1, hc1, hf⟩ := ok_2 hf
      refine z_calli0 rfl rfl hI (va_runV (As := [.int x3]) (rest := []) ⟨hx, hb, hml, hown, hts⟩ (m_X12_well G l  hc1) (cwV 1 hts gX12_row_X12_well rfl rfl rfl (by decide +kernel) ⟨Nat.le_of_ble_eq_true rfl, Nat.le_of_ble_eq_true rfl⟩) (z_preV hK hG hI (z_rc (q := 51) (ci := 11) (n := 0) hK hI rfl (by decide) rfl)) rfl rfl hl.1 rfl (lv_room (Nat.le_of_ble_eq_true rfl)) dX12_row_80 ⟨Nat.zero_le _, Nat.zero_le _⟩) (fun H locs hI => ?_)
      cases hf
      exact z_iret hx hb hr hlk hK hG hI dX12_row_83
    · have hf := ok_f c1 hf
      refine lv_aload_n hx hb dX12_row_59 rfl (lv_at hl 0 rfl) ?_
      refine z_get (C := RX12) (T := TX12) (N := 26) (ci := 11) (v := .ref (G.1 + 57)) hx hb hts i_X12_row_11 hown hK hI 51 rfl (by decide) rfl 5 (by decide) (hts (.fieldLink RX12 26 "FenceYardsModel" "items" "[I") (by decide +kernel)) (fun _ h9 => h9) rfl dX12_row_60 ?_
      refine lv_bipush (v := 40) hx hb dX12_row_63 (by decide) ?_
      refine lv_iload_n hx hb dX12_row_65 rfl (lv_at hl 1 rfl) ?_
      refine lv_imul hx hb dX12_row_66 ?_
      refine lv_iload hx hb dX12_row_67 (lv_at hl 3 rfl) ?_
      refine lv_iadd hx hb dX12_row_69 ?_
      refine lv_iconst (v := 0) hx hb dX12_row_70 (by decide) ?_
      obtain ⟨h1, hf⟩ := ok_c hf
      refine z_iast hx hb hK hI 57 (k := ((40 * x1) + x4).toNatClampNeg) rfl h1 rfl dX12_row_71 (fun H locs hI => ?_)
      refine lv_iinc (v := x4 + 1) (lv' := [(4, .int (x4 + 1)), (0, .ref (G.1 + 51)), (1, .int x1), (3, .int x3)]) hx hb dX12_row_72 hl (k := 3) rfl rfl (by decide) rfl (fun ls hl => ?_)
      refine lv_goto (tgt := 52) hx hb dX12_row_75 (by decide) ?_
      exact ih _ _ hf _ _ hI _ (lv_sub hl [1, 2, 3, 0] rfl)

set_option maxRecDepth 100000 in
set_option maxHeartbeats 4000000 in
theorem m_X12_row (G : GT) (l : Launch) {σ : Hp} {x1 : Int32} {x2 : Int32} {x3 : Int32} {σ' : Hp} {r : Int32}  (hf : f_X12_row σ x1 x2 x3 = some (σ', r)) : MetG G l yX12_row wsX12_row (rmk 2 42) σ [.ref (G.1 + 51), .int x1, .int x2, .int x3] (QI G σ' r) := by
  refine met_of (cc := cX12_row) (nL := 5) (ret := (some .int)) (by decide) rfl (Nat.le_of_ble_eq_true rfl) ?_
  intro p e s m below meth c C0 hnm hI ls hl
  obtain ⟨hx, hb, hr, hml, hown, hts, hlk, hK, hG⟩ := id C0
  have hl : lv_has ls 5 [(0, .ref (G.1 + 51)), (1, .int x1), (2, .int x2), (3, .int x3)] := hl
  unfold f_X12_row at hf
  refine lv_iload_n hx hb dX12_row_0 rfl (lv_at hl 1 rfl) ?_
  obtain ⟨r1, hc1, hf⟩ := ok_1 hf
  refine z_calli0 rfl rfl hI (va_runS (As := [.int x1]) (rest := []) ⟨hx, hb, hml, hown, hts⟩ (m_X12_isRow G l  hc1) (va_cwS 1 hts gX12_row_X12_isRow rfl rfl rfl (by decide +kernel) ⟨Nat.le_of_ble_eq_true rfl, Nat.le_of_ble_eq_true rfl⟩) (z_pre hK hG hI) rfl rfl hl.1 rfl (lv_room (Nat.le_of_ble_eq_true rfl)) dX12_row_1 ⟨Nat.zero_le _, Nat.zero_le _⟩) (fun H locs hI => ?_)
  refine lv_if_eq (tgt := 22) hx hb dX12_row_4 (by decide) (fun c1 => ?_) (fun c1 => ?_)
  · have hf := ok_t c1 hf
    refine lv_ldc (v := (-1000001)) hx hb hown (hts (.constant RX12 71 (-1000001)) (by decide +kernel)) dX12_row_22 ?_
    cases hf
    exact z_iret hx hb hr hlk hK hG hI dX12_row_24
  · have hf := ok_f c1 hf
    refine lv_iload_n hx hb dX12_row_7 rfl (lv_at hl 2 rfl) ?_
    refine lv_iconst (v := 0) hx hb dX12_row_8 (by decide) ?_
    refine lv_iconst (v := 2) hx hb dX12_row_9 (by decide) ?_
    obtain ⟨r2, hc2, hf⟩ := ok_1 hf
    refine z_calli0 rfl rfl hI (va_runS (As := [.int x2, .int 0, .int 2]) (rest := []) ⟨hx, hb, hml, hown, hts⟩ (m_X12_in G l  hc2) (va_cwS 3 hts gX12_row_X12_in rfl rfl rfl (by decide +kernel) ⟨Nat.le_of_ble_eq_true rfl, Nat.le_of_ble_eq_true rfl⟩) (z_pre hK hG hI) rfl rfl hl.1 rfl (lv_room (Nat.le_of_ble_eq_true rfl)) dX12_row_10 ⟨Nat.zero_le _, Nat.zero_le _⟩) (fun H locs hI => ?_)
    refine lv_if_eq (tgt := 22) hx hb dX12_row_13 (by decide) (fun c2 => ?_) (fun c2 => ?_)
    · have hf := ok_t c2 hf
      refine lv_ldc (v := (-1000001)) hx hb hown (hts (.constant RX12 71 (-1000001)) (by decide +kernel)) dX12_row_22 ?_
      cases hf
      exact z_iret hx hb hr hlk hK hG hI dX12_row_24
    · have hf := ok_f c2 hf
      refine lv_iload_n hx hb dX12_row_16 rfl (lv_at hl 3 rfl) ?_
      refine lv_bipush (v := 40) hx hb dX12_row_17 (by decide) ?_
      refine lv_icmp_le (tgt := 25) hx hb dX12_row_19 (by decide) (fun c3 => ?_) (fun c3 => ?_)
      · have hf := ok_t c3 hf
        refine lv_iload_n hx hb dX12_row_25 rfl (lv_at hl 3 rfl) ?_
        refine lv_if_ge (tgt := 35) hx hb dX12_row_26 (by decide) (fun c4 => ?_) (fun c4 => ?_)
        · have hf := ok_t c4 hf
          refine lv_aload_n hx hb dX12_row_35 rfl (lv_at hl 0 rfl) ?_
          refine z_get (C := RX12) (T := TX12) (N := 26) (ci := 11) (v := .ref (G.1 + 55)) hx hb hts i_X12_row_11 hown hK hI 51 rfl (by decide) rfl 3 (by decide) (hts (.fieldLink RX12 20 "FenceYardsModel" "lanes" "[I") (by decide +kernel)) (fun _ h9 => h9) rfl dX12_row_36 ?_
          refine lv_iload_n hx hb dX12_row_39 rfl (lv_at hl 1 rfl) ?_
          refine lv_iload_n hx hb dX12_row_40 rfl (lv_at hl 2 rfl) ?_
          obtain ⟨h1, hf⟩ := ok_c hf
          refine z_iast hx hb hK hI 55 (k := x1.toNatClampNeg) rfl h1 rfl dX12_row_41 (fun H locs hI => ?_)
          refine lv_aload_n hx hb dX12_row_42 rfl (lv_at hl 0 rfl) ?_
          refine z_get (C := RX12) (T := TX12) (N := 26) (ci := 11) (v := .ref (G.1 + 56)) hx hb hts i_X12_row_11 hown hK hI 51 rfl (by decide) rfl 4 (by decide) (hts (.fieldLink RX12 23 "FenceYardsModel" "sizes" "[I") (by decide +kernel)) (fun _ h9 => h9) rfl dX12_row_43 ?_
          refine lv_iload_n hx hb dX12_row_46 rfl (lv_at hl 1 rfl) ?_
          refine lv_iload_n hx hb dX12_row_47 rfl (lv_at hl 3 rfl) ?_
          obtain ⟨h2, hf⟩ := ok_c hf
          refine z_iast hx hb hK hI 56 (k := x1.toNatClampNeg) rfl h2 rfl dX12_row_48 (fun H locs hI => ?_)
          refine lv_iconst (v := 0) hx hb dX12_row_49 (by decide) ?_
          refine lv_istore (lv' := [(4, .int 0), (0, .ref (G.1 + 51)), (1, .int x1), (2, .int x2), (3, .int x3)]) hx hb dX12_row_50 hl (by decide) rfl (fun ls hl => ?_)
          exact w_X12_row_52  C0  _ _ _ hf _ _ hI _ (lv_sub hl [1, 2, 4, 0] rfl)
        · have hf := ok_f c4 hf
          refine lv_aload_n hx hb dX12_row_29 rfl (lv_at hl 0 rfl) ?_
          refine lv_iconst (v := 4) hx hb dX12_row_30 (by decide) ?_
          obtain ⟨s1, r3, hc3, hf⟩ := ok_2 hf
          refine z_calli0 rfl rfl hI (va_runV (As := [.int 4]) (rest := []) ⟨hx, hb, hml, hown, hts⟩ (m_X12_found G l  hc3) (cwV 1 hts gX12_row_X12_found rfl rfl rfl (by decide +kernel) ⟨Nat.le_of_ble_eq_true rfl, Nat.le_of_ble_eq_true rfl⟩) (z_preV hK hG hI (z_rc (q := 51) (ci := 11) (n := 0) hK hI rfl (by decide) rfl)) rfl rfl hl.1 rfl (lv_room (Nat.le_of_ble_eq_true rfl)) dX12_row_31 ⟨Nat.zero_le _, Nat.zero_le _⟩) (fun H locs hI => ?_)
          cases hf
          exact z_iret hx hb hr hlk hK hG hI dX12_row_34
      · have hf := ok_f c3 hf
        refine lv_ldc (v := (-1000001)) hx hb hown (hts (.constant RX12 71 (-1000001)) (by decide +kernel)) dX12_row_22 ?_
        cases hf
        exact z_iret hx hb hr hlk hK hG hI dX12_row_24

-- ===== FenceYardsModel.set(III)I
set_option maxRecDepth 100000 in
theorem i_X12_set_11 : ∀ w ∈ u_ws RX12 TX12 26, w ∈ wsX12_set := by decide +kernel
def f_X12_set (σ : Hp) (x1 : Int32) (x2 : Int32) (x3 : Int32) : Option (Hp × Int32) :=
  bd1 (f_X12_isRow σ x1) fun r1 => if r1 = 0 then (some (σ, (-1000001))) else (chk (inb x1 8) <| if (gI σ 55 (x1.toNatClampNeg)) = (-1000000) then (bd2 (f_X12_found σ 1) fun s5 r7 => some (s5, r7)) else (chk (inb x1 8) <| bd1 (f_X12_in σ x2 0 ((gI σ 56 (x1.toNatClampNeg)) - 1)) fun r2 => if r2 = 0 then (bd2 (f_X12_found σ 2) fun s4 r6 => some (s4, r6)) else (chk (inb x1 8) <| if (gI σ 55 (x1.toNatClampNeg)) = 0 then (bnd (x3.toInt8.toInt32) fun v2 => chk (inb ((40 * x1) + x2) 320) <| bd2 (f_X12_well (sI σ 57 (((40 * x1) + x2).toNatClampNeg) v2) v2) fun s3 r5 => some (s3, r5)) else (chk (inb x1 8) <| if (gI σ 55 (x1.toNatClampNeg)) = 1 then (bnd (x3.toInt16.toInt32) fun v1 => chk (inb ((40 * x1) + x2) 320) <| bd2 (f_X12_well (sI σ 57 (((40 * x1) + x2).toNatClampNeg) v1) v1) fun s2 r4 => some (s2, r4)) else (chk (inb ((40 * x1) + x2) 320) <| bd2 (f_X12_well (sI σ 57 (((40 * x1) + x2).toNatClampNeg) x3) x3) fun s1 r3 => some (s1, r3))))))
set_option maxRecDepth 100000 in
set_option maxHeartbeats 4000000 in
theorem m_X12_set (G : GT) (l : Launch) {σ : Hp} {x1 : Int32} {x2 : Int32} {x3 : Int32} {σ' : Hp} {r : Int32}  (hf : f_X12_set σ x1 x2 x3 = some (σ', r)) : MetG G l yX12_set wsX12_set (rmk 2 42) σ [.ref (G.1 + 51), .int x1, .int x2, .int x3] (QI G σ' r) := by
  refine met_of (cc := cX12_set) (nL := 5) (ret := (some .int)) (by decide) rfl (Nat.le_of_ble_eq_true rfl) ?_
  intro p e s m below meth c C0 hnm hI ls hl
  obtain ⟨hx, hb, hr, hml, hown, hts, hlk, hK, hG⟩ := id C0
  have hl : lv_has ls 5 [(0, .ref (G.1 + 51)), (1, .int x1), (2, .int x2), (3, .int x3)] := hl
  unfold f_X12_set at hf
  refine lv_iload_n hx hb dX12_set_0 rfl (lv_at hl 1 rfl) ?_
  obtain ⟨r1, hc1, hf⟩ := ok_1 hf
  refine z_calli0 rfl rfl hI (va_runS (As := [.int x1]) (rest := []) ⟨hx, hb, hml, hown, hts⟩ (m_X12_isRow G l  hc1) (va_cwS 1 hts gX12_set_X12_isRow rfl rfl rfl (by decide +kernel) ⟨Nat.le_of_ble_eq_true rfl, Nat.le_of_ble_eq_true rfl⟩) (z_pre hK hG hI) rfl rfl hl.1 rfl (lv_room (Nat.le_of_ble_eq_true rfl)) dX12_set_1 ⟨Nat.zero_le _, Nat.zero_le _⟩) (fun H locs hI => ?_)
  refine lv_if_ne (tgt := 10) hx hb dX12_set_4 (by decide) (fun c1 => ?_) (fun c1 => ?_)
  · have hf := ok_f c1 hf
    refine lv_aload_n hx hb dX12_set_10 rfl (lv_at hl 0 rfl) ?_
    refine z_get (C := RX12) (T := TX12) (N := 26) (ci := 11) (v := .ref (G.1 + 55)) hx hb hts i_X12_set_11 hown hK hI 51 rfl (by decide) rfl 3 (by decide) (hts (.fieldLink RX12 20 "FenceYardsModel" "lanes" "[I") (by decide +kernel)) (fun _ h9 => h9) rfl dX12_set_11 ?_
    refine lv_iload_n hx hb dX12_set_14 rfl (lv_at hl 1 rfl) ?_
    obtain ⟨h1, hf⟩ := ok_c hf
    refine z_iald hx hb hK hI 55 (k := x1.toNatClampNeg) rfl h1 rfl dX12_set_15 ?_
    refine lv_ldc (v := (-1000000)) hx hb hown (hts (.constant RX12 57 (-1000000)) (by decide +kernel)) dX12_set_16 ?_
    refine lv_icmp_ne (tgt := 27) hx hb dX12_set_18 (by decide) (fun c2 => ?_) (fun c2 => ?_)
    · have hf := ok_f c2 hf
      refine lv_iload_n hx hb dX12_set_27 rfl (lv_at hl 2 rfl) ?_
      refine lv_iconst (v := 0) hx hb dX12_set_28 (by decide) ?_
      refine lv_aload_n hx hb dX12_set_29 rfl (lv_at hl 0 rfl) ?_
      refine z_get (C := RX12) (T := TX12) (N := 26) (ci := 11) (v := .ref (G.1 + 56)) hx hb hts i_X12_set_11 hown hK hI 51 rfl (by decide) rfl 4 (by decide) (hts (.fieldLink RX12 23 "FenceYardsModel" "sizes" "[I") (by decide +kernel)) (fun _ h9 => h9) rfl dX12_set_30 ?_
      refine lv_iload_n hx hb dX12_set_33 rfl (lv_at hl 1 rfl) ?_
      obtain ⟨h2, hf⟩ := ok_c hf
      refine z_iald hx hb hK hI 56 (k := x1.toNatClampNeg) rfl h2 rfl dX12_set_34 ?_
      refine lv_iconst (v := 1) hx hb dX12_set_35 (by decide) ?_
      refine lv_isub hx hb dX12_set_36 ?_
      obtain ⟨r2, hc2, hf⟩ := ok_1 hf
      refine z_calli0 rfl rfl hI (va_runS (As := [.int x2, .int 0, .int ((gI σ 56 (x1.toNatClampNeg)) - 1)]) (rest := []) ⟨hx, hb, hml, hown, hts⟩ (m_X12_in G l  hc2) (va_cwS 3 hts gX12_set_X12_in rfl rfl rfl (by decide +kernel) ⟨Nat.le_of_ble_eq_true rfl, Nat.le_of_ble_eq_true rfl⟩) (z_pre hK hG hI) rfl rfl hl.1 rfl (lv_room (Nat.le_of_ble_eq_true rfl)) dX12_set_37 ⟨Nat.zero_le _, Nat.zero_le _⟩) (fun H locs hI => ?_)
      refine lv_if_ne (tgt := 49) hx hb dX12_set_40 (by decide) (fun c3 => ?_) (fun c3 => ?_)
      · have hf := ok_f c3 hf
        refine lv_aload_n hx hb dX12_set_49 rfl (lv_at hl 0 rfl) ?_
        refine z_get (C := RX12) (T := TX12) (N := 26) (ci := 11) (v := .ref (G.1 + 55)) hx hb hts i_X12_set_11 hown hK hI 51 rfl (by decide) rfl 3 (by decide) (hts (.fieldLink RX12 20 "FenceYardsModel" "lanes" "[I") (by decide +kernel)) (fun _ h9 => h9) rfl dX12_set_50 ?_
        refine lv_iload_n hx hb dX12_set_53 rfl (lv_at hl 1 rfl) ?_
        obtain ⟨h3, hf⟩ := ok_c hf
        refine z_iald hx hb hK hI 55 (k := x1.toNatClampNeg) rfl h3 rfl dX12_set_54 ?_
        refine lv_if_ne (tgt := 63) hx hb dX12_set_55 (by decide) (fun c4 => ?_) (fun c4 => ?_)
        · have hf := ok_f c4 hf
          refine lv_aload_n hx hb dX12_set_63 rfl (lv_at hl 0 rfl) ?_
          refine z_get (C := RX12) (T := TX12) (N := 26) (ci := 11) (v := .ref (G.1 + 55)) hx hb hts i_X12_set_11 hown hK hI 51 rfl (by decide) rfl 3 (by decide) (hts (.fieldLink RX12 20 "FenceYardsModel" "lanes" "[I") (by decide +kernel)) (fun _ h9 => h9) rfl dX12_set_64 ?_
          refine lv_iload_n hx hb dX12_set_67 rfl (lv_at hl 1 rfl) ?_
          obtain ⟨h4, hf⟩ := ok_c hf
          refine z_iald hx hb hK hI 55 (k := x1.toNatClampNeg) rfl h4 rfl dX12_set_68 ?_
          refine lv_iconst (v := 1) hx hb dX12_set_69 (by decide) ?_
          refine lv_icmp_ne (tgt := 78) hx hb dX12_set_70 (by decide) (fun c5 => ?_) (fun c5 => ?_)
          · have hf := ok_f c5 hf
            refine lv_iload_n hx hb dX12_set_78 rfl (lv_at hl 3 rfl) ?_
            refine lv_istore (lv' := [(4, .int x3), (0, .ref (G.1 + 51)), (1, .int x1), (2, .int x2), (3, .int x3)]) hx hb dX12_set_79 hl (by decide) rfl (fun ls hl => ?_)
            refine lv_aload_n hx hb dX12_set_81 rfl (lv_at hl 1 rfl) ?_
            refine z_get (C := RX12) (T := TX12) (N := 26) (ci := 11) (v := .ref (G.1 + 57)) hx hb hts i_X12_set_11 hown hK hI 51 rfl (by decide) rfl 5 (by decide) (hts (.fieldLink RX12 26 "FenceYardsModel" "items" "[I") (by decide +kernel)) (fun _ h9 => h9) rfl dX12_set_82 ?_
            refine lv_bipush (v := 40) hx hb dX12_set_85 (by decide) ?_
            refine lv_iload_n hx hb dX12_set_87 rfl (lv_at hl 2 rfl) ?_
            refine lv_imul hx hb dX12_set_88 ?_
            refine lv_iload_n hx hb dX12_set_89 rfl (lv_at hl 3 rfl) ?_
            refine lv_iadd hx hb dX12_set_90 ?_
            refine lv_iload hx hb dX12_set_91 (lv_at hl 0 rfl) ?_
            obtain ⟨h5, hf⟩ := ok_c hf
            refine z_iast hx hb hK hI 57 (k := ((40 * x1) + x2).toNatClampNeg) rfl h5 rfl dX12_set_93 (fun H locs hI => ?_)
            refine lv_aload_n hx hb dX12_set_94 rfl (lv_at hl 1 rfl) ?_
            refine lv_iload hx hb dX12_set_95 (lv_at hl 0 rfl) ?_
            obtain ⟨s1, r3, hc3, hf⟩ := ok_2 hf
            refine z_calli0 rfl rfl hI (va_runV (As := [.int x3]) (rest := []) ⟨hx, hb, hml, hown, hts⟩ (m_X12_well G l  hc3) (cwV 1 hts gX12_set_X12_well rfl rfl rfl (by decide +kernel) ⟨Nat.le_of_ble_eq_true rfl, Nat.le_of_ble_eq_true rfl⟩) (z_preV hK hG hI (z_rc (q := 51) (ci := 11) (n := 0) hK hI rfl (by decide) rfl)) rfl rfl hl.1 rfl (lv_room (Nat.le_of_ble_eq_true rfl)) dX12_set_97 ⟨Nat.zero_le _, Nat.zero_le _⟩) (fun H locs hI => ?_)
            cases hf
            exact z_iret hx hb hr hlk hK hG hI dX12_set_100
          · have hf := ok_t c5 hf
            refine lv_iload_n hx hb dX12_set_73 rfl (lv_at hl 3 rfl) ?_
            refine lv_i2s hx hb dX12_set_74 rfl ?_
            refine lv_goto (tgt := 79) hx hb dX12_set_75 (by decide) ?_
            refine lv_topi (fun v1 ev1 => ?_)
            have hf := ok_n hf ev1
            refine lv_istore (lv' := [(4, .int v1), (0, .ref (G.1 + 51)), (1, .int x1), (2, .int x2), (3, .int x3)]) hx hb dX12_set_79 hl (by decide) rfl (fun ls hl => ?_)
            refine lv_aload_n hx hb dX12_set_81 rfl (lv_at hl 1 rfl) ?_
            refine z_get (C := RX12) (T := TX12) (N := 26) (ci := 11) (v := .ref (G.1 + 57)) hx hb hts i_X12_set_11 hown hK hI 51 rfl (by decide) rfl 5 (by decide) (hts (.fieldLink RX12 26 "FenceYardsModel" "items" "[I") (by decide +kernel)) (fun _ h9 => h9) rfl dX12_set_82 ?_
            refine lv_bipush (v := 40) hx hb dX12_set_85 (by decide) ?_
            refine lv_iload_n hx hb dX12_set_87 rfl (lv_at hl 2 rfl) ?_
            refine lv_imul hx hb dX12_set_88 ?_
            refine lv_iload_n hx hb dX12_set_89 rfl (lv_at hl 3 rfl) ?_
            refine lv_iadd hx hb dX12_set_90 ?_
            refine lv_iload hx hb dX12_set_91 (lv_at hl 0 rfl) ?_
            obtain ⟨h6, hf⟩ := ok_c hf
            refine z_iast hx hb hK hI 57 (k := ((40 * x1) + x2).toNatClampNeg) rfl h6 rfl dX12_set_93 (fun H locs hI => ?_)
            refine lv_aload_n hx hb dX12_set_94 rfl (lv_at hl 1 rfl) ?_
            refine lv_iload hx hb dX12_set_95 (lv_at hl 0 rfl) ?_
            obtain ⟨s2, r4, hc4, hf⟩ := ok_2 hf
            refine z_calli0 rfl rfl hI (va_runV (As := [.int v1]) (rest := []) ⟨hx, hb, hml, hown, hts⟩ (m_X12_well G l  hc4) (cwV 1 hts gX12_set_X12_well rfl rfl rfl (by decide +kernel) ⟨Nat.le_of_ble_eq_true rfl, Nat.le_of_ble_eq_true rfl⟩) (z_preV hK hG hI (z_rc (q := 51) (ci := 11) (n := 0) hK hI rfl (by decide) rfl)) rfl rfl hl.1 rfl (lv_room (Nat.le_of_ble_eq_true rfl)) dX12_set_97 ⟨Nat.zero_le _, Nat.zero_le _⟩) (fun H locs hI => ?_)
            cases hf
            exact z_iret hx hb hr hlk hK hG hI dX12_set_100
        · have hf := ok_t c4 hf
          refine lv_iload_n hx hb dX12_set_58 rfl (lv_at hl 3 rfl) ?_
          refine lv_i2b hx hb dX12_set_59 rfl ?_
          refine lv_goto (tgt := 79) hx hb dX12_set_60 (by decide) ?_
          refine lv_topi (fun v2 ev2 => ?_)
          have hf := ok_n hf ev2
          refine lv_istore (lv' := [(4, .int v2), (0, .ref (G.1 + 51)), (1, .int x1), (2, .int x2), (3, .int x3)]) hx hb dX12_set_79 hl (by decide) rfl (fun ls hl => ?_)
          refine lv_aload_n hx hb dX12_set_81 rfl (lv_at hl 1 rfl) ?_
          refine z_get (C := RX12) (T := TX12) (N := 26) (ci := 11) (v := .ref (G.1 + 57)) hx hb hts i_X12_set_11 hown hK hI 51 rfl (by decide) rfl 5 (by decide) (hts (.fieldLink RX12 26 "FenceYardsModel" "items" "[I") (by decide +kernel)) (fun _ h9 => h9) rfl dX12_set_82 ?_
          refine lv_bipush (v := 40) hx hb dX12_set_85 (by decide) ?_
          refine lv_iload_n hx hb dX12_set_87 rfl (lv_at hl 2 rfl) ?_
          refine lv_imul hx hb dX12_set_88 ?_
          refine lv_iload_n hx hb dX12_set_89 rfl (lv_at hl 3 rfl) ?_
          refine lv_iadd hx hb dX12_set_90 ?_
          refine lv_iload hx hb dX12_set_91 (lv_at hl 0 rfl) ?_
          obtain ⟨h7, hf⟩ := ok_c hf
          refine z_iast hx hb hK hI 57 (k := ((40 * x1) + x2).toNatClampNeg) rfl h7 rfl dX12_set_93 (fun H locs hI => ?_)
          refine lv_aload_n hx hb dX12_set_94 rfl (lv_at hl 1 rfl) ?_
          refine lv_iload hx hb dX12_set_95 (lv_at hl 0 rfl) ?_
          obtain ⟨s3, r5, hc5, hf⟩ := ok_2 hf
          refine z_calli0 rfl rfl hI (va_runV (As := [.int v2]) (rest := []) ⟨hx, hb, hml, hown, hts⟩ (m_X12_well G l  hc5) (cwV 1 hts gX12_set_X12_well rfl rfl rfl (by decide +kernel) ⟨Nat.le_of_ble_eq_true rfl, Nat.le_of_ble_eq_true rfl⟩) (z_preV hK hG hI (z_rc (q := 51) (ci := 11) (n := 0) hK hI rfl (by decide) rfl)) rfl rfl hl.1 rfl (lv_room (Nat.le_of_ble_eq_true rfl)) dX12_set_97 ⟨Nat.zero_le _, Nat.zero_le _⟩) (fun H locs hI => ?_)
          cases hf
          exact z_iret hx hb hr hlk hK hG hI dX12_set_100
      · have hf := ok_t c3 hf
        refine lv_aload_n hx hb dX12_set_43 rfl (lv_at hl 0 rfl) ?_
        refine lv_iconst (v := 2) hx hb dX12_set_44 (by decide) ?_
        obtain ⟨s4, r6, hc6, hf⟩ := ok_2 hf
        refine z_calli0 rfl rfl hI (va_runV (As := [.int 2]) (rest := []) ⟨hx, hb, hml, hown, hts⟩ (m_X12_found G l  hc6) (cwV 1 hts gX12_set_X12_found rfl rfl rfl (by decide +kernel) ⟨Nat.le_of_ble_eq_true rfl, Nat.le_of_ble_eq_true rfl⟩) (z_preV hK hG hI (z_rc (q := 51) (ci := 11) (n := 0) hK hI rfl (by decide) rfl)) rfl rfl hl.1 rfl (lv_room (Nat.le_of_ble_eq_true rfl)) dX12_set_45 ⟨Nat.zero_le _, Nat.zero_le _⟩) (fun H locs hI => ?_)
        cases hf
        exact z_iret hx hb hr hlk hK hG hI dX12_set_48
    · have hf := ok_t c2 hf
      refine lv_aload_n hx hb dX12_set_21 rfl (lv_at hl 0 rfl) ?_
      refine lv_iconst (v := 1) hx hb dX12_set_22 (by decide) ?_
      obtain ⟨s5, r7, hc7, hf⟩ := ok_2 hf
      refine z_calli0 rfl rfl hI (va_runV (As := [.int 1]) (rest := []) ⟨hx, hb, hml, hown, hts⟩ (m_X12_found G l  hc7) (cwV 1 hts gX12_set_X12_found rfl rfl rfl (by decide +kernel) ⟨Nat.le_of_ble_eq_true rfl, Nat.le_of_ble_eq_true rfl⟩) (z_preV hK hG hI (z_rc (q := 51) (ci := 11) (n := 0) hK hI rfl (by decide) rfl)) rfl rfl hl.1 rfl (lv_room (Nat.le_of_ble_eq_true rfl)) dX12_set_23 ⟨Nat.zero_le _, Nat.zero_le _⟩) (fun H locs hI => ?_)
      cases hf
      exact z_iret hx hb hr hlk hK hG hI dX12_set_26
  · have hf := ok_t c1 hf
    refine lv_ldc (v := (-1000001)) hx hb hown (hts (.constant RX12 71 (-1000001)) (by decide +kernel)) dX12_set_7 ?_
    cases hf
    exact z_iret hx hb hr hlk hK hG hI dX12_set_9

-- ===== FenceYardsModel.isSpan(III)Z
set_option maxRecDepth 100000 in
theorem i_X12_isSpan_11 : ∀ w ∈ u_ws RX12 TX12 26, w ∈ wsX12_isSpan := by decide +kernel
def f_X12_isSpan (σ : Hp) (x1 : Int32) (x2 : Int32) (x3 : Int32) : Option (Int32) :=
  if x2 < 0 then (some 0) else (if x3 < 0 then (some 0) else (chk (inb x1 8) <| if 0 < (lg_cmp ((x2.toInt64) + (x3.toInt64)) ((gI σ 56 (x1.toNatClampNeg)).toInt64)) then (some 0) else (some 1)))
set_option maxRecDepth 100000 in
set_option maxHeartbeats 4000000 in
theorem m_X12_isSpan (G : GT) (l : Launch) {σ : Hp} {x1 : Int32} {x2 : Int32} {x3 : Int32} {r : Int32}  (hf : f_X12_isSpan σ x1 x2 x3 = some r) : MetG G l yX12_isSpan wsX12_isSpan (rmk 0 0) σ [.ref (G.1 + 51), .int x1, .int x2, .int x3] (QI G σ r) := by
  refine met_of (cc := cX12_isSpan) (nL := 4) (ret := (some .boolean)) (by decide) rfl (Nat.le_of_ble_eq_true rfl) ?_
  intro p e s m below meth c C0 hnm hI ls hl
  obtain ⟨hx, hb, hr, hml, hown, hts, hlk, hK, hG⟩ := id C0
  have hl : lv_has ls 4 [(0, .ref (G.1 + 51)), (1, .int x1), (2, .int x2), (3, .int x3)] := hl
  unfold f_X12_isSpan at hf
  refine lv_iload_n hx hb dX12_isSpan_0 rfl (lv_at hl 2 rfl) ?_
  refine lv_if_lt (tgt := 28) hx hb dX12_isSpan_1 (by decide) (fun c1 => ?_) (fun c1 => ?_)
  · have hf := ok_t c1 hf
    refine lv_iconst (v := 0) hx hb dX12_isSpan_28 (by decide) ?_
    cases hf
    exact z_zret hx hb hr hlk hK hG hI (Or.inl rfl) dX12_isSpan_29
  · have hf := ok_f c1 hf
    refine lv_iload_n hx hb dX12_isSpan_4 rfl (lv_at hl 3 rfl) ?_
    refine lv_if_lt (tgt := 28) hx hb dX12_isSpan_5 (by decide) (fun c2 => ?_) (fun c2 => ?_)
    · have hf := ok_t c2 hf
      refine lv_iconst (v := 0) hx hb dX12_isSpan_28 (by decide) ?_
      cases hf
      exact z_zret hx hb hr hlk hK hG hI (Or.inl rfl) dX12_isSpan_29
    · have hf := ok_f c2 hf
      refine lv_iload_n hx hb dX12_isSpan_8 rfl (lv_at hl 2 rfl) ?_
      refine lv_i2l hx hb dX12_isSpan_9 rfl ?_
      refine lv_iload_n hx hb dX12_isSpan_10 rfl (lv_at hl 3 rfl) ?_
      refine lv_i2l hx hb dX12_isSpan_11 rfl ?_
      refine lv_ladd hx hb dX12_isSpan_12 ?_
      refine lv_aload_n hx hb dX12_isSpan_13 rfl (lv_at hl 0 rfl) ?_
      refine z_get (C := RX12) (T := TX12) (N := 26) (ci := 11) (v := .ref (G.1 + 56)) hx hb hts i_X12_isSpan_11 hown hK hI 51 rfl (by decide) rfl 4 (by decide) (hts (.fieldLink RX12 23 "FenceYardsModel" "sizes" "[I") (by decide +kernel)) (fun _ h9 => h9) rfl dX12_isSpan_14 ?_
      refine lv_iload_n hx hb dX12_isSpan_17 rfl (lv_at hl 1 rfl) ?_
      obtain ⟨h1, hf⟩ := ok_c hf
      refine z_iald hx hb hK hI 56 (k := x1.toNatClampNeg) rfl h1 rfl dX12_isSpan_18 ?_
      refine lv_i2l hx hb dX12_isSpan_19 rfl ?_
      refine W.lcmp hx hb dX12_isSpan_20 ?_
      refine lv_if_gt (tgt := 28) hx hb dX12_isSpan_21 (by decide) (fun c3 => ?_) (fun c3 => ?_)
      · have hf := ok_t c3 hf
        refine lv_iconst (v := 0) hx hb dX12_isSpan_28 (by decide) ?_
        cases hf
        exact z_zret hx hb hr hlk hK hG hI (Or.inl rfl) dX12_isSpan_29
      · have hf := ok_f c3 hf
        refine lv_iconst (v := 1) hx hb dX12_isSpan_24 (by decide) ?_
        refine lv_goto (tgt := 29) hx hb dX12_isSpan_25 (by decide) ?_
        cases hf
        exact z_zret hx hb hr hlk hK hG hI (Or.inr rfl) dX12_isSpan_29

-- ===== FenceYardsModel.copy(IIIII)I
set_option maxRecDepth 100000 in
theorem i_X12_copy_11 : ∀ w ∈ u_ws RX12 TX12 26, w ∈ wsX12_copy := by decide +kernel
def f_X12_copy_123 (k98 : Hp → Int32 → Option (Hp × Int32))  (σ : Hp) (x1 : Int32) (x2 : Int32) (x3 : Int32) (x4 : Int32) (x5 : Int32) (x6 : Int32) (tx0 : Int32) : Option (Hp × Int32) :=
  chk (inb (((40 * x1) + x2) + tx0) 320) <| chk (inb (((40 * x3) + x4) + tx0) 320) <| bnd (sI σ 57 ((((40 * x3) + x4) + tx0).toNatClampNeg) (gI σ 57 ((((40 * x1) + x2) + tx0).toNatClampNeg))) fun s1 => k98 s1 (x6 + 1)
def f_X12_copy_98    (x1 : Int32) (x2 : Int32) (x3 : Int32) (x4 : Int32) (x5 : Int32) : Nat → Hp → Int32 → Option (Hp × Int32)
  | 0, _, _ => none
  | n + 1, σ, x6 =>
    if x5 ≤ x6 then (bd2 (f_X12_well σ x5) fun s1 r1 => some (s1, r1)) else (if x2 ≤ x4 then (f_X12_copy_123 (f_X12_copy_98 x1 x2 x3 x4 x5 n) σ x1 x2 x3 x4 x5 x6 ((x5 - 1) - x6)) else (f_X12_copy_123 (f_X12_copy_98 x1 x2 x3 x4 x5 n) σ x1 x2 x3 x4 x5 x6 x6))
def f_X12_copy (σ : Hp) (x1 : Int32) (x2 : Int32) (x3 : Int32) (x4 : Int32) (x5 : Int32) : Option (Hp × Int32) :=
  bd1 (f_X12_isRow σ x1) fun r1 => if r1 = 0 then (some (σ, (-1000001))) else (bd1 (f_X12_isRow σ x3) fun r2 => if r2 = 0 then (some (σ, (-1000001))) else (chk (inb x1 8) <| if (gI σ 55 (x1.toNatClampNeg)) = (-1000000) then (bd2 (f_X12_found σ 1) fun s1 r3 => some (s1, r3)) else (chk (inb x3 8) <| if (gI σ 55 (x3.toNatClampNeg)) = (-1000000) then (bd2 (f_X12_found σ 1) fun s5 r9 => some (s5, r9)) else (chk (inb x1 8) <| chk (inb x3 8) <| if (gI σ 55 (x1.toNatClampNeg)) = (gI σ 55 (x3.toNatClampNeg)) then (bd1 (f_X12_isSpan σ x1 x2 x5) fun r4 => if r4 = 0 then (bd2 (f_X12_found σ 2) fun s2 r5 => some (s2, r5)) else (bd1 (f_X12_isSpan σ x3 x4 x5) fun r6 => if r6 = 0 then (bd2 (f_X12_found σ 2) fun s3 r7 => some (s3, r7)) else (f_X12_copy_98 x1 x2 x3 x4 x5 fu σ 0))) else (bd2 (f_X12_found σ 5) fun s4 r8 => some (s4, r8))))))
set_option maxRecDepth 100000 in
set_option maxHeartbeats 4000000 in
theorem w_X12_copy_123 {G : GT} {p : Program} {l : Launch} {e : Env} {s : State} {m : MethodId} {args : Array Value} {below : List Frame} {meth : Method} {c : Code}  {σ' : Hp} {r : Int32} {k98 : Hp → Int32 → Option (Hp × Int32)} {σ : Hp} {x1 : Int32} {x2 : Int32} {x3 : Int32} {x4 : Int32} {x5 : Int32} {x6 : Int32} {tx0 : Int32}  (C0 : Cx G cX12_copy RX12 wsX12_copy 8 (some .int) p s m args meth c) (hk98 : ∀ (σ : Hp) (x6 : Int32), k98 σ x6 = some (σ', r) → ∀ (H : Heap) (locs : List Loc), Inv G s σ H locs → ∀ ls : Array Slot, lv_has ls 8 [(0, .ref (G.1 + 51)), (1, .int x1), (2, .int x2), (3, .int x3), (4, .int x4), (5, .int x5), (6, .int x6)] → W p l e (rmk 2 42) s m args below meth c H locs 0 0 (MQ below (QI G σ' r) args s (rmk 2 42).cells (rmk 2 42).slots (gA G)) (F0 m 98 ls [])) (hf : f_X12_copy_123 k98 σ x1 x2 x3 x4 x5 x6 tx0 = some (σ', r)) {H : Heap} {locs : List Loc} (hI : Inv G s σ H locs) {ls : Array Slot} (hl : lv_has ls 8 [(0, .ref (G.1 + 51)), (1, .int x1), (2, .int x2), (3, .int x3), (4, .int x4), (5, .int x5), (6, .int x6)]) : W p l e (rmk 2 42) s m args below meth c H locs 0 0 (MQ below (QI G σ' r) args s (rmk 2 42).cells (rmk 2 42).slots (gA G)) (F0 m 123 ls [.int tx0]) := by
  obtain ⟨hx, hb, hr, hml, hown, hts, hlk, hK, hG⟩ := id C0
  unfold f_X12_copy_123 at hf
  refine lv_istore (lv' := [(7, .int tx0), (0, .ref (G.1 + 51)), (1, .int x1), (2, .int x2), (3, .int x3), (4, .int x4), (5, .int x5), (6, .int x6)]) hx hb dX12_copy_123 hl (by decide) rfl (fun ls hl => ?_)
  refine lv_aload_n hx hb dX12_copy_125 rfl (lv_at hl 1 rfl) ?_
  refine z_get (C := RX12) (T := TX12) (N := 26) (ci := 11) (v := .ref (G.1 + 57)) hx hb hts i_X12_copy_11 hown hK hI 51 rfl (by decide) rfl 5 (by decide) (hts (.fieldLink RX12 26 "FenceYardsModel" "items" "[I") (by decide +kernel)) (fun _ h9 => h9) rfl dX12_copy_126 ?_
  refine lv_bipush (v := 40) hx hb dX12_copy_129 (by decide) ?_
  refine lv_iload_n hx hb dX12_copy_131 rfl (lv_at hl 4 rfl) ?_
  refine lv_imul hx hb dX12_copy_132 ?_
  refine lv_iload hx hb dX12_copy_133 (lv_at hl 5 rfl) ?_
  refine lv_iadd hx hb dX12_copy_135 ?_
  refine lv_iload hx hb dX12_copy_136 (lv_at hl 0 rfl) ?_
  refine lv_iadd hx hb dX12_copy_138 ?_
  refine lv_aload_n hx hb dX12_copy_139 rfl (lv_at hl 1 rfl) ?_
  refine z_get (C := RX12) (T := TX12) (N := 26) (ci := 11) (v := .ref (G.1 + 57)) hx hb hts i_X12_copy_11 hown hK hI 51 rfl (by decide) rfl 5 (by decide) (hts (.fieldLink RX12 26 "FenceYardsModel" "items" "[I") (by decide +kernel)) (fun _ h9 => h9) rfl dX12_copy_140 ?_
  refine lv_bipush (v := 40) hx hb dX12_copy_143 (by decide) ?_
  refine lv_iload_n hx hb dX12_copy_145 rfl (lv_at hl 2 rfl) ?_
  refine lv_imul hx hb dX12_copy_146 ?_
  refine lv_iload_n hx hb dX12_copy_147 rfl (lv_at hl 3 rfl) ?_
  refine lv_iadd hx hb dX12_copy_148 ?_
  refine lv_iload hx hb dX12_copy_149 (lv_at hl 0 rfl) ?_
  refine lv_iadd hx hb dX12_copy_151 ?_
  obtain ⟨h1, hf⟩ := ok_c hf
  refine z_iald hx hb hK hI 57 (k := (((40 * x1) + x2) + tx0).toNatClampNeg) rfl h1 rfl dX12_copy_152 ?_
  obtain ⟨h2, hf⟩ := ok_c hf
  refine z_iast hx hb hK hI 57 (k := (((40 * x3) + x4) + tx0).toNatClampNeg) rfl h2 rfl dX12_copy_153 (fun H locs hI => ?_)
  obtain ⟨s1, es1⟩ : ∃ z, z = sI σ 57 ((((40 * x3) + x4) + tx0).toNatClampNeg) (gI σ 57 ((((40 * x1) + x2) + tx0).toNatClampNeg)) := ⟨_, rfl⟩
  have hI : Inv G s s1 H locs := by rw [es1]; exact hI
  have hf := ok_n hf es1
  refine lv_iinc (v := x6 + 1) (lv' := [(6, .int (x6 + 1)), (7, .int tx0), (0, .ref (G.1 + 51)), (1, .int x1), (2, .int x2), (3, .int x3), (4, .int x4), (5, .int x5)]) hx hb dX12_copy_154 hl (k := 7) rfl rfl (by decide) rfl (fun ls hl => ?_)
  refine lv_goto (tgt := 98) hx hb dX12_copy_157 (by decide) ?_
  exact hk98 _ _ hf _ _ hI _ (lv_sub hl [2, 3, 4, 5, 6, 7, 0] rfl)

set_option maxRecDepth 100000 in
set_option maxHeartbeats 4000000 in
theorem w_X12_copy_98 {G : GT} {p : Program} {l : Launch} {e : Env} {s : State} {m : MethodId} {args : Array Value} {below : List Frame} {meth : Method} {c : Code}  {σ' : Hp} {r : Int32}   {x1 : Int32} {x2 : Int32} {x3 : Int32} {x4 : Int32} {x5 : Int32}  (C0 : Cx G cX12_copy RX12 wsX12_copy 8 (some .int) p s m args meth c)  :
    ∀ (n : Nat) (σ : Hp) (x6 : Int32), f_X12_copy_98 x1 x2 x3 x4 x5 n σ x6 = some (σ', r) → ∀ (H : Heap) (locs : List Loc), Inv G s σ H locs → ∀ ls : Array Slot, lv_has ls 8 [(0, .ref (G.1 + 51)), (1, .int x1), (2, .int x2), (3, .int x3), (4, .int x4), (5, .int x5), (6, .int x6)] → W p l e (rmk 2 42) s m args below meth c H locs 0 0 (MQ below (QI G σ' r) args s (rmk 2 42).cells (rmk 2 42).slots (gA G)) (F0 m 98 ls []) := by
  obtain ⟨hx, hb, hr, hml, hown, hts, hlk, hK, hG⟩ := id C0
  intro n
  induction n with
  | zero =>
    intro σ x6 hf
    cases hf
  | succ n ih =>
    intro σ x6 hf H locs hI ls hl
    rw [f_X12_copy_98] at hf
    refine lv_iload hx hb dX12_copy_98 (lv_at hl 6 rfl) ?_
    refine lv_iload hx hb dX12_copy_100 (lv_at hl 5 rfl) ?_
    refine lv_icmp_ge (tgt := 160) hx hb dX12_copy_102 (by decide) (fun c1 => ?_) (fun c1 => ?_)
    · have hf := ok_t c1 hf
      refine lv_aload_n hx hb dX12_copy_160 rfl (lv_at hl 0 rfl) ?_
      refine lv_iload hx hb dX12_copy_161 (lv_at hl 5 rfl) ?_
      obtain ⟨s1, r1, hc1, hf⟩ := ok_2 hf
      refine z_calli0 rfl rfl hI (va_runV (As := [.int x5]) (rest := []) ⟨hx, hb, hml, hown, hts⟩ (m_X12_well G l  hc1) (cwV 1 hts gX12_copy_X12_well rfl rfl rfl (by decide +kernel) ⟨Nat.le_of_ble_eq_true rfl, Nat.le_of_ble_eq_true rfl⟩) (z_preV hK hG hI (z_rc (q := 51) (ci := 11) (n := 0) hK hI rfl (by decide) rfl)) rfl rfl hl.1 rfl (lv_room (Nat.le_of_ble_eq_true rfl)) dX12_copy_163 ⟨Nat.zero_le _, Nat.zero_le _⟩) (fun H locs hI => ?_)
      cases hf
      exact z_iret hx hb hr hlk hK hG hI dX12_copy_166
    · have hf := ok_f c1 hf
      refine lv_iload_n hx hb dX12_copy_105 rfl (lv_at hl 2 rfl) ?_
      refine lv_iload hx hb dX12_copy_106 (lv_at hl 4 rfl) ?_
      refine lv_icmp_le (tgt := 116) hx hb dX12_copy_108 (by decide) (fun c2 => ?_) (fun c2 => ?_)
      · have hf := ok_t c2 hf
        refine lv_iload hx hb dX12_copy_116 (lv_at hl 5 rfl) ?_
        refine lv_iconst (v := 1) hx hb dX12_copy_118 (by decide) ?_
        refine lv_isub hx hb dX12_copy_119 ?_
        refine lv_iload hx hb dX12_copy_120 (lv_at hl 6 rfl) ?_
        refine lv_isub hx hb dX12_copy_122 ?_
        exact w_X12_copy_123  C0 ih hf hI (lv_sub hl [0, 1, 2, 3, 4, 5, 6] rfl)
      · have hf := ok_f c2 hf
        refine lv_iload hx hb dX12_copy_111 (lv_at hl 6 rfl) ?_
        refine lv_goto (tgt := 123) hx hb dX12_copy_113 (by decide) ?_
        exact w_X12_copy_123  C0 ih hf hI (lv_sub hl [0, 1, 2, 3, 4, 5, 6] rfl)

set_option maxRecDepth 100000 in
set_option maxHeartbeats 4000000 in
theorem m_X12_copy (G : GT) (l : Launch) {σ : Hp} {x1 : Int32} {x2 : Int32} {x3 : Int32} {x4 : Int32} {x5 : Int32} {σ' : Hp} {r : Int32}  (hf : f_X12_copy σ x1 x2 x3 x4 x5 = some (σ', r)) : MetG G l yX12_copy wsX12_copy (rmk 2 42) σ [.ref (G.1 + 51), .int x1, .int x2, .int x3, .int x4, .int x5] (QI G σ' r) := by
  refine met_of (cc := cX12_copy) (nL := 8) (ret := (some .int)) (by decide) rfl (Nat.le_of_ble_eq_true rfl) ?_
  intro p e s m below meth c C0 hnm hI ls hl
  obtain ⟨hx, hb, hr, hml, hown, hts, hlk, hK, hG⟩ := id C0
  have hl : lv_has ls 8 [(0, .ref (G.1 + 51)), (1, .int x1), (2, .int x2), (3, .int x3), (4, .int x4), (5, .int x5)] := hl
  unfold f_X12_copy at hf
  refine lv_iload_n hx hb dX12_copy_0 rfl (lv_at hl 1 rfl) ?_
  obtain ⟨r1, hc1, hf⟩ := ok_1 hf
  refine z_calli0 rfl rfl hI (va_runS (As := [.int x1]) (rest := []) ⟨hx, hb, hml, hown, hts⟩ (m_X12_isRow G l  hc1) (va_cwS 1 hts gX12_copy_X12_isRow rfl rfl rfl (by decide +kernel) ⟨Nat.le_of_ble_eq_true rfl, Nat.le_of_ble_eq_true rfl⟩) (z_pre hK hG hI) rfl rfl hl.1 rfl (lv_room (Nat.le_of_ble_eq_true rfl)) dX12_copy_1 ⟨Nat.zero_le _, Nat.zero_le _⟩) (fun H locs hI => ?_)
  refine lv_if_eq (tgt := 14) hx hb dX12_copy_4 (by decide) (fun c1 => ?_) (fun c1 => ?_)
  · have hf := ok_t c1 hf
    refine lv_ldc (v := (-1000001)) hx hb hown (hts (.constant RX12 71 (-1000001)) (by decide +kernel)) dX12_copy_14 ?_
    cases hf
    exact z_iret hx hb hr hlk hK hG hI dX12_copy_16
  · have hf := ok_f c1 hf
    refine lv_iload_n hx hb dX12_copy_7 rfl (lv_at hl 3 rfl) ?_
    obtain ⟨r2, hc2, hf⟩ := ok_1 hf
    refine z_calli0 rfl rfl hI (va_runS (As := [.int x3]) (rest := []) ⟨hx, hb, hml, hown, hts⟩ (m_X12_isRow G l  hc2) (va_cwS 1 hts gX12_copy_X12_isRow rfl rfl rfl (by decide +kernel) ⟨Nat.le_of_ble_eq_true rfl, Nat.le_of_ble_eq_true rfl⟩) (z_pre hK hG hI) rfl rfl hl.1 rfl (lv_room (Nat.le_of_ble_eq_true rfl)) dX12_copy_8 ⟨Nat.zero_le _, Nat.zero_le _⟩) (fun H locs hI => ?_)
    refine lv_if_ne (tgt := 17) hx hb dX12_copy_11 (by decide) (fun c2 => ?_) (fun c2 => ?_)
    · have hf := ok_f c2 hf
      refine lv_aload_n hx hb dX12_copy_17 rfl (lv_at hl 0 rfl) ?_
      refine z_get (C := RX12) (T := TX12) (N := 26) (ci := 11) (v := .ref (G.1 + 55)) hx hb hts i_X12_copy_11 hown hK hI 51 rfl (by decide) rfl 3 (by decide) (hts (.fieldLink RX12 20 "FenceYardsModel" "lanes" "[I") (by decide +kernel)) (fun _ h9 => h9) rfl dX12_copy_18 ?_
      refine lv_iload_n hx hb dX12_copy_21 rfl (lv_at hl 1 rfl) ?_
      obtain ⟨h1, hf⟩ := ok_c hf
      refine z_iald hx hb hK hI 55 (k := x1.toNatClampNeg) rfl h1 rfl dX12_copy_22 ?_
      refine lv_ldc (v := (-1000000)) hx hb hown (hts (.constant RX12 57 (-1000000)) (by decide +kernel)) dX12_copy_23 ?_
      refine lv_icmp_eq (tgt := 39) hx hb dX12_copy_25 (by decide) (fun c3 => ?_) (fun c3 => ?_)
      · have hf := ok_t c3 hf
        refine lv_aload_n hx hb dX12_copy_39 rfl (lv_at hl 0 rfl) ?_
        refine lv_iconst (v := 1) hx hb dX12_copy_40 (by decide) ?_
        obtain ⟨s1, r3, hc3, hf⟩ := ok_2 hf
        refine z_calli0 rfl rfl hI (va_runV (As := [.int 1]) (rest := []) ⟨hx, hb, hml, hown, hts⟩ (m_X12_found G l  hc3) (cwV 1 hts gX12_copy_X12_found rfl rfl rfl (by decide +kernel) ⟨Nat.le_of_ble_eq_true rfl, Nat.le_of_ble_eq_true rfl⟩) (z_preV hK hG hI (z_rc (q := 51) (ci := 11) (n := 0) hK hI rfl (by decide) rfl)) rfl rfl hl.1 rfl (lv_room (Nat.le_of_ble_eq_true rfl)) dX12_copy_41 ⟨Nat.zero_le _, Nat.zero_le _⟩) (fun H locs hI => ?_)
        cases hf
        exact z_iret hx hb hr hlk hK hG hI dX12_copy_44
      · have hf := ok_f c3 hf
        refine lv_aload_n hx hb dX12_copy_28 rfl (lv_at hl 0 rfl) ?_
        refine z_get (C := RX12) (T := TX12) (N := 26) (ci := 11) (v := .ref (G.1 + 55)) hx hb hts i_X12_copy_11 hown hK hI 51 rfl (by decide) rfl 3 (by decide) (hts (.fieldLink RX12 20 "FenceYardsModel" "lanes" "[I") (by decide +kernel)) (fun _ h9 => h9) rfl dX12_copy_29 ?_
        refine lv_iload_n hx hb dX12_copy_32 rfl (lv_at hl 3 rfl) ?_
        obtain ⟨h2, hf⟩ := ok_c hf
        refine z_iald hx hb hK hI 55 (k := x3.toNatClampNeg) rfl h2 rfl dX12_copy_33 ?_
        refine lv_ldc (v := (-1000000)) hx hb hown (hts (.constant RX12 57 (-1000000)) (by decide +kernel)) dX12_copy_34 ?_
        refine lv_icmp_ne (tgt := 45) hx hb dX12_copy_36 (by decide) (fun c4 => ?_) (fun c4 => ?_)
        · have hf := ok_f c4 hf
          refine lv_aload_n hx hb dX12_copy_45 rfl (lv_at hl 0 rfl) ?_
          refine z_get (C := RX12) (T := TX12) (N := 26) (ci := 11) (v := .ref (G.1 + 55)) hx hb hts i_X12_copy_11 hown hK hI 51 rfl (by decide) rfl 3 (by decide) (hts (.fieldLink RX12 20 "FenceYardsModel" "lanes" "[I") (by decide +kernel)) (fun _ h9 => h9) rfl dX12_copy_46 ?_
          refine lv_iload_n hx hb dX12_copy_49 rfl (lv_at hl 1 rfl) ?_
          obtain ⟨h3, hf⟩ := ok_c hf
          refine z_iald hx hb hK hI 55 (k := x1.toNatClampNeg) rfl h3 rfl dX12_copy_50 ?_
          refine lv_aload_n hx hb dX12_copy_51 rfl (lv_at hl 0 rfl) ?_
          refine z_get (C := RX12) (T := TX12) (N := 26) (ci := 11) (v := .ref (G.1 + 55)) hx hb hts i_X12_copy_11 hown hK hI 51 rfl (by decide) rfl 3 (by decide) (hts (.fieldLink RX12 20 "FenceYardsModel" "lanes" "[I") (by decide +kernel)) (fun _ h9 => h9) rfl dX12_copy_52 ?_
          refine lv_iload_n hx hb dX12_copy_55 rfl (lv_at hl 3 rfl) ?_
          obtain ⟨h4, hf⟩ := ok_c hf
          refine z_iald hx hb hK hI 55 (k := x3.toNatClampNeg) rfl h4 rfl dX12_copy_56 ?_
          refine lv_icmp_eq (tgt := 66) hx hb dX12_copy_57 (by decide) (fun c5 => ?_) (fun c5 => ?_)
          · have hf := ok_t c5 hf
            refine lv_aload_n hx hb dX12_copy_66 rfl (lv_at hl 0 rfl) ?_
            refine lv_iload_n hx hb dX12_copy_67 rfl (lv_at hl 1 rfl) ?_
            refine lv_iload_n hx hb dX12_copy_68 rfl (lv_at hl 2 rfl) ?_
            refine lv_iload hx hb dX12_copy_69 (lv_at hl 5 rfl) ?_
            obtain ⟨r4, hc4, hf⟩ := ok_1 hf
            refine z_calli0 rfl rfl hI (va_runV (As := [.int x1, .int x2, .int x5]) (rest := []) ⟨hx, hb, hml, hown, hts⟩ (m_X12_isSpan G l  hc4) (cwV 3 hts gX12_copy_X12_isSpan rfl rfl rfl (by decide +kernel) ⟨Nat.le_of_ble_eq_true rfl, Nat.le_of_ble_eq_true rfl⟩) (z_preV hK hG hI (z_rc (q := 51) (ci := 11) (n := 0) hK hI rfl (by decide) rfl)) rfl rfl hl.1 rfl (lv_room (Nat.le_of_ble_eq_true rfl)) dX12_copy_71 ⟨Nat.zero_le _, Nat.zero_le _⟩) (fun H locs hI => ?_)
            refine lv_if_eq (tgt := 89) hx hb dX12_copy_74 (by decide) (fun c6 => ?_) (fun c6 => ?_)
            · have hf := ok_t c6 hf
              refine lv_aload_n hx hb dX12_copy_89 rfl (lv_at hl 0 rfl) ?_
              refine lv_iconst (v := 2) hx hb dX12_copy_90 (by decide) ?_
              obtain ⟨s2, r5, hc5, hf⟩ := ok_2 hf
              refine z_calli0 rfl rfl hI (va_runV (As := [.int 2]) (rest := []) ⟨hx, hb, hml, hown, hts⟩ (m_X12_found G l  hc5) (cwV 1 hts gX12_copy_X12_found rfl rfl rfl (by decide +kernel) ⟨Nat.le_of_ble_eq_true rfl, Nat.le_of_ble_eq_true rfl⟩) (z_preV hK hG hI (z_rc (q := 51) (ci := 11) (n := 0) hK hI rfl (by decide) rfl)) rfl rfl hl.1 rfl (lv_room (Nat.le_of_ble_eq_true rfl)) dX12_copy_91 ⟨Nat.zero_le _, Nat.zero_le _⟩) (fun H locs hI => ?_)
              cases hf
              exact z_iret hx hb hr hlk hK hG hI dX12_copy_94
            · have hf := ok_f c6 hf
              refine lv_aload_n hx hb dX12_copy_77 rfl (lv_at hl 0 rfl) ?_
              refine lv_iload_n hx hb dX12_copy_78 rfl (lv_at hl 3 rfl) ?_
              refine lv_iload hx hb dX12_copy_79 (lv_at hl 4 rfl) ?_
              refine lv_iload hx hb dX12_copy_81 (lv_at hl 5 rfl) ?_
              obtain ⟨r6, hc6, hf⟩ := ok_1 hf
              refine z_calli0 rfl rfl hI (va_runV (As := [.int x3, .int x4, .int x5]) (rest := []) ⟨hx, hb, hml, hown, hts⟩ (m_X12_isSpan G l  hc6) (cwV 3 hts gX12_copy_X12_isSpan rfl rfl rfl (by decide +kernel) ⟨Nat.le_of_ble_eq_true rfl, Nat.le_of_ble_eq_true rfl⟩) (z_preV hK hG hI (z_rc (q := 51) (ci := 11) (n := 0) hK hI rfl (by decide) rfl)) rfl rfl hl.1 rfl (lv_room (Nat.le_of_ble_eq_true rfl)) dX12_copy_83 ⟨Nat.zero_le _, Nat.zero_le _⟩) (fun H locs hI => ?_)
              refine lv_if_ne (tgt := 95) hx hb dX12_copy_86 (by decide) (fun c7 => ?_) (fun c7 => ?_)
              · have hf := ok_f c7 hf
                refine lv_iconst (v := 0) hx hb dX12_copy_95 (by decide) ?_
                refine lv_istore (lv' := [(6, .int 0), (0, .ref (G.1 + 51)), (1, .int x1), (2, .int x2), (3, .int x3), (4, .int x4), (5, .int x5)]) hx hb dX12_copy_96 hl (by decide) rfl (fun ls hl => ?_)
                exact w_X12_copy_98  C0  _ _ _ hf _ _ hI _ (lv_sub hl [1, 2, 3, 4, 5, 6, 0] rfl)
              · have hf := ok_t c7 hf
                refine lv_aload_n hx hb dX12_copy_89 rfl (lv_at hl 0 rfl) ?_
                refine lv_iconst (v := 2) hx hb dX12_copy_90 (by decide) ?_
                obtain ⟨s3, r7, hc7, hf⟩ := ok_2 hf
                refine z_calli0 rfl rfl hI (va_runV (As := [.int 2]) (rest := []) ⟨hx, hb, hml, hown, hts⟩ (m_X12_found G l  hc7) (cwV 1 hts gX12_copy_X12_found rfl rfl rfl (by decide +kernel) ⟨Nat.le_of_ble_eq_true rfl, Nat.le_of_ble_eq_true rfl⟩) (z_preV hK hG hI (z_rc (q := 51) (ci := 11) (n := 0) hK hI rfl (by decide) rfl)) rfl rfl hl.1 rfl (lv_room (Nat.le_of_ble_eq_true rfl)) dX12_copy_91 ⟨Nat.zero_le _, Nat.zero_le _⟩) (fun H locs hI => ?_)
                cases hf
                exact z_iret hx hb hr hlk hK hG hI dX12_copy_94
          · have hf := ok_f c5 hf
            refine lv_aload_n hx hb dX12_copy_60 rfl (lv_at hl 0 rfl) ?_
            refine lv_iconst (v := 5) hx hb dX12_copy_61 (by decide) ?_
            obtain ⟨s4, r8, hc8, hf⟩ := ok_2 hf
            refine z_calli0 rfl rfl hI (va_runV (As := [.int 5]) (rest := []) ⟨hx, hb, hml, hown, hts⟩ (m_X12_found G l  hc8) (cwV 1 hts gX12_copy_X12_found rfl rfl rfl (by decide +kernel) ⟨Nat.le_of_ble_eq_true rfl, Nat.le_of_ble_eq_true rfl⟩) (z_preV hK hG hI (z_rc (q := 51) (ci := 11) (n := 0) hK hI rfl (by decide) rfl)) rfl rfl hl.1 rfl (lv_room (Nat.le_of_ble_eq_true rfl)) dX12_copy_62 ⟨Nat.zero_le _, Nat.zero_le _⟩) (fun H locs hI => ?_)
            cases hf
            exact z_iret hx hb hr hlk hK hG hI dX12_copy_65
        · have hf := ok_t c4 hf
          refine lv_aload_n hx hb dX12_copy_39 rfl (lv_at hl 0 rfl) ?_
          refine lv_iconst (v := 1) hx hb dX12_copy_40 (by decide) ?_
          obtain ⟨s5, r9, hc9, hf⟩ := ok_2 hf
          refine z_calli0 rfl rfl hI (va_runV (As := [.int 1]) (rest := []) ⟨hx, hb, hml, hown, hts⟩ (m_X12_found G l  hc9) (cwV 1 hts gX12_copy_X12_found rfl rfl rfl (by decide +kernel) ⟨Nat.le_of_ble_eq_true rfl, Nat.le_of_ble_eq_true rfl⟩) (z_preV hK hG hI (z_rc (q := 51) (ci := 11) (n := 0) hK hI rfl (by decide) rfl)) rfl rfl hl.1 rfl (lv_room (Nat.le_of_ble_eq_true rfl)) dX12_copy_41 ⟨Nat.zero_le _, Nat.zero_le _⟩) (fun H locs hI => ?_)
          cases hf
          exact z_iret hx hb hr hlk hK hG hI dX12_copy_44
    · have hf := ok_t c2 hf
      refine lv_ldc (v := (-1000001)) hx hb hown (hts (.constant RX12 71 (-1000001)) (by decide +kernel)) dX12_copy_14 ?_
      cases hf
      exact z_iret hx hb hr hlk hK hG hI dX12_copy_16

-- ===== FenceYardsModel.drop(I)I
set_option maxRecDepth 100000 in
theorem i_X12_drop_11 : ∀ w ∈ u_ws RX12 TX12 26, w ∈ wsX12_drop := by decide +kernel
def f_X12_drop (σ : Hp) (x1 : Int32) : Option (Hp × Int32) :=
  bd1 (f_X12_isRow σ x1) fun r1 => if r1 = 0 then (some (σ, (-1000001))) else (chk (inb x1 8) <| if (gI σ 55 (x1.toNatClampNeg)) = (-1000000) then (bd2 (f_X12_found σ 1) fun s2 r3 => some (s2, r3)) else (chk (inb x1 8) <| chk (inb x1 8) <| bd2 (f_X12_well (sI σ 55 (x1.toNatClampNeg) (-1000000)) (gI (sI σ 55 (x1.toNatClampNeg) (-1000000)) 56 (x1.toNatClampNeg))) fun s1 r2 => some (s1, r2)))
set_option maxRecDepth 100000 in
set_option maxHeartbeats 4000000 in
theorem m_X12_drop (G : GT) (l : Launch) {σ : Hp} {x1 : Int32} {σ' : Hp} {r : Int32}  (hf : f_X12_drop σ x1 = some (σ', r)) : MetG G l yX12_drop wsX12_drop (rmk 2 42) σ [.ref (G.1 + 51), .int x1] (QI G σ' r) := by
  refine met_of (cc := cX12_drop) (nL := 2) (ret := (some .int)) (by decide) rfl (Nat.le_of_ble_eq_true rfl) ?_
  intro p e s m below meth c C0 hnm hI ls hl
  obtain ⟨hx, hb, hr, hml, hown, hts, hlk, hK, hG⟩ := id C0
  have hl : lv_has ls 2 [(0, .ref (G.1 + 51)), (1, .int x1)] := hl
  unfold f_X12_drop at hf
  refine lv_iload_n hx hb dX12_drop_0 rfl (lv_at hl 1 rfl) ?_
  obtain ⟨r1, hc1, hf⟩ := ok_1 hf
  refine z_calli0 rfl rfl hI (va_runS (As := [.int x1]) (rest := []) ⟨hx, hb, hml, hown, hts⟩ (m_X12_isRow G l  hc1) (va_cwS 1 hts gX12_drop_X12_isRow rfl rfl rfl (by decide +kernel) ⟨Nat.le_of_ble_eq_true rfl, Nat.le_of_ble_eq_true rfl⟩) (z_pre hK hG hI) rfl rfl hl.1 rfl (lv_room (Nat.le_of_ble_eq_true rfl)) dX12_drop_1 ⟨Nat.zero_le _, Nat.zero_le _⟩) (fun H locs hI => ?_)
  refine lv_if_ne (tgt := 10) hx hb dX12_drop_4 (by decide) (fun c1 => ?_) (fun c1 => ?_)
  · have hf := ok_f c1 hf
    refine lv_aload_n hx hb dX12_drop_10 rfl (lv_at hl 0 rfl) ?_
    refine z_get (C := RX12) (T := TX12) (N := 26) (ci := 11) (v := .ref (G.1 + 55)) hx hb hts i_X12_drop_11 hown hK hI 51 rfl (by decide) rfl 3 (by decide) (hts (.fieldLink RX12 20 "FenceYardsModel" "lanes" "[I") (by decide +kernel)) (fun _ h9 => h9) rfl dX12_drop_11 ?_
    refine lv_iload_n hx hb dX12_drop_14 rfl (lv_at hl 1 rfl) ?_
    obtain ⟨h1, hf⟩ := ok_c hf
    refine z_iald hx hb hK hI 55 (k := x1.toNatClampNeg) rfl h1 rfl dX12_drop_15 ?_
    refine lv_ldc (v := (-1000000)) hx hb hown (hts (.constant RX12 57 (-1000000)) (by decide +kernel)) dX12_drop_16 ?_
    refine lv_icmp_ne (tgt := 27) hx hb dX12_drop_18 (by decide) (fun c2 => ?_) (fun c2 => ?_)
    · have hf := ok_f c2 hf
      refine lv_aload_n hx hb dX12_drop_27 rfl (lv_at hl 0 rfl) ?_
      refine z_get (C := RX12) (T := TX12) (N := 26) (ci := 11) (v := .ref (G.1 + 55)) hx hb hts i_X12_drop_11 hown hK hI 51 rfl (by decide) rfl 3 (by decide) (hts (.fieldLink RX12 20 "FenceYardsModel" "lanes" "[I") (by decide +kernel)) (fun _ h9 => h9) rfl dX12_drop_28 ?_
      refine lv_iload_n hx hb dX12_drop_31 rfl (lv_at hl 1 rfl) ?_
      refine lv_ldc (v := (-1000000)) hx hb hown (hts (.constant RX12 57 (-1000000)) (by decide +kernel)) dX12_drop_32 ?_
      obtain ⟨h2, hf⟩ := ok_c hf
      refine z_iast hx hb hK hI 55 (k := x1.toNatClampNeg) rfl h2 rfl dX12_drop_34 (fun H locs hI => ?_)
      refine lv_aload_n hx hb dX12_drop_35 rfl (lv_at hl 0 rfl) ?_
      refine lv_aload_n hx hb dX12_drop_36 rfl (lv_at hl 0 rfl) ?_
      refine z_get (C := RX12) (T := TX12) (N := 26) (ci := 11) (v := .ref (G.1 + 56)) hx hb hts i_X12_drop_11 hown hK hI 51 rfl (by decide) rfl 4 (by decide) (hts (.fieldLink RX12 23 "FenceYardsModel" "sizes" "[I") (by decide +kernel)) (fun _ h9 => h9) rfl dX12_drop_37 ?_
      refine lv_iload_n hx hb dX12_drop_40 rfl (lv_at hl 1 rfl) ?_
      obtain ⟨h3, hf⟩ := ok_c hf
      refine z_iald hx hb hK hI 56 (k := x1.toNatClampNeg) rfl h3 rfl dX12_drop_41 ?_
      obtain ⟨s1, r2, hc2, hf⟩ := ok_2 hf
      refine z_calli0 rfl rfl hI (va_runV (As := [.int (gI (sI σ 55 (x1.toNatClampNeg) (-1000000)) 56 (x1.toNatClampNeg))]) (rest := []) ⟨hx, hb, hml, hown, hts⟩ (m_X12_well G l  hc2) (cwV 1 hts gX12_drop_X12_well rfl rfl rfl (by decide +kernel) ⟨Nat.le_of_ble_eq_true rfl, Nat.le_of_ble_eq_true rfl⟩) (z_preV hK hG hI (z_rc (q := 51) (ci := 11) (n := 0) hK hI rfl (by decide) rfl)) rfl rfl hl.1 rfl (lv_room (Nat.le_of_ble_eq_true rfl)) dX12_drop_42 ⟨Nat.zero_le _, Nat.zero_le _⟩) (fun H locs hI => ?_)
      cases hf
      exact z_iret hx hb hr hlk hK hG hI dX12_drop_45
    · have hf := ok_t c2 hf
      refine lv_aload_n hx hb dX12_drop_21 rfl (lv_at hl 0 rfl) ?_
      refine lv_iconst (v := 1) hx hb dX12_drop_22 (by decide) ?_
      obtain ⟨s2, r3, hc3, hf⟩ := ok_2 hf
      refine z_calli0 rfl rfl hI (va_runV (As := [.int 1]) (rest := []) ⟨hx, hb, hml, hown, hts⟩ (m_X12_found G l  hc3) (cwV 1 hts gX12_drop_X12_found rfl rfl rfl (by decide +kernel) ⟨Nat.le_of_ble_eq_true rfl, Nat.le_of_ble_eq_true rfl⟩) (z_preV hK hG hI (z_rc (q := 51) (ci := 11) (n := 0) hK hI rfl (by decide) rfl)) rfl rfl hl.1 rfl (lv_room (Nat.le_of_ble_eq_true rfl)) dX12_drop_23 ⟨Nat.zero_le _, Nat.zero_le _⟩) (fun H locs hI => ?_)
      cases hf
      exact z_iret hx hb hr hlk hK hG hI dX12_drop_26
  · have hf := ok_t c1 hf
    refine lv_ldc (v := (-1000001)) hx hb hown (hts (.constant RX12 71 (-1000001)) (by decide +kernel)) dX12_drop_7 ?_
    cases hf
    exact z_iret hx hb hr hlk hK hG hI dX12_drop_9

-- ===== FenceYardsModel.feed(JI)I
set_option maxRecDepth 100000 in
theorem i_X12_feed_11 : ∀ w ∈ u_ws RX12 TX12 26, w ∈ wsX12_feed := by decide +kernel
def f_X12_feed_33    (y1 : Int64) : Nat → Hp → Int32 → Option (Hp × Int32)
  | 0, _, _ => none
  | n + 1, σ, x4 =>
    if x4 < 0 then (some (σ, gI σ 51 8)) else (chk (inb (gI σ 51 8) 400) <| bnd (sI σ 58 ((gI σ 51 8).toNatClampNeg) (((y1 >>> ((8 * x4).toInt64 &&& 63)) &&& 255).toInt32)) fun s1 => f_X12_feed_33 y1 n (sI s1 51 8 ((gI s1 51 8) + 1)) (x4 + (-1)))
def f_X12_feed (σ : Hp) (y1 : Int64) (x3 : Int32) : Option (Hp × Int32) :=
  bd1 (f_X12_in σ x3 1 8) fun r1 => if r1 = 0 then (some (σ, (-1000001))) else (if ((gI σ 51 8) + x3) ≤ 400 then (bnd (x3 - 1) fun v1 => f_X12_feed_33 y1 fu σ v1) else (some (σ, (-1000003))))
set_option maxRecDepth 100000 in
set_option maxHeartbeats 4000000 in
theorem w_X12_feed_33 {G : GT} {p : Program} {l : Launch} {e : Env} {s : State} {m : MethodId} {args : Array Value} {below : List Frame} {meth : Method} {c : Code}  {σ' : Hp} {r : Int32}   {y1 : Int64}  (C0 : Cx G cX12_feed RX12 wsX12_feed 5 (some .int) p s m args meth c)  :
    ∀ (n : Nat) (σ : Hp) (x4 : Int32), f_X12_feed_33 y1 n σ x4 = some (σ', r) → ∀ (H : Heap) (locs : List Loc), Inv G s σ H locs → ∀ ls : Array Slot, lv_has ls 5 [(0, .ref (G.1 + 51)), (1, .long y1), (4, .int x4)] → W p l e (rmk 1 22) s m args below meth c H locs 0 0 (MQ below (QI G σ' r) args s (rmk 1 22).cells (rmk 1 22).slots (gA G)) (F0 m 33 ls []) := by
  obtain ⟨hx, hb, hr, hml, hown, hts, hlk, hK, hG⟩ := id C0
  intro n
  induction n with
  | zero =>
    intro σ x4 hf
    cases hf
  | succ n ih =>
    intro σ x4 hf H locs hI ls hl
    rw [f_X12_feed_33] at hf
    refine lv_iload hx hb dX12_feed_33 (lv_at hl 2 rfl) ?_
    refine lv_if_lt (tgt := 75) hx hb dX12_feed_35 (by decide) (fun c1 => ?_) (fun c1 => ?_)
    · have hf := ok_t c1 hf
      refine lv_aload_n hx hb dX12_feed_75 rfl (lv_at hl 0 rfl) ?_
      refine z_get (C := RX12) (T := TX12) (N := 26) (ci := 11) (v := .int (gI σ 51 8)) hx hb hts i_X12_feed_11 hown hK hI 51 rfl (by decide) rfl 8 (by decide) (hts (.fieldLink RX12 82 "FenceYardsModel" "taped" "I") (by decide +kernel)) (fun _ h9 => h9) rfl dX12_feed_76 ?_
      cases hf
      exact z_iret hx hb hr hlk hK hG hI dX12_feed_79
    · have hf := ok_f c1 hf
      refine lv_aload_n hx hb dX12_feed_38 rfl (lv_at hl 0 rfl) ?_
      refine z_get (C := RX12) (T := TX12) (N := 26) (ci := 11) (v := .ref (G.1 + 58)) hx hb hts i_X12_feed_11 hown hK hI 51 rfl (by decide) rfl 7 (by decide) (hts (.fieldLink RX12 29 "FenceYardsModel" "tape" "[I") (by decide +kernel)) (fun _ h9 => h9) rfl dX12_feed_39 ?_
      refine lv_aload_n hx hb dX12_feed_42 rfl (lv_at hl 0 rfl) ?_
      refine z_get (C := RX12) (T := TX12) (N := 26) (ci := 11) (v := .int (gI σ 51 8)) hx hb hts i_X12_feed_11 hown hK hI 51 rfl (by decide) rfl 8 (by decide) (hts (.fieldLink RX12 82 "FenceYardsModel" "taped" "I") (by decide +kernel)) (fun _ h9 => h9) rfl dX12_feed_43 ?_
      refine lv_lload_n hx hb dX12_feed_46 rfl (lv_at hl 1 rfl) ?_
      refine lv_bipush (v := 8) hx hb dX12_feed_47 (by decide) ?_
      refine lv_iload hx hb dX12_feed_49 (lv_at hl 2 rfl) ?_
      refine lv_imul hx hb dX12_feed_51 ?_
      refine lv_lshr hx hb dX12_feed_52 rfl ?_
      refine lv_ldc2 (v := 255) hx hb hown (hts (.constantLong RX12 86 255) (by decide +kernel)) dX12_feed_53 ?_
      refine lv_land hx hb dX12_feed_56 ?_
      refine lv_l2i hx hb dX12_feed_57 rfl ?_
      obtain ⟨h1, hf⟩ := ok_c hf
      refine z_iast hx hb hK hI 58 (k := (gI σ 51 8).toNatClampNeg) rfl h1 rfl dX12_feed_58 (fun H locs hI => ?_)
      obtain ⟨s1, es1⟩ : ∃ z, z = sI σ 58 ((gI σ 51 8).toNatClampNeg) (((y1 >>> ((8 * x4).toInt64 &&& 63)) &&& 255).toInt32) := ⟨_, rfl⟩
      have hI : Inv G s s1 H locs := by rw [es1]; exact hI
      have hf := ok_n hf es1
      refine lv_aload_n hx hb dX12_feed_59 rfl (lv_at hl 0 rfl) ?_
      refine lv_dup hx hb dX12_feed_60 rfl ?_
      refine z_get (C := RX12) (T := TX12) (N := 26) (ci := 11) (v := .int (gI s1 51 8)) hx hb hts i_X12_feed_11 hown hK hI 51 rfl (by decide) rfl 8 (by decide) (hts (.fieldLink RX12 82 "FenceYardsModel" "taped" "I") (by decide +kernel)) (fun _ h9 => h9) rfl dX12_feed_61 ?_
      refine lv_iconst (v := 1) hx hb dX12_feed_64 (by decide) ?_
      refine lv_iadd hx hb dX12_feed_65 ?_
      refine z_put (C := RX12) (T := TX12) (N := 26) (ci := 11) (ty := .int) (v := .int ((gI s1 51 8) + 1)) hx hb hts i_X12_feed_11 tyX12 tyX12_ok nmX12 hown hK hI 51 rfl (by decide) rfl 8 (by decide) (hts (.fieldLink RX12 82 "FenceYardsModel" "taped" "I") (by decide +kernel)) (fun _ h9 => h9) rfl (by decide +kernel) rfl rfl (Nat.le_of_ble_eq_true rfl) (set_I hI.2.2.2 rfl (by decide) rfl) rfl hI.2.2.2 dX12_feed_66 (fun H locs hI => ?_)
      refine lv_iinc (v := x4 + (-1)) (lv' := [(4, .int (x4 + (-1))), (0, .ref (G.1 + 51)), (1, .long y1)]) hx hb dX12_feed_69 hl (k := 2) rfl rfl (by decide) rfl (fun ls hl => ?_)
      refine lv_goto (tgt := 33) hx hb dX12_feed_72 (by decide) ?_
      exact ih _ _ hf _ _ hI _ (lv_sub hl [1, 2, 0] rfl)

set_option maxRecDepth 100000 in
set_option maxHeartbeats 4000000 in
theorem m_X12_feed (G : GT) (l : Launch) {σ : Hp} {y1 : Int64} {x3 : Int32} {σ' : Hp} {r : Int32}  (hf : f_X12_feed σ y1 x3 = some (σ', r)) : MetG G l yX12_feed wsX12_feed (rmk 1 22) σ [.ref (G.1 + 51), .long y1, .int x3] (QI G σ' r) := by
  refine met_of (cc := cX12_feed) (nL := 5) (ret := (some .int)) (by decide) rfl (Nat.le_of_ble_eq_true rfl) ?_
  intro p e s m below meth c C0 hnm hI ls hl
  obtain ⟨hx, hb, hr, hml, hown, hts, hlk, hK, hG⟩ := id C0
  have hl : lv_has ls 5 [(0, .ref (G.1 + 51)), (1, .long y1), (3, .int x3)] := hl
  unfold f_X12_feed at hf
  refine lv_iload_n hx hb dX12_feed_0 rfl (lv_at hl 2 rfl) ?_
  refine lv_iconst (v := 1) hx hb dX12_feed_1 (by decide) ?_
  refine lv_bipush (v := 8) hx hb dX12_feed_2 (by decide) ?_
  obtain ⟨r1, hc1, hf⟩ := ok_1 hf
  refine z_calli0 rfl rfl hI (va_runS (As := [.int x3, .int 1, .int 8]) (rest := []) ⟨hx, hb, hml, hown, hts⟩ (m_X12_in G l  hc1) (va_cwS 3 hts gX12_feed_X12_in rfl rfl rfl (by decide +kernel) ⟨Nat.le_of_ble_eq_true rfl, Nat.le_of_ble_eq_true rfl⟩) (z_pre hK hG hI) rfl rfl hl.1 rfl (lv_room (Nat.le_of_ble_eq_true rfl)) dX12_feed_4 ⟨Nat.zero_le _, Nat.zero_le _⟩) (fun H locs hI => ?_)
  refine lv_if_ne (tgt := 13) hx hb dX12_feed_7 (by decide) (fun c1 => ?_) (fun c1 => ?_)
  · have hf := ok_f c1 hf
    refine lv_aload_n hx hb dX12_feed_13 rfl (lv_at hl 0 rfl) ?_
    refine z_get (C := RX12) (T := TX12) (N := 26) (ci := 11) (v := .int (gI σ 51 8)) hx hb hts i_X12_feed_11 hown hK hI 51 rfl (by decide) rfl 8 (by decide) (hts (.fieldLink RX12 82 "FenceYardsModel" "taped" "I") (by decide +kernel)) (fun _ h9 => h9) rfl dX12_feed_14 ?_
    refine lv_iload_n hx hb dX12_feed_17 rfl (lv_at hl 2 rfl) ?_
    refine lv_iadd hx hb dX12_feed_18 ?_
    refine lv_sipush (v := 400) hx hb dX12_feed_19 (by decide) ?_
    refine lv_icmp_le (tgt := 28) hx hb dX12_feed_22 (by decide) (fun c2 => ?_) (fun c2 => ?_)
    · have hf := ok_t c2 hf
      refine lv_iload_n hx hb dX12_feed_28 rfl (lv_at hl 2 rfl) ?_
      refine lv_iconst (v := 1) hx hb dX12_feed_29 (by decide) ?_
      refine lv_isub hx hb dX12_feed_30 ?_
      refine lv_topi (fun v1 ev1 => ?_)
      have hf := ok_n hf ev1
      refine lv_istore (lv' := [(4, .int v1), (0, .ref (G.1 + 51)), (1, .long y1), (3, .int x3)]) hx hb dX12_feed_31 hl (by decide) rfl (fun ls hl => ?_)
      exact w_X12_feed_33  C0  _ _ _ hf _ _ hI _ (lv_sub hl [1, 2, 0] rfl)
    · have hf := ok_f c2 hf
      refine lv_ldc (v := (-1000003)) hx hb hown (hts (.constant RX12 85 (-1000003)) (by decide +kernel)) dX12_feed_25 ?_
      cases hf
      exact z_iret hx hb hr hlk hK hG hI dX12_feed_27
  · have hf := ok_t c1 hf
    refine lv_ldc (v := (-1000001)) hx hb hown (hts (.constant RX12 71 (-1000001)) (by decide +kernel)) dX12_feed_10 ?_
    cases hf
    exact z_iret hx hb hr hlk hK hG hI dX12_feed_12

-- ===== FenceYardsModel.byteAt(I)I
set_option maxRecDepth 100000 in
theorem i_X12_byteAt_11 : ∀ w ∈ u_ws RX12 TX12 26, w ∈ wsX12_byteAt := by decide +kernel
def f_X12_byteAt (σ : Hp) (x1 : Int32) : Option (Int32) :=
  if (gI σ 51 8) ≤ x1 then (some (-1)) else (chk (inb x1 400) <| some (gI σ 58 (x1.toNatClampNeg)))
set_option maxRecDepth 100000 in
set_option maxHeartbeats 4000000 in
theorem m_X12_byteAt (G : GT) (l : Launch) {σ : Hp} {x1 : Int32} {r : Int32}  (hf : f_X12_byteAt σ x1 = some r) : MetG G l yX12_byteAt wsX12_byteAt (rmk 0 0) σ [.ref (G.1 + 51), .int x1] (QI G σ r) := by
  refine met_of (cc := cX12_byteAt) (nL := 2) (ret := (some .int)) (by decide) rfl (Nat.le_of_ble_eq_true rfl) ?_
  intro p e s m below meth c C0 hnm hI ls hl
  obtain ⟨hx, hb, hr, hml, hown, hts, hlk, hK, hG⟩ := id C0
  have hl : lv_has ls 2 [(0, .ref (G.1 + 51)), (1, .int x1)] := hl
  unfold f_X12_byteAt at hf
  refine lv_iload_n hx hb dX12_byteAt_0 rfl (lv_at hl 1 rfl) ?_
  refine lv_aload_n hx hb dX12_byteAt_1 rfl (lv_at hl 0 rfl) ?_
  refine z_get (C := RX12) (T := TX12) (N := 26) (ci := 11) (v := .int (gI σ 51 8)) hx hb hts i_X12_byteAt_11 hown hK hI 51 rfl (by decide) rfl 8 (by decide) (hts (.fieldLink RX12 82 "FenceYardsModel" "taped" "I") (by decide +kernel)) (fun _ h9 => h9) rfl dX12_byteAt_2 ?_
  refine lv_icmp_ge (tgt := 17) hx hb dX12_byteAt_5 (by decide) (fun c1 => ?_) (fun c1 => ?_)
  · have hf := ok_t c1 hf
    refine lv_iconst (v := (-1)) hx hb dX12_byteAt_17 (by decide) ?_
    cases hf
    exact z_iret hx hb hr hlk hK hG hI dX12_byteAt_18
  · have hf := ok_f c1 hf
    refine lv_aload_n hx hb dX12_byteAt_8 rfl (lv_at hl 0 rfl) ?_
    refine z_get (C := RX12) (T := TX12) (N := 26) (ci := 11) (v := .ref (G.1 + 58)) hx hb hts i_X12_byteAt_11 hown hK hI 51 rfl (by decide) rfl 7 (by decide) (hts (.fieldLink RX12 29 "FenceYardsModel" "tape" "[I") (by decide +kernel)) (fun _ h9 => h9) rfl dX12_byteAt_9 ?_
    refine lv_iload_n hx hb dX12_byteAt_12 rfl (lv_at hl 1 rfl) ?_
    obtain ⟨h1, hf⟩ := ok_c hf
    refine z_iald hx hb hK hI 58 (k := x1.toNatClampNeg) rfl h1 rfl dX12_byteAt_13 ?_
    refine lv_goto (tgt := 18) hx hb dX12_byteAt_14 (by decide) ?_
    cases hf
    exact z_iret hx hb hr hlk hK hG hI dX12_byteAt_18

-- ===== FenceYardsModel.next()V
set_option maxRecDepth 100000 in
theorem i_X12_next_11 : ∀ w ∈ u_ws RX12 TX12 26, w ∈ wsX12_next := by decide +kernel
def f_X12_next_175     : Nat → Hp → Option (Hp)
  | 0, _ => none
  | n + 1, σ =>
    bd1 (f_X12_byteAt σ (gI σ 51 9)) fun r1 => bd1 (f_X12_in σ r1 48 57) fun r2 => if r2 = 0 then (if 4 ≤ ((gI σ 51 9) - (gI σ 51 10)) then (some (sI σ 51 11 4)) else (some (sI σ 51 11 2))) else (if 3 ≤ ((gI σ 51 9) - (gI σ 51 10)) then (bnd (sI (sI σ 51 12 (gI σ 51 12)) 51 9 ((gI (sI σ 51 12 (gI σ 51 12)) 51 9) + 1)) fun s1 => f_X12_next_175 n s1) else (bd1 (f_X12_byteAt σ (gI σ 51 9)) fun r3 => bnd (sI (sI σ 51 12 (((10 * (gI σ 51 12)) + r3) - 48)) 51 9 ((gI (sI σ 51 12 (((10 * (gI σ 51 12)) + r3) - 48)) 51 9) + 1)) fun s2 => f_X12_next_175 n s2))
def f_X12_next_89     : Nat → Hp → Option (Hp)
  | 0, _ => none
  | n + 1, σ =>
    bd1 (f_X12_byteAt σ (gI σ 51 9)) fun r1 => bd1 (f_X12_in σ r1 97 122) fun r2 => if r2 = 0 then (some σ) else (if 7 ≤ ((gI σ 51 9) - (gI σ 51 10)) then (f_X12_next_89 n (sI (sJ σ 51 13 0) 51 9 ((gI (sJ σ 51 13 0) 51 9) + 1))) else (bd1 (f_X12_byteAt σ (gI σ 51 9)) fun r3 => bnd (sJ σ 51 13 (((gJ σ 51 13) <<< ((8 : Int32).toInt64 &&& 63)) ||| (r3.toInt64))) fun s1 => f_X12_next_89 n (sI s1 51 9 ((gI s1 51 9) + 1))))
def f_X12_next_0     : Nat → Hp → Option (Hp)
  | 0, _ => none
  | n + 1, σ =>
    bd1 (f_X12_byteAt σ (gI σ 51 9)) fun r1 => if r1 = 32 then (f_X12_next_0 n (sI σ 51 9 ((gI σ 51 9) + 1))) else (bd1 (f_X12_byteAt σ (gI σ 51 9)) fun r2 => if r2 = 10 then (f_X12_next_0 n (sI σ 51 9 ((gI σ 51 9) + 1))) else (bd1 (f_X12_byteAt (sI σ 51 10 (gI σ 51 9)) (gI (sI σ 51 10 (gI σ 51 9)) 51 9)) fun r3 => if 0 ≤ r3 then (bd1 (f_X12_in (sI σ 51 10 (gI σ 51 9)) r3 97 122) fun r4 => if r4 = 0 then (bd1 (f_X12_in (sI σ 51 10 (gI σ 51 9)) r3 48 57) fun r5 => if r5 = 0 then (if r3 = 59 then (bnd (sI (sI (sI σ 51 10 (gI σ 51 9)) 51 11 3) 51 9 ((gI (sI (sI σ 51 10 (gI σ 51 9)) 51 11 3) 51 9) + 1)) fun s2 => some s2) else (bnd (sI (sI (sI σ 51 10 (gI σ 51 9)) 51 11 4) 51 9 ((gI (sI (sI σ 51 10 (gI σ 51 9)) 51 11 4) 51 9) + 1)) fun s1 => some s1)) else (f_X12_next_175 fu (sI (sI σ 51 10 (gI σ 51 9)) 51 12 0))) else (f_X12_next_89 fu (sJ (sI (sI σ 51 10 (gI σ 51 9)) 51 11 1) 51 13 0))) else (some (sI (sI σ 51 10 (gI σ 51 9)) 51 11 0))))
def f_X12_next (σ : Hp)  : Option (Hp) :=
  bd1 (f_X12_byteAt σ (gI σ 51 9)) fun r1 => if r1 = 32 then (f_X12_next_0 fu (sI σ 51 9 ((gI σ 51 9) + 1))) else (bd1 (f_X12_byteAt σ (gI σ 51 9)) fun r2 => if r2 = 10 then (f_X12_next_0 fu (sI σ 51 9 ((gI σ 51 9) + 1))) else (bd1 (f_X12_byteAt (sI σ 51 10 (gI σ 51 9)) (gI (sI σ 51 10 (gI σ 51 9)) 51 9)) fun r3 => if 0 ≤ r3 then (bd1 (f_X12_in (sI σ 51 10 (gI σ 51 9)) r3 97 122) fun r4 => if r4 = 0 then (bd1 (f_X12_in (sI σ 51 10 (gI σ 51 9)) r3 48 57) fun r5 => if r5 = 0 then (if r3 = 59 then (bnd (sI (sI (sI σ 51 10 (gI σ 51 9)) 51 11 3) 51 9 ((gI (sI (sI σ 51 10 (gI σ 51 9)) 51 11 3) 51 9) + 1)) fun s2 => some s2) else (bnd (sI (sI (sI σ 51 10 (gI σ 51 9)) 51 11 4) 51 9 ((gI (sI (sI σ 51 10 (gI σ 51 9)) 51 11 4) 51 9) + 1)) fun s1 => some s1)) else (f_X12_next_175 fu (sI (sI σ 51 10 (gI σ 51 9)) 51 12 0))) else (f_X12_next_89 fu (sJ (sI (sI σ 51 10 (gI σ 51 9)) 51 11 1) 51 13 0))) else (some (sI (sI σ 51 10 (gI σ 51 9)) 51 11 0))))
set_option maxRecDepth 100000 in
set_option maxHeartbeats 4000000 in
theorem w_X12_next_175 {G : GT} {p : Program} {l : Launch} {e : Env} {s : State} {m : MethodId} {args : Array Value} {below : List Frame} {meth : Method} {c : Code}  {σ' : Hp}     (C0 : Cx G cX12_next RX12 wsX12_next 2 none p s m args meth c)  :
    ∀ (n : Nat) (σ : Hp), f_X12_next_175 n σ = some σ' → ∀ (H : Heap) (locs : List Loc), Inv G s σ H locs → ∀ ls : Array Slot, lv_has ls 2 [(0, .ref (G.1 + 51))] → W p l e (rmk 1 22) s m args below meth c H locs 0 0 (MQ below (QV G σ') args s (rmk 1 22).cells (rmk 1 22).slots (gA G)) (F0 m 175 ls []) := by
  obtain ⟨hx, hb, hr, hml, hown, hts, hlk, hK, hG⟩ := id C0
  intro n
  induction n with
  | zero =>
    intro σ hf
    cases hf
  | succ n ih =>
    intro σ hf H locs hI ls hl
    rw [f_X12_next_175] at hf
    refine lv_aload_n hx hb dX12_next_175 rfl (lv_at hl 0 rfl) ?_
    refine lv_aload_n hx hb dX12_next_176 rfl (lv_at hl 0 rfl) ?_
    refine z_get (C := RX12) (T := TX12) (N := 26) (ci := 11) (v := .int (gI σ 51 9)) hx hb hts i_X12_next_11 hown hK hI 51 rfl (by decide) rfl 9 (by decide) (hts (.fieldLink RX12 88 "FenceYardsModel" "cursor" "I") (by decide +kernel)) (fun _ h9 => h9) rfl dX12_next_177 ?_
    obtain ⟨r1, hc1, hf⟩ := ok_1 hf
    refine z_calli0 rfl rfl hI (va_runV (As := [.int (gI σ 51 9)]) (rest := []) ⟨hx, hb, hml, hown, hts⟩ (m_X12_byteAt G l  hc1) (cwV 1 hts gX12_next_X12_byteAt rfl rfl rfl (by decide +kernel) ⟨Nat.le_of_ble_eq_true rfl, Nat.le_of_ble_eq_true rfl⟩) (z_preV hK hG hI (z_rc (q := 51) (ci := 11) (n := 0) hK hI rfl (by decide) rfl)) rfl rfl hl.1 rfl (lv_room (Nat.le_of_ble_eq_true rfl)) dX12_next_180 ⟨Nat.zero_le _, Nat.zero_le _⟩) (fun H locs hI => ?_)
    refine lv_bipush (v := 48) hx hb dX12_next_183 (by decide) ?_
    refine lv_bipush (v := 57) hx hb dX12_next_185 (by decide) ?_
    obtain ⟨r2, hc2, hf⟩ := ok_1 hf
    refine z_calli0 rfl rfl hI (va_runS (As := [.int r1, .int 48, .int 57]) (rest := []) ⟨hx, hb, hml, hown, hts⟩ (m_X12_in G l  hc2) (va_cwS 3 hts gX12_next_X12_in rfl rfl rfl (by decide +kernel) ⟨Nat.le_of_ble_eq_true rfl, Nat.le_of_ble_eq_true rfl⟩) (z_pre hK hG hI) rfl rfl hl.1 rfl (lv_room (Nat.le_of_ble_eq_true rfl)) dX12_next_187 ⟨Nat.zero_le _, Nat.zero_le _⟩) (fun H locs hI => ?_)
    refine lv_if_eq (tgt := 249) hx hb dX12_next_190 (by decide) (fun c1 => ?_) (fun c1 => ?_)
    · have hf := ok_t c1 hf
      refine lv_aload_n hx hb dX12_next_249 rfl (lv_at hl 0 rfl) ?_
      refine lv_aload_n hx hb dX12_next_250 rfl (lv_at hl 0 rfl) ?_
      refine z_get (C := RX12) (T := TX12) (N := 26) (ci := 11) (v := .int (gI σ 51 9)) hx hb hts i_X12_next_11 hown hK hI 51 rfl (by decide) rfl 9 (by decide) (hts (.fieldLink RX12 88 "FenceYardsModel" "cursor" "I") (by decide +kernel)) (fun _ h9 => h9) rfl dX12_next_251 ?_
      refine lv_aload_n hx hb dX12_next_254 rfl (lv_at hl 0 rfl) ?_
      refine z_get (C := RX12) (T := TX12) (N := 26) (ci := 11) (v := .int (gI σ 51 10)) hx hb hts i_X12_next_11 hown hK hI 51 rfl (by decide) rfl 10 (by decide) (hts (.fieldLink RX12 94 "FenceYardsModel" "start" "I") (by decide +kernel)) (fun _ h9 => h9) rfl dX12_next_255 ?_
      refine lv_isub hx hb dX12_next_258 ?_
      refine lv_iconst (v := 4) hx hb dX12_next_259 (by decide) ?_
      refine lv_icmp_ge (tgt := 267) hx hb dX12_next_260 (by decide) (fun c2 => ?_) (fun c2 => ?_)
      · have hf := ok_t c2 hf
        refine lv_iconst (v := 4) hx hb dX12_next_267 (by decide) ?_
        refine z_put (C := RX12) (T := TX12) (N := 26) (ci := 11) (ty := .int) (v := .int 4) hx hb hts i_X12_next_11 tyX12 tyX12_ok nmX12 hown hK hI 51 rfl (by decide) rfl 11 (by decide) (hts (.fieldLink RX12 97 "FenceYardsModel" "token" "I") (by decide +kernel)) (fun _ h9 => h9) rfl (by decide +kernel) rfl rfl (Nat.le_of_ble_eq_true rfl) (set_I hI.2.2.2 rfl (by decide) rfl) rfl hI.2.2.2 dX12_next_268 (fun H locs hI => ?_)
        refine lv_goto (tgt := 299) hx hb dX12_next_271 (by decide) ?_
        cases hf
        exact z_vret hx hb hr hlk hK hG hI dX12_next_299
      · have hf := ok_f c2 hf
        refine lv_iconst (v := 2) hx hb dX12_next_263 (by decide) ?_
        refine lv_goto (tgt := 268) hx hb dX12_next_264 (by decide) ?_
        refine z_put (C := RX12) (T := TX12) (N := 26) (ci := 11) (ty := .int) (v := .int 2) hx hb hts i_X12_next_11 tyX12 tyX12_ok nmX12 hown hK hI 51 rfl (by decide) rfl 11 (by decide) (hts (.fieldLink RX12 97 "FenceYardsModel" "token" "I") (by decide +kernel)) (fun _ h9 => h9) rfl (by decide +kernel) rfl rfl (Nat.le_of_ble_eq_true rfl) (set_I hI.2.2.2 rfl (by decide) rfl) rfl hI.2.2.2 dX12_next_268 (fun H locs hI => ?_)
        refine lv_goto (tgt := 299) hx hb dX12_next_271 (by decide) ?_
        cases hf
        exact z_vret hx hb hr hlk hK hG hI dX12_next_299
    · have hf := ok_f c1 hf
      refine lv_aload_n hx hb dX12_next_193 rfl (lv_at hl 0 rfl) ?_
      refine lv_aload_n hx hb dX12_next_194 rfl (lv_at hl 0 rfl) ?_
      refine z_get (C := RX12) (T := TX12) (N := 26) (ci := 11) (v := .int (gI σ 51 9)) hx hb hts i_X12_next_11 hown hK hI 51 rfl (by decide) rfl 9 (by decide) (hts (.fieldLink RX12 88 "FenceYardsModel" "cursor" "I") (by decide +kernel)) (fun _ h9 => h9) rfl dX12_next_195 ?_
      refine lv_aload_n hx hb dX12_next_198 rfl (lv_at hl 0 rfl) ?_
      refine z_get (C := RX12) (T := TX12) (N := 26) (ci := 11) (v := .int (gI σ 51 10)) hx hb hts i_X12_next_11 hown hK hI 51 rfl (by decide) rfl 10 (by decide) (hts (.fieldLink RX12 94 "FenceYardsModel" "start" "I") (by decide +kernel)) (fun _ h9 => h9) rfl dX12_next_199 ?_
      refine lv_isub hx hb dX12_next_202 ?_
      refine lv_iconst (v := 3) hx hb dX12_next_203 (by decide) ?_
      refine lv_icmp_ge (tgt := 229) hx hb dX12_next_204 (by decide) (fun c3 => ?_) (fun c3 => ?_)
      · have hf := ok_t c3 hf
        refine lv_aload_n hx hb dX12_next_229 rfl (lv_at hl 0 rfl) ?_
        refine z_get (C := RX12) (T := TX12) (N := 26) (ci := 11) (v := .int (gI σ 51 12)) hx hb hts i_X12_next_11 hown hK hI 51 rfl (by decide) rfl 12 (by decide) (hts (.fieldLink RX12 104 "FenceYardsModel" "number" "I") (by decide +kernel)) (fun _ h9 => h9) rfl dX12_next_230 ?_
        refine z_put (C := RX12) (T := TX12) (N := 26) (ci := 11) (ty := .int) (v := .int (gI σ 51 12)) hx hb hts i_X12_next_11 tyX12 tyX12_ok nmX12 hown hK hI 51 rfl (by decide) rfl 12 (by decide) (hts (.fieldLink RX12 104 "FenceYardsModel" "number" "I") (by decide +kernel)) (fun _ h9 => h9) rfl (by decide +kernel) rfl rfl (Nat.le_of_ble_eq_true rfl) (set_I hI.2.2.2 rfl (by decide) rfl) rfl hI.2.2.2 dX12_next_233 (fun H locs hI => ?_)
        refine lv_aload_n hx hb dX12_next_236 rfl (lv_at hl 0 rfl) ?_
        refine lv_dup hx hb dX12_next_237 rfl ?_
        refine z_get (C := RX12) (T := TX12) (N := 26) (ci := 11) (v := .int (gI (sI σ 51 12 (gI σ 51 12)) 51 9)) hx hb hts i_X12_next_11 hown hK hI 51 rfl (by decide) rfl 9 (by decide) (hts (.fieldLink RX12 88 "FenceYardsModel" "cursor" "I") (by decide +kernel)) (fun _ h9 => h9) rfl dX12_next_238 ?_
        refine lv_iconst (v := 1) hx hb dX12_next_241 (by decide) ?_
        refine lv_iadd hx hb dX12_next_242 ?_
        refine z_put (C := RX12) (T := TX12) (N := 26) (ci := 11) (ty := .int) (v := .int ((gI (sI σ 51 12 (gI σ 51 12)) 51 9) + 1)) hx hb hts i_X12_next_11 tyX12 tyX12_ok nmX12 hown hK hI 51 rfl (by decide) rfl 9 (by decide) (hts (.fieldLink RX12 88 "FenceYardsModel" "cursor" "I") (by decide +kernel)) (fun _ h9 => h9) rfl (by decide +kernel) rfl rfl (Nat.le_of_ble_eq_true rfl) (set_I hI.2.2.2 rfl (by decide) rfl) rfl hI.2.2.2 dX12_next_243 (fun H locs hI => ?_)
        obtain ⟨s1, es1⟩ : ∃ z, z = sI (sI σ 51 12 (gI σ 51 12)) 51 9 ((gI (sI σ 51 12 (gI σ 51 12)) 51 9) + 1) := ⟨_, rfl⟩
        have hI : Inv G s s1 H locs := by rw [es1]; exact hI
        have hf := ok_n hf es1
        refine lv_goto (tgt := 175) hx hb dX12_next_246 (by decide) ?_
        exact ih _ hf _ _ hI _ (lv_sub hl [0] rfl)
      · have hf := ok_f c3 hf
        refine lv_bipush (v := 10) hx hb dX12_next_207 (by decide) ?_
        refine lv_aload_n hx hb dX12_next_209 rfl (lv_at hl 0 rfl) ?_
        refine z_get (C := RX12) (T := TX12) (N := 26) (ci := 11) (v := .int (gI σ 51 12)) hx hb hts i_X12_next_11 hown hK hI 51 rfl (by decide) rfl 12 (by decide) (hts (.fieldLink RX12 104 "FenceYardsModel" "number" "I") (by decide +kernel)) (fun _ h9 => h9) rfl dX12_next_210 ?_
        refine lv_imul hx hb dX12_next_213 ?_
        refine lv_aload_n hx hb dX12_next_214 rfl (lv_at hl 0 rfl) ?_
        refine lv_aload_n hx hb dX12_next_215 rfl (lv_at hl 0 rfl) ?_
        refine z_get (C := RX12) (T := TX12) (N := 26) (ci := 11) (v := .int (gI σ 51 9)) hx hb hts i_X12_next_11 hown hK hI 51 rfl (by decide) rfl 9 (by decide) (hts (.fieldLink RX12 88 "FenceYardsModel" "cursor" "I") (by decide +kernel)) (fun _ h9 => h9) rfl dX12_next_216 ?_
        obtain ⟨r3, hc3, hf⟩ := ok_1 hf
        refine z_calli0 rfl rfl hI (va_runV (As := [.int (gI σ 51 9)]) (rest := [.int (10 * (gI σ 51 12)), .ref (G.1 + 51)]) ⟨hx, hb, hml, hown, hts⟩ (m_X12_byteAt G l  hc3) (cwV 1 hts gX12_next_X12_byteAt rfl rfl rfl (by decide +kernel) ⟨Nat.le_of_ble_eq_true rfl, Nat.le_of_ble_eq_true rfl⟩) (z_preV hK hG hI (z_rc (q := 51) (ci := 11) (n := 0) hK hI rfl (by decide) rfl)) rfl rfl hl.1 rfl (lv_room (Nat.le_of_ble_eq_true rfl)) dX12_next_219 ⟨Nat.zero_le _, Nat.zero_le _⟩) (fun H locs hI => ?_)
        refine lv_iadd hx hb dX12_next_222 ?_
        refine lv_bipush (v := 48) hx hb dX12_next_223 (by decide) ?_
        refine lv_isub hx hb dX12_next_225 ?_
        refine lv_goto (tgt := 233) hx hb dX12_next_226 (by decide) ?_
        refine z_put (C := RX12) (T := TX12) (N := 26) (ci := 11) (ty := .int) (v := .int (((10 * (gI σ 51 12)) + r3) - 48)) hx hb hts i_X12_next_11 tyX12 tyX12_ok nmX12 hown hK hI 51 rfl (by decide) rfl 12 (by decide) (hts (.fieldLink RX12 104 "FenceYardsModel" "number" "I") (by decide +kernel)) (fun _ h9 => h9) rfl (by decide +kernel) rfl rfl (Nat.le_of_ble_eq_true rfl) (set_I hI.2.2.2 rfl (by decide) rfl) rfl hI.2.2.2 dX12_next_233 (fun H locs hI => ?_)
        refine lv_aload_n hx hb dX12_next_236 rfl (lv_at hl 0 rfl) ?_
        refine lv_dup hx hb dX12_next_237 rfl ?_
        refine z_get (C := RX12) (T := TX12) (N := 26) (ci := 11) (v := .int (gI (sI σ 51 12 (((10 * (gI σ 51 12)) + r3) - 48)) 51 9)) hx hb hts i_X12_next_11 hown hK hI 51 rfl (by decide) rfl 9 (by decide) (hts (.fieldLink RX12 88 "FenceYardsModel" "cursor" "I") (by decide +kernel)) (fun _ h9 => h9) rfl dX12_next_238 ?_
        refine lv_iconst (v := 1) hx hb dX12_next_241 (by decide) ?_
        refine lv_iadd hx hb dX12_next_242 ?_
        refine z_put (C := RX12) (T := TX12) (N := 26) (ci := 11) (ty := .int) (v := .int ((gI (sI σ 51 12 (((10 * (gI σ 51 12)) + r3) - 48)) 51 9) + 1)) hx hb hts i_X12_next_11 tyX12 tyX12_ok nmX12 hown hK hI 51 rfl (by decide) rfl 9 (by decide) (hts (.fieldLink RX12 88 "FenceYardsModel" "cursor" "I") (by decide +kernel)) (fun _ h9 => h9) rfl (by decide +kernel) rfl rfl (Nat.le_of_ble_eq_true rfl) (set_I hI.2.2.2 rfl (by decide) rfl) rfl hI.2.2.2 dX12_next_243 (fun H locs hI => ?_)
        obtain ⟨s2, es2⟩ : ∃ z, z = sI (sI σ 51 12 (((10 * (gI σ 51 12)) + r3) - 48)) 51 9 ((gI (sI σ 51 12 (((10 * (gI σ 51 12)) + r3) - 48)) 51 9) + 1) := ⟨_, rfl⟩
        have hI : Inv G s s2 H locs := by rw [es2]; exact hI
        have hf := ok_n hf es2
        refine lv_goto (tgt := 175) hx hb dX12_next_246 (by decide) ?_
        exact ih _ hf _ _ hI _ (lv_sub hl [0] rfl)

set_option maxRecDepth 100000 in
set_option maxHeartbeats 4000000 in
theorem w_X12_next_89 {G : GT} {p : Program} {l : Launch} {e : Env} {s : State} {m : MethodId} {args : Array Value} {below : List Frame} {meth : Method} {c : Code}  {σ' : Hp}     (C0 : Cx G cX12_next RX12 wsX12_next 2 none p s m args meth c)  :
    ∀ (n : Nat) (σ : Hp), f_X12_next_89 n σ = some σ' → ∀ (H : Heap) (locs : List Loc), Inv G s σ H locs → ∀ ls : Array Slot, lv_has ls 2 [(0, .ref (G.1 + 51))] → W p l e (rmk 1 22) s m args below meth c H locs 0 0 (MQ below (QV G σ') args s (rmk 1 22).cells (rmk 1 22).slots (gA G)) (F0 m 89 ls []) := by
  obtain ⟨hx, hb, hr, hml, hown, hts, hlk, hK, hG⟩ := id C0
  intro n
  induction n with
  | zero =>
    intro σ hf
    cases hf
  | succ n ih =>
    intro σ hf H locs hI ls hl
    rw [f_X12_next_89] at hf
    refine lv_aload_n hx hb dX12_next_89 rfl (lv_at hl 0 rfl) ?_
    refine lv_aload_n hx hb dX12_next_90 rfl (lv_at hl 0 rfl) ?_
    refine z_get (C := RX12) (T := TX12) (N := 26) (ci := 11) (v := .int (gI σ 51 9)) hx hb hts i_X12_next_11 hown hK hI 51 rfl (by decide) rfl 9 (by decide) (hts (.fieldLink RX12 88 "FenceYardsModel" "cursor" "I") (by decide +kernel)) (fun _ h9 => h9) rfl dX12_next_91 ?_
    obtain ⟨r1, hc1, hf⟩ := ok_1 hf
    refine z_calli0 rfl rfl hI (va_runV (As := [.int (gI σ 51 9)]) (rest := []) ⟨hx, hb, hml, hown, hts⟩ (m_X12_byteAt G l  hc1) (cwV 1 hts gX12_next_X12_byteAt rfl rfl rfl (by decide +kernel) ⟨Nat.le_of_ble_eq_true rfl, Nat.le_of_ble_eq_true rfl⟩) (z_preV hK hG hI (z_rc (q := 51) (ci := 11) (n := 0) hK hI rfl (by decide) rfl)) rfl rfl hl.1 rfl (lv_room (Nat.le_of_ble_eq_true rfl)) dX12_next_94 ⟨Nat.zero_le _, Nat.zero_le _⟩) (fun H locs hI => ?_)
    refine lv_bipush (v := 97) hx hb dX12_next_97 (by decide) ?_
    refine lv_bipush (v := 122) hx hb dX12_next_99 (by decide) ?_
    obtain ⟨r2, hc2, hf⟩ := ok_1 hf
    refine z_calli0 rfl rfl hI (va_runS (As := [.int r1, .int 97, .int 122]) (rest := []) ⟨hx, hb, hml, hown, hts⟩ (m_X12_in G l  hc2) (va_cwS 3 hts gX12_next_X12_in rfl rfl rfl (by decide +kernel) ⟨Nat.le_of_ble_eq_true rfl, Nat.le_of_ble_eq_true rfl⟩) (z_pre hK hG hI) rfl rfl hl.1 rfl (lv_room (Nat.le_of_ble_eq_true rfl)) dX12_next_101 ⟨Nat.zero_le _, Nat.zero_le _⟩) (fun H locs hI => ?_)
    refine lv_if_eq (tgt := 299) hx hb dX12_next_104 (by decide) (fun c1 => ?_) (fun c1 => ?_)
    · have hf := ok_t c1 hf
      cases hf
      exact z_vret hx hb hr hlk hK hG hI dX12_next_299
    · have hf := ok_f c1 hf
      refine lv_aload_n hx hb dX12_next_107 rfl (lv_at hl 0 rfl) ?_
      refine lv_aload_n hx hb dX12_next_108 rfl (lv_at hl 0 rfl) ?_
      refine z_get (C := RX12) (T := TX12) (N := 26) (ci := 11) (v := .int (gI σ 51 9)) hx hb hts i_X12_next_11 hown hK hI 51 rfl (by decide) rfl 9 (by decide) (hts (.fieldLink RX12 88 "FenceYardsModel" "cursor" "I") (by decide +kernel)) (fun _ h9 => h9) rfl dX12_next_109 ?_
      refine lv_aload_n hx hb dX12_next_112 rfl (lv_at hl 0 rfl) ?_
      refine z_get (C := RX12) (T := TX12) (N := 26) (ci := 11) (v := .int (gI σ 51 10)) hx hb hts i_X12_next_11 hown hK hI 51 rfl (by decide) rfl 10 (by decide) (hts (.fieldLink RX12 94 "FenceYardsModel" "start" "I") (by decide +kernel)) (fun _ h9 => h9) rfl dX12_next_113 ?_
      refine lv_isub hx hb dX12_next_116 ?_
      refine lv_bipush (v := 7) hx hb dX12_next_117 (by decide) ?_
      refine lv_icmp_ge (tgt := 142) hx hb dX12_next_119 (by decide) (fun c2 => ?_) (fun c2 => ?_)
      · have hf := ok_t c2 hf
        refine lv_lconst (v := 0) hx hb dX12_next_142 (by decide) ?_
        refine z_put (C := RX12) (T := TX12) (N := 26) (ci := 11) (ty := .long) (v := .long 0) hx hb hts i_X12_next_11 tyX12 tyX12_ok nmX12 hown hK hI 51 rfl (by decide) rfl 13 (by decide) (hts (.fieldLink RX12 100 "FenceYardsModel" "name" "J") (by decide +kernel)) (fun _ h9 => h9) rfl (by decide +kernel) rfl rfl (Nat.le_of_ble_eq_true rfl) (set_J hI.2.2.2 rfl (by decide) rfl) rfl hI.2.2.2 dX12_next_143 (fun H locs hI => ?_)
        refine lv_aload_n hx hb dX12_next_146 rfl (lv_at hl 0 rfl) ?_
        refine lv_dup hx hb dX12_next_147 rfl ?_
        refine z_get (C := RX12) (T := TX12) (N := 26) (ci := 11) (v := .int (gI (sJ σ 51 13 0) 51 9)) hx hb hts i_X12_next_11 hown hK hI 51 rfl (by decide) rfl 9 (by decide) (hts (.fieldLink RX12 88 "FenceYardsModel" "cursor" "I") (by decide +kernel)) (fun _ h9 => h9) rfl dX12_next_148 ?_
        refine lv_iconst (v := 1) hx hb dX12_next_151 (by decide) ?_
        refine lv_iadd hx hb dX12_next_152 ?_
        refine z_put (C := RX12) (T := TX12) (N := 26) (ci := 11) (ty := .int) (v := .int ((gI (sJ σ 51 13 0) 51 9) + 1)) hx hb hts i_X12_next_11 tyX12 tyX12_ok nmX12 hown hK hI 51 rfl (by decide) rfl 9 (by decide) (hts (.fieldLink RX12 88 "FenceYardsModel" "cursor" "I") (by decide +kernel)) (fun _ h9 => h9) rfl (by decide +kernel) rfl rfl (Nat.le_of_ble_eq_true rfl) (set_I hI.2.2.2 rfl (by decide) rfl) rfl hI.2.2.2 dX12_next_153 (fun H locs hI => ?_)
        refine lv_goto (tgt := 89) hx hb dX12_next_156 (by decide) ?_
        exact ih _ hf _ _ hI _ (lv_sub hl [0] rfl)
      · have hf := ok_f c2 hf
        refine lv_aload_n hx hb dX12_next_122 rfl (lv_at hl 0 rfl) ?_
        refine z_get (C := RX12) (T := TX12) (N := 26) (ci := 11) (v := .long (gJ σ 51 13)) hx hb hts i_X12_next_11 hown hK hI 51 rfl (by decide) rfl 13 (by decide) (hts (.fieldLink RX12 100 "FenceYardsModel" "name" "J") (by decide +kernel)) (fun _ h9 => h9) rfl dX12_next_123 ?_
        refine lv_bipush (v := 8) hx hb dX12_next_126 (by decide) ?_
        refine lv_lshl hx hb dX12_next_128 rfl ?_
        refine lv_aload_n hx hb dX12_next_129 rfl (lv_at hl 0 rfl) ?_
        refine lv_aload_n hx hb dX12_next_130 rfl (lv_at hl 0 rfl) ?_
        refine z_get (C := RX12) (T := TX12) (N := 26) (ci := 11) (v := .int (gI σ 51 9)) hx hb hts i_X12_next_11 hown hK hI 51 rfl (by decide) rfl 9 (by decide) (hts (.fieldLink RX12 88 "FenceYardsModel" "cursor" "I") (by decide +kernel)) (fun _ h9 => h9) rfl dX12_next_131 ?_
        obtain ⟨r3, hc3, hf⟩ := ok_1 hf
        refine z_calli0 rfl rfl hI (va_runV (As := [.int (gI σ 51 9)]) (rest := [.long ((gJ σ 51 13) <<< ((8 : Int32).toInt64 &&& 63)), .ref (G.1 + 51)]) ⟨hx, hb, hml, hown, hts⟩ (m_X12_byteAt G l  hc3) (cwV 1 hts gX12_next_X12_byteAt rfl rfl rfl (by decide +kernel) ⟨Nat.le_of_ble_eq_true rfl, Nat.le_of_ble_eq_true rfl⟩) (z_preV hK hG hI (z_rc (q := 51) (ci := 11) (n := 0) hK hI rfl (by decide) rfl)) rfl rfl hl.1 rfl (lv_room (Nat.le_of_ble_eq_true rfl)) dX12_next_134 ⟨Nat.zero_le _, Nat.zero_le _⟩) (fun H locs hI => ?_)
        refine lv_i2l hx hb dX12_next_137 rfl ?_
        refine lv_lor hx hb dX12_next_138 ?_
        refine lv_goto (tgt := 143) hx hb dX12_next_139 (by decide) ?_
        refine z_put (C := RX12) (T := TX12) (N := 26) (ci := 11) (ty := .long) (v := .long (((gJ σ 51 13) <<< ((8 : Int32).toInt64 &&& 63)) ||| (r3.toInt64))) hx hb hts i_X12_next_11 tyX12 tyX12_ok nmX12 hown hK hI 51 rfl (by decide) rfl 13 (by decide) (hts (.fieldLink RX12 100 "FenceYardsModel" "name" "J") (by decide +kernel)) (fun _ h9 => h9) rfl (by decide +kernel) rfl rfl (Nat.le_of_ble_eq_true rfl) (set_J hI.2.2.2 rfl (by decide) rfl) rfl hI.2.2.2 dX12_next_143 (fun H locs hI => ?_)
        obtain ⟨s1, es1⟩ : ∃ z, z = sJ σ 51 13 (((gJ σ 51 13) <<< ((8 : Int32).toInt64 &&& 63)) ||| (r3.toInt64)) := ⟨_, rfl⟩
        have hI : Inv G s s1 H locs := by rw [es1]; exact hI
        have hf := ok_n hf es1
        refine lv_aload_n hx hb dX12_next_146 rfl (lv_at hl 0 rfl) ?_
        refine lv_dup hx hb dX12_next_147 rfl ?_
        refine z_get (C := RX12) (T := TX12) (N := 26) (ci := 11) (v := .int (gI s1 51 9)) hx hb hts i_X12_next_11 hown hK hI 51 rfl (by decide) rfl 9 (by decide) (hts (.fieldLink RX12 88 "FenceYardsModel" "cursor" "I") (by decide +kernel)) (fun _ h9 => h9) rfl dX12_next_148 ?_
        refine lv_iconst (v := 1) hx hb dX12_next_151 (by decide) ?_
        refine lv_iadd hx hb dX12_next_152 ?_
        refine z_put (C := RX12) (T := TX12) (N := 26) (ci := 11) (ty := .int) (v := .int ((gI s1 51 9) + 1)) hx hb hts i_X12_next_11 tyX12 tyX12_ok nmX12 hown hK hI 51 rfl (by decide) rfl 9 (by decide) (hts (.fieldLink RX12 88 "FenceYardsModel" "cursor" "I") (by decide +kernel)) (fun _ h9 => h9) rfl (by decide +kernel) rfl rfl (Nat.le_of_ble_eq_true rfl) (set_I hI.2.2.2 rfl (by decide) rfl) rfl hI.2.2.2 dX12_next_153 (fun H locs hI => ?_)
        refine lv_goto (tgt := 89) hx hb dX12_next_156 (by decide) ?_
        exact ih _ hf _ _ hI _ (lv_sub hl [0] rfl)

set_option maxRecDepth 100000 in
set_option maxHeartbeats 4000000 in
theorem w_X12_next_0 {G : GT} {p : Program} {l : Launch} {e : Env} {s : State} {m : MethodId} {args : Array Value} {below : List Frame} {meth : Method} {c : Code}  {σ' : Hp}     (C0 : Cx G cX12_next RX12 wsX12_next 2 none p s m args meth c)  :
    ∀ (n : Nat) (σ : Hp), f_X12_next_0 n σ = some σ' → ∀ (H : Heap) (locs : List Loc), Inv G s σ H locs → ∀ ls : Array Slot, lv_has ls 2 [(0, .ref (G.1 + 51))] → W p l e (rmk 1 22) s m args below meth c H locs 0 0 (MQ below (QV G σ') args s (rmk 1 22).cells (rmk 1 22).slots (gA G)) (F0 m 0 ls []) := by
  obtain ⟨hx, hb, hr, hml, hown, hts, hlk, hK, hG⟩ := id C0
  intro n
  induction n with
  | zero =>
    intro σ hf
    cases hf
  | succ n ih =>
    intro σ hf H locs hI ls hl
    rw [f_X12_next_0] at hf
    refine lv_aload_n hx hb dX12_next_0 rfl (lv_at hl 0 rfl) ?_
    refine lv_aload_n hx hb dX12_next_1 rfl (lv_at hl 0 rfl) ?_
    refine z_get (C := RX12) (T := TX12) (N := 26) (ci := 11) (v := .int (gI σ 51 9)) hx hb hts i_X12_next_11 hown hK hI 51 rfl (by decide) rfl 9 (by decide) (hts (.fieldLink RX12 88 "FenceYardsModel" "cursor" "I") (by decide +kernel)) (fun _ h9 => h9) rfl dX12_next_2 ?_
    obtain ⟨r1, hc1, hf⟩ := ok_1 hf
    refine z_calli0 rfl rfl hI (va_runV (As := [.int (gI σ 51 9)]) (rest := []) ⟨hx, hb, hml, hown, hts⟩ (m_X12_byteAt G l  hc1) (cwV 1 hts gX12_next_X12_byteAt rfl rfl rfl (by decide +kernel) ⟨Nat.le_of_ble_eq_true rfl, Nat.le_of_ble_eq_true rfl⟩) (z_preV hK hG hI (z_rc (q := 51) (ci := 11) (n := 0) hK hI rfl (by decide) rfl)) rfl rfl hl.1 rfl (lv_room (Nat.le_of_ble_eq_true rfl)) dX12_next_5 ⟨Nat.zero_le _, Nat.zero_le _⟩) (fun H locs hI => ?_)
    refine lv_bipush (v := 32) hx hb dX12_next_8 (by decide) ?_
    refine lv_icmp_eq (tgt := 26) hx hb dX12_next_10 (by decide) (fun c1 => ?_) (fun c1 => ?_)
    · have hf := ok_t c1 hf
      refine lv_aload_n hx hb dX12_next_26 rfl (lv_at hl 0 rfl) ?_
      refine lv_dup hx hb dX12_next_27 rfl ?_
      refine z_get (C := RX12) (T := TX12) (N := 26) (ci := 11) (v := .int (gI σ 51 9)) hx hb hts i_X12_next_11 hown hK hI 51 rfl (by decide) rfl 9 (by decide) (hts (.fieldLink RX12 88 "FenceYardsModel" "cursor" "I") (by decide +kernel)) (fun _ h9 => h9) rfl dX12_next_28 ?_
      refine lv_iconst (v := 1) hx hb dX12_next_31 (by decide) ?_
      refine lv_iadd hx hb dX12_next_32 ?_
      refine z_put (C := RX12) (T := TX12) (N := 26) (ci := 11) (ty := .int) (v := .int ((gI σ 51 9) + 1)) hx hb hts i_X12_next_11 tyX12 tyX12_ok nmX12 hown hK hI 51 rfl (by decide) rfl 9 (by decide) (hts (.fieldLink RX12 88 "FenceYardsModel" "cursor" "I") (by decide +kernel)) (fun _ h9 => h9) rfl (by decide +kernel) rfl rfl (Nat.le_of_ble_eq_true rfl) (set_I hI.2.2.2 rfl (by decide) rfl) rfl hI.2.2.2 dX12_next_33 (fun H locs hI => ?_)
      refine lv_goto (tgt := 0) hx hb dX12_next_36 (by decide) ?_
      exact ih _ hf _ _ hI _ (lv_sub hl [0] rfl)
    · have hf := ok_f c1 hf
      refine lv_aload_n hx hb dX12_next_13 rfl (lv_at hl 0 rfl) ?_
      refine lv_aload_n hx hb dX12_next_14 rfl (lv_at hl 0 rfl) ?_
      refine z_get (C := RX12) (T := TX12) (N := 26) (ci := 11) (v := .int (gI σ 51 9)) hx hb hts i_X12_next_11 hown hK hI 51 rfl (by decide) rfl 9 (by decide) (hts (.fieldLink RX12 88 "FenceYardsModel" "cursor" "I") (by decide +kernel)) (fun _ h9 => h9) rfl dX12_next_15 ?_
      obtain ⟨r2, hc2, hf⟩ := ok_1 hf
      refine z_calli0 rfl rfl hI (va_runV (As := [.int (gI σ 51 9)]) (rest := []) ⟨hx, hb, hml, hown, hts⟩ (m_X12_byteAt G l  hc2) (cwV 1 hts gX12_next_X12_byteAt rfl rfl rfl (by decide +kernel) ⟨Nat.le_of_ble_eq_true rfl, Nat.le_of_ble_eq_true rfl⟩) (z_preV hK hG hI (z_rc (q := 51) (ci := 11) (n := 0) hK hI rfl (by decide) rfl)) rfl rfl hl.1 rfl (lv_room (Nat.le_of_ble_eq_true rfl)) dX12_next_18 ⟨Nat.zero_le _, Nat.zero_le _⟩) (fun H locs hI => ?_)
      refine lv_bipush (v := 10) hx hb dX12_next_21 (by decide) ?_
      refine lv_icmp_ne (tgt := 39) hx hb dX12_next_23 (by decide) (fun c2 => ?_) (fun c2 => ?_)
      · have hf := ok_f c2 hf
        refine lv_aload_n hx hb dX12_next_39 rfl (lv_at hl 0 rfl) ?_
        refine lv_aload_n hx hb dX12_next_40 rfl (lv_at hl 0 rfl) ?_
        refine z_get (C := RX12) (T := TX12) (N := 26) (ci := 11) (v := .int (gI σ 51 9)) hx hb hts i_X12_next_11 hown hK hI 51 rfl (by decide) rfl 9 (by decide) (hts (.fieldLink RX12 88 "FenceYardsModel" "cursor" "I") (by decide +kernel)) (fun _ h9 => h9) rfl dX12_next_41 ?_
        refine z_put (C := RX12) (T := TX12) (N := 26) (ci := 11) (ty := .int) (v := .int (gI σ 51 9)) hx hb hts i_X12_next_11 tyX12 tyX12_ok nmX12 hown hK hI 51 rfl (by decide) rfl 10 (by decide) (hts (.fieldLink RX12 94 "FenceYardsModel" "start" "I") (by decide +kernel)) (fun _ h9 => h9) rfl (by decide +kernel) rfl rfl (Nat.le_of_ble_eq_true rfl) (set_I hI.2.2.2 rfl (by decide) rfl) rfl hI.2.2.2 dX12_next_44 (fun H locs hI => ?_)
        refine lv_aload_n hx hb dX12_next_47 rfl (lv_at hl 0 rfl) ?_
        refine lv_aload_n hx hb dX12_next_48 rfl (lv_at hl 0 rfl) ?_
        refine z_get (C := RX12) (T := TX12) (N := 26) (ci := 11) (v := .int (gI (sI σ 51 10 (gI σ 51 9)) 51 9)) hx hb hts i_X12_next_11 hown hK hI 51 rfl (by decide) rfl 9 (by decide) (hts (.fieldLink RX12 88 "FenceYardsModel" "cursor" "I") (by decide +kernel)) (fun _ h9 => h9) rfl dX12_next_49 ?_
        obtain ⟨r3, hc3, hf⟩ := ok_1 hf
        refine z_calli0 rfl rfl hI (va_runV (As := [.int (gI (sI σ 51 10 (gI σ 51 9)) 51 9)]) (rest := []) ⟨hx, hb, hml, hown, hts⟩ (m_X12_byteAt G l  hc3) (cwV 1 hts gX12_next_X12_byteAt rfl rfl rfl (by decide +kernel) ⟨Nat.le_of_ble_eq_true rfl, Nat.le_of_ble_eq_true rfl⟩) (z_preV hK hG hI (z_rc (q := 51) (ci := 11) (n := 0) hK hI rfl (by decide) rfl)) rfl rfl hl.1 rfl (lv_room (Nat.le_of_ble_eq_true rfl)) dX12_next_52 ⟨Nat.zero_le _, Nat.zero_le _⟩) (fun H locs hI => ?_)
        refine lv_istore_n (lv' := [(1, .int r3), (0, .ref (G.1 + 51))]) hx hb dX12_next_55 rfl hl (by decide) rfl (fun ls hl => ?_)
        refine lv_iload_n hx hb dX12_next_56 rfl (lv_at hl 0 rfl) ?_
        refine lv_if_ge (tgt := 68) hx hb dX12_next_57 (by decide) (fun c3 => ?_) (fun c3 => ?_)
        · have hf := ok_t c3 hf
          refine lv_iload_n hx hb dX12_next_68 rfl (lv_at hl 0 rfl) ?_
          refine lv_bipush (v := 97) hx hb dX12_next_69 (by decide) ?_
          refine lv_bipush (v := 122) hx hb dX12_next_71 (by decide) ?_
          obtain ⟨r4, hc4, hf⟩ := ok_1 hf
          refine z_calli0 rfl rfl hI (va_runS (As := [.int r3, .int 97, .int 122]) (rest := []) ⟨hx, hb, hml, hown, hts⟩ (m_X12_in G l  hc4) (va_cwS 3 hts gX12_next_X12_in rfl rfl rfl (by decide +kernel) ⟨Nat.le_of_ble_eq_true rfl, Nat.le_of_ble_eq_true rfl⟩) (z_pre hK hG hI) rfl rfl hl.1 rfl (lv_room (Nat.le_of_ble_eq_true rfl)) dX12_next_73 ⟨Nat.zero_le _, Nat.zero_le _⟩) (fun H locs hI => ?_)
          refine lv_if_eq (tgt := 159) hx hb dX12_next_76 (by decide) (fun c4 => ?_) (fun c4 => ?_)
          · have hf := ok_t c4 hf
            refine lv_iload_n hx hb dX12_next_159 rfl (lv_at hl 0 rfl) ?_
            refine lv_bipush (v := 48) hx hb dX12_next_160 (by decide) ?_
            refine lv_bipush (v := 57) hx hb dX12_next_162 (by decide) ?_
            obtain ⟨r5, hc5, hf⟩ := ok_1 hf
            refine z_calli0 rfl rfl hI (va_runS (As := [.int r3, .int 48, .int 57]) (rest := []) ⟨hx, hb, hml, hown, hts⟩ (m_X12_in G l  hc5) (va_cwS 3 hts gX12_next_X12_in rfl rfl rfl (by decide +kernel) ⟨Nat.le_of_ble_eq_true rfl, Nat.le_of_ble_eq_true rfl⟩) (z_pre hK hG hI) rfl rfl hl.1 rfl (lv_room (Nat.le_of_ble_eq_true rfl)) dX12_next_164 ⟨Nat.zero_le _, Nat.zero_le _⟩) (fun H locs hI => ?_)
            refine lv_if_eq (tgt := 274) hx hb dX12_next_167 (by decide) (fun c5 => ?_) (fun c5 => ?_)
            · have hf := ok_t c5 hf
              refine lv_aload_n hx hb dX12_next_274 rfl (lv_at hl 1 rfl) ?_
              refine lv_iload_n hx hb dX12_next_275 rfl (lv_at hl 0 rfl) ?_
              refine lv_bipush (v := 59) hx hb dX12_next_276 (by decide) ?_
              refine lv_icmp_ne (tgt := 285) hx hb dX12_next_278 (by decide) (fun c6 => ?_) (fun c6 => ?_)
              · have hf := ok_f c6 hf
                refine lv_iconst (v := 4) hx hb dX12_next_285 (by decide) ?_
                refine z_put (C := RX12) (T := TX12) (N := 26) (ci := 11) (ty := .int) (v := .int 4) hx hb hts i_X12_next_11 tyX12 tyX12_ok nmX12 hown hK hI 51 rfl (by decide) rfl 11 (by decide) (hts (.fieldLink RX12 97 "FenceYardsModel" "token" "I") (by decide +kernel)) (fun _ h9 => h9) rfl (by decide +kernel) rfl rfl (Nat.le_of_ble_eq_true rfl) (set_I hI.2.2.2 rfl (by decide) rfl) rfl hI.2.2.2 dX12_next_286 (fun H locs hI => ?_)
                refine lv_aload_n hx hb dX12_next_289 rfl (lv_at hl 1 rfl) ?_
                refine lv_dup hx hb dX12_next_290 rfl ?_
                refine z_get (C := RX12) (T := TX12) (N := 26) (ci := 11) (v := .int (gI (sI (sI σ 51 10 (gI σ 51 9)) 51 11 4) 51 9)) hx hb hts i_X12_next_11 hown hK hI 51 rfl (by decide) rfl 9 (by decide) (hts (.fieldLink RX12 88 "FenceYardsModel" "cursor" "I") (by decide +kernel)) (fun _ h9 => h9) rfl dX12_next_291 ?_
                refine lv_iconst (v := 1) hx hb dX12_next_294 (by decide) ?_
                refine lv_iadd hx hb dX12_next_295 ?_
                refine z_put (C := RX12) (T := TX12) (N := 26) (ci := 11) (ty := .int) (v := .int ((gI (sI (sI σ 51 10 (gI σ 51 9)) 51 11 4) 51 9) + 1)) hx hb hts i_X12_next_11 tyX12 tyX12_ok nmX12 hown hK hI 51 rfl (by decide) rfl 9 (by decide) (hts (.fieldLink RX12 88 "FenceYardsModel" "cursor" "I") (by decide +kernel)) (fun _ h9 => h9) rfl (by decide +kernel) rfl rfl (Nat.le_of_ble_eq_true rfl) (set_I hI.2.2.2 rfl (by decide) rfl) rfl hI.2.2.2 dX12_next_296 (fun H locs hI => ?_)
                obtain ⟨s1, es1⟩ : ∃ z, z = sI (sI (sI σ 51 10 (gI σ 51 9)) 51 11 4) 51 9 ((gI (sI (sI σ 51 10 (gI σ 51 9)) 51 11 4) 51 9) + 1) := ⟨_, rfl⟩
                have hI : Inv G s s1 H locs := by rw [es1]; exact hI
                have hf := ok_n hf es1
                cases hf
                exact z_vret hx hb hr hlk hK hG hI dX12_next_299
              · have hf := ok_t c6 hf
                refine lv_iconst (v := 3) hx hb dX12_next_281 (by decide) ?_
                refine lv_goto (tgt := 286) hx hb dX12_next_282 (by decide) ?_
                refine z_put (C := RX12) (T := TX12) (N := 26) (ci := 11) (ty := .int) (v := .int 3) hx hb hts i_X12_next_11 tyX12 tyX12_ok nmX12 hown hK hI 51 rfl (by decide) rfl 11 (by decide) (hts (.fieldLink RX12 97 "FenceYardsModel" "token" "I") (by decide +kernel)) (fun _ h9 => h9) rfl (by decide +kernel) rfl rfl (Nat.le_of_ble_eq_true rfl) (set_I hI.2.2.2 rfl (by decide) rfl) rfl hI.2.2.2 dX12_next_286 (fun H locs hI => ?_)
                refine lv_aload_n hx hb dX12_next_289 rfl (lv_at hl 1 rfl) ?_
                refine lv_dup hx hb dX12_next_290 rfl ?_
                refine z_get (C := RX12) (T := TX12) (N := 26) (ci := 11) (v := .int (gI (sI (sI σ 51 10 (gI σ 51 9)) 51 11 3) 51 9)) hx hb hts i_X12_next_11 hown hK hI 51 rfl (by decide) rfl 9 (by decide) (hts (.fieldLink RX12 88 "FenceYardsModel" "cursor" "I") (by decide +kernel)) (fun _ h9 => h9) rfl dX12_next_291 ?_
                refine lv_iconst (v := 1) hx hb dX12_next_294 (by decide) ?_
                refine lv_iadd hx hb dX12_next_295 ?_
                refine z_put (C := RX12) (T := TX12) (N := 26) (ci := 11) (ty := .int) (v := .int ((gI (sI (sI σ 51 10 (gI σ 51 9)) 51 11 3) 51 9) + 1)) hx hb hts i_X12_next_11 tyX12 tyX12_ok nmX12 hown hK hI 51 rfl (by decide) rfl 9 (by decide) (hts (.fieldLink RX12 88 "FenceYardsModel" "cursor" "I") (by decide +kernel)) (fun _ h9 => h9) rfl (by decide +kernel) rfl rfl (Nat.le_of_ble_eq_true rfl) (set_I hI.2.2.2 rfl (by decide) rfl) rfl hI.2.2.2 dX12_next_296 (fun H locs hI => ?_)
                obtain ⟨s2, es2⟩ : ∃ z, z = sI (sI (sI σ 51 10 (gI σ 51 9)) 51 11 3) 51 9 ((gI (sI (sI σ 51 10 (gI σ 51 9)) 51 11 3) 51 9) + 1) := ⟨_, rfl⟩
                have hI : Inv G s s2 H locs := by rw [es2]; exact hI
                have hf := ok_n hf es2
                cases hf
                exact z_vret hx hb hr hlk hK hG hI dX12_next_299
            · have hf := ok_f c5 hf
              refine lv_aload_n hx hb dX12_next_170 rfl (lv_at hl 1 rfl) ?_
              refine lv_iconst (v := 0) hx hb dX12_next_171 (by decide) ?_
              refine z_put (C := RX12) (T := TX12) (N := 26) (ci := 11) (ty := .int) (v := .int 0) hx hb hts i_X12_next_11 tyX12 tyX12_ok nmX12 hown hK hI 51 rfl (by decide) rfl 12 (by decide) (hts (.fieldLink RX12 104 "FenceYardsModel" "number" "I") (by decide +kernel)) (fun _ h9 => h9) rfl (by decide +kernel) rfl rfl (Nat.le_of_ble_eq_true rfl) (set_I hI.2.2.2 rfl (by decide) rfl) rfl hI.2.2.2 dX12_next_172 (fun H locs hI => ?_)
              exact w_X12_next_175  C0  _ _ hf _ _ hI _ (lv_sub hl [1] rfl)
          · have hf := ok_f c4 hf
            refine lv_aload_n hx hb dX12_next_79 rfl (lv_at hl 1 rfl) ?_
            refine lv_iconst (v := 1) hx hb dX12_next_80 (by decide) ?_
            refine z_put (C := RX12) (T := TX12) (N := 26) (ci := 11) (ty := .int) (v := .int 1) hx hb hts i_X12_next_11 tyX12 tyX12_ok nmX12 hown hK hI 51 rfl (by decide) rfl 11 (by decide) (hts (.fieldLink RX12 97 "FenceYardsModel" "token" "I") (by decide +kernel)) (fun _ h9 => h9) rfl (by decide +kernel) rfl rfl (Nat.le_of_ble_eq_true rfl) (set_I hI.2.2.2 rfl (by decide) rfl) rfl hI.2.2.2 dX12_next_81 (fun H locs hI => ?_)
            refine lv_aload_n hx hb dX12_next_84 rfl (lv_at hl 1 rfl) ?_
            refine lv_lconst (v := 0) hx hb dX12_next_85 (by decide) ?_
            refine z_put (C := RX12) (T := TX12) (N := 26) (ci := 11) (ty := .long) (v := .long 0) hx hb hts i_X12_next_11 tyX12 tyX12_ok nmX12 hown hK hI 51 rfl (by decide) rfl 13 (by decide) (hts (.fieldLink RX12 100 "FenceYardsModel" "name" "J") (by decide +kernel)) (fun _ h9 => h9) rfl (by decide +kernel) rfl rfl (Nat.le_of_ble_eq_true rfl) (set_J hI.2.2.2 rfl (by decide) rfl) rfl hI.2.2.2 dX12_next_86 (fun H locs hI => ?_)
            exact w_X12_next_89  C0  _ _ hf _ _ hI _ (lv_sub hl [1] rfl)
        · have hf := ok_f c3 hf
          refine lv_aload_n hx hb dX12_next_60 rfl (lv_at hl 1 rfl) ?_
          refine lv_iconst (v := 0) hx hb dX12_next_61 (by decide) ?_
          refine z_put (C := RX12) (T := TX12) (N := 26) (ci := 11) (ty := .int) (v := .int 0) hx hb hts i_X12_next_11 tyX12 tyX12_ok nmX12 hown hK hI 51 rfl (by decide) rfl 11 (by decide) (hts (.fieldLink RX12 97 "FenceYardsModel" "token" "I") (by decide +kernel)) (fun _ h9 => h9) rfl (by decide +kernel) rfl rfl (Nat.le_of_ble_eq_true rfl) (set_I hI.2.2.2 rfl (by decide) rfl) rfl hI.2.2.2 dX12_next_62 (fun H locs hI => ?_)
          refine lv_goto (tgt := 299) hx hb dX12_next_65 (by decide) ?_
          cases hf
          exact z_vret hx hb hr hlk hK hG hI dX12_next_299
      · have hf := ok_t c2 hf
        refine lv_aload_n hx hb dX12_next_26 rfl (lv_at hl 0 rfl) ?_
        refine lv_dup hx hb dX12_next_27 rfl ?_
        refine z_get (C := RX12) (T := TX12) (N := 26) (ci := 11) (v := .int (gI σ 51 9)) hx hb hts i_X12_next_11 hown hK hI 51 rfl (by decide) rfl 9 (by decide) (hts (.fieldLink RX12 88 "FenceYardsModel" "cursor" "I") (by decide +kernel)) (fun _ h9 => h9) rfl dX12_next_28 ?_
        refine lv_iconst (v := 1) hx hb dX12_next_31 (by decide) ?_
        refine lv_iadd hx hb dX12_next_32 ?_
        refine z_put (C := RX12) (T := TX12) (N := 26) (ci := 11) (ty := .int) (v := .int ((gI σ 51 9) + 1)) hx hb hts i_X12_next_11 tyX12 tyX12_ok nmX12 hown hK hI 51 rfl (by decide) rfl 9 (by decide) (hts (.fieldLink RX12 88 "FenceYardsModel" "cursor" "I") (by decide +kernel)) (fun _ h9 => h9) rfl (by decide +kernel) rfl rfl (Nat.le_of_ble_eq_true rfl) (set_I hI.2.2.2 rfl (by decide) rfl) rfl hI.2.2.2 dX12_next_33 (fun H locs hI => ?_)
        refine lv_goto (tgt := 0) hx hb dX12_next_36 (by decide) ?_
        exact ih _ hf _ _ hI _ (lv_sub hl [0] rfl)

set_option maxRecDepth 100000 in
set_option maxHeartbeats 4000000 in
theorem m_X12_next (G : GT) (l : Launch) {σ : Hp}  {σ' : Hp}  (hf : f_X12_next σ = some σ') : MetG G l yX12_next wsX12_next (rmk 1 22) σ [.ref (G.1 + 51)] (QV G σ') := by
  refine met_of (cc := cX12_next) (nL := 2) (ret := none) (by decide) rfl (Nat.le_of_ble_eq_true rfl) ?_
  intro p e s m below meth c C0 hnm hI ls hl
  obtain ⟨hx, hb, hr, hml, hown, hts, hlk, hK, hG⟩ := id C0
  have hl : lv_has ls 2 [(0, .ref (G.1 + 51))] := hl
  unfold f_X12_next at hf
  refine lv_aload_n hx hb dX12_next_0 rfl (lv_at hl 0 rfl) ?_
  refine lv_aload_n hx hb dX12_next_1 rfl (lv_at hl 0 rfl) ?_
  refine z_get (C := RX12) (T := TX12) (N := 26) (ci := 11) (v := .int (gI σ 51 9)) hx hb hts i_X12_next_11 hown hK hI 51 rfl (by decide) rfl 9 (by decide) (hts (.fieldLink RX12 88 "FenceYardsModel" "cursor" "I") (by decide +kernel)) (fun _ h9 => h9) rfl dX12_next_2 ?_
  obtain ⟨r1, hc1, hf⟩ := ok_1 hf
  refine z_calli0 rfl rfl hI (va_runV (As := [.int (gI σ 51 9)]) (rest := []) ⟨hx, hb, hml, hown, hts⟩ (m_X12_byteAt G l  hc1) (cwV 1 hts gX12_next_X12_byteAt rfl rfl rfl (by decide +kernel) ⟨Nat.le_of_ble_eq_true rfl, Nat.le_of_ble_eq_true rfl⟩) (z_preV hK hG hI (z_rc (q := 51) (ci := 11) (n := 0) hK hI rfl (by decide) rfl)) rfl rfl hl.1 rfl (lv_room (Nat.le_of_ble_eq_true rfl)) dX12_next_5 ⟨Nat.zero_le _, Nat.zero_le _⟩) (fun H locs hI => ?_)
  refine lv_bipush (v := 32) hx hb dX12_next_8 (by decide) ?_
  refine lv_icmp_eq (tgt := 26) hx hb dX12_next_10 (by decide) (fun c1 => ?_) (fun c1 => ?_)
  · have hf := ok_t c1 hf
    refine lv_aload_n hx hb dX12_next_26 rfl (lv_at hl 0 rfl) ?_
    refine lv_dup hx hb dX12_next_27 rfl ?_
    refine z_get (C := RX12) (T := TX12) (N := 26) (ci := 11) (v := .int (gI σ 51 9)) hx hb hts i_X12_next_11 hown hK hI 51 rfl (by decide) rfl 9 (by decide) (hts (.fieldLink RX12 88 "FenceYardsModel" "cursor" "I") (by decide +kernel)) (fun _ h9 => h9) rfl dX12_next_28 ?_
    refine lv_iconst (v := 1) hx hb dX12_next_31 (by decide) ?_
    refine lv_iadd hx hb dX12_next_32 ?_
    refine z_put (C := RX12) (T := TX12) (N := 26) (ci := 11) (ty := .int) (v := .int ((gI σ 51 9) + 1)) hx hb hts i_X12_next_11 tyX12 tyX12_ok nmX12 hown hK hI 51 rfl (by decide) rfl 9 (by decide) (hts (.fieldLink RX12 88 "FenceYardsModel" "cursor" "I") (by decide +kernel)) (fun _ h9 => h9) rfl (by decide +kernel) rfl rfl (Nat.le_of_ble_eq_true rfl) (set_I hI.2.2.2 rfl (by decide) rfl) rfl hI.2.2.2 dX12_next_33 (fun H locs hI => ?_)
    refine lv_goto (tgt := 0) hx hb dX12_next_36 (by decide) ?_
    exact w_X12_next_0  C0  _ _ hf _ _ hI _ (lv_sub hl [0] rfl)
  · have hf := ok_f c1 hf
    refine lv_aload_n hx hb dX12_next_13 rfl (lv_at hl 0 rfl) ?_
    refine lv_aload_n hx hb dX12_next_14 rfl (lv_at hl 0 rfl) ?_
    refine z_get (C := RX12) (T := TX12) (N := 26) (ci := 11) (v := .int (gI σ 51 9)) hx hb hts i_X12_next_11 hown hK hI 51 rfl (by decide) rfl 9 (by decide) (hts (.fieldLink RX12 88 "FenceYardsModel" "cursor" "I") (by decide +kernel)) (fun _ h9 => h9) rfl dX12_next_15 ?_
    obtain ⟨r2, hc2, hf⟩ := ok_1 hf
    refine z_calli0 rfl rfl hI (va_runV (As := [.int (gI σ 51 9)]) (rest := []) ⟨hx, hb, hml, hown, hts⟩ (m_X12_byteAt G l  hc2) (cwV 1 hts gX12_next_X12_byteAt rfl rfl rfl (by decide +kernel) ⟨Nat.le_of_ble_eq_true rfl, Nat.le_of_ble_eq_true rfl⟩) (z_preV hK hG hI (z_rc (q := 51) (ci := 11) (n := 0) hK hI rfl (by decide) rfl)) rfl rfl hl.1 rfl (lv_room (Nat.le_of_ble_eq_true rfl)) dX12_next_18 ⟨Nat.zero_le _, Nat.zero_le _⟩) (fun H locs hI => ?_)
    refine lv_bipush (v := 10) hx hb dX12_next_21 (by decide) ?_
    refine lv_icmp_ne (tgt := 39) hx hb dX12_next_23 (by decide) (fun c2 => ?_) (fun c2 => ?_)
    · have hf := ok_f c2 hf
      refine lv_aload_n hx hb dX12_next_39 rfl (lv_at hl 0 rfl) ?_
      refine lv_aload_n hx hb dX12_next_40 rfl (lv_at hl 0 rfl) ?_
      refine z_get (C := RX12) (T := TX12) (N := 26) (ci := 11) (v := .int (gI σ 51 9)) hx hb hts i_X12_next_11 hown hK hI 51 rfl (by decide) rfl 9 (by decide) (hts (.fieldLink RX12 88 "FenceYardsModel" "cursor" "I") (by decide +kernel)) (fun _ h9 => h9) rfl dX12_next_41 ?_
      refine z_put (C := RX12) (T := TX12) (N := 26) (ci := 11) (ty := .int) (v := .int (gI σ 51 9)) hx hb hts i_X12_next_11 tyX12 tyX12_ok nmX12 hown hK hI 51 rfl (by decide) rfl 10 (by decide) (hts (.fieldLink RX12 94 "FenceYardsModel" "start" "I") (by decide +kernel)) (fun _ h9 => h9) rfl (by decide +kernel) rfl rfl (Nat.le_of_ble_eq_true rfl) (set_I hI.2.2.2 rfl (by decide) rfl) rfl hI.2.2.2 dX12_next_44 (fun H locs hI => ?_)
      refine lv_aload_n hx hb dX12_next_47 rfl (lv_at hl 0 rfl) ?_
      refine lv_aload_n hx hb dX12_next_48 rfl (lv_at hl 0 rfl) ?_
      refine z_get (C := RX12) (T := TX12) (N := 26) (ci := 11) (v := .int (gI (sI σ 51 10 (gI σ 51 9)) 51 9)) hx hb hts i_X12_next_11 hown hK hI 51 rfl (by decide) rfl 9 (by decide) (hts (.fieldLink RX12 88 "FenceYardsModel" "cursor" "I") (by decide +kernel)) (fun _ h9 => h9) rfl dX12_next_49 ?_
      obtain ⟨r3, hc3, hf⟩ := ok_1 hf
      refine z_calli0 rfl rfl hI (va_runV (As := [.int (gI (sI σ 51 10 (gI σ 51 9)) 51 9)]) (rest := []) ⟨hx, hb, hml, hown, hts⟩ (m_X12_byteAt G l  hc3) (cwV 1 hts gX12_next_X12_byteAt rfl rfl rfl (by decide +kernel) ⟨Nat.le_of_ble_eq_true rfl, Nat.le_of_ble_eq_true rfl⟩) (z_preV hK hG hI (z_rc (q := 51) (ci := 11) (n := 0) hK hI rfl (by decide) rfl)) rfl rfl hl.1 rfl (lv_room (Nat.le_of_ble_eq_true rfl)) dX12_next_52 ⟨Nat.zero_le _, Nat.zero_le _⟩) (fun H locs hI => ?_)
      refine lv_istore_n (lv' := [(1, .int r3), (0, .ref (G.1 + 51))]) hx hb dX12_next_55 rfl hl (by decide) rfl (fun ls hl => ?_)
      refine lv_iload_n hx hb dX12_next_56 rfl (lv_at hl 0 rfl) ?_
      refine lv_if_ge (tgt := 68) hx hb dX12_next_57 (by decide) (fun c3 => ?_) (fun c3 => ?_)
      · have hf := ok_t c3 hf
        refine lv_iload_n hx hb dX12_next_68 rfl (lv_at hl 0 rfl) ?_
        refine lv_bipush (v := 97) hx hb dX12_next_69 (by decide) ?_
        refine lv_bipush (v := 122) hx hb dX12_next_71 (by decide) ?_
        obtain ⟨r4, hc4, hf⟩ := ok_1 hf
        refine z_calli0 rfl rfl hI (va_runS (As := [.int r3, .int 97, .int 122]) (rest := []) ⟨hx, hb, hml, hown, hts⟩ (m_X12_in G l  hc4) (va_cwS 3 hts gX12_next_X12_in rfl rfl rfl (by decide +kernel) ⟨Nat.le_of_ble_eq_true rfl, Nat.le_of_ble_eq_true rfl⟩) (z_pre hK hG hI) rfl rfl hl.1 rfl (lv_room (Nat.le_of_ble_eq_true rfl)) dX12_next_73 ⟨Nat.zero_le _, Nat.zero_le _⟩) (fun H locs hI => ?_)
        refine lv_if_eq (tgt := 159) hx hb dX12_next_76 (by decide) (fun c4 => ?_) (fun c4 => ?_)
        · have hf := ok_t c4 hf
          refine lv_iload_n hx hb dX12_next_159 rfl (lv_at hl 0 rfl) ?_
          refine lv_bipush (v := 48) hx hb dX12_next_160 (by decide) ?_
          refine lv_bipush (v := 57) hx hb dX12_next_162 (by decide) ?_
          obtain ⟨r5, hc5, hf⟩ := ok_1 hf
          refine z_calli0 rfl rfl hI (va_runS (As := [.int r3, .int 48, .int 57]) (rest := []) ⟨hx, hb, hml, hown, hts⟩ (m_X12_in G l  hc5) (va_cwS 3 hts gX12_next_X12_in rfl rfl rfl (by decide +kernel) ⟨Nat.le_of_ble_eq_true rfl, Nat.le_of_ble_eq_true rfl⟩) (z_pre hK hG hI) rfl rfl hl.1 rfl (lv_room (Nat.le_of_ble_eq_true rfl)) dX12_next_164 ⟨Nat.zero_le _, Nat.zero_le _⟩) (fun H locs hI => ?_)
          refine lv_if_eq (tgt := 274) hx hb dX12_next_167 (by decide) (fun c5 => ?_) (fun c5 => ?_)
          · have hf := ok_t c5 hf
            refine lv_aload_n hx hb dX12_next_274 rfl (lv_at hl 1 rfl) ?_
            refine lv_iload_n hx hb dX12_next_275 rfl (lv_at hl 0 rfl) ?_
            refine lv_bipush (v := 59) hx hb dX12_next_276 (by decide) ?_
            refine lv_icmp_ne (tgt := 285) hx hb dX12_next_278 (by decide) (fun c6 => ?_) (fun c6 => ?_)
            · have hf := ok_f c6 hf
              refine lv_iconst (v := 4) hx hb dX12_next_285 (by decide) ?_
              refine z_put (C := RX12) (T := TX12) (N := 26) (ci := 11) (ty := .int) (v := .int 4) hx hb hts i_X12_next_11 tyX12 tyX12_ok nmX12 hown hK hI 51 rfl (by decide) rfl 11 (by decide) (hts (.fieldLink RX12 97 "FenceYardsModel" "token" "I") (by decide +kernel)) (fun _ h9 => h9) rfl (by decide +kernel) rfl rfl (Nat.le_of_ble_eq_true rfl) (set_I hI.2.2.2 rfl (by decide) rfl) rfl hI.2.2.2 dX12_next_286 (fun H locs hI => ?_)
              refine lv_aload_n hx hb dX12_next_289 rfl (lv_at hl 1 rfl) ?_
              refine lv_dup hx hb dX12_next_290 rfl ?_
              refine z_get (C := RX12) (T := TX12) (N := 26) (ci := 11) (v := .int (gI (sI (sI σ 51 10 (gI σ 51 9)) 51 11 4) 51 9)) hx hb hts i_X12_next_11 hown hK hI 51 rfl (by decide) rfl 9 (by decide) (hts (.fieldLink RX12 88 "FenceYardsModel" "cursor" "I") (by decide +kernel)) (fun _ h9 => h9) rfl dX12_next_291 ?_
              refine lv_iconst (v := 1) hx hb dX12_next_294 (by decide) ?_
              refine lv_iadd hx hb dX12_next_295 ?_
              refine z_put (C := RX12) (T := TX12) (N := 26) (ci := 11) (ty := .int) (v := .int ((gI (sI (sI σ 51 10 (gI σ 51 9)) 51 11 4) 51 9) + 1)) hx hb hts i_X12_next_11 tyX12 tyX12_ok nmX12 hown hK hI 51 rfl (by decide) rfl 9 (by decide) (hts (.fieldLink RX12 88 "FenceYardsModel" "cursor" "I") (by decide +kernel)) (fun _ h9 => h9) rfl (by decide +kernel) rfl rfl (Nat.le_of_ble_eq_true rfl) (set_I hI.2.2.2 rfl (by decide) rfl) rfl hI.2.2.2 dX12_next_296 (fun H locs hI => ?_)
              obtain ⟨s1, es1⟩ : ∃ z, z = sI (sI (sI σ 51 10 (gI σ 51 9)) 51 11 4) 51 9 ((gI (sI (sI σ 51 10 (gI σ 51 9)) 51 11 4) 51 9) + 1) := ⟨_, rfl⟩
              have hI : Inv G s s1 H locs := by rw [es1]; exact hI
              have hf := ok_n hf es1
              cases hf
              exact z_vret hx hb hr hlk hK hG hI dX12_next_299
            · have hf := ok_t c6 hf
              refine lv_iconst (v := 3) hx hb dX12_next_281 (by decide) ?_
              refine lv_goto (tgt := 286) hx hb dX12_next_282 (by decide) ?_
              refine z_put (C := RX12) (T := TX12) (N := 26) (ci := 11) (ty := .int) (v := .int 3) hx hb hts i_X12_next_11 tyX12 tyX12_ok nmX12 hown hK hI 51 rfl (by decide) rfl 11 (by decide) (hts (.fieldLink RX12 97 "FenceYardsModel" "token" "I") (by decide +kernel)) (fun _ h9 => h9) rfl (by decide +kernel) rfl rfl (Nat.le_of_ble_eq_true rfl) (set_I hI.2.2.2 rfl (by decide) rfl) rfl hI.2.2.2 dX12_next_286 (fun H locs hI => ?_)
              refine lv_aload_n hx hb dX12_next_289 rfl (lv_at hl 1 rfl) ?_
              refine lv_dup hx hb dX12_next_290 rfl ?_
              refine z_get (C := RX12) (T := TX12) (N := 26) (ci := 11) (v := .int (gI (sI (sI σ 51 10 (gI σ 51 9)) 51 11 3) 51 9)) hx hb hts i_X12_next_11 hown hK hI 51 rfl (by decide) rfl 9 (by decide) (hts (.fieldLink RX12 88 "FenceYardsModel" "cursor" "I") (by decide +kernel)) (fun _ h9 => h9) rfl dX12_next_291 ?_
              refine lv_iconst (v := 1) hx hb dX12_next_294 (by decide) ?_
              refine lv_iadd hx hb dX12_next_295 ?_
              refine z_put (C := RX12) (T := TX12) (N := 26) (ci := 11) (ty := .int) (v := .int ((gI (sI (sI σ 51 10 (gI σ 51 9)) 51 11 3) 51 9) + 1)) hx hb hts i_X12_next_11 tyX12 tyX12_ok nmX12 hown hK hI 51 rfl (by decide) rfl 9 (by decide) (hts (.fieldLink RX12 88 "FenceYardsModel" "cursor" "I") (by decide +kernel)) (fun _ h9 => h9) rfl (by decide +kernel) rfl rfl (Nat.le_of_ble_eq_true rfl) (set_I hI.2.2.2 rfl (by decide) rfl) rfl hI.2.2.2 dX12_next_296 (fun H locs hI => ?_)
              obtain ⟨s2, es2⟩ : ∃ z, z = sI (sI (sI σ 51 10 (gI σ 51 9)) 51 11 3) 51 9 ((gI (sI (sI σ 51 10 (gI σ 51 9)) 51 11 3) 51 9) + 1) := ⟨_, rfl⟩
              have hI : Inv G s s2 H locs := by rw [es2]; exact hI
              have hf := ok_n hf es2
              cases hf
              exact z_vret hx hb hr hlk hK hG hI dX12_next_299
          · have hf := ok_f c5 hf
            refine lv_aload_n hx hb dX12_next_170 rfl (lv_at hl 1 rfl) ?_
            refine lv_iconst (v := 0) hx hb dX12_next_171 (by decide) ?_
            refine z_put (C := RX12) (T := TX12) (N := 26) (ci := 11) (ty := .int) (v := .int 0) hx hb hts i_X12_next_11 tyX12 tyX12_ok nmX12 hown hK hI 51 rfl (by decide) rfl 12 (by decide) (hts (.fieldLink RX12 104 "FenceYardsModel" "number" "I") (by decide +kernel)) (fun _ h9 => h9) rfl (by decide +kernel) rfl rfl (Nat.le_of_ble_eq_true rfl) (set_I hI.2.2.2 rfl (by decide) rfl) rfl hI.2.2.2 dX12_next_172 (fun H locs hI => ?_)
            exact w_X12_next_175  C0  _ _ hf _ _ hI _ (lv_sub hl [1] rfl)
        · have hf := ok_f c4 hf
          refine lv_aload_n hx hb dX12_next_79 rfl (lv_at hl 1 rfl) ?_
          refine lv_iconst (v := 1) hx hb dX12_next_80 (by decide) ?_
          refine z_put (C := RX12) (T := TX12) (N := 26) (ci := 11) (ty := .int) (v := .int 1) hx hb hts i_X12_next_11 tyX12 tyX12_ok nmX12 hown hK hI 51 rfl (by decide) rfl 11 (by decide) (hts (.fieldLink RX12 97 "FenceYardsModel" "token" "I") (by decide +kernel)) (fun _ h9 => h9) rfl (by decide +kernel) rfl rfl (Nat.le_of_ble_eq_true rfl) (set_I hI.2.2.2 rfl (by decide) rfl) rfl hI.2.2.2 dX12_next_81 (fun H locs hI => ?_)
          refine lv_aload_n hx hb dX12_next_84 rfl (lv_at hl 1 rfl) ?_
          refine lv_lconst (v := 0) hx hb dX12_next_85 (by decide) ?_
          refine z_put (C := RX12) (T := TX12) (N := 26) (ci := 11) (ty := .long) (v := .long 0) hx hb hts i_X12_next_11 tyX12 tyX12_ok nmX12 hown hK hI 51 rfl (by decide) rfl 13 (by decide) (hts (.fieldLink RX12 100 "FenceYardsModel" "name" "J") (by decide +kernel)) (fun _ h9 => h9) rfl (by decide +kernel) rfl rfl (Nat.le_of_ble_eq_true rfl) (set_J hI.2.2.2 rfl (by decide) rfl) rfl hI.2.2.2 dX12_next_86 (fun H locs hI => ?_)
          exact w_X12_next_89  C0  _ _ hf _ _ hI _ (lv_sub hl [1] rfl)
      · have hf := ok_f c3 hf
        refine lv_aload_n hx hb dX12_next_60 rfl (lv_at hl 1 rfl) ?_
        refine lv_iconst (v := 0) hx hb dX12_next_61 (by decide) ?_
        refine z_put (C := RX12) (T := TX12) (N := 26) (ci := 11) (ty := .int) (v := .int 0) hx hb hts i_X12_next_11 tyX12 tyX12_ok nmX12 hown hK hI 51 rfl (by decide) rfl 11 (by decide) (hts (.fieldLink RX12 97 "FenceYardsModel" "token" "I") (by decide +kernel)) (fun _ h9 => h9) rfl (by decide +kernel) rfl rfl (Nat.le_of_ble_eq_true rfl) (set_I hI.2.2.2 rfl (by decide) rfl) rfl hI.2.2.2 dX12_next_62 (fun H locs hI => ?_)
        refine lv_goto (tgt := 299) hx hb dX12_next_65 (by decide) ?_
        cases hf
        exact z_vret hx hb hr hlk hK hG hI dX12_next_299
    · have hf := ok_t c2 hf
      refine lv_aload_n hx hb dX12_next_26 rfl (lv_at hl 0 rfl) ?_
      refine lv_dup hx hb dX12_next_27 rfl ?_
      refine z_get (C := RX12) (T := TX12) (N := 26) (ci := 11) (v := .int (gI σ 51 9)) hx hb hts i_X12_next_11 hown hK hI 51 rfl (by decide) rfl 9 (by decide) (hts (.fieldLink RX12 88 "FenceYardsModel" "cursor" "I") (by decide +kernel)) (fun _ h9 => h9) rfl dX12_next_28 ?_
      refine lv_iconst (v := 1) hx hb dX12_next_31 (by decide) ?_
      refine lv_iadd hx hb dX12_next_32 ?_
      refine z_put (C := RX12) (T := TX12) (N := 26) (ci := 11) (ty := .int) (v := .int ((gI σ 51 9) + 1)) hx hb hts i_X12_next_11 tyX12 tyX12_ok nmX12 hown hK hI 51 rfl (by decide) rfl 9 (by decide) (hts (.fieldLink RX12 88 "FenceYardsModel" "cursor" "I") (by decide +kernel)) (fun _ h9 => h9) rfl (by decide +kernel) rfl rfl (Nat.le_of_ble_eq_true rfl) (set_I hI.2.2.2 rfl (by decide) rfl) rfl hI.2.2.2 dX12_next_33 (fun H locs hI => ?_)
      refine lv_goto (tgt := 0) hx hb dX12_next_36 (by decide) ?_
      exact w_X12_next_0  C0  _ _ hf _ _ hI _ (lv_sub hl [0] rfl)

-- ===== FenceYardsModel.isName(J)Z
set_option maxRecDepth 100000 in
theorem i_X12_isName_11 : ∀ w ∈ u_ws RX12 TX12 26, w ∈ wsX12_isName := by decide +kernel
def f_X12_isName (σ : Hp) (y1 : Int64) : Option (Int32) :=
  if (gI σ 51 11) = 1 then (if (lg_cmp (gJ σ 51 13) y1) = 0 then (some 1) else (some 0)) else (some 0)
set_option maxRecDepth 100000 in
set_option maxHeartbeats 4000000 in
theorem m_X12_isName (G : GT) (l : Launch) {σ : Hp} {y1 : Int64} {r : Int32}  (hf : f_X12_isName σ y1 = some r) : MetG G l yX12_isName wsX12_isName (rmk 0 0) σ [.ref (G.1 + 51), .long y1] (QI G σ r) := by
  refine met_of (cc := cX12_isName) (nL := 3) (ret := (some .boolean)) (by decide) rfl (Nat.le_of_ble_eq_true rfl) ?_
  intro p e s m below meth c C0 hnm hI ls hl
  obtain ⟨hx, hb, hr, hml, hown, hts, hlk, hK, hG⟩ := id C0
  have hl : lv_has ls 3 [(0, .ref (G.1 + 51)), (1, .long y1)] := hl
  unfold f_X12_isName at hf
  refine lv_aload_n hx hb dX12_isName_0 rfl (lv_at hl 0 rfl) ?_
  refine z_get (C := RX12) (T := TX12) (N := 26) (ci := 11) (v := .int (gI σ 51 11)) hx hb hts i_X12_isName_11 hown hK hI 51 rfl (by decide) rfl 11 (by decide) (hts (.fieldLink RX12 97 "FenceYardsModel" "token" "I") (by decide +kernel)) (fun _ h9 => h9) rfl dX12_isName_1 ?_
  refine lv_iconst (v := 1) hx hb dX12_isName_4 (by decide) ?_
  refine lv_icmp_ne (tgt := 21) hx hb dX12_isName_5 (by decide) (fun c1 => ?_) (fun c1 => ?_)
  · have hf := ok_f c1 hf
    refine lv_iconst (v := 0) hx hb dX12_isName_21 (by decide) ?_
    cases hf
    exact z_zret hx hb hr hlk hK hG hI (Or.inl rfl) dX12_isName_22
  · have hf := ok_t c1 hf
    refine lv_aload_n hx hb dX12_isName_8 rfl (lv_at hl 0 rfl) ?_
    refine z_get (C := RX12) (T := TX12) (N := 26) (ci := 11) (v := .long (gJ σ 51 13)) hx hb hts i_X12_isName_11 hown hK hI 51 rfl (by decide) rfl 13 (by decide) (hts (.fieldLink RX12 100 "FenceYardsModel" "name" "J") (by decide +kernel)) (fun _ h9 => h9) rfl dX12_isName_9 ?_
    refine lv_lload_n hx hb dX12_isName_12 rfl (lv_at hl 1 rfl) ?_
    refine W.lcmp hx hb dX12_isName_13 ?_
    refine lv_if_ne (tgt := 21) hx hb dX12_isName_14 (by decide) (fun c2 => ?_) (fun c2 => ?_)
    · have hf := ok_f c2 hf
      refine lv_iconst (v := 0) hx hb dX12_isName_21 (by decide) ?_
      cases hf
      exact z_zret hx hb hr hlk hK hG hI (Or.inl rfl) dX12_isName_22
    · have hf := ok_t c2 hf
      refine lv_iconst (v := 1) hx hb dX12_isName_17 (by decide) ?_
      refine lv_goto (tgt := 22) hx hb dX12_isName_18 (by decide) ?_
      cases hf
      exact z_zret hx hb hr hlk hK hG hI (Or.inr rfl) dX12_isName_22

-- ===== FenceYardsModel.must(ZI)V
set_option maxRecDepth 100000 in
theorem i_X12_must_11 : ∀ w ∈ u_ws RX12 TX12 26, w ∈ wsX12_must := by decide +kernel
def f_X12_must (σ : Hp) (x1 : Int32) (x2 : Int32) : Option (Hp) :=
  if (gI σ 51 14) = 0 then (if x1 = 0 then (some (sI σ 51 14 x2)) else (some σ)) else (some σ)
set_option maxRecDepth 100000 in
set_option maxHeartbeats 4000000 in
theorem m_X12_must (G : GT) (l : Launch) {σ : Hp} {x1 : Int32} {x2 : Int32} {σ' : Hp}  (hf : f_X12_must σ x1 x2 = some σ') : MetG G l yX12_must wsX12_must (rmk 0 0) σ [.ref (G.1 + 51), .int x1, .int x2] (QV G σ') := by
  refine met_of (cc := cX12_must) (nL := 3) (ret := none) (by decide) rfl (Nat.le_of_ble_eq_true rfl) ?_
  intro p e s m below meth c C0 hnm hI ls hl
  obtain ⟨hx, hb, hr, hml, hown, hts, hlk, hK, hG⟩ := id C0
  have hl : lv_has ls 3 [(0, .ref (G.1 + 51)), (1, .int x1), (2, .int x2)] := hl
  unfold f_X12_must at hf
  refine lv_aload_n hx hb dX12_must_0 rfl (lv_at hl 0 rfl) ?_
  refine z_get (C := RX12) (T := TX12) (N := 26) (ci := 11) (v := .int (gI σ 51 14)) hx hb hts i_X12_must_11 hown hK hI 51 rfl (by decide) rfl 14 (by decide) (hts (.fieldLink RX12 107 "FenceYardsModel" "fault" "I") (by decide +kernel)) (fun _ h9 => h9) rfl dX12_must_1 ?_
  refine lv_if_ne (tgt := 16) hx hb dX12_must_4 (by decide) (fun c1 => ?_) (fun c1 => ?_)
  · have hf := ok_f c1 hf
    cases hf
    exact z_vret hx hb hr hlk hK hG hI dX12_must_16
  · have hf := ok_t c1 hf
    refine lv_iload_n hx hb dX12_must_7 rfl (lv_at hl 1 rfl) ?_
    refine lv_if_ne (tgt := 16) hx hb dX12_must_8 (by decide) (fun c2 => ?_) (fun c2 => ?_)
    · have hf := ok_f c2 hf
      cases hf
      exact z_vret hx hb hr hlk hK hG hI dX12_must_16
    · have hf := ok_t c2 hf
      refine lv_aload_n hx hb dX12_must_11 rfl (lv_at hl 0 rfl) ?_
      refine lv_iload_n hx hb dX12_must_12 rfl (lv_at hl 2 rfl) ?_
      refine z_put (C := RX12) (T := TX12) (N := 26) (ci := 11) (ty := .int) (v := .int x2) hx hb hts i_X12_must_11 tyX12 tyX12_ok nmX12 hown hK hI 51 rfl (by decide) rfl 14 (by decide) (hts (.fieldLink RX12 107 "FenceYardsModel" "fault" "I") (by decide +kernel)) (fun _ h9 => h9) rfl (by decide +kernel) rfl rfl (Nat.le_of_ble_eq_true rfl) (set_I hI.2.2.2 rfl (by decide) rfl) rfl hI.2.2.2 dX12_must_13 (fun H locs hI => ?_)
      cases hf
      exact z_vret hx hb hr hlk hK hG hI dX12_must_16

-- ===== FenceYardsModel.goesOn()V
set_option maxRecDepth 100000 in
theorem i_X12_goesOn_11 : ∀ w ∈ u_ws RX12 TX12 26, w ∈ wsX12_goesOn := by decide +kernel
def f_X12_goesOn (σ : Hp)  : Option (Hp) :=
  if (gI σ 51 14) = 0 then (bd1 (f_X12_next σ) fun s1 => some s1) else (some σ)
set_option maxRecDepth 100000 in
set_option maxHeartbeats 4000000 in
theorem m_X12_goesOn (G : GT) (l : Launch) {σ : Hp}  {σ' : Hp}  (hf : f_X12_goesOn σ = some σ') : MetG G l yX12_goesOn wsX12_goesOn (rmk 2 43) σ [.ref (G.1 + 51)] (QV G σ') := by
  refine met_of (cc := cX12_goesOn) (nL := 1) (ret := none) (by decide) rfl (Nat.le_of_ble_eq_true rfl) ?_
  intro p e s m below meth c C0 hnm hI ls hl
  obtain ⟨hx, hb, hr, hml, hown, hts, hlk, hK, hG⟩ := id C0
  have hl : lv_has ls 1 [(0, .ref (G.1 + 51))] := hl
  unfold f_X12_goesOn at hf
  refine lv_aload_n hx hb dX12_goesOn_0 rfl (lv_at hl 0 rfl) ?_
  refine z_get (C := RX12) (T := TX12) (N := 26) (ci := 11) (v := .int (gI σ 51 14)) hx hb hts i_X12_goesOn_11 hown hK hI 51 rfl (by decide) rfl 14 (by decide) (hts (.fieldLink RX12 107 "FenceYardsModel" "fault" "I") (by decide +kernel)) (fun _ h9 => h9) rfl dX12_goesOn_1 ?_
  refine lv_if_ne (tgt := 11) hx hb dX12_goesOn_4 (by decide) (fun c1 => ?_) (fun c1 => ?_)
  · have hf := ok_f c1 hf
    cases hf
    exact z_vret hx hb hr hlk hK hG hI dX12_goesOn_11
  · have hf := ok_t c1 hf
    refine lv_aload_n hx hb dX12_goesOn_7 rfl (lv_at hl 0 rfl) ?_
    obtain ⟨s1, hc1, hf⟩ := ok_1 hf
    refine z_callv0 rfl rfl hI (va_runV (As := []) (rest := []) ⟨hx, hb, hml, hown, hts⟩ (m_X12_next G l  hc1) (cwV 0 hts gX12_goesOn_X12_next rfl rfl rfl (by decide +kernel) ⟨Nat.le_of_ble_eq_true rfl, Nat.le_of_ble_eq_true rfl⟩) (z_preV hK hG hI (z_rc (q := 51) (ci := 11) (n := 0) hK hI rfl (by decide) rfl)) rfl rfl hl.1 rfl (lv_room (Nat.le_of_ble_eq_true rfl)) dX12_goesOn_8 ⟨Nat.zero_le _, Nat.zero_le _⟩) (fun H locs hI => ?_)
    cases hf
    exact z_vret hx hb hr hlk hK hG hI dX12_goesOn_11

-- ===== FenceYardsModel.readNumber(II)I
set_option maxRecDepth 100000 in
theorem i_X12_readNumber_11 : ∀ w ∈ u_ws RX12 TX12 26, w ∈ wsX12_readNumber := by decide +kernel
def f_X12_readNumber_14   (σ : Hp) (x1 : Int32) (x2 : Int32) (tx0 : Int32) : Option (Hp × Int32) :=
  bd1 (f_X12_must σ tx0 1) fun s1 => bd1 (f_X12_in s1 (gI s1 51 12) 0 x1) fun r1 => if r1 = 0 then (bd1 (f_X12_must s1 0 2) fun s2 => bnd (gI s2 51 12) fun v1 => bd1 (f_X12_goesOn s2) fun s3 => some (s3, v1)) else (if (gI s1 51 12) = x2 then (bd1 (f_X12_must s1 0 2) fun s4 => bnd (gI s4 51 12) fun v2 => bd1 (f_X12_goesOn s4) fun s5 => some (s5, v2)) else (bd1 (f_X12_must s1 1 2) fun s6 => bnd (gI s6 51 12) fun v3 => bd1 (f_X12_goesOn s6) fun s7 => some (s7, v3)))
def f_X12_readNumber (σ : Hp) (x1 : Int32) (x2 : Int32) : Option (Hp × Int32) :=
  if (gI σ 51 11) = 2 then (f_X12_readNumber_14 σ x1 x2 1) else (f_X12_readNumber_14 σ x1 x2 0)
set_option maxRecDepth 100000 in
set_option maxHeartbeats 4000000 in
theorem w_X12_readNumber_14 {G : GT} {p : Program} {l : Launch} {e : Env} {s : State} {m : MethodId} {args : Array Value} {below : List Frame} {meth : Method} {c : Code}  {σ' : Hp} {r : Int32}  {σ : Hp} {x1 : Int32} {x2 : Int32} {tx0 : Int32}  (C0 : Cx G cX12_readNumber RX12 wsX12_readNumber 4 (some .int) p s m args meth c)  (hf : f_X12_readNumber_14 σ x1 x2 tx0 = some (σ', r)) {H : Heap} {locs : List Loc} (hI : Inv G s σ H locs) {ls : Array Slot} (hl : lv_has ls 4 [(0, .ref (G.1 + 51)), (1, .int x1), (2, .int x2)]) : W p l e (rmk 3 63) s m args below meth c H locs 0 0 (MQ below (QI G σ' r) args s (rmk 3 63).cells (rmk 3 63).slots (gA G)) (F0 m 14 ls [.int tx0, .ref (G.1 + 51)]) := by
  obtain ⟨hx, hb, hr, hml, hown, hts, hlk, hK, hG⟩ := id C0
  unfold f_X12_readNumber_14 at hf
  refine lv_iconst (v := 1) hx hb dX12_readNumber_14 (by decide) ?_
  obtain ⟨s1, hc1, hf⟩ := ok_1 hf
  refine z_callv0 rfl rfl hI (va_runV (As := [.int tx0, .int 1]) (rest := []) ⟨hx, hb, hml, hown, hts⟩ (m_X12_must G l  hc1) (cwV 2 hts gX12_readNumber_X12_must rfl rfl rfl (by decide +kernel) ⟨Nat.le_of_ble_eq_true rfl, Nat.le_of_ble_eq_true rfl⟩) (z_preV hK hG hI (z_rc (q := 51) (ci := 11) (n := 0) hK hI rfl (by decide) rfl)) rfl rfl hl.1 rfl (lv_room (Nat.le_of_ble_eq_true rfl)) dX12_readNumber_15 ⟨Nat.zero_le _, Nat.zero_le _⟩) (fun H locs hI => ?_)
  refine lv_aload_n hx hb dX12_readNumber_18 rfl (lv_at hl 0 rfl) ?_
  refine lv_aload_n hx hb dX12_readNumber_19 rfl (lv_at hl 0 rfl) ?_
  refine z_get (C := RX12) (T := TX12) (N := 26) (ci := 11) (v := .int (gI s1 51 12)) hx hb hts i_X12_readNumber_11 hown hK hI 51 rfl (by decide) rfl 12 (by decide) (hts (.fieldLink RX12 104 "FenceYardsModel" "number" "I") (by decide +kernel)) (fun _ h9 => h9) rfl dX12_readNumber_20 ?_
  refine lv_iconst (v := 0) hx hb dX12_readNumber_23 (by decide) ?_
  refine lv_iload_n hx hb dX12_readNumber_24 rfl (lv_at hl 1 rfl) ?_
  obtain ⟨r1, hc2, hf⟩ := ok_1 hf
  refine z_calli0 rfl rfl hI (va_runS (As := [.int (gI s1 51 12), .int 0, .int x1]) (rest := [.ref (G.1 + 51)]) ⟨hx, hb, hml, hown, hts⟩ (m_X12_in G l  hc2) (va_cwS 3 hts gX12_readNumber_X12_in rfl rfl rfl (by decide +kernel) ⟨Nat.le_of_ble_eq_true rfl, Nat.le_of_ble_eq_true rfl⟩) (z_pre hK hG hI) rfl rfl hl.1 rfl (lv_room (Nat.le_of_ble_eq_true rfl)) dX12_readNumber_25 ⟨Nat.zero_le _, Nat.zero_le _⟩) (fun H locs hI => ?_)
  refine lv_if_eq (tgt := 43) hx hb dX12_readNumber_28 (by decide) (fun c1 => ?_) (fun c1 => ?_)
  · have hf := ok_t c1 hf
    refine lv_iconst (v := 0) hx hb dX12_readNumber_43 (by decide) ?_
    refine lv_iconst (v := 2) hx hb dX12_readNumber_44 (by decide) ?_
    obtain ⟨s2, hc3, hf⟩ := ok_1 hf
    refine z_callv0 rfl rfl hI (va_runV (As := [.int 0, .int 2]) (rest := []) ⟨hx, hb, hml, hown, hts⟩ (m_X12_must G l  hc3) (cwV 2 hts gX12_readNumber_X12_must rfl rfl rfl (by decide +kernel) ⟨Nat.le_of_ble_eq_true rfl, Nat.le_of_ble_eq_true rfl⟩) (z_preV hK hG hI (z_rc (q := 51) (ci := 11) (n := 0) hK hI rfl (by decide) rfl)) rfl rfl hl.1 rfl (lv_room (Nat.le_of_ble_eq_true rfl)) dX12_readNumber_45 ⟨Nat.zero_le _, Nat.zero_le _⟩) (fun H locs hI => ?_)
    refine lv_aload_n hx hb dX12_readNumber_48 rfl (lv_at hl 0 rfl) ?_
    refine z_get (C := RX12) (T := TX12) (N := 26) (ci := 11) (v := .int (gI s2 51 12)) hx hb hts i_X12_readNumber_11 hown hK hI 51 rfl (by decide) rfl 12 (by decide) (hts (.fieldLink RX12 104 "FenceYardsModel" "number" "I") (by decide +kernel)) (fun _ h9 => h9) rfl dX12_readNumber_49 ?_
    refine lv_topi (fun v1 ev1 => ?_)
    have hf := ok_n hf ev1
    refine lv_istore_n (lv' := [(3, .int v1), (0, .ref (G.1 + 51)), (1, .int x1), (2, .int x2)]) hx hb dX12_readNumber_52 rfl hl (by decide) rfl (fun ls hl => ?_)
    refine lv_aload_n hx hb dX12_readNumber_53 rfl (lv_at hl 1 rfl) ?_
    obtain ⟨s3, hc4, hf⟩ := ok_1 hf
    refine z_callv0 rfl rfl hI (va_runV (As := []) (rest := []) ⟨hx, hb, hml, hown, hts⟩ (m_X12_goesOn G l  hc4) (cwV 0 hts gX12_readNumber_X12_goesOn rfl rfl rfl (by decide +kernel) ⟨Nat.le_of_ble_eq_true rfl, Nat.le_of_ble_eq_true rfl⟩) (z_preV hK hG hI (z_rc (q := 51) (ci := 11) (n := 0) hK hI rfl (by decide) rfl)) rfl rfl hl.1 rfl (lv_room (Nat.le_of_ble_eq_true rfl)) dX12_readNumber_54 ⟨Nat.zero_le _, Nat.zero_le _⟩) (fun H locs hI => ?_)
    refine lv_iload_n hx hb dX12_readNumber_57 rfl (lv_at hl 0 rfl) ?_
    cases hf
    exact z_iret hx hb hr hlk hK hG hI dX12_readNumber_58
  · have hf := ok_f c1 hf
    refine lv_aload_n hx hb dX12_readNumber_31 rfl (lv_at hl 0 rfl) ?_
    refine z_get (C := RX12) (T := TX12) (N := 26) (ci := 11) (v := .int (gI s1 51 12)) hx hb hts i_X12_readNumber_11 hown hK hI 51 rfl (by decide) rfl 12 (by decide) (hts (.fieldLink RX12 104 "FenceYardsModel" "number" "I") (by decide +kernel)) (fun _ h9 => h9) rfl dX12_readNumber_32 ?_
    refine lv_iload_n hx hb dX12_readNumber_35 rfl (lv_at hl 2 rfl) ?_
    refine lv_icmp_eq (tgt := 43) hx hb dX12_readNumber_36 (by decide) (fun c2 => ?_) (fun c2 => ?_)
    · have hf := ok_t c2 hf
      refine lv_iconst (v := 0) hx hb dX12_readNumber_43 (by decide) ?_
      refine lv_iconst (v := 2) hx hb dX12_readNumber_44 (by decide) ?_
      obtain ⟨s4, hc5, hf⟩ := ok_1 hf
      refine z_callv0 rfl rfl hI (va_runV (As := [.int 0, .int 2]) (rest := []) ⟨hx, hb, hml, hown, hts⟩ (m_X12_must G l  hc5) (cwV 2 hts gX12_readNumber_X12_must rfl rfl rfl (by decide +kernel) ⟨Nat.le_of_ble_eq_true rfl, Nat.le_of_ble_eq_true rfl⟩) (z_preV hK hG hI (z_rc (q := 51) (ci := 11) (n := 0) hK hI rfl (by decide) rfl)) rfl rfl hl.1 rfl (lv_room (Nat.le_of_ble_eq_true rfl)) dX12_readNumber_45 ⟨Nat.zero_le _, Nat.zero_le _⟩) (fun H locs hI => ?_)
      refine lv_aload_n hx hb dX12_readNumber_48 rfl (lv_at hl 0 rfl) ?_
      refine z_get (C := RX12) (T := TX12) (N := 26) (ci := 11) (v := .int (gI s4 51 12)) hx hb hts i_X12_readNumber_11 hown hK hI 51 rfl (by decide) rfl 12 (by decide) (hts (.fieldLink RX12 104 "FenceYardsModel" "number" "I") (by decide +kernel)) (fun _ h9 => h9) rfl dX12_readNumber_49 ?_
      refine lv_topi (fun v2 ev2 => ?_)
      have hf := ok_n hf ev2
      refine lv_istore_n (lv' := [(3, .int v2), (0, .ref (G.1 + 51)), (1, .int x1), (2, .int x2)]) hx hb dX12_readNumber_52 rfl hl (by decide) rfl (fun ls hl => ?_)
      refine lv_aload_n hx hb dX12_readNumber_53 rfl (lv_at hl 1 rfl) ?_
      obtain ⟨s5, hc6, hf⟩ := ok_1 hf
      refine z_callv0 rfl rfl hI (va_runV (As := []) (rest := []) ⟨hx, hb, hml, hown, hts⟩ (m_X12_goesOn G l  hc6) (cwV 0 hts gX12_readNumber_X12_goesOn rfl rfl rfl (by decide +kernel) ⟨Nat.le_of_ble_eq_true rfl, Nat.le_of_ble_eq_true rfl⟩) (z_preV hK hG hI (z_rc (q := 51) (ci := 11) (n := 0) hK hI rfl (by decide) rfl)) rfl rfl hl.1 rfl (lv_room (Nat.le_of_ble_eq_true rfl)) dX12_readNumber_54 ⟨Nat.zero_le _, Nat.zero_le _⟩) (fun H locs hI => ?_)
      refine lv_iload_n hx hb dX12_readNumber_57 rfl (lv_at hl 0 rfl) ?_
      cases hf
      exact z_iret hx hb hr hlk hK hG hI dX12_readNumber_58
    · have hf := ok_f c2 hf
      refine lv_iconst (v := 1) hx hb dX12_readNumber_39 (by decide) ?_
      refine lv_goto (tgt := 44) hx hb dX12_readNumber_40 (by decide) ?_
      refine lv_iconst (v := 2) hx hb dX12_readNumber_44 (by decide) ?_
      obtain ⟨s6, hc7, hf⟩ := ok_1 hf
      refine z_callv0 rfl rfl hI (va_runV (As := [.int 1, .int 2]) (rest := []) ⟨hx, hb, hml, hown, hts⟩ (m_X12_must G l  hc7) (cwV 2 hts gX12_readNumber_X12_must rfl rfl rfl (by decide +kernel) ⟨Nat.le_of_ble_eq_true rfl, Nat.le_of_ble_eq_true rfl⟩) (z_preV hK hG hI (z_rc (q := 51) (ci := 11) (n := 0) hK hI rfl (by decide) rfl)) rfl rfl hl.1 rfl (lv_room (Nat.le_of_ble_eq_true rfl)) dX12_readNumber_45 ⟨Nat.zero_le _, Nat.zero_le _⟩) (fun H locs hI => ?_)
      refine lv_aload_n hx hb dX12_readNumber_48 rfl (lv_at hl 0 rfl) ?_
      refine z_get (C := RX12) (T := TX12) (N := 26) (ci := 11) (v := .int (gI s6 51 12)) hx hb hts i_X12_readNumber_11 hown hK hI 51 rfl (by decide) rfl 12 (by decide) (hts (.fieldLink RX12 104 "FenceYardsModel" "number" "I") (by decide +kernel)) (fun _ h9 => h9) rfl dX12_readNumber_49 ?_
      refine lv_topi (fun v3 ev3 => ?_)
      have hf := ok_n hf ev3
      refine lv_istore_n (lv' := [(3, .int v3), (0, .ref (G.1 + 51)), (1, .int x1), (2, .int x2)]) hx hb dX12_readNumber_52 rfl hl (by decide) rfl (fun ls hl => ?_)
      refine lv_aload_n hx hb dX12_readNumber_53 rfl (lv_at hl 1 rfl) ?_
      obtain ⟨s7, hc8, hf⟩ := ok_1 hf
      refine z_callv0 rfl rfl hI (va_runV (As := []) (rest := []) ⟨hx, hb, hml, hown, hts⟩ (m_X12_goesOn G l  hc8) (cwV 0 hts gX12_readNumber_X12_goesOn rfl rfl rfl (by decide +kernel) ⟨Nat.le_of_ble_eq_true rfl, Nat.le_of_ble_eq_true rfl⟩) (z_preV hK hG hI (z_rc (q := 51) (ci := 11) (n := 0) hK hI rfl (by decide) rfl)) rfl rfl hl.1 rfl (lv_room (Nat.le_of_ble_eq_true rfl)) dX12_readNumber_54 ⟨Nat.zero_le _, Nat.zero_le _⟩) (fun H locs hI => ?_)
      refine lv_iload_n hx hb dX12_readNumber_57 rfl (lv_at hl 0 rfl) ?_
      cases hf
      exact z_iret hx hb hr hlk hK hG hI dX12_readNumber_58

set_option maxRecDepth 100000 in
set_option maxHeartbeats 4000000 in
theorem m_X12_readNumber (G : GT) (l : Launch) {σ : Hp} {x1 : Int32} {x2 : Int32} {σ' : Hp} {r : Int32}  (hf : f_X12_readNumber σ x1 x2 = some (σ', r)) : MetG G l yX12_readNumber wsX12_readNumber (rmk 3 63) σ [.ref (G.1 + 51), .int x1, .int x2] (QI G σ' r) := by
  refine met_of (cc := cX12_readNumber) (nL := 4) (ret := (some .int)) (by decide) rfl (Nat.le_of_ble_eq_true rfl) ?_
  intro p e s m below meth c C0 hnm hI ls hl
  obtain ⟨hx, hb, hr, hml, hown, hts, hlk, hK, hG⟩ := id C0
  have hl : lv_has ls 4 [(0, .ref (G.1 + 51)), (1, .int x1), (2, .int x2)] := hl
  unfold f_X12_readNumber at hf
  refine lv_aload_n hx hb dX12_readNumber_0 rfl (lv_at hl 0 rfl) ?_
  refine lv_aload_n hx hb dX12_readNumber_1 rfl (lv_at hl 0 rfl) ?_
  refine z_get (C := RX12) (T := TX12) (N := 26) (ci := 11) (v := .int (gI σ 51 11)) hx hb hts i_X12_readNumber_11 hown hK hI 51 rfl (by decide) rfl 11 (by decide) (hts (.fieldLink RX12 97 "FenceYardsModel" "token" "I") (by decide +kernel)) (fun _ h9 => h9) rfl dX12_readNumber_2 ?_
  refine lv_iconst (v := 2) hx hb dX12_readNumber_5 (by decide) ?_
  refine lv_icmp_ne (tgt := 13) hx hb dX12_readNumber_6 (by decide) (fun c1 => ?_) (fun c1 => ?_)
  · have hf := ok_f c1 hf
    refine lv_iconst (v := 0) hx hb dX12_readNumber_13 (by decide) ?_
    exact w_X12_readNumber_14  C0  hf hI (lv_sub hl [0, 1, 2] rfl)
  · have hf := ok_t c1 hf
    refine lv_iconst (v := 1) hx hb dX12_readNumber_9 (by decide) ?_
    refine lv_goto (tgt := 14) hx hb dX12_readNumber_10 (by decide) ?_
    exact w_X12_readNumber_14  C0  hf hI (lv_sub hl [0, 1, 2] rfl)

-- ===== FenceYardsModel.readStop()V
set_option maxRecDepth 100000 in
theorem i_X12_readStop_11 : ∀ w ∈ u_ws RX12 TX12 26, w ∈ wsX12_readStop := by decide +kernel
def f_X12_readStop (σ : Hp)  : Option (Hp) :=
  if (gI σ 51 11) = 3 then (bd1 (f_X12_must σ 1 1) fun s3 => bd1 (f_X12_goesOn s3) fun s4 => some s4) else (bd1 (f_X12_must σ 0 1) fun s1 => bd1 (f_X12_goesOn s1) fun s2 => some s2)
set_option maxRecDepth 100000 in
set_option maxHeartbeats 4000000 in
theorem m_X12_readStop (G : GT) (l : Launch) {σ : Hp}  {σ' : Hp}  (hf : f_X12_readStop σ = some σ') : MetG G l yX12_readStop wsX12_readStop (rmk 3 63) σ [.ref (G.1 + 51)] (QV G σ') := by
  refine met_of (cc := cX12_readStop) (nL := 1) (ret := none) (by decide) rfl (Nat.le_of_ble_eq_true rfl) ?_
  intro p e s m below meth c C0 hnm hI ls hl
  obtain ⟨hx, hb, hr, hml, hown, hts, hlk, hK, hG⟩ := id C0
  have hl : lv_has ls 1 [(0, .ref (G.1 + 51))] := hl
  unfold f_X12_readStop at hf
  refine lv_aload_n hx hb dX12_readStop_0 rfl (lv_at hl 0 rfl) ?_
  refine lv_aload_n hx hb dX12_readStop_1 rfl (lv_at hl 0 rfl) ?_
  refine z_get (C := RX12) (T := TX12) (N := 26) (ci := 11) (v := .int (gI σ 51 11)) hx hb hts i_X12_readStop_11 hown hK hI 51 rfl (by decide) rfl 11 (by decide) (hts (.fieldLink RX12 97 "FenceYardsModel" "token" "I") (by decide +kernel)) (fun _ h9 => h9) rfl dX12_readStop_2 ?_
  refine lv_iconst (v := 3) hx hb dX12_readStop_5 (by decide) ?_
  refine lv_icmp_ne (tgt := 13) hx hb dX12_readStop_6 (by decide) (fun c1 => ?_) (fun c1 => ?_)
  · have hf := ok_f c1 hf
    refine lv_iconst (v := 0) hx hb dX12_readStop_13 (by decide) ?_
    refine lv_iconst (v := 1) hx hb dX12_readStop_14 (by decide) ?_
    obtain ⟨s1, hc1, hf⟩ := ok_1 hf
    refine z_callv0 rfl rfl hI (va_runV (As := [.int 0, .int 1]) (rest := []) ⟨hx, hb, hml, hown, hts⟩ (m_X12_must G l  hc1) (cwV 2 hts gX12_readStop_X12_must rfl rfl rfl (by decide +kernel) ⟨Nat.le_of_ble_eq_true rfl, Nat.le_of_ble_eq_true rfl⟩) (z_preV hK hG hI (z_rc (q := 51) (ci := 11) (n := 0) hK hI rfl (by decide) rfl)) rfl rfl hl.1 rfl (lv_room (Nat.le_of_ble_eq_true rfl)) dX12_readStop_15 ⟨Nat.zero_le _, Nat.zero_le _⟩) (fun H locs hI => ?_)
    refine lv_aload_n hx hb dX12_readStop_18 rfl (lv_at hl 0 rfl) ?_
    obtain ⟨s2, hc2, hf⟩ := ok_1 hf
    refine z_callv0 rfl rfl hI (va_runV (As := []) (rest := []) ⟨hx, hb, hml, hown, hts⟩ (m_X12_goesOn G l  hc2) (cwV 0 hts gX12_readStop_X12_goesOn rfl rfl rfl (by decide +kernel) ⟨Nat.le_of_ble_eq_true rfl, Nat.le_of_ble_eq_true rfl⟩) (z_preV hK hG hI (z_rc (q := 51) (ci := 11) (n := 0) hK hI rfl (by decide) rfl)) rfl rfl hl.1 rfl (lv_room (Nat.le_of_ble_eq_true rfl)) dX12_readStop_19 ⟨Nat.zero_le _, Nat.zero_le _⟩) (fun H locs hI => ?_)
    cases hf
    exact z_vret hx hb hr hlk hK hG hI dX12_readStop_22
  · have hf := ok_t c1 hf
    refine lv_iconst (v := 1) hx hb dX12_readStop_9 (by decide) ?_
    refine lv_goto (tgt := 14) hx hb dX12_readStop_10 (by decide) ?_
    refine lv_iconst (v := 1) hx hb dX12_readStop_14 (by decide) ?_
    obtain ⟨s3, hc3, hf⟩ := ok_1 hf
    refine z_callv0 rfl rfl hI (va_runV (As := [.int 1, .int 1]) (rest := []) ⟨hx, hb, hml, hown, hts⟩ (m_X12_must G l  hc3) (cwV 2 hts gX12_readStop_X12_must rfl rfl rfl (by decide +kernel) ⟨Nat.le_of_ble_eq_true rfl, Nat.le_of_ble_eq_true rfl⟩) (z_preV hK hG hI (z_rc (q := 51) (ci := 11) (n := 0) hK hI rfl (by decide) rfl)) rfl rfl hl.1 rfl (lv_room (Nat.le_of_ble_eq_true rfl)) dX12_readStop_15 ⟨Nat.zero_le _, Nat.zero_le _⟩) (fun H locs hI => ?_)
    refine lv_aload_n hx hb dX12_readStop_18 rfl (lv_at hl 0 rfl) ?_
    obtain ⟨s4, hc4, hf⟩ := ok_1 hf
    refine z_callv0 rfl rfl hI (va_runV (As := []) (rest := []) ⟨hx, hb, hml, hown, hts⟩ (m_X12_goesOn G l  hc4) (cwV 0 hts gX12_readStop_X12_goesOn rfl rfl rfl (by decide +kernel) ⟨Nat.le_of_ble_eq_true rfl, Nat.le_of_ble_eq_true rfl⟩) (z_preV hK hG hI (z_rc (q := 51) (ci := 11) (n := 0) hK hI rfl (by decide) rfl)) rfl rfl hl.1 rfl (lv_room (Nat.le_of_ble_eq_true rfl)) dX12_readStop_19 ⟨Nat.zero_le _, Nat.zero_le _⟩) (fun H locs hI => ?_)
    cases hf
    exact z_vret hx hb hr hlk hK hG hI dX12_readStop_22

-- ===== FenceYardsModel.readFence()V
set_option maxRecDepth 100000 in
theorem i_X12_readFence_11 : ∀ w ∈ u_ws RX12 TX12 26, w ∈ wsX12_readFence := by decide +kernel
def f_X12_readFence (σ : Hp)  : Option (Hp) :=
  bd1 (f_X12_isName σ 439788397413) fun r1 => bd1 (f_X12_must σ r1 1) fun s1 => bd1 (f_X12_goesOn s1) fun s2 => bd2 (f_X12_readNumber s2 12 (-1000000)) fun s3 r2 => bd2 (f_X12_readNumber (sI s3 59 1 r2) 12 (-1000000)) fun s4 r3 => bd1 (f_X12_readStop (sI s4 59 2 r3)) fun s5 => some s5
set_option maxRecDepth 100000 in
set_option maxHeartbeats 4000000 in
theorem m_X12_readFence (G : GT) (l : Launch) {σ : Hp}  {σ' : Hp}  (hf : f_X12_readFence σ = some σ') : MetG G l yX12_readFence wsX12_readFence (rmk 4 86) σ [.ref (G.1 + 51)] (QV G σ') := by
  refine met_of (cc := cX12_readFence) (nL := 1) (ret := none) (by decide) rfl (Nat.le_of_ble_eq_true rfl) ?_
  intro p e s m below meth c C0 hnm hI ls hl
  obtain ⟨hx, hb, hr, hml, hown, hts, hlk, hK, hG⟩ := id C0
  have hl : lv_has ls 1 [(0, .ref (G.1 + 51))] := hl
  unfold f_X12_readFence at hf
  refine lv_aload_n hx hb dX12_readFence_0 rfl (lv_at hl 0 rfl) ?_
  refine lv_aload_n hx hb dX12_readFence_1 rfl (lv_at hl 0 rfl) ?_
  refine lv_ldc2 (v := 439788397413) hx hb hown (hts (.constantLong RX12 120 439788397413) (by decide +kernel)) dX12_readFence_2 ?_
  obtain ⟨r1, hc1, hf⟩ := ok_1 hf
  refine z_calli0 rfl rfl hI (va_runV (As := [.long 439788397413]) (rest := [.ref (G.1 + 51)]) ⟨hx, hb, hml, hown, hts⟩ (m_X12_isName G l  hc1) (cwV 1 hts gX12_readFence_X12_isName rfl rfl rfl (by decide +kernel) ⟨Nat.le_of_ble_eq_true rfl, Nat.le_of_ble_eq_true rfl⟩) (z_preV hK hG hI (z_rc (q := 51) (ci := 11) (n := 0) hK hI rfl (by decide) rfl)) rfl rfl hl.1 rfl (lv_room (Nat.le_of_ble_eq_true rfl)) dX12_readFence_5 ⟨Nat.zero_le _, Nat.zero_le _⟩) (fun H locs hI => ?_)
  refine lv_iconst (v := 1) hx hb dX12_readFence_8 (by decide) ?_
  obtain ⟨s1, hc2, hf⟩ := ok_1 hf
  refine z_callv0 rfl rfl hI (va_runV (As := [.int r1, .int 1]) (rest := []) ⟨hx, hb, hml, hown, hts⟩ (m_X12_must G l  hc2) (cwV 2 hts gX12_readFence_X12_must rfl rfl rfl (by decide +kernel) ⟨Nat.le_of_ble_eq_true rfl, Nat.le_of_ble_eq_true rfl⟩) (z_preV hK hG hI (z_rc (q := 51) (ci := 11) (n := 0) hK hI rfl (by decide) rfl)) rfl rfl hl.1 rfl (lv_room (Nat.le_of_ble_eq_true rfl)) dX12_readFence_9 ⟨Nat.zero_le _, Nat.zero_le _⟩) (fun H locs hI => ?_)
  refine lv_aload_n hx hb dX12_readFence_12 rfl (lv_at hl 0 rfl) ?_
  obtain ⟨s2, hc3, hf⟩ := ok_1 hf
  refine z_callv0 rfl rfl hI (va_runV (As := []) (rest := []) ⟨hx, hb, hml, hown, hts⟩ (m_X12_goesOn G l  hc3) (cwV 0 hts gX12_readFence_X12_goesOn rfl rfl rfl (by decide +kernel) ⟨Nat.le_of_ble_eq_true rfl, Nat.le_of_ble_eq_true rfl⟩) (z_preV hK hG hI (z_rc (q := 51) (ci := 11) (n := 0) hK hI rfl (by decide) rfl)) rfl rfl hl.1 rfl (lv_room (Nat.le_of_ble_eq_true rfl)) dX12_readFence_13 ⟨Nat.zero_le _, Nat.zero_le _⟩) (fun H locs hI => ?_)
  refine lv_aload_n hx hb dX12_readFence_16 rfl (lv_at hl 0 rfl) ?_
  refine z_get (C := RX12) (T := TX12) (N := 26) (ci := 11) (v := .ref (G.1 + 59)) hx hb hts i_X12_readFence_11 hown hK hI 51 rfl (by decide) rfl 16 (by decide) (hts (.fieldLink RX12 32 "FenceYardsModel" "read" "[I") (by decide +kernel)) (fun _ h9 => h9) rfl dX12_readFence_17 ?_
  refine lv_iconst (v := 1) hx hb dX12_readFence_20 (by decide) ?_
  refine lv_aload_n hx hb dX12_readFence_21 rfl (lv_at hl 0 rfl) ?_
  refine lv_bipush (v := 12) hx hb dX12_readFence_22 (by decide) ?_
  refine lv_ldc (v := (-1000000)) hx hb hown (hts (.constant RX12 57 (-1000000)) (by decide +kernel)) dX12_readFence_24 ?_
  obtain ⟨s3, r2, hc4, hf⟩ := ok_2 hf
  refine z_calli0 rfl rfl hI (va_runV (As := [.int 12, .int (-1000000)]) (rest := [.int 1, .ref (G.1 + 59)]) ⟨hx, hb, hml, hown, hts⟩ (m_X12_readNumber G l  hc4) (cwV 2 hts gX12_readFence_X12_readNumber rfl rfl rfl (by decide +kernel) ⟨Nat.le_of_ble_eq_true rfl, Nat.le_of_ble_eq_true rfl⟩) (z_preV hK hG hI (z_rc (q := 51) (ci := 11) (n := 0) hK hI rfl (by decide) rfl)) rfl rfl hl.1 rfl (lv_room (Nat.le_of_ble_eq_true rfl)) dX12_readFence_26 ⟨Nat.zero_le _, Nat.zero_le _⟩) (fun H locs hI => ?_)
  refine z_iast hx hb hK hI 59 (k := 1) rfl (by decide) (by decide) dX12_readFence_29 (fun H locs hI => ?_)
  refine lv_aload_n hx hb dX12_readFence_30 rfl (lv_at hl 0 rfl) ?_
  refine z_get (C := RX12) (T := TX12) (N := 26) (ci := 11) (v := .ref (G.1 + 59)) hx hb hts i_X12_readFence_11 hown hK hI 51 rfl (by decide) rfl 16 (by decide) (hts (.fieldLink RX12 32 "FenceYardsModel" "read" "[I") (by decide +kernel)) (fun _ h9 => h9) rfl dX12_readFence_31 ?_
  refine lv_iconst (v := 2) hx hb dX12_readFence_34 (by decide) ?_
  refine lv_aload_n hx hb dX12_readFence_35 rfl (lv_at hl 0 rfl) ?_
  refine lv_bipush (v := 12) hx hb dX12_readFence_36 (by decide) ?_
  refine lv_ldc (v := (-1000000)) hx hb hown (hts (.constant RX12 57 (-1000000)) (by decide +kernel)) dX12_readFence_38 ?_
  obtain ⟨s4, r3, hc5, hf⟩ := ok_2 hf
  refine z_calli0 rfl rfl hI (va_runV (As := [.int 12, .int (-1000000)]) (rest := [.int 2, .ref (G.1 + 59)]) ⟨hx, hb, hml, hown, hts⟩ (m_X12_readNumber G l  hc5) (cwV 2 hts gX12_readFence_X12_readNumber rfl rfl rfl (by decide +kernel) ⟨Nat.le_of_ble_eq_true rfl, Nat.le_of_ble_eq_true rfl⟩) (z_preV hK hG hI (z_rc (q := 51) (ci := 11) (n := 0) hK hI rfl (by decide) rfl)) rfl rfl hl.1 rfl (lv_room (Nat.le_of_ble_eq_true rfl)) dX12_readFence_40 ⟨Nat.zero_le _, Nat.zero_le _⟩) (fun H locs hI => ?_)
  refine z_iast hx hb hK hI 59 (k := 2) rfl (by decide) (by decide) dX12_readFence_43 (fun H locs hI => ?_)
  refine lv_aload_n hx hb dX12_readFence_44 rfl (lv_at hl 0 rfl) ?_
  obtain ⟨s5, hc6, hf⟩ := ok_1 hf
  refine z_callv0 rfl rfl hI (va_runV (As := []) (rest := []) ⟨hx, hb, hml, hown, hts⟩ (m_X12_readStop G l  hc6) (cwV 0 hts gX12_readFence_X12_readStop rfl rfl rfl (by decide +kernel) ⟨Nat.le_of_ble_eq_true rfl, Nat.le_of_ble_eq_true rfl⟩) (z_preV hK hG hI (z_rc (q := 51) (ci := 11) (n := 0) hK hI rfl (by decide) rfl)) rfl rfl hl.1 rfl (lv_room (Nat.le_of_ble_eq_true rfl)) dX12_readFence_45 ⟨Nat.zero_le _, Nat.zero_le _⟩) (fun H locs hI => ?_)
  cases hf
  exact z_vret hx hb hr hlk hK hG hI dX12_readFence_48

-- ===== FenceYardsModel.readPond()V
set_option maxRecDepth 100000 in
theorem i_X12_readPond_11 : ∀ w ∈ u_ws RX12 TX12 26, w ∈ wsX12_readPond := by decide +kernel
def f_X12_readPond_55   (σ : Hp) (x1 : Int32) (tx0 : Int32) (tx1 : Int32) : Option (Hp) :=
  bd2 (f_X12_readNumber σ tx1 tx0) fun s1 r1 => bd1 (f_X12_readStop s1) fun s2 => if (gI s2 51 14) = 0 then (chk (inb (42 + (2 * (gI s2 59 5))) 78) <| chk (inb ((42 + (2 * (gI (sI s2 59 ((42 + (2 * (gI s2 59 5))).toNatClampNeg) x1) 59 5))) + 1) 78) <| bnd (sI (sI s2 59 ((42 + (2 * (gI s2 59 5))).toNatClampNeg) x1) 59 (((42 + (2 * (gI (sI s2 59 ((42 + (2 * (gI s2 59 5))).toNatClampNeg) x1) 59 5))) + 1).toNatClampNeg) r1) fun s3 => some (sI s3 59 5 ((gI s3 59 5) + 1))) else (some s2)
def f_X12_readPond_17   (σ : Hp) (tx0 : Int32) : Option (Hp) :=
  bd1 (f_X12_must σ tx0 3) fun s1 => bd1 (f_X12_goesOn s1) fun s2 => bd2 (f_X12_readNumber s2 1 (-1000000)) fun s3 r1 => if r1 = 0 then (f_X12_readPond_55 s3 r1 (gI s3 59 1) 12) else (f_X12_readPond_55 s3 r1 (gI s3 59 2) 12)
def f_X12_readPond (σ : Hp)  : Option (Hp) :=
  if 6 ≤ (gI σ 59 5) then (f_X12_readPond_17 σ 0) else (f_X12_readPond_17 σ 1)
set_option maxRecDepth 100000 in
set_option maxHeartbeats 4000000 in
theorem w_X12_readPond_55 {G : GT} {p : Program} {l : Launch} {e : Env} {s : State} {m : MethodId} {args : Array Value} {below : List Frame} {meth : Method} {c : Code}  {σ' : Hp}  {σ : Hp} {x1 : Int32} {tx0 : Int32} {tx1 : Int32}  (C0 : Cx G cX12_readPond RX12 wsX12_readPond 3 none p s m args meth c)  (hf : f_X12_readPond_55 σ x1 tx0 tx1 = some σ') {H : Heap} {locs : List Loc} (hI : Inv G s σ H locs) {ls : Array Slot} (hl : lv_has ls 3 [(0, .ref (G.1 + 51)), (1, .int x1)]) : W p l e (rmk 4 86) s m args below meth c H locs 0 0 (MQ below (QV G σ') args s (rmk 4 86).cells (rmk 4 86).slots (gA G)) (F0 m 55 ls [.int tx0, .int tx1, .ref (G.1 + 51)]) := by
  obtain ⟨hx, hb, hr, hml, hown, hts, hlk, hK, hG⟩ := id C0
  unfold f_X12_readPond_55 at hf
  obtain ⟨s1, r1, hc1, hf⟩ := ok_2 hf
  refine z_calli0 rfl rfl hI (va_runV (As := [.int tx1, .int tx0]) (rest := []) ⟨hx, hb, hml, hown, hts⟩ (m_X12_readNumber G l  hc1) (cwV 2 hts gX12_readPond_X12_readNumber rfl rfl rfl (by decide +kernel) ⟨Nat.le_of_ble_eq_true rfl, Nat.le_of_ble_eq_true rfl⟩) (z_preV hK hG hI (z_rc (q := 51) (ci := 11) (n := 0) hK hI rfl (by decide) rfl)) rfl rfl hl.1 rfl (lv_room (Nat.le_of_ble_eq_true rfl)) dX12_readPond_55 ⟨Nat.zero_le _, Nat.zero_le _⟩) (fun H locs hI => ?_)
  refine lv_istore_n (lv' := [(2, .int r1), (0, .ref (G.1 + 51)), (1, .int x1)]) hx hb dX12_readPond_58 rfl hl (by decide) rfl (fun ls hl => ?_)
  refine lv_aload_n hx hb dX12_readPond_59 rfl (lv_at hl 1 rfl) ?_
  obtain ⟨s2, hc2, hf⟩ := ok_1 hf
  refine z_callv0 rfl rfl hI (va_runV (As := []) (rest := []) ⟨hx, hb, hml, hown, hts⟩ (m_X12_readStop G l  hc2) (cwV 0 hts gX12_readPond_X12_readStop rfl rfl rfl (by decide +kernel) ⟨Nat.le_of_ble_eq_true rfl, Nat.le_of_ble_eq_true rfl⟩) (z_preV hK hG hI (z_rc (q := 51) (ci := 11) (n := 0) hK hI rfl (by decide) rfl)) rfl rfl hl.1 rfl (lv_room (Nat.le_of_ble_eq_true rfl)) dX12_readPond_60 ⟨Nat.zero_le _, Nat.zero_le _⟩) (fun H locs hI => ?_)
  refine lv_aload_n hx hb dX12_readPond_63 rfl (lv_at hl 1 rfl) ?_
  refine z_get (C := RX12) (T := TX12) (N := 26) (ci := 11) (v := .int (gI s2 51 14)) hx hb hts i_X12_readPond_11 hown hK hI 51 rfl (by decide) rfl 14 (by decide) (hts (.fieldLink RX12 107 "FenceYardsModel" "fault" "I") (by decide +kernel)) (fun _ h9 => h9) rfl dX12_readPond_64 ?_
  refine lv_if_ne (tgt := 116) hx hb dX12_readPond_67 (by decide) (fun c1 => ?_) (fun c1 => ?_)
  · have hf := ok_f c1 hf
    cases hf
    exact z_vret hx hb hr hlk hK hG hI dX12_readPond_116
  · have hf := ok_t c1 hf
    refine lv_aload_n hx hb dX12_readPond_70 rfl (lv_at hl 1 rfl) ?_
    refine z_get (C := RX12) (T := TX12) (N := 26) (ci := 11) (v := .ref (G.1 + 59)) hx hb hts i_X12_readPond_11 hown hK hI 51 rfl (by decide) rfl 16 (by decide) (hts (.fieldLink RX12 32 "FenceYardsModel" "read" "[I") (by decide +kernel)) (fun _ h9 => h9) rfl dX12_readPond_71 ?_
    refine lv_bipush (v := 42) hx hb dX12_readPond_74 (by decide) ?_
    refine lv_iconst (v := 2) hx hb dX12_readPond_76 (by decide) ?_
    refine lv_aload_n hx hb dX12_readPond_77 rfl (lv_at hl 1 rfl) ?_
    refine z_get (C := RX12) (T := TX12) (N := 26) (ci := 11) (v := .ref (G.1 + 59)) hx hb hts i_X12_readPond_11 hown hK hI 51 rfl (by decide) rfl 16 (by decide) (hts (.fieldLink RX12 32 "FenceYardsModel" "read" "[I") (by decide +kernel)) (fun _ h9 => h9) rfl dX12_readPond_78 ?_
    refine lv_iconst (v := 5) hx hb dX12_readPond_81 (by decide) ?_
    refine z_iald hx hb hK hI 59 (k := 5) rfl (by decide) (by decide) dX12_readPond_82 ?_
    refine lv_imul hx hb dX12_readPond_83 ?_
    refine lv_iadd hx hb dX12_readPond_84 ?_
    refine lv_iload_n hx hb dX12_readPond_85 rfl (lv_at hl 2 rfl) ?_
    obtain ⟨h1, hf⟩ := ok_c hf
    refine z_iast hx hb hK hI 59 (k := (42 + (2 * (gI s2 59 5))).toNatClampNeg) rfl h1 rfl dX12_readPond_86 (fun H locs hI => ?_)
    refine lv_aload_n hx hb dX12_readPond_87 rfl (lv_at hl 1 rfl) ?_
    refine z_get (C := RX12) (T := TX12) (N := 26) (ci := 11) (v := .ref (G.1 + 59)) hx hb hts i_X12_readPond_11 hown hK hI 51 rfl (by decide) rfl 16 (by decide) (hts (.fieldLink RX12 32 "FenceYardsModel" "read" "[I") (by decide +kernel)) (fun _ h9 => h9) rfl dX12_readPond_88 ?_
    refine lv_bipush (v := 42) hx hb dX12_readPond_91 (by decide) ?_
    refine lv_iconst (v := 2) hx hb dX12_readPond_93 (by decide) ?_
    refine lv_aload_n hx hb dX12_readPond_94 rfl (lv_at hl 1 rfl) ?_
    refine z_get (C := RX12) (T := TX12) (N := 26) (ci := 11) (v := .ref (G.1 + 59)) hx hb hts i_X12_readPond_11 hown hK hI 51 rfl (by decide) rfl 16 (by decide) (hts (.fieldLink RX12 32 "FenceYardsModel" "read" "[I") (by decide +kernel)) (fun _ h9 => h9) rfl dX12_readPond_95 ?_
    refine lv_iconst (v := 5) hx hb dX12_readPond_98 (by decide) ?_
    refine z_iald hx hb hK hI 59 (k := 5) rfl (by decide) (by decide) dX12_readPond_99 ?_
    refine lv_imul hx hb dX12_readPond_100 ?_
    refine lv_iadd hx hb dX12_readPond_101 ?_
    refine lv_iconst (v := 1) hx hb dX12_readPond_102 (by decide) ?_
    refine lv_iadd hx hb dX12_readPond_103 ?_
    refine lv_iload_n hx hb dX12_readPond_104 rfl (lv_at hl 0 rfl) ?_
    obtain ⟨h2, hf⟩ := ok_c hf
    refine z_iast hx hb hK hI 59 (k := ((42 + (2 * (gI (sI s2 59 ((42 + (2 * (gI s2 59 5))).toNatClampNeg) x1) 59 5))) + 1).toNatClampNeg) rfl h2 rfl dX12_readPond_105 (fun H locs hI => ?_)
    obtain ⟨s3, es3⟩ : ∃ z, z = sI (sI s2 59 ((42 + (2 * (gI s2 59 5))).toNatClampNeg) x1) 59 (((42 + (2 * (gI (sI s2 59 ((42 + (2 * (gI s2 59 5))).toNatClampNeg) x1) 59 5))) + 1).toNatClampNeg) r1 := ⟨_, rfl⟩
    have hI : Inv G s s3 H locs := by rw [es3]; exact hI
    have hf := ok_n hf es3
    refine lv_aload_n hx hb dX12_readPond_106 rfl (lv_at hl 1 rfl) ?_
    refine z_get (C := RX12) (T := TX12) (N := 26) (ci := 11) (v := .ref (G.1 + 59)) hx hb hts i_X12_readPond_11 hown hK hI 51 rfl (by decide) rfl 16 (by decide) (hts (.fieldLink RX12 32 "FenceYardsModel" "read" "[I") (by decide +kernel)) (fun _ h9 => h9) rfl dX12_readPond_107 ?_
    refine lv_iconst (v := 5) hx hb dX12_readPond_110 (by decide) ?_
    refine lv_dup2_11 hx hb dX12_readPond_111 rfl rfl ?_
    refine z_iald hx hb hK hI 59 (k := 5) rfl (by decide) (by decide) dX12_readPond_112 ?_
    refine lv_iconst (v := 1) hx hb dX12_readPond_113 (by decide) ?_
    refine lv_iadd hx hb dX12_readPond_114 ?_
    refine z_iast hx hb hK hI 59 (k := 5) rfl (by decide) (by decide) dX12_readPond_115 (fun H locs hI => ?_)
    cases hf
    exact z_vret hx hb hr hlk hK hG hI dX12_readPond_116

set_option maxRecDepth 100000 in
set_option maxHeartbeats 4000000 in
theorem w_X12_readPond_17 {G : GT} {p : Program} {l : Launch} {e : Env} {s : State} {m : MethodId} {args : Array Value} {below : List Frame} {meth : Method} {c : Code}  {σ' : Hp}  {σ : Hp} {tx0 : Int32}  (C0 : Cx G cX12_readPond RX12 wsX12_readPond 3 none p s m args meth c)  (hf : f_X12_readPond_17 σ tx0 = some σ') {H : Heap} {locs : List Loc} (hI : Inv G s σ H locs) {ls : Array Slot} (hl : lv_has ls 3 [(0, .ref (G.1 + 51))]) : W p l e (rmk 4 86) s m args below meth c H locs 0 0 (MQ below (QV G σ') args s (rmk 4 86).cells (rmk 4 86).slots (gA G)) (F0 m 17 ls [.int tx0, .ref (G.1 + 51)]) := by
  obtain ⟨hx, hb, hr, hml, hown, hts, hlk, hK, hG⟩ := id C0
  unfold f_X12_readPond_17 at hf
  refine lv_iconst (v := 3) hx hb dX12_readPond_17 (by decide) ?_
  obtain ⟨s1, hc1, hf⟩ := ok_1 hf
  refine z_callv0 rfl rfl hI (va_runV (As := [.int tx0, .int 3]) (rest := []) ⟨hx, hb, hml, hown, hts⟩ (m_X12_must G l  hc1) (cwV 2 hts gX12_readPond_X12_must rfl rfl rfl (by decide +kernel) ⟨Nat.le_of_ble_eq_true rfl, Nat.le_of_ble_eq_true rfl⟩) (z_preV hK hG hI (z_rc (q := 51) (ci := 11) (n := 0) hK hI rfl (by decide) rfl)) rfl rfl hl.1 rfl (lv_room (Nat.le_of_ble_eq_true rfl)) dX12_readPond_18 ⟨Nat.zero_le _, Nat.zero_le _⟩) (fun H locs hI => ?_)
  refine lv_aload_n hx hb dX12_readPond_21 rfl (lv_at hl 0 rfl) ?_
  obtain ⟨s2, hc2, hf⟩ := ok_1 hf
  refine z_callv0 rfl rfl hI (va_runV (As := []) (rest := []) ⟨hx, hb, hml, hown, hts⟩ (m_X12_goesOn G l  hc2) (cwV 0 hts gX12_readPond_X12_goesOn rfl rfl rfl (by decide +kernel) ⟨Nat.le_of_ble_eq_true rfl, Nat.le_of_ble_eq_true rfl⟩) (z_preV hK hG hI (z_rc (q := 51) (ci := 11) (n := 0) hK hI rfl (by decide) rfl)) rfl rfl hl.1 rfl (lv_room (Nat.le_of_ble_eq_true rfl)) dX12_readPond_22 ⟨Nat.zero_le _, Nat.zero_le _⟩) (fun H locs hI => ?_)
  refine lv_aload_n hx hb dX12_readPond_25 rfl (lv_at hl 0 rfl) ?_
  refine lv_iconst (v := 1) hx hb dX12_readPond_26 (by decide) ?_
  refine lv_ldc (v := (-1000000)) hx hb hown (hts (.constant RX12 57 (-1000000)) (by decide +kernel)) dX12_readPond_27 ?_
  obtain ⟨s3, r1, hc3, hf⟩ := ok_2 hf
  refine z_calli0 rfl rfl hI (va_runV (As := [.int 1, .int (-1000000)]) (rest := []) ⟨hx, hb, hml, hown, hts⟩ (m_X12_readNumber G l  hc3) (cwV 2 hts gX12_readPond_X12_readNumber rfl rfl rfl (by decide +kernel) ⟨Nat.le_of_ble_eq_true rfl, Nat.le_of_ble_eq_true rfl⟩) (z_preV hK hG hI (z_rc (q := 51) (ci := 11) (n := 0) hK hI rfl (by decide) rfl)) rfl rfl hl.1 rfl (lv_room (Nat.le_of_ble_eq_true rfl)) dX12_readPond_29 ⟨Nat.zero_le _, Nat.zero_le _⟩) (fun H locs hI => ?_)
  refine lv_istore_n (lv' := [(1, .int r1), (0, .ref (G.1 + 51))]) hx hb dX12_readPond_32 rfl hl (by decide) rfl (fun ls hl => ?_)
  refine lv_aload_n hx hb dX12_readPond_33 rfl (lv_at hl 1 rfl) ?_
  refine lv_bipush (v := 12) hx hb dX12_readPond_34 (by decide) ?_
  refine lv_iload_n hx hb dX12_readPond_36 rfl (lv_at hl 0 rfl) ?_
  refine lv_if_ne (tgt := 49) hx hb dX12_readPond_37 (by decide) (fun c1 => ?_) (fun c1 => ?_)
  · have hf := ok_f c1 hf
    refine lv_aload_n hx hb dX12_readPond_49 rfl (lv_at hl 1 rfl) ?_
    refine z_get (C := RX12) (T := TX12) (N := 26) (ci := 11) (v := .ref (G.1 + 59)) hx hb hts i_X12_readPond_11 hown hK hI 51 rfl (by decide) rfl 16 (by decide) (hts (.fieldLink RX12 32 "FenceYardsModel" "read" "[I") (by decide +kernel)) (fun _ h9 => h9) rfl dX12_readPond_50 ?_
    refine lv_iconst (v := 2) hx hb dX12_readPond_53 (by decide) ?_
    refine z_iald hx hb hK hI 59 (k := 2) rfl (by decide) (by decide) dX12_readPond_54 ?_
    exact w_X12_readPond_55  C0  hf hI (lv_sub hl [1, 0] rfl)
  · have hf := ok_t c1 hf
    refine lv_aload_n hx hb dX12_readPond_40 rfl (lv_at hl 1 rfl) ?_
    refine z_get (C := RX12) (T := TX12) (N := 26) (ci := 11) (v := .ref (G.1 + 59)) hx hb hts i_X12_readPond_11 hown hK hI 51 rfl (by decide) rfl 16 (by decide) (hts (.fieldLink RX12 32 "FenceYardsModel" "read" "[I") (by decide +kernel)) (fun _ h9 => h9) rfl dX12_readPond_41 ?_
    refine lv_iconst (v := 1) hx hb dX12_readPond_44 (by decide) ?_
    refine z_iald hx hb hK hI 59 (k := 1) rfl (by decide) (by decide) dX12_readPond_45 ?_
    refine lv_goto (tgt := 55) hx hb dX12_readPond_46 (by decide) ?_
    exact w_X12_readPond_55  C0  hf hI (lv_sub hl [1, 0] rfl)

set_option maxRecDepth 100000 in
set_option maxHeartbeats 4000000 in
theorem m_X12_readPond (G : GT) (l : Launch) {σ : Hp}  {σ' : Hp}  (hf : f_X12_readPond σ = some σ') : MetG G l yX12_readPond wsX12_readPond (rmk 4 86) σ [.ref (G.1 + 51)] (QV G σ') := by
  refine met_of (cc := cX12_readPond) (nL := 3) (ret := none) (by decide) rfl (Nat.le_of_ble_eq_true rfl) ?_
  intro p e s m below meth c C0 hnm hI ls hl
  obtain ⟨hx, hb, hr, hml, hown, hts, hlk, hK, hG⟩ := id C0
  have hl : lv_has ls 3 [(0, .ref (G.1 + 51))] := hl
  unfold f_X12_readPond at hf
  refine lv_aload_n hx hb dX12_readPond_0 rfl (lv_at hl 0 rfl) ?_
  refine lv_aload_n hx hb dX12_readPond_1 rfl (lv_at hl 0 rfl) ?_
  refine z_get (C := RX12) (T := TX12) (N := 26) (ci := 11) (v := .ref (G.1 + 59)) hx hb hts i_X12_readPond_11 hown hK hI 51 rfl (by decide) rfl 16 (by decide) (hts (.fieldLink RX12 32 "FenceYardsModel" "read" "[I") (by decide +kernel)) (fun _ h9 => h9) rfl dX12_readPond_2 ?_
  refine lv_iconst (v := 5) hx hb dX12_readPond_5 (by decide) ?_
  refine z_iald hx hb hK hI 59 (k := 5) rfl (by decide) (by decide) dX12_readPond_6 ?_
  refine lv_bipush (v := 6) hx hb dX12_readPond_7 (by decide) ?_
  refine lv_icmp_ge (tgt := 16) hx hb dX12_readPond_9 (by decide) (fun c1 => ?_) (fun c1 => ?_)
  · have hf := ok_t c1 hf
    refine lv_iconst (v := 0) hx hb dX12_readPond_16 (by decide) ?_
    exact w_X12_readPond_17  C0  hf hI (lv_sub hl [0] rfl)
  · have hf := ok_f c1 hf
    refine lv_iconst (v := 1) hx hb dX12_readPond_12 (by decide) ?_
    refine lv_goto (tgt := 17) hx hb dX12_readPond_13 (by decide) ?_
    exact w_X12_readPond_17  C0  hf hI (lv_sub hl [0] rfl)

-- ===== FenceYardsModel.sortNow()I
def f_X12_sortNow (σ : Hp)  : Option (Int32) :=
  bd1 (f_X12_isName σ 1650811246) fun r1 => if r1 = 0 then (bd1 (f_X12_isName σ 418498243685) fun r2 => if r2 = 0 then (bd1 (f_X12_isName σ 7502181) fun r3 => if r3 = 0 then (bd1 (f_X12_isName σ 444300620659) fun r4 => if r4 = 0 then (bd1 (f_X12_isName σ 109317377647986) fun r5 => if r5 = 0 then (some (-1000000)) else (some 5)) else (some 4)) else (some 3)) else (some 2)) else (some 1)
set_option maxRecDepth 100000 in
set_option maxHeartbeats 4000000 in
theorem m_X12_sortNow (G : GT) (l : Launch) {σ : Hp}  {r : Int32}  (hf : f_X12_sortNow σ = some r) : MetG G l yX12_sortNow wsX12_sortNow (rmk 1 22) σ [.ref (G.1 + 51)] (QI G σ r) := by
  refine met_of (cc := cX12_sortNow) (nL := 1) (ret := (some .int)) (by decide) rfl (Nat.le_of_ble_eq_true rfl) ?_
  intro p e s m below meth c C0 hnm hI ls hl
  obtain ⟨hx, hb, hr, hml, hown, hts, hlk, hK, hG⟩ := id C0
  have hl : lv_has ls 1 [(0, .ref (G.1 + 51))] := hl
  unfold f_X12_sortNow at hf
  refine lv_aload_n hx hb dX12_sortNow_0 rfl (lv_at hl 0 rfl) ?_
  refine lv_ldc2 (v := 1650811246) hx hb hown (hts (.constantLong RX12 133 1650811246) (by decide +kernel)) dX12_sortNow_1 ?_
  obtain ⟨r1, hc1, hf⟩ := ok_1 hf
  refine z_calli0 rfl rfl hI (va_runV (As := [.long 1650811246]) (rest := []) ⟨hx, hb, hml, hown, hts⟩ (m_X12_isName G l  hc1) (cwV 1 hts gX12_sortNow_X12_isName rfl rfl rfl (by decide +kernel) ⟨Nat.le_of_ble_eq_true rfl, Nat.le_of_ble_eq_true rfl⟩) (z_preV hK hG hI (z_rc (q := 51) (ci := 11) (n := 0) hK hI rfl (by decide) rfl)) rfl rfl hl.1 rfl (lv_room (Nat.le_of_ble_eq_true rfl)) dX12_sortNow_4 ⟨Nat.zero_le _, Nat.zero_le _⟩) (fun H locs hI => ?_)
  refine lv_if_eq (tgt := 14) hx hb dX12_sortNow_7 (by decide) (fun c1 => ?_) (fun c1 => ?_)
  · have hf := ok_t c1 hf
    refine lv_aload_n hx hb dX12_sortNow_14 rfl (lv_at hl 0 rfl) ?_
    refine lv_ldc2 (v := 418498243685) hx hb hown (hts (.constantLong RX12 135 418498243685) (by decide +kernel)) dX12_sortNow_15 ?_
    obtain ⟨r2, hc2, hf⟩ := ok_1 hf
    refine z_calli0 rfl rfl hI (va_runV (As := [.long 418498243685]) (rest := []) ⟨hx, hb, hml, hown, hts⟩ (m_X12_isName G l  hc2) (cwV 1 hts gX12_sortNow_X12_isName rfl rfl rfl (by decide +kernel) ⟨Nat.le_of_ble_eq_true rfl, Nat.le_of_ble_eq_true rfl⟩) (z_preV hK hG hI (z_rc (q := 51) (ci := 11) (n := 0) hK hI rfl (by decide) rfl)) rfl rfl hl.1 rfl (lv_room (Nat.le_of_ble_eq_true rfl)) dX12_sortNow_18 ⟨Nat.zero_le _, Nat.zero_le _⟩) (fun H locs hI => ?_)
    refine lv_if_eq (tgt := 28) hx hb dX12_sortNow_21 (by decide) (fun c2 => ?_) (fun c2 => ?_)
    · have hf := ok_t c2 hf
      refine lv_aload_n hx hb dX12_sortNow_28 rfl (lv_at hl 0 rfl) ?_
      refine lv_ldc2 (v := 7502181) hx hb hown (hts (.constantLong RX12 137 7502181) (by decide +kernel)) dX12_sortNow_29 ?_
      obtain ⟨r3, hc3, hf⟩ := ok_1 hf
      refine z_calli0 rfl rfl hI (va_runV (As := [.long 7502181]) (rest := []) ⟨hx, hb, hml, hown, hts⟩ (m_X12_isName G l  hc3) (cwV 1 hts gX12_sortNow_X12_isName rfl rfl rfl (by decide +kernel) ⟨Nat.le_of_ble_eq_true rfl, Nat.le_of_ble_eq_true rfl⟩) (z_preV hK hG hI (z_rc (q := 51) (ci := 11) (n := 0) hK hI rfl (by decide) rfl)) rfl rfl hl.1 rfl (lv_room (Nat.le_of_ble_eq_true rfl)) dX12_sortNow_32 ⟨Nat.zero_le _, Nat.zero_le _⟩) (fun H locs hI => ?_)
      refine lv_if_eq (tgt := 42) hx hb dX12_sortNow_35 (by decide) (fun c3 => ?_) (fun c3 => ?_)
      · have hf := ok_t c3 hf
        refine lv_aload_n hx hb dX12_sortNow_42 rfl (lv_at hl 0 rfl) ?_
        refine lv_ldc2 (v := 444300620659) hx hb hown (hts (.constantLong RX12 139 444300620659) (by decide +kernel)) dX12_sortNow_43 ?_
        obtain ⟨r4, hc4, hf⟩ := ok_1 hf
        refine z_calli0 rfl rfl hI (va_runV (As := [.long 444300620659]) (rest := []) ⟨hx, hb, hml, hown, hts⟩ (m_X12_isName G l  hc4) (cwV 1 hts gX12_sortNow_X12_isName rfl rfl rfl (by decide +kernel) ⟨Nat.le_of_ble_eq_true rfl, Nat.le_of_ble_eq_true rfl⟩) (z_preV hK hG hI (z_rc (q := 51) (ci := 11) (n := 0) hK hI rfl (by decide) rfl)) rfl rfl hl.1 rfl (lv_room (Nat.le_of_ble_eq_true rfl)) dX12_sortNow_46 ⟨Nat.zero_le _, Nat.zero_le _⟩) (fun H locs hI => ?_)
        refine lv_if_eq (tgt := 56) hx hb dX12_sortNow_49 (by decide) (fun c4 => ?_) (fun c4 => ?_)
        · have hf := ok_t c4 hf
          refine lv_aload_n hx hb dX12_sortNow_56 rfl (lv_at hl 0 rfl) ?_
          refine lv_ldc2 (v := 109317377647986) hx hb hown (hts (.constantLong RX12 141 109317377647986) (by decide +kernel)) dX12_sortNow_57 ?_
          obtain ⟨r5, hc5, hf⟩ := ok_1 hf
          refine z_calli0 rfl rfl hI (va_runV (As := [.long 109317377647986]) (rest := []) ⟨hx, hb, hml, hown, hts⟩ (m_X12_isName G l  hc5) (cwV 1 hts gX12_sortNow_X12_isName rfl rfl rfl (by decide +kernel) ⟨Nat.le_of_ble_eq_true rfl, Nat.le_of_ble_eq_true rfl⟩) (z_preV hK hG hI (z_rc (q := 51) (ci := 11) (n := 0) hK hI rfl (by decide) rfl)) rfl rfl hl.1 rfl (lv_room (Nat.le_of_ble_eq_true rfl)) dX12_sortNow_60 ⟨Nat.zero_le _, Nat.zero_le _⟩) (fun H locs hI => ?_)
          refine lv_if_eq (tgt := 70) hx hb dX12_sortNow_63 (by decide) (fun c5 => ?_) (fun c5 => ?_)
          · have hf := ok_t c5 hf
            refine lv_ldc (v := (-1000000)) hx hb hown (hts (.constant RX12 57 (-1000000)) (by decide +kernel)) dX12_sortNow_70 ?_
            cases hf
            exact z_iret hx hb hr hlk hK hG hI dX12_sortNow_72
          · have hf := ok_f c5 hf
            refine lv_iconst (v := 5) hx hb dX12_sortNow_66 (by decide) ?_
            refine lv_goto (tgt := 72) hx hb dX12_sortNow_67 (by decide) ?_
            cases hf
            exact z_iret hx hb hr hlk hK hG hI dX12_sortNow_72
        · have hf := ok_f c4 hf
          refine lv_iconst (v := 4) hx hb dX12_sortNow_52 (by decide) ?_
          refine lv_goto (tgt := 72) hx hb dX12_sortNow_53 (by decide) ?_
          cases hf
          exact z_iret hx hb hr hlk hK hG hI dX12_sortNow_72
      · have hf := ok_f c3 hf
        refine lv_iconst (v := 3) hx hb dX12_sortNow_38 (by decide) ?_
        refine lv_goto (tgt := 72) hx hb dX12_sortNow_39 (by decide) ?_
        cases hf
        exact z_iret hx hb hr hlk hK hG hI dX12_sortNow_72
    · have hf := ok_f c2 hf
      refine lv_iconst (v := 2) hx hb dX12_sortNow_24 (by decide) ?_
      refine lv_goto (tgt := 72) hx hb dX12_sortNow_25 (by decide) ?_
      cases hf
      exact z_iret hx hb hr hlk hK hG hI dX12_sortNow_72
  · have hf := ok_f c1 hf
    refine lv_iconst (v := 1) hx hb dX12_sortNow_10 (by decide) ?_
    refine lv_goto (tgt := 72) hx hb dX12_sortNow_11 (by decide) ?_
    cases hf
    exact z_iret hx hb hr hlk hK hG hI dX12_sortNow_72

-- ===== FenceYardsModel.readStrip()V
set_option maxRecDepth 100000 in
theorem i_X12_readStrip_11 : ∀ w ∈ u_ws RX12 TX12 26, w ∈ wsX12_readStrip := by decide +kernel
def f_X12_readStrip_42   (σ : Hp) (x1 : Int32) (tx0 : Int32) : Option (Hp) :=
  bd1 (f_X12_must σ tx0 1) fun s1 => bd1 (f_X12_goesOn s1) fun s2 => bd2 (f_X12_readNumber s2 99 (-1000000)) fun s3 r1 => bd2 (f_X12_readNumber s3 11 (-1000000)) fun s4 r2 => bd1 (f_X12_readStop s4) fun s5 => if (gI s5 51 14) = 0 then (bnd (6 + (3 * (gI s5 59 4))) fun v1 => chk (inb v1 78) <| chk (inb (v1 + 1) 78) <| bnd (sI (sI s5 59 (v1.toNatClampNeg) x1) 59 ((v1 + 1).toNatClampNeg) r1) fun s6 => chk (inb (v1 + 2) 78) <| bnd (sI (sI s6 59 ((v1 + 2).toNatClampNeg) r2) 59 4 ((gI (sI s6 59 ((v1 + 2).toNatClampNeg) r2) 59 4) + 1)) fun s7 => some s7) else (some s5)
def f_X12_readStrip_17   (σ : Hp) (tx0 : Int32) : Option (Hp) :=
  bd1 (f_X12_must σ tx0 3) fun s1 => bd1 (f_X12_goesOn s1) fun s2 => bd1 (f_X12_sortNow s2) fun r1 => if r1 = (-1000000) then (f_X12_readStrip_42 s2 r1 0) else (f_X12_readStrip_42 s2 r1 1)
def f_X12_readStrip (σ : Hp)  : Option (Hp) :=
  if 12 ≤ (gI σ 59 4) then (f_X12_readStrip_17 σ 0) else (f_X12_readStrip_17 σ 1)
set_option maxRecDepth 100000 in
set_option maxHeartbeats 4000000 in
theorem w_X12_readStrip_42 {G : GT} {p : Program} {l : Launch} {e : Env} {s : State} {m : MethodId} {args : Array Value} {below : List Frame} {meth : Method} {c : Code}  {σ' : Hp}  {σ : Hp} {x1 : Int32} {tx0 : Int32}  (C0 : Cx G cX12_readStrip RX12 wsX12_readStrip 5 none p s m args meth c)  (hf : f_X12_readStrip_42 σ x1 tx0 = some σ') {H : Heap} {locs : List Loc} (hI : Inv G s σ H locs) {ls : Array Slot} (hl : lv_has ls 5 [(0, .ref (G.1 + 51)), (1, .int x1)]) : W p l e (rmk 4 86) s m args below meth c H locs 0 0 (MQ below (QV G σ') args s (rmk 4 86).cells (rmk 4 86).slots (gA G)) (F0 m 42 ls [.int tx0, .ref (G.1 + 51)]) := by
  obtain ⟨hx, hb, hr, hml, hown, hts, hlk, hK, hG⟩ := id C0
  unfold f_X12_readStrip_42 at hf
  refine lv_iconst (v := 1) hx hb dX12_readStrip_42 (by decide) ?_
  obtain ⟨s1, hc1, hf⟩ := ok_1 hf
  refine z_callv0 rfl rfl hI (va_runV (As := [.int tx0, .int 1]) (rest := []) ⟨hx, hb, hml, hown, hts⟩ (m_X12_must G l  hc1) (cwV 2 hts gX12_readStrip_X12_must rfl rfl rfl (by decide +kernel) ⟨Nat.le_of_ble_eq_true rfl, Nat.le_of_ble_eq_true rfl⟩) (z_preV hK hG hI (z_rc (q := 51) (ci := 11) (n := 0) hK hI rfl (by decide) rfl)) rfl rfl hl.1 rfl (lv_room (Nat.le_of_ble_eq_true rfl)) dX12_readStrip_43 ⟨Nat.zero_le _, Nat.zero_le _⟩) (fun H locs hI => ?_)
  refine lv_aload_n hx hb dX12_readStrip_46 rfl (lv_at hl 0 rfl) ?_
  obtain ⟨s2, hc2, hf⟩ := ok_1 hf
  refine z_callv0 rfl rfl hI (va_runV (As := []) (rest := []) ⟨hx, hb, hml, hown, hts⟩ (m_X12_goesOn G l  hc2) (cwV 0 hts gX12_readStrip_X12_goesOn rfl rfl rfl (by decide +kernel) ⟨Nat.le_of_ble_eq_true rfl, Nat.le_of_ble_eq_true rfl⟩) (z_preV hK hG hI (z_rc (q := 51) (ci := 11) (n := 0) hK hI rfl (by decide) rfl)) rfl rfl hl.1 rfl (lv_room (Nat.le_of_ble_eq_true rfl)) dX12_readStrip_47 ⟨Nat.zero_le _, Nat.zero_le _⟩) (fun H locs hI => ?_)
  refine lv_aload_n hx hb dX12_readStrip_50 rfl (lv_at hl 0 rfl) ?_
  refine lv_bipush (v := 99) hx hb dX12_readStrip_51 (by decide) ?_
  refine lv_ldc (v := (-1000000)) hx hb hown (hts (.constant RX12 57 (-1000000)) (by decide +kernel)) dX12_readStrip_53 ?_
  obtain ⟨s3, r1, hc3, hf⟩ := ok_2 hf
  refine z_calli0 rfl rfl hI (va_runV (As := [.int 99, .int (-1000000)]) (rest := []) ⟨hx, hb, hml, hown, hts⟩ (m_X12_readNumber G l  hc3) (cwV 2 hts gX12_readStrip_X12_readNumber rfl rfl rfl (by decide +kernel) ⟨Nat.le_of_ble_eq_true rfl, Nat.le_of_ble_eq_true rfl⟩) (z_preV hK hG hI (z_rc (q := 51) (ci := 11) (n := 0) hK hI rfl (by decide) rfl)) rfl rfl hl.1 rfl (lv_room (Nat.le_of_ble_eq_true rfl)) dX12_readStrip_55 ⟨Nat.zero_le _, Nat.zero_le _⟩) (fun H locs hI => ?_)
  refine lv_istore_n (lv' := [(2, .int r1), (0, .ref (G.1 + 51)), (1, .int x1)]) hx hb dX12_readStrip_58 rfl hl (by decide) rfl (fun ls hl => ?_)
  refine lv_aload_n hx hb dX12_readStrip_59 rfl (lv_at hl 1 rfl) ?_
  refine lv_bipush (v := 11) hx hb dX12_readStrip_60 (by decide) ?_
  refine lv_ldc (v := (-1000000)) hx hb hown (hts (.constant RX12 57 (-1000000)) (by decide +kernel)) dX12_readStrip_62 ?_
  obtain ⟨s4, r2, hc4, hf⟩ := ok_2 hf
  refine z_calli0 rfl rfl hI (va_runV (As := [.int 11, .int (-1000000)]) (rest := []) ⟨hx, hb, hml, hown, hts⟩ (m_X12_readNumber G l  hc4) (cwV 2 hts gX12_readStrip_X12_readNumber rfl rfl rfl (by decide +kernel) ⟨Nat.le_of_ble_eq_true rfl, Nat.le_of_ble_eq_true rfl⟩) (z_preV hK hG hI (z_rc (q := 51) (ci := 11) (n := 0) hK hI rfl (by decide) rfl)) rfl rfl hl.1 rfl (lv_room (Nat.le_of_ble_eq_true rfl)) dX12_readStrip_64 ⟨Nat.zero_le _, Nat.zero_le _⟩) (fun H locs hI => ?_)
  refine lv_istore_n (lv' := [(3, .int r2), (2, .int r1), (0, .ref (G.1 + 51)), (1, .int x1)]) hx hb dX12_readStrip_67 rfl hl (by decide) rfl (fun ls hl => ?_)
  refine lv_aload_n hx hb dX12_readStrip_68 rfl (lv_at hl 2 rfl) ?_
  obtain ⟨s5, hc5, hf⟩ := ok_1 hf
  refine z_callv0 rfl rfl hI (va_runV (As := []) (rest := []) ⟨hx, hb, hml, hown, hts⟩ (m_X12_readStop G l  hc5) (cwV 0 hts gX12_readStrip_X12_readStop rfl rfl rfl (by decide +kernel) ⟨Nat.le_of_ble_eq_true rfl, Nat.le_of_ble_eq_true rfl⟩) (z_preV hK hG hI (z_rc (q := 51) (ci := 11) (n := 0) hK hI rfl (by decide) rfl)) rfl rfl hl.1 rfl (lv_room (Nat.le_of_ble_eq_true rfl)) dX12_readStrip_69 ⟨Nat.zero_le _, Nat.zero_le _⟩) (fun H locs hI => ?_)
  refine lv_aload_n hx hb dX12_readStrip_72 rfl (lv_at hl 2 rfl) ?_
  refine z_get (C := RX12) (T := TX12) (N := 26) (ci := 11) (v := .int (gI s5 51 14)) hx hb hts i_X12_readStrip_11 hown hK hI 51 rfl (by decide) rfl 14 (by decide) (hts (.fieldLink RX12 107 "FenceYardsModel" "fault" "I") (by decide +kernel)) (fun _ h9 => h9) rfl dX12_readStrip_73 ?_
  refine lv_if_ne (tgt := 130) hx hb dX12_readStrip_76 (by decide) (fun c1 => ?_) (fun c1 => ?_)
  · have hf := ok_f c1 hf
    cases hf
    exact z_vret hx hb hr hlk hK hG hI dX12_readStrip_130
  · have hf := ok_t c1 hf
    refine lv_bipush (v := 6) hx hb dX12_readStrip_79 (by decide) ?_
    refine lv_iconst (v := 3) hx hb dX12_readStrip_81 (by decide) ?_
    refine lv_aload_n hx hb dX12_readStrip_82 rfl (lv_at hl 2 rfl) ?_
    refine z_get (C := RX12) (T := TX12) (N := 26) (ci := 11) (v := .ref (G.1 + 59)) hx hb hts i_X12_readStrip_11 hown hK hI 51 rfl (by decide) rfl 16 (by decide) (hts (.fieldLink RX12 32 "FenceYardsModel" "read" "[I") (by decide +kernel)) (fun _ h9 => h9) rfl dX12_readStrip_83 ?_
    refine lv_iconst (v := 4) hx hb dX12_readStrip_86 (by decide) ?_
    refine z_iald hx hb hK hI 59 (k := 4) rfl (by decide) (by decide) dX12_readStrip_87 ?_
    refine lv_imul hx hb dX12_readStrip_88 ?_
    refine lv_iadd hx hb dX12_readStrip_89 ?_
    refine lv_topi (fun v1 ev1 => ?_)
    have hf := ok_n hf ev1
    refine lv_istore (lv' := [(4, .int v1), (3, .int r2), (2, .int r1), (0, .ref (G.1 + 51)), (1, .int x1)]) hx hb dX12_readStrip_90 hl (by decide) rfl (fun ls hl => ?_)
    refine lv_aload_n hx hb dX12_readStrip_92 rfl (lv_at hl 3 rfl) ?_
    refine z_get (C := RX12) (T := TX12) (N := 26) (ci := 11) (v := .ref (G.1 + 59)) hx hb hts i_X12_readStrip_11 hown hK hI 51 rfl (by decide) rfl 16 (by decide) (hts (.fieldLink RX12 32 "FenceYardsModel" "read" "[I") (by decide +kernel)) (fun _ h9 => h9) rfl dX12_readStrip_93 ?_
    refine lv_iload hx hb dX12_readStrip_96 (lv_at hl 0 rfl) ?_
    refine lv_iload_n hx hb dX12_readStrip_98 rfl (lv_at hl 4 rfl) ?_
    obtain ⟨h1, hf⟩ := ok_c hf
    refine z_iast hx hb hK hI 59 (k := v1.toNatClampNeg) rfl h1 rfl dX12_readStrip_99 (fun H locs hI => ?_)
    refine lv_aload_n hx hb dX12_readStrip_100 rfl (lv_at hl 3 rfl) ?_
    refine z_get (C := RX12) (T := TX12) (N := 26) (ci := 11) (v := .ref (G.1 + 59)) hx hb hts i_X12_readStrip_11 hown hK hI 51 rfl (by decide) rfl 16 (by decide) (hts (.fieldLink RX12 32 "FenceYardsModel" "read" "[I") (by decide +kernel)) (fun _ h9 => h9) rfl dX12_readStrip_101 ?_
    refine lv_iload hx hb dX12_readStrip_104 (lv_at hl 0 rfl) ?_
    refine lv_iconst (v := 1) hx hb dX12_readStrip_106 (by decide) ?_
    refine lv_iadd hx hb dX12_readStrip_107 ?_
    refine lv_iload_n hx hb dX12_readStrip_108 rfl (lv_at hl 2 rfl) ?_
    obtain ⟨h2, hf⟩ := ok_c hf
    refine z_iast hx hb hK hI 59 (k := (v1 + 1).toNatClampNeg) rfl h2 rfl dX12_readStrip_109 (fun H locs hI => ?_)
    obtain ⟨s6, es6⟩ : ∃ z, z = sI (sI s5 59 (v1.toNatClampNeg) x1) 59 ((v1 + 1).toNatClampNeg) r1 := ⟨_, rfl⟩
    have hI : Inv G s s6 H locs := by rw [es6]; exact hI
    have hf := ok_n hf es6
    refine lv_aload_n hx hb dX12_readStrip_110 rfl (lv_at hl 3 rfl) ?_
    refine z_get (C := RX12) (T := TX12) (N := 26) (ci := 11) (v := .ref (G.1 + 59)) hx hb hts i_X12_readStrip_11 hown hK hI 51 rfl (by decide) rfl 16 (by decide) (hts (.fieldLink RX12 32 "FenceYardsModel" "read" "[I") (by decide +kernel)) (fun _ h9 => h9) rfl dX12_readStrip_111 ?_
    refine lv_iload hx hb dX12_readStrip_114 (lv_at hl 0 rfl) ?_
    refine lv_iconst (v := 2) hx hb dX12_readStrip_116 (by decide) ?_
    refine lv_iadd hx hb dX12_readStrip_117 ?_
    refine lv_iload_n hx hb dX12_readStrip_118 rfl (lv_at hl 1 rfl) ?_
    obtain ⟨h3, hf⟩ := ok_c hf
    refine z_iast hx hb hK hI 59 (k := (v1 + 2).toNatClampNeg) rfl h3 rfl dX12_readStrip_119 (fun H locs hI => ?_)
    refine lv_aload_n hx hb dX12_readStrip_120 rfl (lv_at hl 3 rfl) ?_
    refine z_get (C := RX12) (T := TX12) (N := 26) (ci := 11) (v := .ref (G.1 + 59)) hx hb hts i_X12_readStrip_11 hown hK hI 51 rfl (by decide) rfl 16 (by decide) (hts (.fieldLink RX12 32 "FenceYardsModel" "read" "[I") (by decide +kernel)) (fun _ h9 => h9) rfl dX12_readStrip_121 ?_
    refine lv_iconst (v := 4) hx hb dX12_readStrip_124 (by decide) ?_
    refine lv_dup2_11 hx hb dX12_readStrip_125 rfl rfl ?_
    refine z_iald hx hb hK hI 59 (k := 4) rfl (by decide) (by decide) dX12_readStrip_126 ?_
    refine lv_iconst (v := 1) hx hb dX12_readStrip_127 (by decide) ?_
    refine lv_iadd hx hb dX12_readStrip_128 ?_
    refine z_iast hx hb hK hI 59 (k := 4) rfl (by decide) (by decide) dX12_readStrip_129 (fun H locs hI => ?_)
    obtain ⟨s7, es7⟩ : ∃ z, z = sI (sI s6 59 ((v1 + 2).toNatClampNeg) r2) 59 4 ((gI (sI s6 59 ((v1 + 2).toNatClampNeg) r2) 59 4) + 1) := ⟨_, rfl⟩
    have hI : Inv G s s7 H locs := by rw [es7]; exact hI
    have hf := ok_n hf es7
    cases hf
    exact z_vret hx hb hr hlk hK hG hI dX12_readStrip_130

set_option maxRecDepth 100000 in
set_option maxHeartbeats 4000000 in
theorem w_X12_readStrip_17 {G : GT} {p : Program} {l : Launch} {e : Env} {s : State} {m : MethodId} {args : Array Value} {below : List Frame} {meth : Method} {c : Code}  {σ' : Hp}  {σ : Hp} {tx0 : Int32}  (C0 : Cx G cX12_readStrip RX12 wsX12_readStrip 5 none p s m args meth c)  (hf : f_X12_readStrip_17 σ tx0 = some σ') {H : Heap} {locs : List Loc} (hI : Inv G s σ H locs) {ls : Array Slot} (hl : lv_has ls 5 [(0, .ref (G.1 + 51))]) : W p l e (rmk 4 86) s m args below meth c H locs 0 0 (MQ below (QV G σ') args s (rmk 4 86).cells (rmk 4 86).slots (gA G)) (F0 m 17 ls [.int tx0, .ref (G.1 + 51)]) := by
  obtain ⟨hx, hb, hr, hml, hown, hts, hlk, hK, hG⟩ := id C0
  unfold f_X12_readStrip_17 at hf
  refine lv_iconst (v := 3) hx hb dX12_readStrip_17 (by decide) ?_
  obtain ⟨s1, hc1, hf⟩ := ok_1 hf
  refine z_callv0 rfl rfl hI (va_runV (As := [.int tx0, .int 3]) (rest := []) ⟨hx, hb, hml, hown, hts⟩ (m_X12_must G l  hc1) (cwV 2 hts gX12_readStrip_X12_must rfl rfl rfl (by decide +kernel) ⟨Nat.le_of_ble_eq_true rfl, Nat.le_of_ble_eq_true rfl⟩) (z_preV hK hG hI (z_rc (q := 51) (ci := 11) (n := 0) hK hI rfl (by decide) rfl)) rfl rfl hl.1 rfl (lv_room (Nat.le_of_ble_eq_true rfl)) dX12_readStrip_18 ⟨Nat.zero_le _, Nat.zero_le _⟩) (fun H locs hI => ?_)
  refine lv_aload_n hx hb dX12_readStrip_21 rfl (lv_at hl 0 rfl) ?_
  obtain ⟨s2, hc2, hf⟩ := ok_1 hf
  refine z_callv0 rfl rfl hI (va_runV (As := []) (rest := []) ⟨hx, hb, hml, hown, hts⟩ (m_X12_goesOn G l  hc2) (cwV 0 hts gX12_readStrip_X12_goesOn rfl rfl rfl (by decide +kernel) ⟨Nat.le_of_ble_eq_true rfl, Nat.le_of_ble_eq_true rfl⟩) (z_preV hK hG hI (z_rc (q := 51) (ci := 11) (n := 0) hK hI rfl (by decide) rfl)) rfl rfl hl.1 rfl (lv_room (Nat.le_of_ble_eq_true rfl)) dX12_readStrip_22 ⟨Nat.zero_le _, Nat.zero_le _⟩) (fun H locs hI => ?_)
  refine lv_aload_n hx hb dX12_readStrip_25 rfl (lv_at hl 0 rfl) ?_
  obtain ⟨r1, hc3, hf⟩ := ok_1 hf
  refine z_calli0 rfl rfl hI (va_runV (As := []) (rest := []) ⟨hx, hb, hml, hown, hts⟩ (m_X12_sortNow G l  hc3) (cwV 0 hts gX12_readStrip_X12_sortNow rfl rfl rfl (by decide +kernel) ⟨Nat.le_of_ble_eq_true rfl, Nat.le_of_ble_eq_true rfl⟩) (z_preV hK hG hI (z_rc (q := 51) (ci := 11) (n := 0) hK hI rfl (by decide) rfl)) rfl rfl hl.1 rfl (lv_room (Nat.le_of_ble_eq_true rfl)) dX12_readStrip_26 ⟨Nat.zero_le _, Nat.zero_le _⟩) (fun H locs hI => ?_)
  refine lv_istore_n (lv' := [(1, .int r1), (0, .ref (G.1 + 51))]) hx hb dX12_readStrip_29 rfl hl (by decide) rfl (fun ls hl => ?_)
  refine lv_aload_n hx hb dX12_readStrip_30 rfl (lv_at hl 1 rfl) ?_
  refine lv_iload_n hx hb dX12_readStrip_31 rfl (lv_at hl 0 rfl) ?_
  refine lv_ldc (v := (-1000000)) hx hb hown (hts (.constant RX12 57 (-1000000)) (by decide +kernel)) dX12_readStrip_32 ?_
  refine lv_icmp_eq (tgt := 41) hx hb dX12_readStrip_34 (by decide) (fun c1 => ?_) (fun c1 => ?_)
  · have hf := ok_t c1 hf
    refine lv_iconst (v := 0) hx hb dX12_readStrip_41 (by decide) ?_
    exact w_X12_readStrip_42  C0  hf hI (lv_sub hl [1, 0] rfl)
  · have hf := ok_f c1 hf
    refine lv_iconst (v := 1) hx hb dX12_readStrip_37 (by decide) ?_
    refine lv_goto (tgt := 42) hx hb dX12_readStrip_38 (by decide) ?_
    exact w_X12_readStrip_42  C0  hf hI (lv_sub hl [1, 0] rfl)

set_option maxRecDepth 100000 in
set_option maxHeartbeats 4000000 in
theorem m_X12_readStrip (G : GT) (l : Launch) {σ : Hp}  {σ' : Hp}  (hf : f_X12_readStrip σ = some σ') : MetG G l yX12_readStrip wsX12_readStrip (rmk 4 86) σ [.ref (G.1 + 51)] (QV G σ') := by
  refine met_of (cc := cX12_readStrip) (nL := 5) (ret := none) (by decide) rfl (Nat.le_of_ble_eq_true rfl) ?_
  intro p e s m below meth c C0 hnm hI ls hl
  obtain ⟨hx, hb, hr, hml, hown, hts, hlk, hK, hG⟩ := id C0
  have hl : lv_has ls 5 [(0, .ref (G.1 + 51))] := hl
  unfold f_X12_readStrip at hf
  refine lv_aload_n hx hb dX12_readStrip_0 rfl (lv_at hl 0 rfl) ?_
  refine lv_aload_n hx hb dX12_readStrip_1 rfl (lv_at hl 0 rfl) ?_
  refine z_get (C := RX12) (T := TX12) (N := 26) (ci := 11) (v := .ref (G.1 + 59)) hx hb hts i_X12_readStrip_11 hown hK hI 51 rfl (by decide) rfl 16 (by decide) (hts (.fieldLink RX12 32 "FenceYardsModel" "read" "[I") (by decide +kernel)) (fun _ h9 => h9) rfl dX12_readStrip_2 ?_
  refine lv_iconst (v := 4) hx hb dX12_readStrip_5 (by decide) ?_
  refine z_iald hx hb hK hI 59 (k := 4) rfl (by decide) (by decide) dX12_readStrip_6 ?_
  refine lv_bipush (v := 12) hx hb dX12_readStrip_7 (by decide) ?_
  refine lv_icmp_ge (tgt := 16) hx hb dX12_readStrip_9 (by decide) (fun c1 => ?_) (fun c1 => ?_)
  · have hf := ok_t c1 hf
    refine lv_iconst (v := 0) hx hb dX12_readStrip_16 (by decide) ?_
    exact w_X12_readStrip_17  C0  hf hI (lv_sub hl [0] rfl)
  · have hf := ok_f c1 hf
    refine lv_iconst (v := 1) hx hb dX12_readStrip_12 (by decide) ?_
    refine lv_goto (tgt := 17) hx hb dX12_readStrip_13 (by decide) ?_
    exact w_X12_readStrip_17  C0  hf hI (lv_sub hl [0] rfl)

-- ===== FenceYardsModel.ground()I
set_option maxRecDepth 100000 in
theorem i_X12_ground_11 : ∀ w ∈ u_ws RX12 TX12 26, w ∈ wsX12_ground := by decide +kernel
def f_X12_ground_136     : Nat → Hp → Int32 → Option (Hp × Int32)
  | 0, _, _ => none
  | n + 1, σ, x2 =>
    if 78 ≤ x2 then (some (sI σ 52 0 1, gI (sI σ 52 0 1) 52 4)) else (chk (inb x2 78) <| chk (inb x2 78) <| f_X12_ground_136 n (sI σ 52 (x2.toNatClampNeg) (gI σ 59 (x2.toNatClampNeg))) (x2 + 1))
def f_X12_ground_100   (σ : Hp) (tx0 : Int32) : Option (Hp × Int32) :=
  bd1 (f_X12_must σ tx0 1) fun s1 => bnd (gI s1 51 10) fun v1 => if (gI (sI s1 51 8 0) 51 14) ≤ 0 then (f_X12_ground_136 fu (sI s1 51 8 0) 0) else (some (sI (sI s1 51 8 0) 51 15 (gI (sI s1 51 8 0) 51 14), (-1000100) - v1))
def f_X12_ground_63     : Nat → Hp → Option (Hp × Int32)
  | 0, _ => none
  | n + 1, σ =>
    if (gI σ 51 14) = 0 then (bd1 (f_X12_isName σ 495874894192) fun r1 => if r1 = 0 then (if (gI σ 51 11) = 0 then (f_X12_ground_100 σ 1) else (f_X12_ground_100 σ 0)) else (bd1 (f_X12_readStrip σ) fun s1 => f_X12_ground_63 n s1)) else (if (gI σ 51 11) = 0 then (f_X12_ground_100 σ 1) else (f_X12_ground_100 σ 0))
def f_X12_ground_39     : Nat → Hp → Option (Hp × Int32)
  | 0, _ => none
  | n + 1, σ =>
    if (gI σ 51 14) = 0 then (bd1 (f_X12_isName σ 1886350948) fun r1 => if r1 = 0 then (f_X12_ground_63 fu σ) else (bd1 (f_X12_readPond σ) fun s1 => f_X12_ground_39 n s1)) else (f_X12_ground_63 fu σ)
def f_X12_ground_2     : Nat → Hp → Int32 → Option (Hp × Int32)
  | 0, _, _ => none
  | n + 1, σ, x1 =>
    if 78 ≤ x1 then (bd1 (f_X12_next (sI (sI σ 51 9 0) 51 14 0)) fun s1 => bd1 (f_X12_readFence s1) fun s2 => f_X12_ground_39 fu s2) else (chk (inb x1 78) <| f_X12_ground_2 n (sI σ 59 (x1.toNatClampNeg) 0) (x1 + 1))
def f_X12_ground (σ : Hp)  : Option (Hp × Int32) :=
  f_X12_ground_2 fu σ 0
set_option maxRecDepth 100000 in
set_option maxHeartbeats 4000000 in
theorem w_X12_ground_136 {G : GT} {p : Program} {l : Launch} {e : Env} {s : State} {m : MethodId} {args : Array Value} {below : List Frame} {meth : Method} {c : Code}  {σ' : Hp} {r : Int32}     (C0 : Cx G cX12_ground RX12 wsX12_ground 3 (some .int) p s m args meth c)  :
    ∀ (n : Nat) (σ : Hp) (x2 : Int32), f_X12_ground_136 n σ x2 = some (σ', r) → ∀ (H : Heap) (locs : List Loc), Inv G s σ H locs → ∀ ls : Array Slot, lv_has ls 3 [(0, .ref (G.1 + 51)), (2, .int x2)] → W p l e (rmk 5 110) s m args below meth c H locs 0 0 (MQ below (QI G σ' r) args s (rmk 5 110).cells (rmk 5 110).slots (gA G)) (F0 m 136 ls []) := by
  obtain ⟨hx, hb, hr, hml, hown, hts, hlk, hK, hG⟩ := id C0
  intro n
  induction n with
  | zero =>
    intro σ x2 hf
    cases hf
  | succ n ih =>
    intro σ x2 hf H locs hI ls hl
    rw [f_X12_ground_136] at hf
    refine lv_iload_n hx hb dX12_ground_136 rfl (lv_at hl 1 rfl) ?_
    refine lv_bipush (v := 78) hx hb dX12_ground_137 (by decide) ?_
    refine lv_icmp_ge (tgt := 160) hx hb dX12_ground_139 (by decide) (fun c1 => ?_) (fun c1 => ?_)
    · have hf := ok_t c1 hf
      refine lv_aload_n hx hb dX12_ground_160 rfl (lv_at hl 0 rfl) ?_
      refine z_get (C := RX12) (T := TX12) (N := 26) (ci := 11) (v := .ref (G.1 + 52)) hx hb hts i_X12_ground_11 hown hK hI 51 rfl (by decide) rfl 0 (by decide) (hts (.fieldLink RX12 7 "FenceYardsModel" "st" "[I") (by decide +kernel)) (fun _ h9 => h9) rfl dX12_ground_161 ?_
      refine lv_iconst (v := 0) hx hb dX12_ground_164 (by decide) ?_
      refine lv_iconst (v := 1) hx hb dX12_ground_165 (by decide) ?_
      refine z_iast hx hb hK hI 52 (k := 0) rfl (by decide) (by decide) dX12_ground_166 (fun H locs hI => ?_)
      refine lv_aload_n hx hb dX12_ground_167 rfl (lv_at hl 0 rfl) ?_
      refine z_get (C := RX12) (T := TX12) (N := 26) (ci := 11) (v := .ref (G.1 + 52)) hx hb hts i_X12_ground_11 hown hK hI 51 rfl (by decide) rfl 0 (by decide) (hts (.fieldLink RX12 7 "FenceYardsModel" "st" "[I") (by decide +kernel)) (fun _ h9 => h9) rfl dX12_ground_168 ?_
      refine lv_iconst (v := 4) hx hb dX12_ground_171 (by decide) ?_
      refine z_iald hx hb hK hI 52 (k := 4) rfl (by decide) (by decide) dX12_ground_172 ?_
      cases hf
      exact z_iret hx hb hr hlk hK hG hI dX12_ground_173
    · have hf := ok_f c1 hf
      refine lv_aload_n hx hb dX12_ground_142 rfl (lv_at hl 0 rfl) ?_
      refine z_get (C := RX12) (T := TX12) (N := 26) (ci := 11) (v := .ref (G.1 + 52)) hx hb hts i_X12_ground_11 hown hK hI 51 rfl (by decide) rfl 0 (by decide) (hts (.fieldLink RX12 7 "FenceYardsModel" "st" "[I") (by decide +kernel)) (fun _ h9 => h9) rfl dX12_ground_143 ?_
      refine lv_iload_n hx hb dX12_ground_146 rfl (lv_at hl 1 rfl) ?_
      refine lv_aload_n hx hb dX12_ground_147 rfl (lv_at hl 0 rfl) ?_
      refine z_get (C := RX12) (T := TX12) (N := 26) (ci := 11) (v := .ref (G.1 + 59)) hx hb hts i_X12_ground_11 hown hK hI 51 rfl (by decide) rfl 16 (by decide) (hts (.fieldLink RX12 32 "FenceYardsModel" "read" "[I") (by decide +kernel)) (fun _ h9 => h9) rfl dX12_ground_148 ?_
      refine lv_iload_n hx hb dX12_ground_151 rfl (lv_at hl 1 rfl) ?_
      obtain ⟨h1, hf⟩ := ok_c hf
      refine z_iald hx hb hK hI 59 (k := x2.toNatClampNeg) rfl h1 rfl dX12_ground_152 ?_
      obtain ⟨h2, hf⟩ := ok_c hf
      refine z_iast hx hb hK hI 52 (k := x2.toNatClampNeg) rfl h2 rfl dX12_ground_153 (fun H locs hI => ?_)
      refine lv_iinc (v := x2 + 1) (lv' := [(2, .int (x2 + 1)), (0, .ref (G.1 + 51))]) hx hb dX12_ground_154 hl (k := 1) rfl rfl (by decide) rfl (fun ls hl => ?_)
      refine lv_goto (tgt := 136) hx hb dX12_ground_157 (by decide) ?_
      exact ih _ _ hf _ _ hI _ (lv_sub hl [1, 0] rfl)

set_option maxRecDepth 100000 in
set_option maxHeartbeats 4000000 in
theorem w_X12_ground_100 {G : GT} {p : Program} {l : Launch} {e : Env} {s : State} {m : MethodId} {args : Array Value} {below : List Frame} {meth : Method} {c : Code}  {σ' : Hp} {r : Int32}  {σ : Hp} {tx0 : Int32}  (C0 : Cx G cX12_ground RX12 wsX12_ground 3 (some .int) p s m args meth c)  (hf : f_X12_ground_100 σ tx0 = some (σ', r)) {H : Heap} {locs : List Loc} (hI : Inv G s σ H locs) {ls : Array Slot} (hl : lv_has ls 3 [(0, .ref (G.1 + 51))]) : W p l e (rmk 5 110) s m args below meth c H locs 0 0 (MQ below (QI G σ' r) args s (rmk 5 110).cells (rmk 5 110).slots (gA G)) (F0 m 100 ls [.int tx0, .ref (G.1 + 51)]) := by
  obtain ⟨hx, hb, hr, hml, hown, hts, hlk, hK, hG⟩ := id C0
  unfold f_X12_ground_100 at hf
  refine lv_iconst (v := 1) hx hb dX12_ground_100 (by decide) ?_
  obtain ⟨s1, hc1, hf⟩ := ok_1 hf
  refine z_callv0 rfl rfl hI (va_runV (As := [.int tx0, .int 1]) (rest := []) ⟨hx, hb, hml, hown, hts⟩ (m_X12_must G l  hc1) (cwV 2 hts gX12_ground_X12_must rfl rfl rfl (by decide +kernel) ⟨Nat.le_of_ble_eq_true rfl, Nat.le_of_ble_eq_true rfl⟩) (z_preV hK hG hI (z_rc (q := 51) (ci := 11) (n := 0) hK hI rfl (by decide) rfl)) rfl rfl hl.1 rfl (lv_room (Nat.le_of_ble_eq_true rfl)) dX12_ground_101 ⟨Nat.zero_le _, Nat.zero_le _⟩) (fun H locs hI => ?_)
  refine lv_aload_n hx hb dX12_ground_104 rfl (lv_at hl 0 rfl) ?_
  refine z_get (C := RX12) (T := TX12) (N := 26) (ci := 11) (v := .int (gI s1 51 10)) hx hb hts i_X12_ground_11 hown hK hI 51 rfl (by decide) rfl 10 (by decide) (hts (.fieldLink RX12 94 "FenceYardsModel" "start" "I") (by decide +kernel)) (fun _ h9 => h9) rfl dX12_ground_105 ?_
  refine lv_topi (fun v1 ev1 => ?_)
  have hf := ok_n hf ev1
  refine lv_istore_n (lv' := [(1, .int v1), (0, .ref (G.1 + 51))]) hx hb dX12_ground_108 rfl hl (by decide) rfl (fun ls hl => ?_)
  refine lv_aload_n hx hb dX12_ground_109 rfl (lv_at hl 1 rfl) ?_
  refine lv_iconst (v := 0) hx hb dX12_ground_110 (by decide) ?_
  refine z_put (C := RX12) (T := TX12) (N := 26) (ci := 11) (ty := .int) (v := .int 0) hx hb hts i_X12_ground_11 tyX12 tyX12_ok nmX12 hown hK hI 51 rfl (by decide) rfl 8 (by decide) (hts (.fieldLink RX12 82 "FenceYardsModel" "taped" "I") (by decide +kernel)) (fun _ h9 => h9) rfl (by decide +kernel) rfl rfl (Nat.le_of_ble_eq_true rfl) (set_I hI.2.2.2 rfl (by decide) rfl) rfl hI.2.2.2 dX12_ground_111 (fun H locs hI => ?_)
  refine lv_aload_n hx hb dX12_ground_114 rfl (lv_at hl 1 rfl) ?_
  refine z_get (C := RX12) (T := TX12) (N := 26) (ci := 11) (v := .int (gI (sI s1 51 8 0) 51 14)) hx hb hts i_X12_ground_11 hown hK hI 51 rfl (by decide) rfl 14 (by decide) (hts (.fieldLink RX12 107 "FenceYardsModel" "fault" "I") (by decide +kernel)) (fun _ h9 => h9) rfl dX12_ground_115 ?_
  refine lv_if_le (tgt := 134) hx hb dX12_ground_118 (by decide) (fun c1 => ?_) (fun c1 => ?_)
  · have hf := ok_t c1 hf
    refine lv_iconst (v := 0) hx hb dX12_ground_134 (by decide) ?_
    refine lv_istore_n (lv' := [(2, .int 0), (1, .int v1), (0, .ref (G.1 + 51))]) hx hb dX12_ground_135 rfl hl (by decide) rfl (fun ls hl => ?_)
    exact w_X12_ground_136  C0  _ _ _ hf _ _ hI _ (lv_sub hl [2, 0] rfl)
  · have hf := ok_f c1 hf
    refine lv_aload_n hx hb dX12_ground_121 rfl (lv_at hl 1 rfl) ?_
    refine lv_aload_n hx hb dX12_ground_122 rfl (lv_at hl 1 rfl) ?_
    refine z_get (C := RX12) (T := TX12) (N := 26) (ci := 11) (v := .int (gI (sI s1 51 8 0) 51 14)) hx hb hts i_X12_ground_11 hown hK hI 51 rfl (by decide) rfl 14 (by decide) (hts (.fieldLink RX12 107 "FenceYardsModel" "fault" "I") (by decide +kernel)) (fun _ h9 => h9) rfl dX12_ground_123 ?_
    refine z_put (C := RX12) (T := TX12) (N := 26) (ci := 11) (ty := .int) (v := .int (gI (sI s1 51 8 0) 51 14)) hx hb hts i_X12_ground_11 tyX12 tyX12_ok nmX12 hown hK hI 51 rfl (by decide) rfl 15 (by decide) (hts (.fieldLink RX12 160 "FenceYardsModel" "latestFault" "I") (by decide +kernel)) (fun _ h9 => h9) rfl (by decide +kernel) rfl rfl (Nat.le_of_ble_eq_true rfl) (set_I hI.2.2.2 rfl (by decide) rfl) rfl hI.2.2.2 dX12_ground_126 (fun H locs hI => ?_)
    refine lv_ldc (v := (-1000100)) hx hb hown (hts (.constant RX12 163 (-1000100)) (by decide +kernel)) dX12_ground_129 ?_
    refine lv_iload_n hx hb dX12_ground_131 rfl (lv_at hl 0 rfl) ?_
    refine lv_isub hx hb dX12_ground_132 ?_
    cases hf
    exact z_iret hx hb hr hlk hK hG hI dX12_ground_133

set_option maxRecDepth 100000 in
set_option maxHeartbeats 4000000 in
theorem w_X12_ground_63 {G : GT} {p : Program} {l : Launch} {e : Env} {s : State} {m : MethodId} {args : Array Value} {below : List Frame} {meth : Method} {c : Code}  {σ' : Hp} {r : Int32}     (C0 : Cx G cX12_ground RX12 wsX12_ground 3 (some .int) p s m args meth c)  :
    ∀ (n : Nat) (σ : Hp), f_X12_ground_63 n σ = some (σ', r) → ∀ (H : Heap) (locs : List Loc), Inv G s σ H locs → ∀ ls : Array Slot, lv_has ls 3 [(0, .ref (G.1 + 51))] → W p l e (rmk 5 110) s m args below meth c H locs 0 0 (MQ below (QI G σ' r) args s (rmk 5 110).cells (rmk 5 110).slots (gA G)) (F0 m 63 ls []) := by
  obtain ⟨hx, hb, hr, hml, hown, hts, hlk, hK, hG⟩ := id C0
  intro n
  induction n with
  | zero =>
    intro σ hf
    cases hf
  | succ n ih =>
    intro σ hf H locs hI ls hl
    rw [f_X12_ground_63] at hf
    refine lv_aload_n hx hb dX12_ground_63 rfl (lv_at hl 0 rfl) ?_
    refine z_get (C := RX12) (T := TX12) (N := 26) (ci := 11) (v := .int (gI σ 51 14)) hx hb hts i_X12_ground_11 hown hK hI 51 rfl (by decide) rfl 14 (by decide) (hts (.fieldLink RX12 107 "FenceYardsModel" "fault" "I") (by decide +kernel)) (fun _ h9 => h9) rfl dX12_ground_64 ?_
    refine lv_if_ne (tgt := 87) hx hb dX12_ground_67 (by decide) (fun c1 => ?_) (fun c1 => ?_)
    · have hf := ok_f c1 hf
      refine lv_aload_n hx hb dX12_ground_87 rfl (lv_at hl 0 rfl) ?_
      refine lv_aload_n hx hb dX12_ground_88 rfl (lv_at hl 0 rfl) ?_
      refine z_get (C := RX12) (T := TX12) (N := 26) (ci := 11) (v := .int (gI σ 51 11)) hx hb hts i_X12_ground_11 hown hK hI 51 rfl (by decide) rfl 11 (by decide) (hts (.fieldLink RX12 97 "FenceYardsModel" "token" "I") (by decide +kernel)) (fun _ h9 => h9) rfl dX12_ground_89 ?_
      refine lv_if_ne (tgt := 99) hx hb dX12_ground_92 (by decide) (fun c2 => ?_) (fun c2 => ?_)
      · have hf := ok_f c2 hf
        refine lv_iconst (v := 0) hx hb dX12_ground_99 (by decide) ?_
        exact w_X12_ground_100  C0  hf hI (lv_sub hl [0] rfl)
      · have hf := ok_t c2 hf
        refine lv_iconst (v := 1) hx hb dX12_ground_95 (by decide) ?_
        refine lv_goto (tgt := 100) hx hb dX12_ground_96 (by decide) ?_
        exact w_X12_ground_100  C0  hf hI (lv_sub hl [0] rfl)
    · have hf := ok_t c1 hf
      refine lv_aload_n hx hb dX12_ground_70 rfl (lv_at hl 0 rfl) ?_
      refine lv_ldc2 (v := 495874894192) hx hb hown (hts (.constantLong RX12 155 495874894192) (by decide +kernel)) dX12_ground_71 ?_
      obtain ⟨r1, hc1, hf⟩ := ok_1 hf
      refine z_calli0 rfl rfl hI (va_runV (As := [.long 495874894192]) (rest := []) ⟨hx, hb, hml, hown, hts⟩ (m_X12_isName G l  hc1) (cwV 1 hts gX12_ground_X12_isName rfl rfl rfl (by decide +kernel) ⟨Nat.le_of_ble_eq_true rfl, Nat.le_of_ble_eq_true rfl⟩) (z_preV hK hG hI (z_rc (q := 51) (ci := 11) (n := 0) hK hI rfl (by decide) rfl)) rfl rfl hl.1 rfl (lv_room (Nat.le_of_ble_eq_true rfl)) dX12_ground_74 ⟨Nat.zero_le _, Nat.zero_le _⟩) (fun H locs hI => ?_)
      refine lv_if_eq (tgt := 87) hx hb dX12_ground_77 (by decide) (fun c3 => ?_) (fun c3 => ?_)
      · have hf := ok_t c3 hf
        refine lv_aload_n hx hb dX12_ground_87 rfl (lv_at hl 0 rfl) ?_
        refine lv_aload_n hx hb dX12_ground_88 rfl (lv_at hl 0 rfl) ?_
        refine z_get (C := RX12) (T := TX12) (N := 26) (ci := 11) (v := .int (gI σ 51 11)) hx hb hts i_X12_ground_11 hown hK hI 51 rfl (by decide) rfl 11 (by decide) (hts (.fieldLink RX12 97 "FenceYardsModel" "token" "I") (by decide +kernel)) (fun _ h9 => h9) rfl dX12_ground_89 ?_
        refine lv_if_ne (tgt := 99) hx hb dX12_ground_92 (by decide) (fun c4 => ?_) (fun c4 => ?_)
        · have hf := ok_f c4 hf
          refine lv_iconst (v := 0) hx hb dX12_ground_99 (by decide) ?_
          exact w_X12_ground_100  C0  hf hI (lv_sub hl [0] rfl)
        · have hf := ok_t c4 hf
          refine lv_iconst (v := 1) hx hb dX12_ground_95 (by decide) ?_
          refine lv_goto (tgt := 100) hx hb dX12_ground_96 (by decide) ?_
          exact w_X12_ground_100  C0  hf hI (lv_sub hl [0] rfl)
      · have hf := ok_f c3 hf
        refine lv_aload_n hx hb dX12_ground_80 rfl (lv_at hl 0 rfl) ?_
        obtain ⟨s1, hc2, hf⟩ := ok_1 hf
        refine z_callv0 rfl rfl hI (va_runV (As := []) (rest := []) ⟨hx, hb, hml, hown, hts⟩ (m_X12_readStrip G l  hc2) (cwV 0 hts gX12_ground_X12_readStrip rfl rfl rfl (by decide +kernel) ⟨Nat.le_of_ble_eq_true rfl, Nat.le_of_ble_eq_true rfl⟩) (z_preV hK hG hI (z_rc (q := 51) (ci := 11) (n := 0) hK hI rfl (by decide) rfl)) rfl rfl hl.1 rfl (lv_room (Nat.le_of_ble_eq_true rfl)) dX12_ground_81 ⟨Nat.zero_le _, Nat.zero_le _⟩) (fun H locs hI => ?_)
        refine lv_goto (tgt := 63) hx hb dX12_ground_84 (by decide) ?_
        exact ih _ hf _ _ hI _ (lv_sub hl [0] rfl)

set_option maxRecDepth 100000 in
set_option maxHeartbeats 4000000 in
theorem w_X12_ground_39 {G : GT} {p : Program} {l : Launch} {e : Env} {s : State} {m : MethodId} {args : Array Value} {below : List Frame} {meth : Method} {c : Code}  {σ' : Hp} {r : Int32}     (C0 : Cx G cX12_ground RX12 wsX12_ground 3 (some .int) p s m args meth c)  :
    ∀ (n : Nat) (σ : Hp), f_X12_ground_39 n σ = some (σ', r) → ∀ (H : Heap) (locs : List Loc), Inv G s σ H locs → ∀ ls : Array Slot, lv_has ls 3 [(0, .ref (G.1 + 51))] → W p l e (rmk 5 110) s m args below meth c H locs 0 0 (MQ below (QI G σ' r) args s (rmk 5 110).cells (rmk 5 110).slots (gA G)) (F0 m 39 ls []) := by
  obtain ⟨hx, hb, hr, hml, hown, hts, hlk, hK, hG⟩ := id C0
  intro n
  induction n with
  | zero =>
    intro σ hf
    cases hf
  | succ n ih =>
    intro σ hf H locs hI ls hl
    rw [f_X12_ground_39] at hf
    refine lv_aload_n hx hb dX12_ground_39 rfl (lv_at hl 0 rfl) ?_
    refine z_get (C := RX12) (T := TX12) (N := 26) (ci := 11) (v := .int (gI σ 51 14)) hx hb hts i_X12_ground_11 hown hK hI 51 rfl (by decide) rfl 14 (by decide) (hts (.fieldLink RX12 107 "FenceYardsModel" "fault" "I") (by decide +kernel)) (fun _ h9 => h9) rfl dX12_ground_40 ?_
    refine lv_if_ne (tgt := 63) hx hb dX12_ground_43 (by decide) (fun c1 => ?_) (fun c1 => ?_)
    · have hf := ok_f c1 hf
      exact w_X12_ground_63  C0  _ _ hf _ _ hI _ (lv_sub hl [0] rfl)
    · have hf := ok_t c1 hf
      refine lv_aload_n hx hb dX12_ground_46 rfl (lv_at hl 0 rfl) ?_
      refine lv_ldc2 (v := 1886350948) hx hb hown (hts (.constantLong RX12 150 1886350948) (by decide +kernel)) dX12_ground_47 ?_
      obtain ⟨r1, hc1, hf⟩ := ok_1 hf
      refine z_calli0 rfl rfl hI (va_runV (As := [.long 1886350948]) (rest := []) ⟨hx, hb, hml, hown, hts⟩ (m_X12_isName G l  hc1) (cwV 1 hts gX12_ground_X12_isName rfl rfl rfl (by decide +kernel) ⟨Nat.le_of_ble_eq_true rfl, Nat.le_of_ble_eq_true rfl⟩) (z_preV hK hG hI (z_rc (q := 51) (ci := 11) (n := 0) hK hI rfl (by decide) rfl)) rfl rfl hl.1 rfl (lv_room (Nat.le_of_ble_eq_true rfl)) dX12_ground_50 ⟨Nat.zero_le _, Nat.zero_le _⟩) (fun H locs hI => ?_)
      refine lv_if_eq (tgt := 63) hx hb dX12_ground_53 (by decide) (fun c2 => ?_) (fun c2 => ?_)
      · have hf := ok_t c2 hf
        exact w_X12_ground_63  C0  _ _ hf _ _ hI _ (lv_sub hl [0] rfl)
      · have hf := ok_f c2 hf
        refine lv_aload_n hx hb dX12_ground_56 rfl (lv_at hl 0 rfl) ?_
        obtain ⟨s1, hc2, hf⟩ := ok_1 hf
        refine z_callv0 rfl rfl hI (va_runV (As := []) (rest := []) ⟨hx, hb, hml, hown, hts⟩ (m_X12_readPond G l  hc2) (cwV 0 hts gX12_ground_X12_readPond rfl rfl rfl (by decide +kernel) ⟨Nat.le_of_ble_eq_true rfl, Nat.le_of_ble_eq_true rfl⟩) (z_preV hK hG hI (z_rc (q := 51) (ci := 11) (n := 0) hK hI rfl (by decide) rfl)) rfl rfl hl.1 rfl (lv_room (Nat.le_of_ble_eq_true rfl)) dX12_ground_57 ⟨Nat.zero_le _, Nat.zero_le _⟩) (fun H locs hI => ?_)
        refine lv_goto (tgt := 39) hx hb dX12_ground_60 (by decide) ?_
        exact ih _ hf _ _ hI _ (lv_sub hl [0] rfl)

set_option maxRecDepth 100000 in
set_option maxHeartbeats 4000000 in
theorem w_X12_ground_2 {G : GT} {p : Program} {l : Launch} {e : Env} {s : State} {m : MethodId} {args : Array Value} {below : List Frame} {meth : Method} {c : Code}  {σ' : Hp} {r : Int32}     (C0 : Cx G cX12_ground RX12 wsX12_ground 3 (some .int) p s m args meth c)  :
    ∀ (n : Nat) (σ : Hp) (x1 : Int32), f_X12_ground_2 n σ x1 = some (σ', r) → ∀ (H : Heap) (locs : List Loc), Inv G s σ H locs → ∀ ls : Array Slot, lv_has ls 3 [(0, .ref (G.1 + 51)), (1, .int x1)] → W p l e (rmk 5 110) s m args below meth c H locs 0 0 (MQ below (QI G σ' r) args s (rmk 5 110).cells (rmk 5 110).slots (gA G)) (F0 m 2 ls []) := by
  obtain ⟨hx, hb, hr, hml, hown, hts, hlk, hK, hG⟩ := id C0
  intro n
  induction n with
  | zero =>
    intro σ x1 hf
    cases hf
  | succ n ih =>
    intro σ x1 hf H locs hI ls hl
    rw [f_X12_ground_2] at hf
    refine lv_iload_n hx hb dX12_ground_2 rfl (lv_at hl 1 rfl) ?_
    refine lv_bipush (v := 78) hx hb dX12_ground_3 (by decide) ?_
    refine lv_icmp_ge (tgt := 21) hx hb dX12_ground_5 (by decide) (fun c1 => ?_) (fun c1 => ?_)
    · have hf := ok_t c1 hf
      refine lv_aload_n hx hb dX12_ground_21 rfl (lv_at hl 0 rfl) ?_
      refine lv_iconst (v := 0) hx hb dX12_ground_22 (by decide) ?_
      refine z_put (C := RX12) (T := TX12) (N := 26) (ci := 11) (ty := .int) (v := .int 0) hx hb hts i_X12_ground_11 tyX12 tyX12_ok nmX12 hown hK hI 51 rfl (by decide) rfl 9 (by decide) (hts (.fieldLink RX12 88 "FenceYardsModel" "cursor" "I") (by decide +kernel)) (fun _ h9 => h9) rfl (by decide +kernel) rfl rfl (Nat.le_of_ble_eq_true rfl) (set_I hI.2.2.2 rfl (by decide) rfl) rfl hI.2.2.2 dX12_ground_23 (fun H locs hI => ?_)
      refine lv_aload_n hx hb dX12_ground_26 rfl (lv_at hl 0 rfl) ?_
      refine lv_iconst (v := 0) hx hb dX12_ground_27 (by decide) ?_
      refine z_put (C := RX12) (T := TX12) (N := 26) (ci := 11) (ty := .int) (v := .int 0) hx hb hts i_X12_ground_11 tyX12 tyX12_ok nmX12 hown hK hI 51 rfl (by decide) rfl 14 (by decide) (hts (.fieldLink RX12 107 "FenceYardsModel" "fault" "I") (by decide +kernel)) (fun _ h9 => h9) rfl (by decide +kernel) rfl rfl (Nat.le_of_ble_eq_true rfl) (set_I hI.2.2.2 rfl (by decide) rfl) rfl hI.2.2.2 dX12_ground_28 (fun H locs hI => ?_)
      refine lv_aload_n hx hb dX12_ground_31 rfl (lv_at hl 0 rfl) ?_
      obtain ⟨s1, hc1, hf⟩ := ok_1 hf
      refine z_callv0 rfl rfl hI (va_runV (As := []) (rest := []) ⟨hx, hb, hml, hown, hts⟩ (m_X12_next G l  hc1) (cwV 0 hts gX12_ground_X12_next rfl rfl rfl (by decide +kernel) ⟨Nat.le_of_ble_eq_true rfl, Nat.le_of_ble_eq_true rfl⟩) (z_preV hK hG hI (z_rc (q := 51) (ci := 11) (n := 0) hK hI rfl (by decide) rfl)) rfl rfl hl.1 rfl (lv_room (Nat.le_of_ble_eq_true rfl)) dX12_ground_32 ⟨Nat.zero_le _, Nat.zero_le _⟩) (fun H locs hI => ?_)
      refine lv_aload_n hx hb dX12_ground_35 rfl (lv_at hl 0 rfl) ?_
      obtain ⟨s2, hc2, hf⟩ := ok_1 hf
      refine z_callv0 rfl rfl hI (va_runV (As := []) (rest := []) ⟨hx, hb, hml, hown, hts⟩ (m_X12_readFence G l  hc2) (cwV 0 hts gX12_ground_X12_readFence rfl rfl rfl (by decide +kernel) ⟨Nat.le_of_ble_eq_true rfl, Nat.le_of_ble_eq_true rfl⟩) (z_preV hK hG hI (z_rc (q := 51) (ci := 11) (n := 0) hK hI rfl (by decide) rfl)) rfl rfl hl.1 rfl (lv_room (Nat.le_of_ble_eq_true rfl)) dX12_ground_36 ⟨Nat.zero_le _, Nat.zero_le _⟩) (fun H locs hI => ?_)
      exact w_X12_ground_39  C0  _ _ hf _ _ hI _ (lv_sub hl [0] rfl)
    · have hf := ok_f c1 hf
      refine lv_aload_n hx hb dX12_ground_8 rfl (lv_at hl 0 rfl) ?_
      refine z_get (C := RX12) (T := TX12) (N := 26) (ci := 11) (v := .ref (G.1 + 59)) hx hb hts i_X12_ground_11 hown hK hI 51 rfl (by decide) rfl 16 (by decide) (hts (.fieldLink RX12 32 "FenceYardsModel" "read" "[I") (by decide +kernel)) (fun _ h9 => h9) rfl dX12_ground_9 ?_
      refine lv_iload_n hx hb dX12_ground_12 rfl (lv_at hl 1 rfl) ?_
      refine lv_iconst (v := 0) hx hb dX12_ground_13 (by decide) ?_
      obtain ⟨h1, hf⟩ := ok_c hf
      refine z_iast hx hb hK hI 59 (k := x1.toNatClampNeg) rfl h1 rfl dX12_ground_14 (fun H locs hI => ?_)
      refine lv_iinc (v := x1 + 1) (lv' := [(1, .int (x1 + 1)), (0, .ref (G.1 + 51))]) hx hb dX12_ground_15 hl (k := 1) rfl rfl (by decide) rfl (fun ls hl => ?_)
      refine lv_goto (tgt := 2) hx hb dX12_ground_18 (by decide) ?_
      exact ih _ _ hf _ _ hI _ (lv_sub hl [1, 0] rfl)

set_option maxRecDepth 100000 in
set_option maxHeartbeats 4000000 in
theorem m_X12_ground (G : GT) (l : Launch) {σ : Hp}  {σ' : Hp} {r : Int32}  (hf : f_X12_ground σ = some (σ', r)) : MetG G l yX12_ground wsX12_ground (rmk 5 110) σ [.ref (G.1 + 51)] (QI G σ' r) := by
  refine met_of (cc := cX12_ground) (nL := 3) (ret := (some .int)) (by decide) rfl (Nat.le_of_ble_eq_true rfl) ?_
  intro p e s m below meth c C0 hnm hI ls hl
  obtain ⟨hx, hb, hr, hml, hown, hts, hlk, hK, hG⟩ := id C0
  have hl : lv_has ls 3 [(0, .ref (G.1 + 51))] := hl
  unfold f_X12_ground at hf
  refine lv_iconst (v := 0) hx hb dX12_ground_0 (by decide) ?_
  refine lv_istore_n (lv' := [(1, .int 0), (0, .ref (G.1 + 51))]) hx hb dX12_ground_1 rfl hl (by decide) rfl (fun ls hl => ?_)
  exact w_X12_ground_2  C0  _ _ _ hf _ _ hI _ (lv_sub hl [1, 0] rfl)

-- ===== FenceYardsModel.fault()I
set_option maxRecDepth 100000 in
theorem i_X12_fault_11 : ∀ w ∈ u_ws RX12 TX12 26, w ∈ wsX12_fault := by decide +kernel
def f_X12_fault (σ : Hp)  : Option (Int32) :=
  some (gI σ 51 15)
set_option maxRecDepth 100000 in
set_option maxHeartbeats 4000000 in
theorem m_X12_fault (G : GT) (l : Launch) {σ : Hp}  {r : Int32}  (hf : f_X12_fault σ = some r) : MetG G l yX12_fault wsX12_fault (rmk 0 0) σ [.ref (G.1 + 51)] (QI G σ r) := by
  refine met_of (cc := cX12_fault) (nL := 1) (ret := (some .int)) (by decide) rfl (Nat.le_of_ble_eq_true rfl) ?_
  intro p e s m below meth c C0 hnm hI ls hl
  obtain ⟨hx, hb, hr, hml, hown, hts, hlk, hK, hG⟩ := id C0
  have hl : lv_has ls 1 [(0, .ref (G.1 + 51))] := hl
  unfold f_X12_fault at hf
  refine lv_aload_n hx hb dX12_fault_0 rfl (lv_at hl 0 rfl) ?_
  refine z_get (C := RX12) (T := TX12) (N := 26) (ci := 11) (v := .int (gI σ 51 15)) hx hb hts i_X12_fault_11 hown hK hI 51 rfl (by decide) rfl 15 (by decide) (hts (.fieldLink RX12 160 "FenceYardsModel" "latestFault" "I") (by decide +kernel)) (fun _ h9 => h9) rfl dX12_fault_1 ?_
  cases hf
  exact z_iret hx hb hr hlk hK hG hI dX12_fault_4

-- ===== FenceYardsModel.isGround()Z
set_option maxRecDepth 100000 in
theorem i_X12_isGround_11 : ∀ w ∈ u_ws RX12 TX12 26, w ∈ wsX12_isGround := by decide +kernel
def f_X12_isGround (σ : Hp)  : Option (Int32) :=
  if (gI σ 52 0) = 1 then (some 1) else (some 0)
set_option maxRecDepth 100000 in
set_option maxHeartbeats 4000000 in
theorem m_X12_isGround (G : GT) (l : Launch) {σ : Hp}  {r : Int32}  (hf : f_X12_isGround σ = some r) : MetG G l yX12_isGround wsX12_isGround (rmk 0 0) σ [.ref (G.1 + 51)] (QI G σ r) := by
  refine met_of (cc := cX12_isGround) (nL := 1) (ret := (some .boolean)) (by decide) rfl (Nat.le_of_ble_eq_true rfl) ?_
  intro p e s m below meth c C0 hnm hI ls hl
  obtain ⟨hx, hb, hr, hml, hown, hts, hlk, hK, hG⟩ := id C0
  have hl : lv_has ls 1 [(0, .ref (G.1 + 51))] := hl
  unfold f_X12_isGround at hf
  refine lv_aload_n hx hb dX12_isGround_0 rfl (lv_at hl 0 rfl) ?_
  refine z_get (C := RX12) (T := TX12) (N := 26) (ci := 11) (v := .ref (G.1 + 52)) hx hb hts i_X12_isGround_11 hown hK hI 51 rfl (by decide) rfl 0 (by decide) (hts (.fieldLink RX12 7 "FenceYardsModel" "st" "[I") (by decide +kernel)) (fun _ h9 => h9) rfl dX12_isGround_1 ?_
  refine lv_iconst (v := 0) hx hb dX12_isGround_4 (by decide) ?_
  refine z_iald hx hb hK hI 52 (k := 0) rfl (by decide) (by decide) dX12_isGround_5 ?_
  refine lv_iconst (v := 1) hx hb dX12_isGround_6 (by decide) ?_
  refine lv_icmp_ne (tgt := 14) hx hb dX12_isGround_7 (by decide) (fun c1 => ?_) (fun c1 => ?_)
  · have hf := ok_f c1 hf
    refine lv_iconst (v := 0) hx hb dX12_isGround_14 (by decide) ?_
    cases hf
    exact z_zret hx hb hr hlk hK hG hI (Or.inl rfl) dX12_isGround_15
  · have hf := ok_t c1 hf
    refine lv_iconst (v := 1) hx hb dX12_isGround_10 (by decide) ?_
    refine lv_goto (tgt := 15) hx hb dX12_isGround_11 (by decide) ?_
    cases hf
    exact z_zret hx hb hr hlk hK hG hI (Or.inr rfl) dX12_isGround_15

-- ===== FenceYardsModel.isStrip(I)Z
set_option maxRecDepth 100000 in
theorem i_X12_isStrip_11 : ∀ w ∈ u_ws RX12 TX12 26, w ∈ wsX12_isStrip := by decide +kernel
def f_X12_isStrip (σ : Hp) (x1 : Int32) : Option (Int32) :=
  bd1 (f_X12_in σ x1 0 ((gI σ 52 4) - 1)) fun r1 => chk (r1 = 0 ∨ r1 = 1) <| some r1
set_option maxRecDepth 100000 in
set_option maxHeartbeats 4000000 in
theorem m_X12_isStrip (G : GT) (l : Launch) {σ : Hp} {x1 : Int32} {r : Int32}  (hf : f_X12_isStrip σ x1 = some r) : MetG G l yX12_isStrip wsX12_isStrip (rmk 1 22) σ [.ref (G.1 + 51), .int x1] (QI G σ r) := by
  refine met_of (cc := cX12_isStrip) (nL := 2) (ret := (some .boolean)) (by decide) rfl (Nat.le_of_ble_eq_true rfl) ?_
  intro p e s m below meth c C0 hnm hI ls hl
  obtain ⟨hx, hb, hr, hml, hown, hts, hlk, hK, hG⟩ := id C0
  have hl : lv_has ls 2 [(0, .ref (G.1 + 51)), (1, .int x1)] := hl
  unfold f_X12_isStrip at hf
  refine lv_iload_n hx hb dX12_isStrip_0 rfl (lv_at hl 1 rfl) ?_
  refine lv_iconst (v := 0) hx hb dX12_isStrip_1 (by decide) ?_
  refine lv_aload_n hx hb dX12_isStrip_2 rfl (lv_at hl 0 rfl) ?_
  refine z_get (C := RX12) (T := TX12) (N := 26) (ci := 11) (v := .ref (G.1 + 52)) hx hb hts i_X12_isStrip_11 hown hK hI 51 rfl (by decide) rfl 0 (by decide) (hts (.fieldLink RX12 7 "FenceYardsModel" "st" "[I") (by decide +kernel)) (fun _ h9 => h9) rfl dX12_isStrip_3 ?_
  refine lv_iconst (v := 4) hx hb dX12_isStrip_6 (by decide) ?_
  refine z_iald hx hb hK hI 52 (k := 4) rfl (by decide) (by decide) dX12_isStrip_7 ?_
  refine lv_iconst (v := 1) hx hb dX12_isStrip_8 (by decide) ?_
  refine lv_isub hx hb dX12_isStrip_9 ?_
  obtain ⟨r1, hc1, hf⟩ := ok_1 hf
  refine z_calli0 rfl rfl hI (va_runS (As := [.int x1, .int 0, .int ((gI σ 52 4) - 1)]) (rest := []) ⟨hx, hb, hml, hown, hts⟩ (m_X12_in G l  hc1) (va_cwS 3 hts gX12_isStrip_X12_in rfl rfl rfl (by decide +kernel) ⟨Nat.le_of_ble_eq_true rfl, Nat.le_of_ble_eq_true rfl⟩) (z_pre hK hG hI) rfl rfl hl.1 rfl (lv_room (Nat.le_of_ble_eq_true rfl)) dX12_isStrip_10 ⟨Nat.zero_le _, Nat.zero_le _⟩) (fun H locs hI => ?_)
  obtain ⟨h1, hf⟩ := ok_c hf
  cases hf
  exact z_zret hx hb hr hlk hK hG hI h1 dX12_isStrip_13

