-- ===== FenceYardsModel.game(II)I
set_option maxRecDepth 100000 in
theorem i_X12_game_11 : ∀ w ∈ u_ws RX12 TX12 26, w ∈ wsX12_game := by decide +kernel
def f_X12_game (σ : Hp) (x1 : Int32) (x2 : Int32) : Option (Hp × Int32) :=
  bd1 (f_X12_isGround σ) fun r1 => if r1 = 0 then (some (σ, (-1000002))) else (bd1 (f_X12_in σ x1 1 12) fun r2 => if r2 = 0 then (some (σ, (-1000001))) else (bd1 (f_X12_in σ x2 0 2) fun r3 => if r3 = 0 then (some (σ, (-1000001))) else (bd2 (f_X12_gameOf σ x1) fun s1 r4 => if x2 = 2 then (some (s1, gI s1 51 23)) else (bd1 (f_X12_told s1 r4 x2) fun r5 => some (s1, r5)))))
set_option maxRecDepth 100000 in
set_option maxHeartbeats 4000000 in
theorem m_X12_game (G : GT) (l : Launch) {σ : Hp} {x1 : Int32} {x2 : Int32} {σ' : Hp} {r : Int32}  (hf : f_X12_game σ x1 x2 = some (σ', r)) : MetG G l yX12_game wsX12_game (rmk 5 124) σ [.ref (G.1 + 51), .int x1, .int x2] (QI G σ' r) := by
  refine met_of (cc := cX12_game) (nL := 5) (ret := (some .int)) (by decide) rfl (Nat.le_of_ble_eq_true rfl) ?_
  intro p e s m below meth c C0 hnm hI ls hl
  obtain ⟨hx, hb, hr, hml, hown, hts, hlk, hK, hG⟩ := id C0
  have hl : lv_has ls 5 [(0, .ref (G.1 + 51)), (1, .int x1), (2, .int x2)] := hl
  unfold f_X12_game at hf
  refine lv_aload_n hx hb dX12_game_0 rfl (lv_at hl 0 rfl) ?_
  obtain ⟨r1, hc1, hf⟩ := ok_1 hf
  refine z_calli0 rfl rfl hI (va_runV (As := []) (rest := []) ⟨hx, hb, hml, hown, hts⟩ (m_X12_isGround G l  hc1) (cwV 0 hts gX12_game_X12_isGround rfl rfl rfl (by decide +kernel) ⟨Nat.le_of_ble_eq_true rfl, Nat.le_of_ble_eq_true rfl⟩) (z_preV hK hG hI (z_rc (q := 51) (ci := 11) (n := 0) hK hI rfl (by decide) rfl)) rfl rfl hl.1 rfl (lv_room (Nat.le_of_ble_eq_true rfl)) dX12_game_1 ⟨Nat.zero_le _, Nat.zero_le _⟩) (fun H locs hI => ?_)
  refine lv_if_ne (tgt := 10) hx hb dX12_game_4 (by decide) (fun c1 => ?_) (fun c1 => ?_)
  · have hf := ok_f c1 hf
    refine lv_iload_n hx hb dX12_game_10 rfl (lv_at hl 1 rfl) ?_
    refine lv_iconst (v := 1) hx hb dX12_game_11 (by decide) ?_
    refine lv_bipush (v := 12) hx hb dX12_game_12 (by decide) ?_
    obtain ⟨r2, hc2, hf⟩ := ok_1 hf
    refine z_calli0 rfl rfl hI (va_runS (As := [.int x1, .int 1, .int 12]) (rest := []) ⟨hx, hb, hml, hown, hts⟩ (m_X12_in G l  hc2) (va_cwS 3 hts gX12_game_X12_in rfl rfl rfl (by decide +kernel) ⟨Nat.le_of_ble_eq_true rfl, Nat.le_of_ble_eq_true rfl⟩) (z_pre hK hG hI) rfl rfl hl.1 rfl (lv_room (Nat.le_of_ble_eq_true rfl)) dX12_game_14 ⟨Nat.zero_le _, Nat.zero_le _⟩) (fun H locs hI => ?_)
    refine lv_if_eq (tgt := 29) hx hb dX12_game_17 (by decide) (fun c2 => ?_) (fun c2 => ?_)
    · have hf := ok_t c2 hf
      refine lv_ldc (v := (-1000001)) hx hb hown (hts (.constant RX12 71 (-1000001)) (by decide +kernel)) dX12_game_29 ?_
      cases hf
      exact z_iret hx hb hr hlk hK hG hI dX12_game_31
    · have hf := ok_f c2 hf
      refine lv_iload_n hx hb dX12_game_20 rfl (lv_at hl 2 rfl) ?_
      refine lv_iconst (v := 0) hx hb dX12_game_21 (by decide) ?_
      refine lv_iconst (v := 2) hx hb dX12_game_22 (by decide) ?_
      obtain ⟨r3, hc3, hf⟩ := ok_1 hf
      refine z_calli0 rfl rfl hI (va_runS (As := [.int x2, .int 0, .int 2]) (rest := []) ⟨hx, hb, hml, hown, hts⟩ (m_X12_in G l  hc3) (va_cwS 3 hts gX12_game_X12_in rfl rfl rfl (by decide +kernel) ⟨Nat.le_of_ble_eq_true rfl, Nat.le_of_ble_eq_true rfl⟩) (z_pre hK hG hI) rfl rfl hl.1 rfl (lv_room (Nat.le_of_ble_eq_true rfl)) dX12_game_23 ⟨Nat.zero_le _, Nat.zero_le _⟩) (fun H locs hI => ?_)
      refine lv_if_ne (tgt := 32) hx hb dX12_game_26 (by decide) (fun c3 => ?_) (fun c3 => ?_)
      · have hf := ok_f c3 hf
        refine lv_aload_n hx hb dX12_game_32 rfl (lv_at hl 0 rfl) ?_
        refine lv_iload_n hx hb dX12_game_33 rfl (lv_at hl 1 rfl) ?_
        obtain ⟨s1, r4, hc4, hf⟩ := ok_2 hf
        refine z_calll0 rfl rfl hI (va_runV (As := [.int x1]) (rest := []) ⟨hx, hb, hml, hown, hts⟩ (m_X12_gameOf G l  hc4) (cwV 1 hts gX12_game_X12_gameOf rfl rfl rfl (by decide +kernel) ⟨Nat.le_of_ble_eq_true rfl, Nat.le_of_ble_eq_true rfl⟩) (z_preV hK hG hI (z_rc (q := 51) (ci := 11) (n := 0) hK hI rfl (by decide) rfl)) rfl rfl hl.1 rfl (lv_room (Nat.le_of_ble_eq_true rfl)) dX12_game_34 ⟨Nat.zero_le _, Nat.zero_le _⟩) (fun H locs hI => ?_)
        refine lv_lstore_n (lv' := [(3, .long r4), (0, .ref (G.1 + 51)), (1, .int x1), (2, .int x2)]) hx hb dX12_game_37 rfl hl (by decide) rfl (fun ls hl => ?_)
        refine lv_iload_n hx hb dX12_game_38 rfl (lv_at hl 3 rfl) ?_
        refine lv_iconst (v := 2) hx hb dX12_game_39 (by decide) ?_
        refine lv_icmp_ne (tgt := 50) hx hb dX12_game_40 (by decide) (fun c4 => ?_) (fun c4 => ?_)
        · have hf := ok_f c4 hf
          refine lv_lload_n hx hb dX12_game_50 rfl (lv_at hl 0 rfl) ?_
          refine lv_iload_n hx hb dX12_game_51 rfl (lv_at hl 3 rfl) ?_
          obtain ⟨r5, hc5, hf⟩ := ok_1 hf
          refine z_calli0 rfl rfl hI (va_runS (As := [.long r4, .int x2]) (rest := []) ⟨hx, hb, hml, hown, hts⟩ (m_X12_told G l  hc5) (va_cwS 2 hts gX12_game_X12_told rfl rfl rfl (by decide +kernel) ⟨Nat.le_of_ble_eq_true rfl, Nat.le_of_ble_eq_true rfl⟩) (z_pre hK hG hI) rfl rfl hl.1 rfl (lv_room (Nat.le_of_ble_eq_true rfl)) dX12_game_52 ⟨Nat.zero_le _, Nat.zero_le _⟩) (fun H locs hI => ?_)
          cases hf
          exact z_iret hx hb hr hlk hK hG hI dX12_game_55
        · have hf := ok_t c4 hf
          refine lv_aload_n hx hb dX12_game_43 rfl (lv_at hl 1 rfl) ?_
          refine z_get (C := RX12) (T := TX12) (N := 26) (ci := 11) (v := .int (gI s1 51 23)) hx hb hts i_X12_game_11 hown hK hI 51 rfl (by decide) rfl 23 (by decide) (hts (.fieldLink RX12 235 "FenceYardsModel" "firstMove" "I") (by decide +kernel)) (fun _ h9 => h9) rfl dX12_game_44 ?_
          refine lv_goto (tgt := 55) hx hb dX12_game_47 (by decide) ?_
          cases hf
          exact z_iret hx hb hr hlk hK hG hI dX12_game_55
      · have hf := ok_t c3 hf
        refine lv_ldc (v := (-1000001)) hx hb hown (hts (.constant RX12 71 (-1000001)) (by decide +kernel)) dX12_game_29 ?_
        cases hf
        exact z_iret hx hb hr hlk hK hG hI dX12_game_31
  · have hf := ok_t c1 hf
    refine lv_ldc (v := (-1000002)) hx hb hown (hts (.constant RX12 200 (-1000002)) (by decide +kernel)) dX12_game_7 ?_
    cases hf
    exact z_iret hx hb hr hlk hK hG hI dX12_game_9

-- ===== FenceYardsModel.treaty(II)I
set_option maxRecDepth 100000 in
theorem i_X12_treaty_11 : ∀ w ∈ u_ws RX12 TX12 26, w ∈ wsX12_treaty := by decide +kernel
def f_X12_treaty_37   (σ : Hp) (x1 : Int32) (x2 : Int32) : Nat → Int64 → Int32 → Option (Hp × Int32)
  | 0, _, _ => none
  | n + 1, y3, x5 =>
    bd1 (f_X12_daysOf σ x1) fun r1 => if r1 ≤ x5 then (bd2 (f_X12_gameOf σ x1) fun s1 r2 => bd1 (f_X12_told s1 (y3 - r2) x2) fun r3 => some (s1, r3)) else (bd1 (f_X12_gets σ ((gI σ 52 3) + x5) (gI σ 52 1) (gI σ 52 2)) fun r4 => bnd (y3 + r4) fun v1 => f_X12_treaty_37 σ x1 x2 n v1 (x5 + 1))
def f_X12_treaty (σ : Hp) (x1 : Int32) (x2 : Int32) : Option (Hp × Int32) :=
  bd1 (f_X12_isGround σ) fun r1 => if r1 = 0 then (some (σ, (-1000002))) else (bd1 (f_X12_in σ x1 1 12) fun r2 => if r2 = 0 then (some (σ, (-1000001))) else (bd1 (f_X12_in σ x2 0 1) fun r3 => if r3 = 0 then (some (σ, (-1000001))) else (f_X12_treaty_37 σ x1 x2 fu 0 0)))
set_option maxRecDepth 100000 in
set_option maxHeartbeats 4000000 in
theorem w_X12_treaty_37 {G : GT} {p : Program} {l : Launch} {e : Env} {s : State} {m : MethodId} {args : Array Value} {below : List Frame} {meth : Method} {c : Code}  {σ' : Hp} {r : Int32}  {σ : Hp} {x1 : Int32} {x2 : Int32}  (C0 : Cx G cX12_treaty RX12 wsX12_treaty 6 (some .int) p s m args meth c)  :
    ∀ (n : Nat) (y3 : Int64) (x5 : Int32), f_X12_treaty_37 σ x1 x2 n y3 x5 = some (σ', r) → ∀ (H : Heap) (locs : List Loc), Inv G s σ H locs → ∀ ls : Array Slot, lv_has ls 6 [(0, .ref (G.1 + 51)), (1, .int x1), (2, .int x2), (3, .long y3), (5, .int x5)] → W p l e (rmk 5 124) s m args below meth c H locs 0 0 (MQ below (QI G σ' r) args s (rmk 5 124).cells (rmk 5 124).slots (gA G)) (F0 m 37 ls []) := by
  obtain ⟨hx, hb, hr, hml, hown, hts, hlk, hK, hG⟩ := id C0
  intro n
  induction n with
  | zero =>
    intro y3 x5 hf
    cases hf
  | succ n ih =>
    intro y3 x5 hf H locs hI ls hl
    rw [f_X12_treaty_37] at hf
    refine lv_iload hx hb dX12_treaty_37 (lv_at hl 4 rfl) ?_
    refine lv_aload_n hx hb dX12_treaty_39 rfl (lv_at hl 0 rfl) ?_
    refine lv_iload_n hx hb dX12_treaty_40 rfl (lv_at hl 1 rfl) ?_
    obtain ⟨r1, hc1, hf⟩ := ok_1 hf
    refine z_calli0 rfl rfl hI (va_runV (As := [.int x1]) (rest := [.int x5]) ⟨hx, hb, hml, hown, hts⟩ (m_X12_daysOf G l  hc1) (cwV 1 hts gX12_treaty_X12_daysOf rfl rfl rfl (by decide +kernel) ⟨Nat.le_of_ble_eq_true rfl, Nat.le_of_ble_eq_true rfl⟩) (z_preV hK hG hI (z_rc (q := 51) (ci := 11) (n := 0) hK hI rfl (by decide) rfl)) rfl rfl hl.1 rfl (lv_room (Nat.le_of_ble_eq_true rfl)) dX12_treaty_41 ⟨Nat.zero_le _, Nat.zero_le _⟩) (fun H locs hI => ?_)
    refine lv_icmp_ge (tgt := 81) hx hb dX12_treaty_44 (by decide) (fun c1 => ?_) (fun c1 => ?_)
    · have hf := ok_t c1 hf
      refine lv_lload_n hx hb dX12_treaty_81 rfl (lv_at hl 3 rfl) ?_
      refine lv_aload_n hx hb dX12_treaty_82 rfl (lv_at hl 0 rfl) ?_
      refine lv_iload_n hx hb dX12_treaty_83 rfl (lv_at hl 1 rfl) ?_
      obtain ⟨s1, r2, hc2, hf⟩ := ok_2 hf
      refine z_calll0 rfl rfl hI (va_runV (As := [.int x1]) (rest := [.long y3]) ⟨hx, hb, hml, hown, hts⟩ (m_X12_gameOf G l  hc2) (cwV 1 hts gX12_treaty_X12_gameOf rfl rfl rfl (by decide +kernel) ⟨Nat.le_of_ble_eq_true rfl, Nat.le_of_ble_eq_true rfl⟩) (z_preV hK hG hI (z_rc (q := 51) (ci := 11) (n := 0) hK hI rfl (by decide) rfl)) rfl rfl hl.1 rfl (lv_room (Nat.le_of_ble_eq_true rfl)) dX12_treaty_84 ⟨Nat.zero_le _, Nat.zero_le _⟩) (fun H locs hI => ?_)
      refine lv_lsub hx hb dX12_treaty_87 ?_
      refine lv_iload_n hx hb dX12_treaty_88 rfl (lv_at hl 2 rfl) ?_
      obtain ⟨r3, hc3, hf⟩ := ok_1 hf
      refine z_calli0 rfl rfl hI (va_runS (As := [.long (y3 - r2), .int x2]) (rest := []) ⟨hx, hb, hml, hown, hts⟩ (m_X12_told G l  hc3) (va_cwS 2 hts gX12_treaty_X12_told rfl rfl rfl (by decide +kernel) ⟨Nat.le_of_ble_eq_true rfl, Nat.le_of_ble_eq_true rfl⟩) (z_pre hK hG hI) rfl rfl hl.1 rfl (lv_room (Nat.le_of_ble_eq_true rfl)) dX12_treaty_89 ⟨Nat.zero_le _, Nat.zero_le _⟩) (fun H locs hI => ?_)
      cases hf
      exact z_iret hx hb hr hlk hK hG hI dX12_treaty_92
    · have hf := ok_f c1 hf
      refine lv_lload_n hx hb dX12_treaty_47 rfl (lv_at hl 3 rfl) ?_
      refine lv_aload_n hx hb dX12_treaty_48 rfl (lv_at hl 0 rfl) ?_
      refine lv_aload_n hx hb dX12_treaty_49 rfl (lv_at hl 0 rfl) ?_
      refine z_get (C := RX12) (T := TX12) (N := 26) (ci := 11) (v := .ref (G.1 + 52)) hx hb hts i_X12_treaty_11 hown hK hI 51 rfl (by decide) rfl 0 (by decide) (hts (.fieldLink RX12 7 "FenceYardsModel" "st" "[I") (by decide +kernel)) (fun _ h9 => h9) rfl dX12_treaty_50 ?_
      refine lv_iconst (v := 3) hx hb dX12_treaty_53 (by decide) ?_
      refine z_iald hx hb hK hI 52 (k := 3) rfl (by decide) (by decide) dX12_treaty_54 ?_
      refine lv_iload hx hb dX12_treaty_55 (lv_at hl 4 rfl) ?_
      refine lv_iadd hx hb dX12_treaty_57 ?_
      refine lv_aload_n hx hb dX12_treaty_58 rfl (lv_at hl 0 rfl) ?_
      refine z_get (C := RX12) (T := TX12) (N := 26) (ci := 11) (v := .ref (G.1 + 52)) hx hb hts i_X12_treaty_11 hown hK hI 51 rfl (by decide) rfl 0 (by decide) (hts (.fieldLink RX12 7 "FenceYardsModel" "st" "[I") (by decide +kernel)) (fun _ h9 => h9) rfl dX12_treaty_59 ?_
      refine lv_iconst (v := 1) hx hb dX12_treaty_62 (by decide) ?_
      refine z_iald hx hb hK hI 52 (k := 1) rfl (by decide) (by decide) dX12_treaty_63 ?_
      refine lv_aload_n hx hb dX12_treaty_64 rfl (lv_at hl 0 rfl) ?_
      refine z_get (C := RX12) (T := TX12) (N := 26) (ci := 11) (v := .ref (G.1 + 52)) hx hb hts i_X12_treaty_11 hown hK hI 51 rfl (by decide) rfl 0 (by decide) (hts (.fieldLink RX12 7 "FenceYardsModel" "st" "[I") (by decide +kernel)) (fun _ h9 => h9) rfl dX12_treaty_65 ?_
      refine lv_iconst (v := 2) hx hb dX12_treaty_68 (by decide) ?_
      refine z_iald hx hb hK hI 52 (k := 2) rfl (by decide) (by decide) dX12_treaty_69 ?_
      obtain ⟨r4, hc4, hf⟩ := ok_1 hf
      refine z_calll0 rfl rfl hI (va_runV (As := [.int ((gI σ 52 3) + x5), .int (gI σ 52 1), .int (gI σ 52 2)]) (rest := [.long y3]) ⟨hx, hb, hml, hown, hts⟩ (m_X12_gets G l  hc4) (cwV 3 hts gX12_treaty_X12_gets rfl rfl rfl (by decide +kernel) ⟨Nat.le_of_ble_eq_true rfl, Nat.le_of_ble_eq_true rfl⟩) (z_preV hK hG hI (z_rc (q := 51) (ci := 11) (n := 0) hK hI rfl (by decide) rfl)) rfl rfl hl.1 rfl (lv_room (Nat.le_of_ble_eq_true rfl)) dX12_treaty_70 ⟨Nat.zero_le _, Nat.zero_le _⟩) (fun H locs hI => ?_)
      refine lv_ladd hx hb dX12_treaty_73 ?_
      refine lv_topl (fun v1 ev1 => ?_)
      have hf := ok_n hf ev1
      refine lv_lstore_n (lv' := [(3, .long v1), (0, .ref (G.1 + 51)), (1, .int x1), (2, .int x2), (5, .int x5)]) hx hb dX12_treaty_74 rfl hl (by decide) rfl (fun ls hl => ?_)
      refine lv_iinc (v := x5 + 1) (lv' := [(5, .int (x5 + 1)), (3, .long v1), (0, .ref (G.1 + 51)), (1, .int x1), (2, .int x2)]) hx hb dX12_treaty_75 hl (k := 4) rfl rfl (by decide) rfl (fun ls hl => ?_)
      refine lv_goto (tgt := 37) hx hb dX12_treaty_78 (by decide) ?_
      exact ih _ _ hf _ _ hI _ (lv_sub hl [2, 3, 4, 1, 0] rfl)

set_option maxRecDepth 100000 in
set_option maxHeartbeats 4000000 in
theorem m_X12_treaty (G : GT) (l : Launch) {σ : Hp} {x1 : Int32} {x2 : Int32} {σ' : Hp} {r : Int32}  (hf : f_X12_treaty σ x1 x2 = some (σ', r)) : MetG G l yX12_treaty wsX12_treaty (rmk 5 124) σ [.ref (G.1 + 51), .int x1, .int x2] (QI G σ' r) := by
  refine met_of (cc := cX12_treaty) (nL := 6) (ret := (some .int)) (by decide) rfl (Nat.le_of_ble_eq_true rfl) ?_
  intro p e s m below meth c C0 hnm hI ls hl
  obtain ⟨hx, hb, hr, hml, hown, hts, hlk, hK, hG⟩ := id C0
  have hl : lv_has ls 6 [(0, .ref (G.1 + 51)), (1, .int x1), (2, .int x2)] := hl
  unfold f_X12_treaty at hf
  refine lv_aload_n hx hb dX12_treaty_0 rfl (lv_at hl 0 rfl) ?_
  obtain ⟨r1, hc1, hf⟩ := ok_1 hf
  refine z_calli0 rfl rfl hI (va_runV (As := []) (rest := []) ⟨hx, hb, hml, hown, hts⟩ (m_X12_isGround G l  hc1) (cwV 0 hts gX12_treaty_X12_isGround rfl rfl rfl (by decide +kernel) ⟨Nat.le_of_ble_eq_true rfl, Nat.le_of_ble_eq_true rfl⟩) (z_preV hK hG hI (z_rc (q := 51) (ci := 11) (n := 0) hK hI rfl (by decide) rfl)) rfl rfl hl.1 rfl (lv_room (Nat.le_of_ble_eq_true rfl)) dX12_treaty_1 ⟨Nat.zero_le _, Nat.zero_le _⟩) (fun H locs hI => ?_)
  refine lv_if_ne (tgt := 10) hx hb dX12_treaty_4 (by decide) (fun c1 => ?_) (fun c1 => ?_)
  · have hf := ok_f c1 hf
    refine lv_iload_n hx hb dX12_treaty_10 rfl (lv_at hl 1 rfl) ?_
    refine lv_iconst (v := 1) hx hb dX12_treaty_11 (by decide) ?_
    refine lv_bipush (v := 12) hx hb dX12_treaty_12 (by decide) ?_
    obtain ⟨r2, hc2, hf⟩ := ok_1 hf
    refine z_calli0 rfl rfl hI (va_runS (As := [.int x1, .int 1, .int 12]) (rest := []) ⟨hx, hb, hml, hown, hts⟩ (m_X12_in G l  hc2) (va_cwS 3 hts gX12_treaty_X12_in rfl rfl rfl (by decide +kernel) ⟨Nat.le_of_ble_eq_true rfl, Nat.le_of_ble_eq_true rfl⟩) (z_pre hK hG hI) rfl rfl hl.1 rfl (lv_room (Nat.le_of_ble_eq_true rfl)) dX12_treaty_14 ⟨Nat.zero_le _, Nat.zero_le _⟩) (fun H locs hI => ?_)
    refine lv_if_eq (tgt := 29) hx hb dX12_treaty_17 (by decide) (fun c2 => ?_) (fun c2 => ?_)
    · have hf := ok_t c2 hf
      refine lv_ldc (v := (-1000001)) hx hb hown (hts (.constant RX12 71 (-1000001)) (by decide +kernel)) dX12_treaty_29 ?_
      cases hf
      exact z_iret hx hb hr hlk hK hG hI dX12_treaty_31
    · have hf := ok_f c2 hf
      refine lv_iload_n hx hb dX12_treaty_20 rfl (lv_at hl 2 rfl) ?_
      refine lv_iconst (v := 0) hx hb dX12_treaty_21 (by decide) ?_
      refine lv_iconst (v := 1) hx hb dX12_treaty_22 (by decide) ?_
      obtain ⟨r3, hc3, hf⟩ := ok_1 hf
      refine z_calli0 rfl rfl hI (va_runS (As := [.int x2, .int 0, .int 1]) (rest := []) ⟨hx, hb, hml, hown, hts⟩ (m_X12_in G l  hc3) (va_cwS 3 hts gX12_treaty_X12_in rfl rfl rfl (by decide +kernel) ⟨Nat.le_of_ble_eq_true rfl, Nat.le_of_ble_eq_true rfl⟩) (z_pre hK hG hI) rfl rfl hl.1 rfl (lv_room (Nat.le_of_ble_eq_true rfl)) dX12_treaty_23 ⟨Nat.zero_le _, Nat.zero_le _⟩) (fun H locs hI => ?_)
      refine lv_if_ne (tgt := 32) hx hb dX12_treaty_26 (by decide) (fun c3 => ?_) (fun c3 => ?_)
      · have hf := ok_f c3 hf
        refine lv_lconst (v := 0) hx hb dX12_treaty_32 (by decide) ?_
        refine lv_lstore_n (lv' := [(3, .long 0), (0, .ref (G.1 + 51)), (1, .int x1), (2, .int x2)]) hx hb dX12_treaty_33 rfl hl (by decide) rfl (fun ls hl => ?_)
        refine lv_iconst (v := 0) hx hb dX12_treaty_34 (by decide) ?_
        refine lv_istore (lv' := [(5, .int 0), (3, .long 0), (0, .ref (G.1 + 51)), (1, .int x1), (2, .int x2)]) hx hb dX12_treaty_35 hl (by decide) rfl (fun ls hl => ?_)
        exact w_X12_treaty_37  C0  _ _ _ hf _ _ hI _ (lv_sub hl [2, 3, 4, 1, 0] rfl)
      · have hf := ok_t c3 hf
        refine lv_ldc (v := (-1000001)) hx hb hown (hts (.constant RX12 71 (-1000001)) (by decide +kernel)) dX12_treaty_29 ?_
        cases hf
        exact z_iret hx hb hr hlk hK hG hI dX12_treaty_31
  · have hf := ok_t c1 hf
    refine lv_ldc (v := (-1000002)) hx hb hown (hts (.constant RX12 200 (-1000002)) (by decide +kernel)) dX12_treaty_7 ?_
    cases hf
    exact z_iret hx hb hr hlk hK hG hI dX12_treaty_9

-- ===== FenceYardsModel.sow(IIIIII)I
set_option maxRecDepth 100000 in
theorem i_X12_sow_11 : ∀ w ∈ u_ws RX12 TX12 26, w ∈ wsX12_sow := by decide +kernel
def f_X12_sow (σ : Hp) (x1 : Int32) (x2 : Int32) (x3 : Int32) (x4 : Int32) (x5 : Int32) (x6 : Int32) : Option (Hp × Int32) :=
  bd1 (f_X12_isStrip σ x1) fun r1 => if r1 = 0 then (some (σ, (-1000001))) else (bd1 (f_X12_in σ x2 0 4) fun r2 => if r2 = 0 then (some (σ, (-1000001))) else (bd1 (f_X12_in σ x3 0 99) fun r3 => if r3 = 0 then (some (σ, (-1000001))) else (bd1 (f_X12_in σ x4 0 11) fun r4 => if r4 = 0 then (some (σ, (-1000001))) else (bd1 (f_X12_in σ x5 1 12) fun r5 => if r5 = 0 then (some (σ, (-1000001))) else (bd1 (f_X12_in σ x6 0 1) fun r6 => if r6 = 0 then (some (σ, (-1000001))) else (bd2 (f_X12_gameOf σ x5) fun s1 r7 => bnd (6 + (3 * x1)) fun v1 => chk (inb v1 78) <| bnd (gI s1 52 (v1.toNatClampNeg)) fun v2 => chk (inb (v1 + 1) 78) <| bnd (gI s1 52 ((v1 + 1).toNatClampNeg)) fun v3 => chk (inb (v1 + 2) 78) <| bnd (gI s1 52 ((v1 + 2).toNatClampNeg)) fun v4 => chk (inb v1 78) <| chk (inb (v1 + 1) 78) <| bnd (sI (sI s1 52 (v1.toNatClampNeg) (x2 + 1)) 52 ((v1 + 1).toNatClampNeg) x3) fun s2 => chk (inb (v1 + 2) 78) <| bd2 (f_X12_gameOf (sI s2 52 ((v1 + 2).toNatClampNeg) x4) x5) fun s3 r8 => bnd (r8 - r7) fun v5 => chk (inb v1 78) <| chk (inb (v1 + 1) 78) <| bnd (sI (sI s3 52 (v1.toNatClampNeg) v2) 52 ((v1 + 1).toNatClampNeg) v3) fun s4 => chk (inb (v1 + 2) 78) <| bd1 (f_X12_told (sI s4 52 ((v1 + 2).toNatClampNeg) v4) v5 x6) fun r9 => some (sI s4 52 ((v1 + 2).toNatClampNeg) v4, r9)))))))
set_option maxRecDepth 100000 in
set_option maxHeartbeats 4000000 in
theorem m_X12_sow (G : GT) (l : Launch) {σ : Hp} {x1 : Int32} {x2 : Int32} {x3 : Int32} {x4 : Int32} {x5 : Int32} {x6 : Int32} {σ' : Hp} {r : Int32}  (hf : f_X12_sow σ x1 x2 x3 x4 x5 x6 = some (σ', r)) : MetG G l yX12_sow wsX12_sow (rmk 5 124) σ [.ref (G.1 + 51), .int x1, .int x2, .int x3, .int x4, .int x5, .int x6] (QI G σ' r) := by
  refine met_of (cc := cX12_sow) (nL := 15) (ret := (some .int)) (by decide) rfl (Nat.le_of_ble_eq_true rfl) ?_
  intro p e s m below meth c C0 hnm hI ls hl
  obtain ⟨hx, hb, hr, hml, hown, hts, hlk, hK, hG⟩ := id C0
  have hl : lv_has ls 15 [(0, .ref (G.1 + 51)), (1, .int x1), (2, .int x2), (3, .int x3), (4, .int x4), (5, .int x5), (6, .int x6)] := hl
  unfold f_X12_sow at hf
  refine lv_aload_n hx hb dX12_sow_0 rfl (lv_at hl 0 rfl) ?_
  refine lv_iload_n hx hb dX12_sow_1 rfl (lv_at hl 1 rfl) ?_
  obtain ⟨r1, hc1, hf⟩ := ok_1 hf
  refine z_calli0 rfl rfl hI (va_runV (As := [.int x1]) (rest := []) ⟨hx, hb, hml, hown, hts⟩ (m_X12_isStrip G l  hc1) (cwV 1 hts gX12_sow_X12_isStrip rfl rfl rfl (by decide +kernel) ⟨Nat.le_of_ble_eq_true rfl, Nat.le_of_ble_eq_true rfl⟩) (z_preV hK hG hI (z_rc (q := 51) (ci := 11) (n := 0) hK hI rfl (by decide) rfl)) rfl rfl hl.1 rfl (lv_room (Nat.le_of_ble_eq_true rfl)) dX12_sow_2 ⟨Nat.zero_le _, Nat.zero_le _⟩) (fun H locs hI => ?_)
  refine lv_if_eq (tgt := 59) hx hb dX12_sow_5 (by decide) (fun c1 => ?_) (fun c1 => ?_)
  · have hf := ok_t c1 hf
    refine lv_ldc (v := (-1000001)) hx hb hown (hts (.constant RX12 71 (-1000001)) (by decide +kernel)) dX12_sow_59 ?_
    cases hf
    exact z_iret hx hb hr hlk hK hG hI dX12_sow_61
  · have hf := ok_f c1 hf
    refine lv_iload_n hx hb dX12_sow_8 rfl (lv_at hl 2 rfl) ?_
    refine lv_iconst (v := 0) hx hb dX12_sow_9 (by decide) ?_
    refine lv_iconst (v := 4) hx hb dX12_sow_10 (by decide) ?_
    obtain ⟨r2, hc2, hf⟩ := ok_1 hf
    refine z_calli0 rfl rfl hI (va_runS (As := [.int x2, .int 0, .int 4]) (rest := []) ⟨hx, hb, hml, hown, hts⟩ (m_X12_in G l  hc2) (va_cwS 3 hts gX12_sow_X12_in rfl rfl rfl (by decide +kernel) ⟨Nat.le_of_ble_eq_true rfl, Nat.le_of_ble_eq_true rfl⟩) (z_pre hK hG hI) rfl rfl hl.1 rfl (lv_room (Nat.le_of_ble_eq_true rfl)) dX12_sow_11 ⟨Nat.zero_le _, Nat.zero_le _⟩) (fun H locs hI => ?_)
    refine lv_if_eq (tgt := 59) hx hb dX12_sow_14 (by decide) (fun c2 => ?_) (fun c2 => ?_)
    · have hf := ok_t c2 hf
      refine lv_ldc (v := (-1000001)) hx hb hown (hts (.constant RX12 71 (-1000001)) (by decide +kernel)) dX12_sow_59 ?_
      cases hf
      exact z_iret hx hb hr hlk hK hG hI dX12_sow_61
    · have hf := ok_f c2 hf
      refine lv_iload_n hx hb dX12_sow_17 rfl (lv_at hl 3 rfl) ?_
      refine lv_iconst (v := 0) hx hb dX12_sow_18 (by decide) ?_
      refine lv_bipush (v := 99) hx hb dX12_sow_19 (by decide) ?_
      obtain ⟨r3, hc3, hf⟩ := ok_1 hf
      refine z_calli0 rfl rfl hI (va_runS (As := [.int x3, .int 0, .int 99]) (rest := []) ⟨hx, hb, hml, hown, hts⟩ (m_X12_in G l  hc3) (va_cwS 3 hts gX12_sow_X12_in rfl rfl rfl (by decide +kernel) ⟨Nat.le_of_ble_eq_true rfl, Nat.le_of_ble_eq_true rfl⟩) (z_pre hK hG hI) rfl rfl hl.1 rfl (lv_room (Nat.le_of_ble_eq_true rfl)) dX12_sow_21 ⟨Nat.zero_le _, Nat.zero_le _⟩) (fun H locs hI => ?_)
      refine lv_if_eq (tgt := 59) hx hb dX12_sow_24 (by decide) (fun c3 => ?_) (fun c3 => ?_)
      · have hf := ok_t c3 hf
        refine lv_ldc (v := (-1000001)) hx hb hown (hts (.constant RX12 71 (-1000001)) (by decide +kernel)) dX12_sow_59 ?_
        cases hf
        exact z_iret hx hb hr hlk hK hG hI dX12_sow_61
      · have hf := ok_f c3 hf
        refine lv_iload hx hb dX12_sow_27 (lv_at hl 4 rfl) ?_
        refine lv_iconst (v := 0) hx hb dX12_sow_29 (by decide) ?_
        refine lv_bipush (v := 11) hx hb dX12_sow_30 (by decide) ?_
        obtain ⟨r4, hc4, hf⟩ := ok_1 hf
        refine z_calli0 rfl rfl hI (va_runS (As := [.int x4, .int 0, .int 11]) (rest := []) ⟨hx, hb, hml, hown, hts⟩ (m_X12_in G l  hc4) (va_cwS 3 hts gX12_sow_X12_in rfl rfl rfl (by decide +kernel) ⟨Nat.le_of_ble_eq_true rfl, Nat.le_of_ble_eq_true rfl⟩) (z_pre hK hG hI) rfl rfl hl.1 rfl (lv_room (Nat.le_of_ble_eq_true rfl)) dX12_sow_32 ⟨Nat.zero_le _, Nat.zero_le _⟩) (fun H locs hI => ?_)
        refine lv_if_eq (tgt := 59) hx hb dX12_sow_35 (by decide) (fun c4 => ?_) (fun c4 => ?_)
        · have hf := ok_t c4 hf
          refine lv_ldc (v := (-1000001)) hx hb hown (hts (.constant RX12 71 (-1000001)) (by decide +kernel)) dX12_sow_59 ?_
          cases hf
          exact z_iret hx hb hr hlk hK hG hI dX12_sow_61
        · have hf := ok_f c4 hf
          refine lv_iload hx hb dX12_sow_38 (lv_at hl 5 rfl) ?_
          refine lv_iconst (v := 1) hx hb dX12_sow_40 (by decide) ?_
          refine lv_bipush (v := 12) hx hb dX12_sow_41 (by decide) ?_
          obtain ⟨r5, hc5, hf⟩ := ok_1 hf
          refine z_calli0 rfl rfl hI (va_runS (As := [.int x5, .int 1, .int 12]) (rest := []) ⟨hx, hb, hml, hown, hts⟩ (m_X12_in G l  hc5) (va_cwS 3 hts gX12_sow_X12_in rfl rfl rfl (by decide +kernel) ⟨Nat.le_of_ble_eq_true rfl, Nat.le_of_ble_eq_true rfl⟩) (z_pre hK hG hI) rfl rfl hl.1 rfl (lv_room (Nat.le_of_ble_eq_true rfl)) dX12_sow_43 ⟨Nat.zero_le _, Nat.zero_le _⟩) (fun H locs hI => ?_)
          refine lv_if_eq (tgt := 59) hx hb dX12_sow_46 (by decide) (fun c5 => ?_) (fun c5 => ?_)
          · have hf := ok_t c5 hf
            refine lv_ldc (v := (-1000001)) hx hb hown (hts (.constant RX12 71 (-1000001)) (by decide +kernel)) dX12_sow_59 ?_
            cases hf
            exact z_iret hx hb hr hlk hK hG hI dX12_sow_61
          · have hf := ok_f c5 hf
            refine lv_iload hx hb dX12_sow_49 (lv_at hl 6 rfl) ?_
            refine lv_iconst (v := 0) hx hb dX12_sow_51 (by decide) ?_
            refine lv_iconst (v := 1) hx hb dX12_sow_52 (by decide) ?_
            obtain ⟨r6, hc6, hf⟩ := ok_1 hf
            refine z_calli0 rfl rfl hI (va_runS (As := [.int x6, .int 0, .int 1]) (rest := []) ⟨hx, hb, hml, hown, hts⟩ (m_X12_in G l  hc6) (va_cwS 3 hts gX12_sow_X12_in rfl rfl rfl (by decide +kernel) ⟨Nat.le_of_ble_eq_true rfl, Nat.le_of_ble_eq_true rfl⟩) (z_pre hK hG hI) rfl rfl hl.1 rfl (lv_room (Nat.le_of_ble_eq_true rfl)) dX12_sow_53 ⟨Nat.zero_le _, Nat.zero_le _⟩) (fun H locs hI => ?_)
            refine lv_if_ne (tgt := 62) hx hb dX12_sow_56 (by decide) (fun c6 => ?_) (fun c6 => ?_)
            · have hf := ok_f c6 hf
              refine lv_aload_n hx hb dX12_sow_62 rfl (lv_at hl 0 rfl) ?_
              refine lv_iload hx hb dX12_sow_63 (lv_at hl 5 rfl) ?_
              obtain ⟨s1, r7, hc7, hf⟩ := ok_2 hf
              refine z_calll0 rfl rfl hI (va_runV (As := [.int x5]) (rest := []) ⟨hx, hb, hml, hown, hts⟩ (m_X12_gameOf G l  hc7) (cwV 1 hts gX12_sow_X12_gameOf rfl rfl rfl (by decide +kernel) ⟨Nat.le_of_ble_eq_true rfl, Nat.le_of_ble_eq_true rfl⟩) (z_preV hK hG hI (z_rc (q := 51) (ci := 11) (n := 0) hK hI rfl (by decide) rfl)) rfl rfl hl.1 rfl (lv_room (Nat.le_of_ble_eq_true rfl)) dX12_sow_65 ⟨Nat.zero_le _, Nat.zero_le _⟩) (fun H locs hI => ?_)
              refine lv_lstore (lv' := [(7, .long r7), (0, .ref (G.1 + 51)), (1, .int x1), (2, .int x2), (3, .int x3), (4, .int x4), (5, .int x5), (6, .int x6)]) hx hb dX12_sow_68 hl (by decide) rfl (fun ls hl => ?_)
              refine lv_bipush (v := 6) hx hb dX12_sow_70 (by decide) ?_
              refine lv_iconst (v := 3) hx hb dX12_sow_72 (by decide) ?_
              refine lv_iload_n hx hb dX12_sow_73 rfl (lv_at hl 2 rfl) ?_
              refine lv_imul hx hb dX12_sow_74 ?_
              refine lv_iadd hx hb dX12_sow_75 ?_
              refine lv_topi (fun v1 ev1 => ?_)
              have hf := ok_n hf ev1
              refine lv_istore (lv' := [(9, .int v1), (7, .long r7), (0, .ref (G.1 + 51)), (1, .int x1), (2, .int x2), (3, .int x3), (4, .int x4), (5, .int x5), (6, .int x6)]) hx hb dX12_sow_76 hl (by decide) rfl (fun ls hl => ?_)
              refine lv_aload_n hx hb dX12_sow_78 rfl (lv_at hl 2 rfl) ?_
              refine z_get (C := RX12) (T := TX12) (N := 26) (ci := 11) (v := .ref (G.1 + 52)) hx hb hts i_X12_sow_11 hown hK hI 51 rfl (by decide) rfl 0 (by decide) (hts (.fieldLink RX12 7 "FenceYardsModel" "st" "[I") (by decide +kernel)) (fun _ h9 => h9) rfl dX12_sow_79 ?_
              refine lv_iload hx hb dX12_sow_82 (lv_at hl 0 rfl) ?_
              obtain ⟨h1, hf⟩ := ok_c hf
              refine z_iald hx hb hK hI 52 (k := v1.toNatClampNeg) rfl h1 rfl dX12_sow_84 ?_
              refine lv_topi (fun v2 ev2 => ?_)
              have hf := ok_n hf ev2
              refine lv_istore (lv' := [(10, .int v2), (9, .int v1), (7, .long r7), (0, .ref (G.1 + 51)), (1, .int x1), (2, .int x2), (3, .int x3), (4, .int x4), (5, .int x5), (6, .int x6)]) hx hb dX12_sow_85 hl (by decide) rfl (fun ls hl => ?_)
              refine lv_aload_n hx hb dX12_sow_87 rfl (lv_at hl 3 rfl) ?_
              refine z_get (C := RX12) (T := TX12) (N := 26) (ci := 11) (v := .ref (G.1 + 52)) hx hb hts i_X12_sow_11 hown hK hI 51 rfl (by decide) rfl 0 (by decide) (hts (.fieldLink RX12 7 "FenceYardsModel" "st" "[I") (by decide +kernel)) (fun _ h9 => h9) rfl dX12_sow_88 ?_
              refine lv_iload hx hb dX12_sow_91 (lv_at hl 1 rfl) ?_
              refine lv_iconst (v := 1) hx hb dX12_sow_93 (by decide) ?_
              refine lv_iadd hx hb dX12_sow_94 ?_
              obtain ⟨h2, hf⟩ := ok_c hf
              refine z_iald hx hb hK hI 52 (k := (v1 + 1).toNatClampNeg) rfl h2 rfl dX12_sow_95 ?_
              refine lv_topi (fun v3 ev3 => ?_)
              have hf := ok_n hf ev3
              refine lv_istore (lv' := [(11, .int v3), (10, .int v2), (9, .int v1), (7, .long r7), (0, .ref (G.1 + 51)), (1, .int x1), (2, .int x2), (3, .int x3), (4, .int x4), (5, .int x5), (6, .int x6)]) hx hb dX12_sow_96 hl (by decide) rfl (fun ls hl => ?_)
              refine lv_aload_n hx hb dX12_sow_98 rfl (lv_at hl 4 rfl) ?_
              refine z_get (C := RX12) (T := TX12) (N := 26) (ci := 11) (v := .ref (G.1 + 52)) hx hb hts i_X12_sow_11 hown hK hI 51 rfl (by decide) rfl 0 (by decide) (hts (.fieldLink RX12 7 "FenceYardsModel" "st" "[I") (by decide +kernel)) (fun _ h9 => h9) rfl dX12_sow_99 ?_
              refine lv_iload hx hb dX12_sow_102 (lv_at hl 2 rfl) ?_
              refine lv_iconst (v := 2) hx hb dX12_sow_104 (by decide) ?_
              refine lv_iadd hx hb dX12_sow_105 ?_
              obtain ⟨h3, hf⟩ := ok_c hf
              refine z_iald hx hb hK hI 52 (k := (v1 + 2).toNatClampNeg) rfl h3 rfl dX12_sow_106 ?_
              refine lv_topi (fun v4 ev4 => ?_)
              have hf := ok_n hf ev4
              refine lv_istore (lv' := [(12, .int v4), (11, .int v3), (10, .int v2), (9, .int v1), (7, .long r7), (0, .ref (G.1 + 51)), (1, .int x1), (2, .int x2), (3, .int x3), (4, .int x4), (5, .int x5), (6, .int x6)]) hx hb dX12_sow_107 hl (by decide) rfl (fun ls hl => ?_)
              refine lv_aload_n hx hb dX12_sow_109 rfl (lv_at hl 5 rfl) ?_
              refine z_get (C := RX12) (T := TX12) (N := 26) (ci := 11) (v := .ref (G.1 + 52)) hx hb hts i_X12_sow_11 hown hK hI 51 rfl (by decide) rfl 0 (by decide) (hts (.fieldLink RX12 7 "FenceYardsModel" "st" "[I") (by decide +kernel)) (fun _ h9 => h9) rfl dX12_sow_110 ?_
              refine lv_iload hx hb dX12_sow_113 (lv_at hl 3 rfl) ?_
              refine lv_iload_n hx hb dX12_sow_115 rfl (lv_at hl 7 rfl) ?_
              refine lv_iconst (v := 1) hx hb dX12_sow_116 (by decide) ?_
              refine lv_iadd hx hb dX12_sow_117 ?_
              obtain ⟨h4, hf⟩ := ok_c hf
              refine z_iast hx hb hK hI 52 (k := v1.toNatClampNeg) rfl h4 rfl dX12_sow_118 (fun H locs hI => ?_)
              refine lv_aload_n hx hb dX12_sow_119 rfl (lv_at hl 5 rfl) ?_
              refine z_get (C := RX12) (T := TX12) (N := 26) (ci := 11) (v := .ref (G.1 + 52)) hx hb hts i_X12_sow_11 hown hK hI 51 rfl (by decide) rfl 0 (by decide) (hts (.fieldLink RX12 7 "FenceYardsModel" "st" "[I") (by decide +kernel)) (fun _ h9 => h9) rfl dX12_sow_120 ?_
              refine lv_iload hx hb dX12_sow_123 (lv_at hl 3 rfl) ?_
              refine lv_iconst (v := 1) hx hb dX12_sow_125 (by decide) ?_
              refine lv_iadd hx hb dX12_sow_126 ?_
              refine lv_iload_n hx hb dX12_sow_127 rfl (lv_at hl 8 rfl) ?_
              obtain ⟨h5, hf⟩ := ok_c hf
              refine z_iast hx hb hK hI 52 (k := (v1 + 1).toNatClampNeg) rfl h5 rfl dX12_sow_128 (fun H locs hI => ?_)
              obtain ⟨s2, es2⟩ : ∃ z, z = sI (sI s1 52 (v1.toNatClampNeg) (x2 + 1)) 52 ((v1 + 1).toNatClampNeg) x3 := ⟨_, rfl⟩
              have hI : Inv G s s2 H locs := by rw [es2]; exact hI
              have hf := ok_n hf es2
              refine lv_aload_n hx hb dX12_sow_129 rfl (lv_at hl 5 rfl) ?_
              refine z_get (C := RX12) (T := TX12) (N := 26) (ci := 11) (v := .ref (G.1 + 52)) hx hb hts i_X12_sow_11 hown hK hI 51 rfl (by decide) rfl 0 (by decide) (hts (.fieldLink RX12 7 "FenceYardsModel" "st" "[I") (by decide +kernel)) (fun _ h9 => h9) rfl dX12_sow_130 ?_
              refine lv_iload hx hb dX12_sow_133 (lv_at hl 3 rfl) ?_
              refine lv_iconst (v := 2) hx hb dX12_sow_135 (by decide) ?_
              refine lv_iadd hx hb dX12_sow_136 ?_
              refine lv_iload hx hb dX12_sow_137 (lv_at hl 9 rfl) ?_
              obtain ⟨h6, hf⟩ := ok_c hf
              refine z_iast hx hb hK hI 52 (k := (v1 + 2).toNatClampNeg) rfl h6 rfl dX12_sow_139 (fun H locs hI => ?_)
              refine lv_aload_n hx hb dX12_sow_140 rfl (lv_at hl 5 rfl) ?_
              refine lv_iload hx hb dX12_sow_141 (lv_at hl 10 rfl) ?_
              obtain ⟨s3, r8, hc8, hf⟩ := ok_2 hf
              refine z_calll0 rfl rfl hI (va_runV (As := [.int x5]) (rest := []) ⟨hx, hb, hml, hown, hts⟩ (m_X12_gameOf G l  hc8) (cwV 1 hts gX12_sow_X12_gameOf rfl rfl rfl (by decide +kernel) ⟨Nat.le_of_ble_eq_true rfl, Nat.le_of_ble_eq_true rfl⟩) (z_preV hK hG hI (z_rc (q := 51) (ci := 11) (n := 0) hK hI rfl (by decide) rfl)) rfl rfl hl.1 rfl (lv_room (Nat.le_of_ble_eq_true rfl)) dX12_sow_143 ⟨Nat.zero_le _, Nat.zero_le _⟩) (fun H locs hI => ?_)
              refine lv_lload hx hb dX12_sow_146 (lv_at hl 4 rfl) ?_
              refine lv_lsub hx hb dX12_sow_148 ?_
              refine lv_topl (fun v5 ev5 => ?_)
              have hf := ok_n hf ev5
              refine lv_lstore (lv' := [(13, .long v5), (12, .int v4), (11, .int v3), (10, .int v2), (9, .int v1), (7, .long r7), (0, .ref (G.1 + 51)), (1, .int x1), (2, .int x2), (3, .int x3), (4, .int x4), (5, .int x5), (6, .int x6)]) hx hb dX12_sow_149 hl (by decide) rfl (fun ls hl => ?_)
              refine lv_aload_n hx hb dX12_sow_151 rfl (lv_at hl 6 rfl) ?_
              refine z_get (C := RX12) (T := TX12) (N := 26) (ci := 11) (v := .ref (G.1 + 52)) hx hb hts i_X12_sow_11 hown hK hI 51 rfl (by decide) rfl 0 (by decide) (hts (.fieldLink RX12 7 "FenceYardsModel" "st" "[I") (by decide +kernel)) (fun _ h9 => h9) rfl dX12_sow_152 ?_
              refine lv_iload hx hb dX12_sow_155 (lv_at hl 4 rfl) ?_
              refine lv_iload hx hb dX12_sow_157 (lv_at hl 3 rfl) ?_
              obtain ⟨h7, hf⟩ := ok_c hf
              refine z_iast hx hb hK hI 52 (k := v1.toNatClampNeg) rfl h7 rfl dX12_sow_159 (fun H locs hI => ?_)
              refine lv_aload_n hx hb dX12_sow_160 rfl (lv_at hl 6 rfl) ?_
              refine z_get (C := RX12) (T := TX12) (N := 26) (ci := 11) (v := .ref (G.1 + 52)) hx hb hts i_X12_sow_11 hown hK hI 51 rfl (by decide) rfl 0 (by decide) (hts (.fieldLink RX12 7 "FenceYardsModel" "st" "[I") (by decide +kernel)) (fun _ h9 => h9) rfl dX12_sow_161 ?_
              refine lv_iload hx hb dX12_sow_164 (lv_at hl 4 rfl) ?_
              refine lv_iconst (v := 1) hx hb dX12_sow_166 (by decide) ?_
              refine lv_iadd hx hb dX12_sow_167 ?_
              refine lv_iload hx hb dX12_sow_168 (lv_at hl 2 rfl) ?_
              obtain ⟨h8, hf⟩ := ok_c hf
              refine z_iast hx hb hK hI 52 (k := (v1 + 1).toNatClampNeg) rfl h8 rfl dX12_sow_170 (fun H locs hI => ?_)
              obtain ⟨s4, es4⟩ : ∃ z, z = sI (sI s3 52 (v1.toNatClampNeg) v2) 52 ((v1 + 1).toNatClampNeg) v3 := ⟨_, rfl⟩
              have hI : Inv G s s4 H locs := by rw [es4]; exact hI
              have hf := ok_n hf es4
              refine lv_aload_n hx hb dX12_sow_171 rfl (lv_at hl 6 rfl) ?_
              refine z_get (C := RX12) (T := TX12) (N := 26) (ci := 11) (v := .ref (G.1 + 52)) hx hb hts i_X12_sow_11 hown hK hI 51 rfl (by decide) rfl 0 (by decide) (hts (.fieldLink RX12 7 "FenceYardsModel" "st" "[I") (by decide +kernel)) (fun _ h9 => h9) rfl dX12_sow_172 ?_
              refine lv_iload hx hb dX12_sow_175 (lv_at hl 4 rfl) ?_
              refine lv_iconst (v := 2) hx hb dX12_sow_177 (by decide) ?_
              refine lv_iadd hx hb dX12_sow_178 ?_
              refine lv_iload hx hb dX12_sow_179 (lv_at hl 1 rfl) ?_
              obtain ⟨h9, hf⟩ := ok_c hf
              refine z_iast hx hb hK hI 52 (k := (v1 + 2).toNatClampNeg) rfl h9 rfl dX12_sow_181 (fun H locs hI => ?_)
              refine lv_lload hx hb dX12_sow_182 (lv_at hl 0 rfl) ?_
              refine lv_iload hx hb dX12_sow_184 (lv_at hl 12 rfl) ?_
              obtain ⟨r9, hc9, hf⟩ := ok_1 hf
              refine z_calli0 rfl rfl hI (va_runS (As := [.long v5, .int x6]) (rest := []) ⟨hx, hb, hml, hown, hts⟩ (m_X12_told G l  hc9) (va_cwS 2 hts gX12_sow_X12_told rfl rfl rfl (by decide +kernel) ⟨Nat.le_of_ble_eq_true rfl, Nat.le_of_ble_eq_true rfl⟩) (z_pre hK hG hI) rfl rfl hl.1 rfl (lv_room (Nat.le_of_ble_eq_true rfl)) dX12_sow_186 ⟨Nat.zero_le _, Nat.zero_le _⟩) (fun H locs hI => ?_)
              cases hf
              exact z_iret hx hb hr hlk hK hG hI dX12_sow_189
            · have hf := ok_t c6 hf
              refine lv_ldc (v := (-1000001)) hx hb hown (hts (.constant RX12 71 (-1000001)) (by decide +kernel)) dX12_sow_59 ?_
              cases hf
              exact z_iret hx hb hr hlk hK hG hI dX12_sow_61

-- ===== FenceYardsModel.unseen(III)I
set_option maxRecDepth 100000 in
theorem i_X12_unseen_11 : ∀ w ∈ u_ws RX12 TX12 26, w ∈ wsX12_unseen := by decide +kernel
def f_X12_unseen_53   (σ : Hp) (x1 : Int32) (x2 : Int32) (x3 : Int32) : Nat → Int32 → Int32 → Int32 → Option (Int32)
  | 0, _, _, _ => none
  | n + 1, x4, x5, x6 =>
    if 9 ≤ x6 then (if x3 = 0 then (some x4) else (some x5)) else (if 12 ≤ (gI σ 52 3) then (if x3 = 0 then (some x4) else (some x5)) else (bnd (((gI σ 52 1) + (x6 / 3)) - 1) fun v1 => bnd (((gI σ 52 2) + (x6 - x6 / 3 * 3)) - 1) fun v2 => bd1 (f_X12_mayBe σ 0 v1) fun r1 => if r1 = 0 then (f_X12_unseen_53 σ x1 x2 x3 n x4 x5 (x6 + 1)) else (bd1 (f_X12_mayBe σ 1 v2) fun r2 => if r2 = 0 then (f_X12_unseen_53 σ x1 x2 x3 n x4 x5 (x6 + 1)) else (bd1 (f_X12_gets σ (gI σ 52 3) v1 v2) fun r3 => if (lg_cmp (r3 * (x2.toInt64)) ((x1.toInt64) * 55440)) = 0 then (if x4 = 0 then (f_X12_unseen_53 σ x1 x2 x3 n (x4 + 1) x6 (x6 + 1)) else (f_X12_unseen_53 σ x1 x2 x3 n (x4 + 1) x5 (x6 + 1))) else (f_X12_unseen_53 σ x1 x2 x3 n x4 x5 (x6 + 1))))))
def f_X12_unseen (σ : Hp) (x1 : Int32) (x2 : Int32) (x3 : Int32) : Option (Int32) :=
  bd1 (f_X12_isGround σ) fun r1 => if r1 = 0 then (some (-1000002)) else (bd1 (f_X12_in σ x1 0 9999) fun r2 => if r2 = 0 then (some (-1000001)) else (bd1 (f_X12_in σ x2 1 99) fun r3 => if r3 = 0 then (some (-1000001)) else (bd1 (f_X12_in σ x3 0 1) fun r4 => if r4 = 0 then (some (-1000001)) else (f_X12_unseen_53 σ x1 x2 x3 fu 0 (-1000000) 0))))
set_option maxRecDepth 100000 in
set_option maxHeartbeats 4000000 in
theorem w_X12_unseen_53 {G : GT} {p : Program} {l : Launch} {e : Env} {s : State} {m : MethodId} {args : Array Value} {below : List Frame} {meth : Method} {c : Code}  {r : Int32}  {σ : Hp} {x1 : Int32} {x2 : Int32} {x3 : Int32}  (C0 : Cx G cX12_unseen RX12 wsX12_unseen 9 (some .int) p s m args meth c)  :
    ∀ (n : Nat) (x4 : Int32) (x5 : Int32) (x6 : Int32), f_X12_unseen_53 σ x1 x2 x3 n x4 x5 x6 = some r → ∀ (H : Heap) (locs : List Loc), Inv G s σ H locs → ∀ ls : Array Slot, lv_has ls 9 [(0, .ref (G.1 + 51)), (1, .int x1), (2, .int x2), (3, .int x3), (4, .int x4), (5, .int x5), (6, .int x6)] → W p l e (rmk 3 73) s m args below meth c H locs 0 0 (MQ below (QI G σ r) args s (rmk 3 73).cells (rmk 3 73).slots (gA G)) (F0 m 53 ls []) := by
  obtain ⟨hx, hb, hr, hml, hown, hts, hlk, hK, hG⟩ := id C0
  intro n
  induction n with
  | zero =>
    intro x4 x5 x6 hf
    cases hf
  | succ n ih =>
    intro x4 x5 x6 hf H locs hI ls hl
    rw [f_X12_unseen_53] at hf
    refine lv_iload hx hb dX12_unseen_53 (lv_at hl 6 rfl) ?_
    refine lv_bipush (v := 9) hx hb dX12_unseen_55 (by decide) ?_
    refine lv_icmp_ge (tgt := 171) hx hb dX12_unseen_57 (by decide) (fun c1 => ?_) (fun c1 => ?_)
    · have hf := ok_t c1 hf
      refine lv_iload_n hx hb dX12_unseen_171 rfl (lv_at hl 3 rfl) ?_
      refine lv_if_ne (tgt := 180) hx hb dX12_unseen_172 (by decide) (fun c2 => ?_) (fun c2 => ?_)
      · have hf := ok_f c2 hf
        refine lv_iload hx hb dX12_unseen_180 (lv_at hl 5 rfl) ?_
        cases hf
        exact z_iret hx hb hr hlk hK hG hI dX12_unseen_182
      · have hf := ok_t c2 hf
        refine lv_iload hx hb dX12_unseen_175 (lv_at hl 4 rfl) ?_
        refine lv_goto (tgt := 182) hx hb dX12_unseen_177 (by decide) ?_
        cases hf
        exact z_iret hx hb hr hlk hK hG hI dX12_unseen_182
    · have hf := ok_f c1 hf
      refine lv_aload_n hx hb dX12_unseen_60 rfl (lv_at hl 0 rfl) ?_
      refine z_get (C := RX12) (T := TX12) (N := 26) (ci := 11) (v := .ref (G.1 + 52)) hx hb hts i_X12_unseen_11 hown hK hI 51 rfl (by decide) rfl 0 (by decide) (hts (.fieldLink RX12 7 "FenceYardsModel" "st" "[I") (by decide +kernel)) (fun _ h9 => h9) rfl dX12_unseen_61 ?_
      refine lv_iconst (v := 3) hx hb dX12_unseen_64 (by decide) ?_
      refine z_iald hx hb hK hI 52 (k := 3) rfl (by decide) (by decide) dX12_unseen_65 ?_
      refine lv_bipush (v := 12) hx hb dX12_unseen_66 (by decide) ?_
      refine lv_icmp_ge (tgt := 171) hx hb dX12_unseen_68 (by decide) (fun c3 => ?_) (fun c3 => ?_)
      · have hf := ok_t c3 hf
        refine lv_iload_n hx hb dX12_unseen_171 rfl (lv_at hl 3 rfl) ?_
        refine lv_if_ne (tgt := 180) hx hb dX12_unseen_172 (by decide) (fun c4 => ?_) (fun c4 => ?_)
        · have hf := ok_f c4 hf
          refine lv_iload hx hb dX12_unseen_180 (lv_at hl 5 rfl) ?_
          cases hf
          exact z_iret hx hb hr hlk hK hG hI dX12_unseen_182
        · have hf := ok_t c4 hf
          refine lv_iload hx hb dX12_unseen_175 (lv_at hl 4 rfl) ?_
          refine lv_goto (tgt := 182) hx hb dX12_unseen_177 (by decide) ?_
          cases hf
          exact z_iret hx hb hr hlk hK hG hI dX12_unseen_182
      · have hf := ok_f c3 hf
        refine lv_aload_n hx hb dX12_unseen_71 rfl (lv_at hl 0 rfl) ?_
        refine z_get (C := RX12) (T := TX12) (N := 26) (ci := 11) (v := .ref (G.1 + 52)) hx hb hts i_X12_unseen_11 hown hK hI 51 rfl (by decide) rfl 0 (by decide) (hts (.fieldLink RX12 7 "FenceYardsModel" "st" "[I") (by decide +kernel)) (fun _ h9 => h9) rfl dX12_unseen_72 ?_
        refine lv_iconst (v := 1) hx hb dX12_unseen_75 (by decide) ?_
        refine z_iald hx hb hK hI 52 (k := 1) rfl (by decide) (by decide) dX12_unseen_76 ?_
        refine lv_iload hx hb dX12_unseen_77 (lv_at hl 6 rfl) ?_
        refine lv_iconst (v := 3) hx hb dX12_unseen_79 (by decide) ?_
        refine lv_idiv hx hb dX12_unseen_80 (by decide) ?_
        refine lv_iadd hx hb dX12_unseen_81 ?_
        refine lv_iconst (v := 1) hx hb dX12_unseen_82 (by decide) ?_
        refine lv_isub hx hb dX12_unseen_83 ?_
        refine lv_topi (fun v1 ev1 => ?_)
        have hf := ok_n hf ev1
        refine lv_istore (lv' := [(7, .int v1), (0, .ref (G.1 + 51)), (1, .int x1), (2, .int x2), (3, .int x3), (4, .int x4), (5, .int x5), (6, .int x6)]) hx hb dX12_unseen_84 hl (by decide) rfl (fun ls hl => ?_)
        refine lv_aload_n hx hb dX12_unseen_86 rfl (lv_at hl 1 rfl) ?_
        refine z_get (C := RX12) (T := TX12) (N := 26) (ci := 11) (v := .ref (G.1 + 52)) hx hb hts i_X12_unseen_11 hown hK hI 51 rfl (by decide) rfl 0 (by decide) (hts (.fieldLink RX12 7 "FenceYardsModel" "st" "[I") (by decide +kernel)) (fun _ h9 => h9) rfl dX12_unseen_87 ?_
        refine lv_iconst (v := 2) hx hb dX12_unseen_90 (by decide) ?_
        refine z_iald hx hb hK hI 52 (k := 2) rfl (by decide) (by decide) dX12_unseen_91 ?_
        refine lv_iload hx hb dX12_unseen_92 (lv_at hl 7 rfl) ?_
        refine lv_iconst (v := 3) hx hb dX12_unseen_94 (by decide) ?_
        refine lv_irem hx hb dX12_unseen_95 (by decide) ?_
        refine lv_iadd hx hb dX12_unseen_96 ?_
        refine lv_iconst (v := 1) hx hb dX12_unseen_97 (by decide) ?_
        refine lv_isub hx hb dX12_unseen_98 ?_
        refine lv_topi (fun v2 ev2 => ?_)
        have hf := ok_n hf ev2
        refine lv_istore (lv' := [(8, .int v2), (7, .int v1), (0, .ref (G.1 + 51)), (1, .int x1), (2, .int x2), (3, .int x3), (4, .int x4), (5, .int x5), (6, .int x6)]) hx hb dX12_unseen_99 hl (by decide) rfl (fun ls hl => ?_)
        refine lv_aload_n hx hb dX12_unseen_101 rfl (lv_at hl 2 rfl) ?_
        refine lv_iconst (v := 0) hx hb dX12_unseen_102 (by decide) ?_
        refine lv_iload hx hb dX12_unseen_103 (lv_at hl 1 rfl) ?_
        obtain ⟨r1, hc1, hf⟩ := ok_1 hf
        refine z_calli0 rfl rfl hI (va_runV (As := [.int 0, .int v1]) (rest := []) ⟨hx, hb, hml, hown, hts⟩ (m_X12_mayBe G l  hc1) (cwV 2 hts gX12_unseen_X12_mayBe rfl rfl rfl (by decide +kernel) ⟨Nat.le_of_ble_eq_true rfl, Nat.le_of_ble_eq_true rfl⟩) (z_preV hK hG hI (z_rc (q := 51) (ci := 11) (n := 0) hK hI rfl (by decide) rfl)) rfl rfl hl.1 rfl (lv_room (Nat.le_of_ble_eq_true rfl)) dX12_unseen_105 ⟨Nat.zero_le _, Nat.zero_le _⟩) (fun H locs hI => ?_)
        refine lv_if_eq (tgt := 165) hx hb dX12_unseen_108 (by decide) (fun c5 => ?_) (fun c5 => ?_)
        · have hf := ok_t c5 hf
          refine lv_iinc (v := x6 + 1) (lv' := [(6, .int (x6 + 1)), (8, .int v2), (7, .int v1), (0, .ref (G.1 + 51)), (1, .int x1), (2, .int x2), (3, .int x3), (4, .int x4), (5, .int x5)]) hx hb dX12_unseen_165 hl (k := 8) rfl rfl (by decide) rfl (fun ls hl => ?_)
          refine lv_goto (tgt := 53) hx hb dX12_unseen_168 (by decide) ?_
          exact ih _ _ _ hf _ _ hI _ (lv_sub hl [3, 4, 5, 6, 7, 8, 0] rfl)
        · have hf := ok_f c5 hf
          refine lv_aload_n hx hb dX12_unseen_111 rfl (lv_at hl 2 rfl) ?_
          refine lv_iconst (v := 1) hx hb dX12_unseen_112 (by decide) ?_
          refine lv_iload hx hb dX12_unseen_113 (lv_at hl 0 rfl) ?_
          obtain ⟨r2, hc2, hf⟩ := ok_1 hf
          refine z_calli0 rfl rfl hI (va_runV (As := [.int 1, .int v2]) (rest := []) ⟨hx, hb, hml, hown, hts⟩ (m_X12_mayBe G l  hc2) (cwV 2 hts gX12_unseen_X12_mayBe rfl rfl rfl (by decide +kernel) ⟨Nat.le_of_ble_eq_true rfl, Nat.le_of_ble_eq_true rfl⟩) (z_preV hK hG hI (z_rc (q := 51) (ci := 11) (n := 0) hK hI rfl (by decide) rfl)) rfl rfl hl.1 rfl (lv_room (Nat.le_of_ble_eq_true rfl)) dX12_unseen_115 ⟨Nat.zero_le _, Nat.zero_le _⟩) (fun H locs hI => ?_)
          refine lv_if_eq (tgt := 165) hx hb dX12_unseen_118 (by decide) (fun c6 => ?_) (fun c6 => ?_)
          · have hf := ok_t c6 hf
            refine lv_iinc (v := x6 + 1) (lv' := [(6, .int (x6 + 1)), (8, .int v2), (7, .int v1), (0, .ref (G.1 + 51)), (1, .int x1), (2, .int x2), (3, .int x3), (4, .int x4), (5, .int x5)]) hx hb dX12_unseen_165 hl (k := 8) rfl rfl (by decide) rfl (fun ls hl => ?_)
            refine lv_goto (tgt := 53) hx hb dX12_unseen_168 (by decide) ?_
            exact ih _ _ _ hf _ _ hI _ (lv_sub hl [3, 4, 5, 6, 7, 8, 0] rfl)
          · have hf := ok_f c6 hf
            refine lv_aload_n hx hb dX12_unseen_121 rfl (lv_at hl 2 rfl) ?_
            refine lv_aload_n hx hb dX12_unseen_122 rfl (lv_at hl 2 rfl) ?_
            refine z_get (C := RX12) (T := TX12) (N := 26) (ci := 11) (v := .ref (G.1 + 52)) hx hb hts i_X12_unseen_11 hown hK hI 51 rfl (by decide) rfl 0 (by decide) (hts (.fieldLink RX12 7 "FenceYardsModel" "st" "[I") (by decide +kernel)) (fun _ h9 => h9) rfl dX12_unseen_123 ?_
            refine lv_iconst (v := 3) hx hb dX12_unseen_126 (by decide) ?_
            refine z_iald hx hb hK hI 52 (k := 3) rfl (by decide) (by decide) dX12_unseen_127 ?_
            refine lv_iload hx hb dX12_unseen_128 (lv_at hl 1 rfl) ?_
            refine lv_iload hx hb dX12_unseen_130 (lv_at hl 0 rfl) ?_
            obtain ⟨r3, hc3, hf⟩ := ok_1 hf
            refine z_calll0 rfl rfl hI (va_runV (As := [.int (gI σ 52 3), .int v1, .int v2]) (rest := []) ⟨hx, hb, hml, hown, hts⟩ (m_X12_gets G l  hc3) (cwV 3 hts gX12_unseen_X12_gets rfl rfl rfl (by decide +kernel) ⟨Nat.le_of_ble_eq_true rfl, Nat.le_of_ble_eq_true rfl⟩) (z_preV hK hG hI (z_rc (q := 51) (ci := 11) (n := 0) hK hI rfl (by decide) rfl)) rfl rfl hl.1 rfl (lv_room (Nat.le_of_ble_eq_true rfl)) dX12_unseen_132 ⟨Nat.zero_le _, Nat.zero_le _⟩) (fun H locs hI => ?_)
            refine lv_iload_n hx hb dX12_unseen_135 rfl (lv_at hl 4 rfl) ?_
            refine lv_i2l hx hb dX12_unseen_136 rfl ?_
            refine lv_lmul hx hb dX12_unseen_137 ?_
            refine lv_iload_n hx hb dX12_unseen_138 rfl (lv_at hl 3 rfl) ?_
            refine lv_i2l hx hb dX12_unseen_139 rfl ?_
            refine lv_ldc2 (v := 55440) hx hb hown (hts (.constantLong RX12 179 55440) (by decide +kernel)) dX12_unseen_140 ?_
            refine lv_lmul hx hb dX12_unseen_143 ?_
            refine W.lcmp hx hb dX12_unseen_144 ?_
            refine lv_if_ne (tgt := 165) hx hb dX12_unseen_145 (by decide) (fun c7 => ?_) (fun c7 => ?_)
            · have hf := ok_f c7 hf
              refine lv_iinc (v := x6 + 1) (lv' := [(6, .int (x6 + 1)), (8, .int v2), (7, .int v1), (0, .ref (G.1 + 51)), (1, .int x1), (2, .int x2), (3, .int x3), (4, .int x4), (5, .int x5)]) hx hb dX12_unseen_165 hl (k := 8) rfl rfl (by decide) rfl (fun ls hl => ?_)
              refine lv_goto (tgt := 53) hx hb dX12_unseen_168 (by decide) ?_
              exact ih _ _ _ hf _ _ hI _ (lv_sub hl [3, 4, 5, 6, 7, 8, 0] rfl)
            · have hf := ok_t c7 hf
              refine lv_iload hx hb dX12_unseen_148 (lv_at hl 6 rfl) ?_
              refine lv_if_ne (tgt := 158) hx hb dX12_unseen_150 (by decide) (fun c8 => ?_) (fun c8 => ?_)
              · have hf := ok_f c8 hf
                refine lv_iload hx hb dX12_unseen_158 (lv_at hl 7 rfl) ?_
                refine lv_istore (lv' := [(5, .int x5), (8, .int v2), (7, .int v1), (0, .ref (G.1 + 51)), (1, .int x1), (2, .int x2), (3, .int x3), (4, .int x4), (6, .int x6)]) hx hb dX12_unseen_160 hl (by decide) rfl (fun ls hl => ?_)
                refine lv_iinc (v := x4 + 1) (lv' := [(4, .int (x4 + 1)), (5, .int x5), (8, .int v2), (7, .int v1), (0, .ref (G.1 + 51)), (1, .int x1), (2, .int x2), (3, .int x3), (6, .int x6)]) hx hb dX12_unseen_162 hl (k := 7) rfl rfl (by decide) rfl (fun ls hl => ?_)
                refine lv_iinc (v := x6 + 1) (lv' := [(6, .int (x6 + 1)), (4, .int (x4 + 1)), (5, .int x5), (8, .int v2), (7, .int v1), (0, .ref (G.1 + 51)), (1, .int x1), (2, .int x2), (3, .int x3)]) hx hb dX12_unseen_165 hl (k := 8) rfl rfl (by decide) rfl (fun ls hl => ?_)
                refine lv_goto (tgt := 53) hx hb dX12_unseen_168 (by decide) ?_
                exact ih _ _ _ hf _ _ hI _ (lv_sub hl [5, 6, 7, 8, 1, 2, 0] rfl)
              · have hf := ok_t c8 hf
                refine lv_iload hx hb dX12_unseen_153 (lv_at hl 8 rfl) ?_
                refine lv_goto (tgt := 160) hx hb dX12_unseen_155 (by decide) ?_
                refine lv_istore (lv' := [(5, .int x6), (8, .int v2), (7, .int v1), (0, .ref (G.1 + 51)), (1, .int x1), (2, .int x2), (3, .int x3), (4, .int x4), (6, .int x6)]) hx hb dX12_unseen_160 hl (by decide) rfl (fun ls hl => ?_)
                refine lv_iinc (v := x4 + 1) (lv' := [(4, .int (x4 + 1)), (5, .int x6), (8, .int v2), (7, .int v1), (0, .ref (G.1 + 51)), (1, .int x1), (2, .int x2), (3, .int x3), (6, .int x6)]) hx hb dX12_unseen_162 hl (k := 7) rfl rfl (by decide) rfl (fun ls hl => ?_)
                refine lv_iinc (v := x6 + 1) (lv' := [(6, .int (x6 + 1)), (4, .int (x4 + 1)), (5, .int x6), (8, .int v2), (7, .int v1), (0, .ref (G.1 + 51)), (1, .int x1), (2, .int x2), (3, .int x3)]) hx hb dX12_unseen_165 hl (k := 8) rfl rfl (by decide) rfl (fun ls hl => ?_)
                refine lv_goto (tgt := 53) hx hb dX12_unseen_168 (by decide) ?_
                exact ih _ _ _ hf _ _ hI _ (lv_sub hl [5, 6, 7, 8, 1, 2, 0] rfl)

set_option maxRecDepth 100000 in
set_option maxHeartbeats 4000000 in
theorem m_X12_unseen (G : GT) (l : Launch) {σ : Hp} {x1 : Int32} {x2 : Int32} {x3 : Int32} {r : Int32}  (hf : f_X12_unseen σ x1 x2 x3 = some r) : MetG G l yX12_unseen wsX12_unseen (rmk 3 73) σ [.ref (G.1 + 51), .int x1, .int x2, .int x3] (QI G σ r) := by
  refine met_of (cc := cX12_unseen) (nL := 9) (ret := (some .int)) (by decide) rfl (Nat.le_of_ble_eq_true rfl) ?_
  intro p e s m below meth c C0 hnm hI ls hl
  obtain ⟨hx, hb, hr, hml, hown, hts, hlk, hK, hG⟩ := id C0
  have hl : lv_has ls 9 [(0, .ref (G.1 + 51)), (1, .int x1), (2, .int x2), (3, .int x3)] := hl
  unfold f_X12_unseen at hf
  refine lv_aload_n hx hb dX12_unseen_0 rfl (lv_at hl 0 rfl) ?_
  obtain ⟨r1, hc1, hf⟩ := ok_1 hf
  refine z_calli0 rfl rfl hI (va_runV (As := []) (rest := []) ⟨hx, hb, hml, hown, hts⟩ (m_X12_isGround G l  hc1) (cwV 0 hts gX12_unseen_X12_isGround rfl rfl rfl (by decide +kernel) ⟨Nat.le_of_ble_eq_true rfl, Nat.le_of_ble_eq_true rfl⟩) (z_preV hK hG hI (z_rc (q := 51) (ci := 11) (n := 0) hK hI rfl (by decide) rfl)) rfl rfl hl.1 rfl (lv_room (Nat.le_of_ble_eq_true rfl)) dX12_unseen_1 ⟨Nat.zero_le _, Nat.zero_le _⟩) (fun H locs hI => ?_)
  refine lv_if_ne (tgt := 10) hx hb dX12_unseen_4 (by decide) (fun c1 => ?_) (fun c1 => ?_)
  · have hf := ok_f c1 hf
    refine lv_iload_n hx hb dX12_unseen_10 rfl (lv_at hl 1 rfl) ?_
    refine lv_iconst (v := 0) hx hb dX12_unseen_11 (by decide) ?_
    refine lv_sipush (v := 9999) hx hb dX12_unseen_12 (by decide) ?_
    obtain ⟨r2, hc2, hf⟩ := ok_1 hf
    refine z_calli0 rfl rfl hI (va_runS (As := [.int x1, .int 0, .int 9999]) (rest := []) ⟨hx, hb, hml, hown, hts⟩ (m_X12_in G l  hc2) (va_cwS 3 hts gX12_unseen_X12_in rfl rfl rfl (by decide +kernel) ⟨Nat.le_of_ble_eq_true rfl, Nat.le_of_ble_eq_true rfl⟩) (z_pre hK hG hI) rfl rfl hl.1 rfl (lv_room (Nat.le_of_ble_eq_true rfl)) dX12_unseen_15 ⟨Nat.zero_le _, Nat.zero_le _⟩) (fun H locs hI => ?_)
    refine lv_if_eq (tgt := 40) hx hb dX12_unseen_18 (by decide) (fun c2 => ?_) (fun c2 => ?_)
    · have hf := ok_t c2 hf
      refine lv_ldc (v := (-1000001)) hx hb hown (hts (.constant RX12 71 (-1000001)) (by decide +kernel)) dX12_unseen_40 ?_
      cases hf
      exact z_iret hx hb hr hlk hK hG hI dX12_unseen_42
    · have hf := ok_f c2 hf
      refine lv_iload_n hx hb dX12_unseen_21 rfl (lv_at hl 2 rfl) ?_
      refine lv_iconst (v := 1) hx hb dX12_unseen_22 (by decide) ?_
      refine lv_bipush (v := 99) hx hb dX12_unseen_23 (by decide) ?_
      obtain ⟨r3, hc3, hf⟩ := ok_1 hf
      refine z_calli0 rfl rfl hI (va_runS (As := [.int x2, .int 1, .int 99]) (rest := []) ⟨hx, hb, hml, hown, hts⟩ (m_X12_in G l  hc3) (va_cwS 3 hts gX12_unseen_X12_in rfl rfl rfl (by decide +kernel) ⟨Nat.le_of_ble_eq_true rfl, Nat.le_of_ble_eq_true rfl⟩) (z_pre hK hG hI) rfl rfl hl.1 rfl (lv_room (Nat.le_of_ble_eq_true rfl)) dX12_unseen_25 ⟨Nat.zero_le _, Nat.zero_le _⟩) (fun H locs hI => ?_)
      refine lv_if_eq (tgt := 40) hx hb dX12_unseen_28 (by decide) (fun c3 => ?_) (fun c3 => ?_)
      · have hf := ok_t c3 hf
        refine lv_ldc (v := (-1000001)) hx hb hown (hts (.constant RX12 71 (-1000001)) (by decide +kernel)) dX12_unseen_40 ?_
        cases hf
        exact z_iret hx hb hr hlk hK hG hI dX12_unseen_42
      · have hf := ok_f c3 hf
        refine lv_iload_n hx hb dX12_unseen_31 rfl (lv_at hl 3 rfl) ?_
        refine lv_iconst (v := 0) hx hb dX12_unseen_32 (by decide) ?_
        refine lv_iconst (v := 1) hx hb dX12_unseen_33 (by decide) ?_
        obtain ⟨r4, hc4, hf⟩ := ok_1 hf
        refine z_calli0 rfl rfl hI (va_runS (As := [.int x3, .int 0, .int 1]) (rest := []) ⟨hx, hb, hml, hown, hts⟩ (m_X12_in G l  hc4) (va_cwS 3 hts gX12_unseen_X12_in rfl rfl rfl (by decide +kernel) ⟨Nat.le_of_ble_eq_true rfl, Nat.le_of_ble_eq_true rfl⟩) (z_pre hK hG hI) rfl rfl hl.1 rfl (lv_room (Nat.le_of_ble_eq_true rfl)) dX12_unseen_34 ⟨Nat.zero_le _, Nat.zero_le _⟩) (fun H locs hI => ?_)
        refine lv_if_ne (tgt := 43) hx hb dX12_unseen_37 (by decide) (fun c4 => ?_) (fun c4 => ?_)
        · have hf := ok_f c4 hf
          refine lv_iconst (v := 0) hx hb dX12_unseen_43 (by decide) ?_
          refine lv_istore (lv' := [(4, .int 0), (0, .ref (G.1 + 51)), (1, .int x1), (2, .int x2), (3, .int x3)]) hx hb dX12_unseen_44 hl (by decide) rfl (fun ls hl => ?_)
          refine lv_ldc (v := (-1000000)) hx hb hown (hts (.constant RX12 57 (-1000000)) (by decide +kernel)) dX12_unseen_46 ?_
          refine lv_istore (lv' := [(5, .int (-1000000)), (4, .int 0), (0, .ref (G.1 + 51)), (1, .int x1), (2, .int x2), (3, .int x3)]) hx hb dX12_unseen_48 hl (by decide) rfl (fun ls hl => ?_)
          refine lv_iconst (v := 0) hx hb dX12_unseen_50 (by decide) ?_
          refine lv_istore (lv' := [(6, .int 0), (5, .int (-1000000)), (4, .int 0), (0, .ref (G.1 + 51)), (1, .int x1), (2, .int x2), (3, .int x3)]) hx hb dX12_unseen_51 hl (by decide) rfl (fun ls hl => ?_)
          exact w_X12_unseen_53  C0  _ _ _ _ hf _ _ hI _ (lv_sub hl [3, 4, 5, 6, 2, 1, 0] rfl)
        · have hf := ok_t c4 hf
          refine lv_ldc (v := (-1000001)) hx hb hown (hts (.constant RX12 71 (-1000001)) (by decide +kernel)) dX12_unseen_40 ?_
          cases hf
          exact z_iret hx hb hr hlk hK hG hI dX12_unseen_42
  · have hf := ok_t c1 hf
    refine lv_ldc (v := (-1000002)) hx hb hown (hts (.constant RX12 200 (-1000002)) (by decide +kernel)) dX12_unseen_7 ?_
    cases hf
    exact z_iret hx hb hr hlk hK hG hI dX12_unseen_9

-- ===== FenceYardsModel.leastBy(III)I
def f_X12_leastBy_6   (σ : Hp) (x1 : Int32) (x3 : Int32) : Nat → Int32 → Int32 → Option (Int32)
  | 0, _, _ => none
  | n + 1, x4, x5 =>
    if x3 ≤ x5 then (some x4) else (bd1 (f_X12_mayBe σ x1 (x4 - 1)) fun r1 => if r1 = 0 then (f_X12_leastBy_6 σ x1 x3 n x4 (x5 + 1)) else (bnd (x4 - 1) fun v1 => f_X12_leastBy_6 σ x1 x3 n v1 (x5 + 1)))
def f_X12_leastBy (σ : Hp) (x1 : Int32) (x2 : Int32) (x3 : Int32) : Option (Int32) :=
  f_X12_leastBy_6 σ x1 x3 fu x2 0
set_option maxRecDepth 100000 in
set_option maxHeartbeats 4000000 in
theorem w_X12_leastBy_6 {G : GT} {p : Program} {l : Launch} {e : Env} {s : State} {m : MethodId} {args : Array Value} {below : List Frame} {meth : Method} {c : Code}  {r : Int32}  {σ : Hp} {x1 : Int32} {x3 : Int32}  (C0 : Cx G cX12_leastBy RX12 wsX12_leastBy 6 (some .int) p s m args meth c)  :
    ∀ (n : Nat) (x4 : Int32) (x5 : Int32), f_X12_leastBy_6 σ x1 x3 n x4 x5 = some r → ∀ (H : Heap) (locs : List Loc), Inv G s σ H locs → ∀ ls : Array Slot, lv_has ls 6 [(0, .ref (G.1 + 51)), (1, .int x1), (3, .int x3), (4, .int x4), (5, .int x5)] → W p l e (rmk 2 46) s m args below meth c H locs 0 0 (MQ below (QI G σ r) args s (rmk 2 46).cells (rmk 2 46).slots (gA G)) (F0 m 6 ls []) := by
  obtain ⟨hx, hb, hr, hml, hown, hts, hlk, hK, hG⟩ := id C0
  intro n
  induction n with
  | zero =>
    intro x4 x5 hf
    cases hf
  | succ n ih =>
    intro x4 x5 hf H locs hI ls hl
    rw [f_X12_leastBy_6] at hf
    refine lv_iload hx hb dX12_leastBy_6 (lv_at hl 4 rfl) ?_
    refine lv_iload_n hx hb dX12_leastBy_8 rfl (lv_at hl 2 rfl) ?_
    refine lv_icmp_ge (tgt := 41) hx hb dX12_leastBy_9 (by decide) (fun c1 => ?_) (fun c1 => ?_)
    · have hf := ok_t c1 hf
      refine lv_iload hx hb dX12_leastBy_41 (lv_at hl 3 rfl) ?_
      cases hf
      exact z_iret hx hb hr hlk hK hG hI dX12_leastBy_43
    · have hf := ok_f c1 hf
      refine lv_aload_n hx hb dX12_leastBy_12 rfl (lv_at hl 0 rfl) ?_
      refine lv_iload_n hx hb dX12_leastBy_13 rfl (lv_at hl 1 rfl) ?_
      refine lv_iload hx hb dX12_leastBy_14 (lv_at hl 3 rfl) ?_
      refine lv_iconst (v := 1) hx hb dX12_leastBy_16 (by decide) ?_
      refine lv_isub hx hb dX12_leastBy_17 ?_
      obtain ⟨r1, hc1, hf⟩ := ok_1 hf
      refine z_calli0 rfl rfl hI (va_runV (As := [.int x1, .int (x4 - 1)]) (rest := []) ⟨hx, hb, hml, hown, hts⟩ (m_X12_mayBe G l  hc1) (cwV 2 hts gX12_leastBy_X12_mayBe rfl rfl rfl (by decide +kernel) ⟨Nat.le_of_ble_eq_true rfl, Nat.le_of_ble_eq_true rfl⟩) (z_preV hK hG hI (z_rc (q := 51) (ci := 11) (n := 0) hK hI rfl (by decide) rfl)) rfl rfl hl.1 rfl (lv_room (Nat.le_of_ble_eq_true rfl)) dX12_leastBy_18 ⟨Nat.zero_le _, Nat.zero_le _⟩) (fun H locs hI => ?_)
      refine lv_if_eq (tgt := 31) hx hb dX12_leastBy_21 (by decide) (fun c2 => ?_) (fun c2 => ?_)
      · have hf := ok_t c2 hf
        refine lv_iload hx hb dX12_leastBy_31 (lv_at hl 3 rfl) ?_
        refine lv_istore (lv' := [(4, .int x4), (0, .ref (G.1 + 51)), (1, .int x1), (3, .int x3), (5, .int x5)]) hx hb dX12_leastBy_33 hl (by decide) rfl (fun ls hl => ?_)
        refine lv_iinc (v := x5 + 1) (lv' := [(5, .int (x5 + 1)), (4, .int x4), (0, .ref (G.1 + 51)), (1, .int x1), (3, .int x3)]) hx hb dX12_leastBy_35 hl (k := 4) rfl rfl (by decide) rfl (fun ls hl => ?_)
        refine lv_goto (tgt := 6) hx hb dX12_leastBy_38 (by decide) ?_
        exact ih _ _ hf _ _ hI _ (lv_sub hl [2, 3, 4, 1, 0] rfl)
      · have hf := ok_f c2 hf
        refine lv_iload hx hb dX12_leastBy_24 (lv_at hl 3 rfl) ?_
        refine lv_iconst (v := 1) hx hb dX12_leastBy_26 (by decide) ?_
        refine lv_isub hx hb dX12_leastBy_27 ?_
        refine lv_goto (tgt := 33) hx hb dX12_leastBy_28 (by decide) ?_
        refine lv_topi (fun v1 ev1 => ?_)
        have hf := ok_n hf ev1
        refine lv_istore (lv' := [(4, .int v1), (0, .ref (G.1 + 51)), (1, .int x1), (3, .int x3), (5, .int x5)]) hx hb dX12_leastBy_33 hl (by decide) rfl (fun ls hl => ?_)
        refine lv_iinc (v := x5 + 1) (lv' := [(5, .int (x5 + 1)), (4, .int v1), (0, .ref (G.1 + 51)), (1, .int x1), (3, .int x3)]) hx hb dX12_leastBy_35 hl (k := 4) rfl rfl (by decide) rfl (fun ls hl => ?_)
        refine lv_goto (tgt := 6) hx hb dX12_leastBy_38 (by decide) ?_
        exact ih _ _ hf _ _ hI _ (lv_sub hl [2, 3, 4, 1, 0] rfl)

set_option maxRecDepth 100000 in
set_option maxHeartbeats 4000000 in
theorem m_X12_leastBy (G : GT) (l : Launch) {σ : Hp} {x1 : Int32} {x2 : Int32} {x3 : Int32} {r : Int32}  (hf : f_X12_leastBy σ x1 x2 x3 = some r) : MetG G l yX12_leastBy wsX12_leastBy (rmk 2 46) σ [.ref (G.1 + 51), .int x1, .int x2, .int x3] (QI G σ r) := by
  refine met_of (cc := cX12_leastBy) (nL := 6) (ret := (some .int)) (by decide) rfl (Nat.le_of_ble_eq_true rfl) ?_
  intro p e s m below meth c C0 hnm hI ls hl
  obtain ⟨hx, hb, hr, hml, hown, hts, hlk, hK, hG⟩ := id C0
  have hl : lv_has ls 6 [(0, .ref (G.1 + 51)), (1, .int x1), (2, .int x2), (3, .int x3)] := hl
  unfold f_X12_leastBy at hf
  refine lv_iload_n hx hb dX12_leastBy_0 rfl (lv_at hl 2 rfl) ?_
  refine lv_istore (lv' := [(4, .int x2), (0, .ref (G.1 + 51)), (1, .int x1), (2, .int x2), (3, .int x3)]) hx hb dX12_leastBy_1 hl (by decide) rfl (fun ls hl => ?_)
  refine lv_iconst (v := 0) hx hb dX12_leastBy_3 (by decide) ?_
  refine lv_istore (lv' := [(5, .int 0), (4, .int x2), (0, .ref (G.1 + 51)), (1, .int x1), (2, .int x2), (3, .int x3)]) hx hb dX12_leastBy_4 hl (by decide) rfl (fun ls hl => ?_)
  exact w_X12_leastBy_6  C0  _ _ _ hf _ _ hI _ (lv_sub hl [2, 3, 5, 1, 0] rfl)

-- ===== FenceYardsModel.sure(I)I
set_option maxRecDepth 100000 in
theorem i_X12_sure_11 : ∀ w ∈ u_ws RX12 TX12 26, w ∈ wsX12_sure := by decide +kernel
def f_X12_sure_55   (σ : Hp) (x2 : Int32) (x3 : Int32) : Nat → Int32 → Int32 → Option (Int32)
  | 0, _, _ => none
  | n + 1, x4, x5 =>
    if 12 ≤ x5 then (some x4) else (if x2 ≤ x5 then (bnd (x4 ||| 0) fun v1 => f_X12_sure_55 σ x2 x3 n v1 (x5 + 1)) else (if x3 ≤ x5 then (bnd (x4 ||| 0) fun v2 => f_X12_sure_55 σ x2 x3 n v2 (x5 + 1)) else (bnd (x4 ||| (1 <<< (x5 &&& 31))) fun v3 => f_X12_sure_55 σ x2 x3 n v3 (x5 + 1))))
def f_X12_sure (σ : Hp) (x1 : Int32) : Option (Int32) :=
  bd1 (f_X12_isGround σ) fun r1 => if r1 = 0 then (some (-1000002)) else (bd1 (f_X12_in σ x1 1 12) fun r2 => if r2 = 0 then (some (-1000001)) else (bd1 (f_X12_leastBy σ 0 (gI σ 52 1) x1) fun r3 => bd1 (f_X12_leastBy σ 1 (gI σ 52 2) x1) fun r4 => f_X12_sure_55 σ r3 r4 fu 0 0))
set_option maxRecDepth 100000 in
set_option maxHeartbeats 4000000 in
theorem w_X12_sure_55 {G : GT} {p : Program} {l : Launch} {e : Env} {s : State} {m : MethodId} {args : Array Value} {below : List Frame} {meth : Method} {c : Code}  {r : Int32}  {σ : Hp} {x2 : Int32} {x3 : Int32}  (C0 : Cx G cX12_sure RX12 wsX12_sure 6 (some .int) p s m args meth c)  :
    ∀ (n : Nat) (x4 : Int32) (x5 : Int32), f_X12_sure_55 σ x2 x3 n x4 x5 = some r → ∀ (H : Heap) (locs : List Loc), Inv G s σ H locs → ∀ ls : Array Slot, lv_has ls 6 [(2, .int x2), (3, .int x3), (4, .int x4), (5, .int x5)] → W p l e (rmk 3 71) s m args below meth c H locs 0 0 (MQ below (QI G σ r) args s (rmk 3 71).cells (rmk 3 71).slots (gA G)) (F0 m 55 ls []) := by
  obtain ⟨hx, hb, hr, hml, hown, hts, hlk, hK, hG⟩ := id C0
  intro n
  induction n with
  | zero =>
    intro x4 x5 hf
    cases hf
  | succ n ih =>
    intro x4 x5 hf H locs hI ls hl
    rw [f_X12_sure_55] at hf
    refine lv_iload hx hb dX12_sure_55 (lv_at hl 3 rfl) ?_
    refine lv_bipush (v := 12) hx hb dX12_sure_57 (by decide) ?_
    refine lv_icmp_ge (tgt := 93) hx hb dX12_sure_59 (by decide) (fun c1 => ?_) (fun c1 => ?_)
    · have hf := ok_t c1 hf
      refine lv_iload hx hb dX12_sure_93 (lv_at hl 2 rfl) ?_
      cases hf
      exact z_iret hx hb hr hlk hK hG hI dX12_sure_95
    · have hf := ok_f c1 hf
      refine lv_iload hx hb dX12_sure_62 (lv_at hl 2 rfl) ?_
      refine lv_iload hx hb dX12_sure_64 (lv_at hl 3 rfl) ?_
      refine lv_iload_n hx hb dX12_sure_66 rfl (lv_at hl 0 rfl) ?_
      refine lv_icmp_ge (tgt := 83) hx hb dX12_sure_67 (by decide) (fun c2 => ?_) (fun c2 => ?_)
      · have hf := ok_t c2 hf
        refine lv_iconst (v := 0) hx hb dX12_sure_83 (by decide) ?_
        refine lv_ior hx hb dX12_sure_84 ?_
        refine lv_topi (fun v1 ev1 => ?_)
        have hf := ok_n hf ev1
        refine lv_istore (lv' := [(4, .int v1), (2, .int x2), (3, .int x3), (5, .int x5)]) hx hb dX12_sure_85 hl (by decide) rfl (fun ls hl => ?_)
        refine lv_iinc (v := x5 + 1) (lv' := [(5, .int (x5 + 1)), (4, .int v1), (2, .int x2), (3, .int x3)]) hx hb dX12_sure_87 hl (k := 3) rfl rfl (by decide) rfl (fun ls hl => ?_)
        refine lv_goto (tgt := 55) hx hb dX12_sure_90 (by decide) ?_
        exact ih _ _ hf _ _ hI _ (lv_sub hl [2, 3, 1, 0] rfl)
      · have hf := ok_f c2 hf
        refine lv_iload hx hb dX12_sure_70 (lv_at hl 3 rfl) ?_
        refine lv_iload_n hx hb dX12_sure_72 rfl (lv_at hl 1 rfl) ?_
        refine lv_icmp_ge (tgt := 83) hx hb dX12_sure_73 (by decide) (fun c3 => ?_) (fun c3 => ?_)
        · have hf := ok_t c3 hf
          refine lv_iconst (v := 0) hx hb dX12_sure_83 (by decide) ?_
          refine lv_ior hx hb dX12_sure_84 ?_
          refine lv_topi (fun v2 ev2 => ?_)
          have hf := ok_n hf ev2
          refine lv_istore (lv' := [(4, .int v2), (2, .int x2), (3, .int x3), (5, .int x5)]) hx hb dX12_sure_85 hl (by decide) rfl (fun ls hl => ?_)
          refine lv_iinc (v := x5 + 1) (lv' := [(5, .int (x5 + 1)), (4, .int v2), (2, .int x2), (3, .int x3)]) hx hb dX12_sure_87 hl (k := 3) rfl rfl (by decide) rfl (fun ls hl => ?_)
          refine lv_goto (tgt := 55) hx hb dX12_sure_90 (by decide) ?_
          exact ih _ _ hf _ _ hI _ (lv_sub hl [2, 3, 1, 0] rfl)
        · have hf := ok_f c3 hf
          refine lv_iconst (v := 1) hx hb dX12_sure_76 (by decide) ?_
          refine lv_iload hx hb dX12_sure_77 (lv_at hl 3 rfl) ?_
          refine lv_ishl hx hb dX12_sure_79 ?_
          refine lv_goto (tgt := 84) hx hb dX12_sure_80 (by decide) ?_
          refine lv_ior hx hb dX12_sure_84 ?_
          refine lv_topi (fun v3 ev3 => ?_)
          have hf := ok_n hf ev3
          refine lv_istore (lv' := [(4, .int v3), (2, .int x2), (3, .int x3), (5, .int x5)]) hx hb dX12_sure_85 hl (by decide) rfl (fun ls hl => ?_)
          refine lv_iinc (v := x5 + 1) (lv' := [(5, .int (x5 + 1)), (4, .int v3), (2, .int x2), (3, .int x3)]) hx hb dX12_sure_87 hl (k := 3) rfl rfl (by decide) rfl (fun ls hl => ?_)
          refine lv_goto (tgt := 55) hx hb dX12_sure_90 (by decide) ?_
          exact ih _ _ hf _ _ hI _ (lv_sub hl [2, 3, 1, 0] rfl)

set_option maxRecDepth 100000 in
set_option maxHeartbeats 4000000 in
theorem m_X12_sure (G : GT) (l : Launch) {σ : Hp} {x1 : Int32} {r : Int32}  (hf : f_X12_sure σ x1 = some r) : MetG G l yX12_sure wsX12_sure (rmk 3 71) σ [.ref (G.1 + 51), .int x1] (QI G σ r) := by
  refine met_of (cc := cX12_sure) (nL := 6) (ret := (some .int)) (by decide) rfl (Nat.le_of_ble_eq_true rfl) ?_
  intro p e s m below meth c C0 hnm hI ls hl
  obtain ⟨hx, hb, hr, hml, hown, hts, hlk, hK, hG⟩ := id C0
  have hl : lv_has ls 6 [(0, .ref (G.1 + 51)), (1, .int x1)] := hl
  unfold f_X12_sure at hf
  refine lv_aload_n hx hb dX12_sure_0 rfl (lv_at hl 0 rfl) ?_
  obtain ⟨r1, hc1, hf⟩ := ok_1 hf
  refine z_calli0 rfl rfl hI (va_runV (As := []) (rest := []) ⟨hx, hb, hml, hown, hts⟩ (m_X12_isGround G l  hc1) (cwV 0 hts gX12_sure_X12_isGround rfl rfl rfl (by decide +kernel) ⟨Nat.le_of_ble_eq_true rfl, Nat.le_of_ble_eq_true rfl⟩) (z_preV hK hG hI (z_rc (q := 51) (ci := 11) (n := 0) hK hI rfl (by decide) rfl)) rfl rfl hl.1 rfl (lv_room (Nat.le_of_ble_eq_true rfl)) dX12_sure_1 ⟨Nat.zero_le _, Nat.zero_le _⟩) (fun H locs hI => ?_)
  refine lv_if_ne (tgt := 10) hx hb dX12_sure_4 (by decide) (fun c1 => ?_) (fun c1 => ?_)
  · have hf := ok_f c1 hf
    refine lv_iload_n hx hb dX12_sure_10 rfl (lv_at hl 1 rfl) ?_
    refine lv_iconst (v := 1) hx hb dX12_sure_11 (by decide) ?_
    refine lv_bipush (v := 12) hx hb dX12_sure_12 (by decide) ?_
    obtain ⟨r2, hc2, hf⟩ := ok_1 hf
    refine z_calli0 rfl rfl hI (va_runS (As := [.int x1, .int 1, .int 12]) (rest := []) ⟨hx, hb, hml, hown, hts⟩ (m_X12_in G l  hc2) (va_cwS 3 hts gX12_sure_X12_in rfl rfl rfl (by decide +kernel) ⟨Nat.le_of_ble_eq_true rfl, Nat.le_of_ble_eq_true rfl⟩) (z_pre hK hG hI) rfl rfl hl.1 rfl (lv_room (Nat.le_of_ble_eq_true rfl)) dX12_sure_14 ⟨Nat.zero_le _, Nat.zero_le _⟩) (fun H locs hI => ?_)
    refine lv_if_ne (tgt := 23) hx hb dX12_sure_17 (by decide) (fun c2 => ?_) (fun c2 => ?_)
    · have hf := ok_f c2 hf
      refine lv_aload_n hx hb dX12_sure_23 rfl (lv_at hl 0 rfl) ?_
      refine lv_iconst (v := 0) hx hb dX12_sure_24 (by decide) ?_
      refine lv_aload_n hx hb dX12_sure_25 rfl (lv_at hl 0 rfl) ?_
      refine z_get (C := RX12) (T := TX12) (N := 26) (ci := 11) (v := .ref (G.1 + 52)) hx hb hts i_X12_sure_11 hown hK hI 51 rfl (by decide) rfl 0 (by decide) (hts (.fieldLink RX12 7 "FenceYardsModel" "st" "[I") (by decide +kernel)) (fun _ h9 => h9) rfl dX12_sure_26 ?_
      refine lv_iconst (v := 1) hx hb dX12_sure_29 (by decide) ?_
      refine z_iald hx hb hK hI 52 (k := 1) rfl (by decide) (by decide) dX12_sure_30 ?_
      refine lv_iload_n hx hb dX12_sure_31 rfl (lv_at hl 1 rfl) ?_
      obtain ⟨r3, hc3, hf⟩ := ok_1 hf
      refine z_calli0 rfl rfl hI (va_runV (As := [.int 0, .int (gI σ 52 1), .int x1]) (rest := []) ⟨hx, hb, hml, hown, hts⟩ (m_X12_leastBy G l  hc3) (cwV 3 hts gX12_sure_X12_leastBy rfl rfl rfl (by decide +kernel) ⟨Nat.le_of_ble_eq_true rfl, Nat.le_of_ble_eq_true rfl⟩) (z_preV hK hG hI (z_rc (q := 51) (ci := 11) (n := 0) hK hI rfl (by decide) rfl)) rfl rfl hl.1 rfl (lv_room (Nat.le_of_ble_eq_true rfl)) dX12_sure_32 ⟨Nat.zero_le _, Nat.zero_le _⟩) (fun H locs hI => ?_)
      refine lv_istore_n (lv' := [(2, .int r3), (0, .ref (G.1 + 51)), (1, .int x1)]) hx hb dX12_sure_35 rfl hl (by decide) rfl (fun ls hl => ?_)
      refine lv_aload_n hx hb dX12_sure_36 rfl (lv_at hl 1 rfl) ?_
      refine lv_iconst (v := 1) hx hb dX12_sure_37 (by decide) ?_
      refine lv_aload_n hx hb dX12_sure_38 rfl (lv_at hl 1 rfl) ?_
      refine z_get (C := RX12) (T := TX12) (N := 26) (ci := 11) (v := .ref (G.1 + 52)) hx hb hts i_X12_sure_11 hown hK hI 51 rfl (by decide) rfl 0 (by decide) (hts (.fieldLink RX12 7 "FenceYardsModel" "st" "[I") (by decide +kernel)) (fun _ h9 => h9) rfl dX12_sure_39 ?_
      refine lv_iconst (v := 2) hx hb dX12_sure_42 (by decide) ?_
      refine z_iald hx hb hK hI 52 (k := 2) rfl (by decide) (by decide) dX12_sure_43 ?_
      refine lv_iload_n hx hb dX12_sure_44 rfl (lv_at hl 2 rfl) ?_
      obtain ⟨r4, hc4, hf⟩ := ok_1 hf
      refine z_calli0 rfl rfl hI (va_runV (As := [.int 1, .int (gI σ 52 2), .int x1]) (rest := []) ⟨hx, hb, hml, hown, hts⟩ (m_X12_leastBy G l  hc4) (cwV 3 hts gX12_sure_X12_leastBy rfl rfl rfl (by decide +kernel) ⟨Nat.le_of_ble_eq_true rfl, Nat.le_of_ble_eq_true rfl⟩) (z_preV hK hG hI (z_rc (q := 51) (ci := 11) (n := 0) hK hI rfl (by decide) rfl)) rfl rfl hl.1 rfl (lv_room (Nat.le_of_ble_eq_true rfl)) dX12_sure_45 ⟨Nat.zero_le _, Nat.zero_le _⟩) (fun H locs hI => ?_)
      refine lv_istore_n (lv' := [(3, .int r4), (2, .int r3), (0, .ref (G.1 + 51)), (1, .int x1)]) hx hb dX12_sure_48 rfl hl (by decide) rfl (fun ls hl => ?_)
      refine lv_iconst (v := 0) hx hb dX12_sure_49 (by decide) ?_
      refine lv_istore (lv' := [(4, .int 0), (3, .int r4), (2, .int r3), (0, .ref (G.1 + 51)), (1, .int x1)]) hx hb dX12_sure_50 hl (by decide) rfl (fun ls hl => ?_)
      refine lv_iconst (v := 0) hx hb dX12_sure_52 (by decide) ?_
      refine lv_istore (lv' := [(5, .int 0), (4, .int 0), (3, .int r4), (2, .int r3), (0, .ref (G.1 + 51)), (1, .int x1)]) hx hb dX12_sure_53 hl (by decide) rfl (fun ls hl => ?_)
      exact w_X12_sure_55  C0  _ _ _ hf _ _ hI _ (lv_sub hl [3, 2, 1, 0] rfl)
    · have hf := ok_t c2 hf
      refine lv_ldc (v := (-1000001)) hx hb hown (hts (.constant RX12 71 (-1000001)) (by decide +kernel)) dX12_sure_20 ?_
      cases hf
      exact z_iret hx hb hr hlk hK hG hI dX12_sure_22
  · have hf := ok_t c1 hf
    refine lv_ldc (v := (-1000002)) hx hb hown (hts (.constant RX12 200 (-1000002)) (by decide +kernel)) dX12_sure_7 ?_
    cases hf
    exact z_iret hx hb hr hlk hK hG hI dX12_sure_9

-- ===== FenceYardsModel.image(I)I
set_option maxRecDepth 100000 in
theorem i_X12_image_11 : ∀ w ∈ u_ws RX12 TX12 26, w ∈ wsX12_image := by decide +kernel
def f_X12_image_24    (x1 : Int32) : Nat → Hp → Int32 → Option (Hp × Int32)
  | 0, _, _ => none
  | n + 1, σ, x2 =>
    if 78 ≤ x2 then (chk (inb x1 2) <| some (sI σ 54 (x1.toNatClampNeg) (vp_nar .boolean 1), 1)) else (chk (inb x2 78) <| chk (inb ((78 * x1) + x2) 156) <| bnd (sI σ 53 (((78 * x1) + x2).toNatClampNeg) (gI σ 52 (x2.toNatClampNeg))) fun s1 => f_X12_image_24 x1 n s1 (x2 + 1))
def f_X12_image (σ : Hp) (x1 : Int32) : Option (Hp × Int32) :=
  bd1 (f_X12_in σ x1 0 1) fun r1 => if r1 = 0 then (some (σ, (-1000001))) else (bd1 (f_X12_isGround σ) fun r2 => if r2 = 0 then (some (σ, (-1000002))) else (f_X12_image_24 x1 fu σ 0))
set_option maxRecDepth 100000 in
set_option maxHeartbeats 4000000 in
theorem w_X12_image_24 {G : GT} {p : Program} {l : Launch} {e : Env} {s : State} {m : MethodId} {args : Array Value} {below : List Frame} {meth : Method} {c : Code}  {σ' : Hp} {r : Int32}   {x1 : Int32}  (C0 : Cx G cX12_image RX12 wsX12_image 3 (some .int) p s m args meth c)  :
    ∀ (n : Nat) (σ : Hp) (x2 : Int32), f_X12_image_24 x1 n σ x2 = some (σ', r) → ∀ (H : Heap) (locs : List Loc), Inv G s σ H locs → ∀ ls : Array Slot, lv_has ls 3 [(0, .ref (G.1 + 51)), (1, .int x1), (2, .int x2)] → W p l e (rmk 1 22) s m args below meth c H locs 0 0 (MQ below (QI G σ' r) args s (rmk 1 22).cells (rmk 1 22).slots (gA G)) (F0 m 24 ls []) := by
  obtain ⟨hx, hb, hr, hml, hown, hts, hlk, hK, hG⟩ := id C0
  intro n
  induction n with
  | zero =>
    intro σ x2 hf
    cases hf
  | succ n ih =>
    intro σ x2 hf H locs hI ls hl
    rw [f_X12_image_24] at hf
    refine lv_iload_n hx hb dX12_image_24 rfl (lv_at hl 2 rfl) ?_
    refine lv_bipush (v := 78) hx hb dX12_image_25 (by decide) ?_
    refine lv_icmp_ge (tgt := 53) hx hb dX12_image_27 (by decide) (fun c1 => ?_) (fun c1 => ?_)
    · have hf := ok_t c1 hf
      refine lv_aload_n hx hb dX12_image_53 rfl (lv_at hl 0 rfl) ?_
      refine z_get (C := RX12) (T := TX12) (N := 26) (ci := 11) (v := .ref (G.1 + 54)) hx hb hts i_X12_image_11 hown hK hI 51 rfl (by decide) rfl 2 (by decide) (hts (.fieldLink RX12 16 "FenceYardsModel" "isKept" "[Z") (by decide +kernel)) (fun _ h9 => h9) rfl dX12_image_54 ?_
      refine lv_iload_n hx hb dX12_image_57 rfl (lv_at hl 1 rfl) ?_
      refine lv_iconst (v := 1) hx hb dX12_image_58 (by decide) ?_
      obtain ⟨h1, hf⟩ := ok_c hf
      refine z_zast hx hb hK hI 54 (k := x1.toNatClampNeg) rfl h1 rfl dX12_image_59 (fun H locs hI => ?_)
      refine lv_iconst (v := 1) hx hb dX12_image_60 (by decide) ?_
      cases hf
      exact z_iret hx hb hr hlk hK hG hI dX12_image_61
    · have hf := ok_f c1 hf
      refine lv_aload_n hx hb dX12_image_30 rfl (lv_at hl 0 rfl) ?_
      refine z_get (C := RX12) (T := TX12) (N := 26) (ci := 11) (v := .ref (G.1 + 53)) hx hb hts i_X12_image_11 hown hK hI 51 rfl (by decide) rfl 1 (by decide) (hts (.fieldLink RX12 13 "FenceYardsModel" "kept" "[I") (by decide +kernel)) (fun _ h9 => h9) rfl dX12_image_31 ?_
      refine lv_bipush (v := 78) hx hb dX12_image_34 (by decide) ?_
      refine lv_iload_n hx hb dX12_image_36 rfl (lv_at hl 1 rfl) ?_
      refine lv_imul hx hb dX12_image_37 ?_
      refine lv_iload_n hx hb dX12_image_38 rfl (lv_at hl 2 rfl) ?_
      refine lv_iadd hx hb dX12_image_39 ?_
      refine lv_aload_n hx hb dX12_image_40 rfl (lv_at hl 0 rfl) ?_
      refine z_get (C := RX12) (T := TX12) (N := 26) (ci := 11) (v := .ref (G.1 + 52)) hx hb hts i_X12_image_11 hown hK hI 51 rfl (by decide) rfl 0 (by decide) (hts (.fieldLink RX12 7 "FenceYardsModel" "st" "[I") (by decide +kernel)) (fun _ h9 => h9) rfl dX12_image_41 ?_
      refine lv_iload_n hx hb dX12_image_44 rfl (lv_at hl 2 rfl) ?_
      obtain ⟨h2, hf⟩ := ok_c hf
      refine z_iald hx hb hK hI 52 (k := x2.toNatClampNeg) rfl h2 rfl dX12_image_45 ?_
      obtain ⟨h3, hf⟩ := ok_c hf
      refine z_iast hx hb hK hI 53 (k := ((78 * x1) + x2).toNatClampNeg) rfl h3 rfl dX12_image_46 (fun H locs hI => ?_)
      obtain ⟨s1, es1⟩ : ∃ z, z = sI σ 53 (((78 * x1) + x2).toNatClampNeg) (gI σ 52 (x2.toNatClampNeg)) := ⟨_, rfl⟩
      have hI : Inv G s s1 H locs := by rw [es1]; exact hI
      have hf := ok_n hf es1
      refine lv_iinc (v := x2 + 1) (lv' := [(2, .int (x2 + 1)), (0, .ref (G.1 + 51)), (1, .int x1)]) hx hb dX12_image_47 hl (k := 2) rfl rfl (by decide) rfl (fun ls hl => ?_)
      refine lv_goto (tgt := 24) hx hb dX12_image_50 (by decide) ?_
      exact ih _ _ hf _ _ hI _ (lv_sub hl [1, 2, 0] rfl)

set_option maxRecDepth 100000 in
set_option maxHeartbeats 4000000 in
theorem m_X12_image (G : GT) (l : Launch) {σ : Hp} {x1 : Int32} {σ' : Hp} {r : Int32}  (hf : f_X12_image σ x1 = some (σ', r)) : MetG G l yX12_image wsX12_image (rmk 1 22) σ [.ref (G.1 + 51), .int x1] (QI G σ' r) := by
  refine met_of (cc := cX12_image) (nL := 3) (ret := (some .int)) (by decide) rfl (Nat.le_of_ble_eq_true rfl) ?_
  intro p e s m below meth c C0 hnm hI ls hl
  obtain ⟨hx, hb, hr, hml, hown, hts, hlk, hK, hG⟩ := id C0
  have hl : lv_has ls 3 [(0, .ref (G.1 + 51)), (1, .int x1)] := hl
  unfold f_X12_image at hf
  refine lv_iload_n hx hb dX12_image_0 rfl (lv_at hl 1 rfl) ?_
  refine lv_iconst (v := 0) hx hb dX12_image_1 (by decide) ?_
  refine lv_iconst (v := 1) hx hb dX12_image_2 (by decide) ?_
  obtain ⟨r1, hc1, hf⟩ := ok_1 hf
  refine z_calli0 rfl rfl hI (va_runS (As := [.int x1, .int 0, .int 1]) (rest := []) ⟨hx, hb, hml, hown, hts⟩ (m_X12_in G l  hc1) (va_cwS 3 hts gX12_image_X12_in rfl rfl rfl (by decide +kernel) ⟨Nat.le_of_ble_eq_true rfl, Nat.le_of_ble_eq_true rfl⟩) (z_pre hK hG hI) rfl rfl hl.1 rfl (lv_room (Nat.le_of_ble_eq_true rfl)) dX12_image_3 ⟨Nat.zero_le _, Nat.zero_le _⟩) (fun H locs hI => ?_)
  refine lv_if_ne (tgt := 12) hx hb dX12_image_6 (by decide) (fun c1 => ?_) (fun c1 => ?_)
  · have hf := ok_f c1 hf
    refine lv_aload_n hx hb dX12_image_12 rfl (lv_at hl 0 rfl) ?_
    obtain ⟨r2, hc2, hf⟩ := ok_1 hf
    refine z_calli0 rfl rfl hI (va_runV (As := []) (rest := []) ⟨hx, hb, hml, hown, hts⟩ (m_X12_isGround G l  hc2) (cwV 0 hts gX12_image_X12_isGround rfl rfl rfl (by decide +kernel) ⟨Nat.le_of_ble_eq_true rfl, Nat.le_of_ble_eq_true rfl⟩) (z_preV hK hG hI (z_rc (q := 51) (ci := 11) (n := 0) hK hI rfl (by decide) rfl)) rfl rfl hl.1 rfl (lv_room (Nat.le_of_ble_eq_true rfl)) dX12_image_13 ⟨Nat.zero_le _, Nat.zero_le _⟩) (fun H locs hI => ?_)
    refine lv_if_ne (tgt := 22) hx hb dX12_image_16 (by decide) (fun c2 => ?_) (fun c2 => ?_)
    · have hf := ok_f c2 hf
      refine lv_iconst (v := 0) hx hb dX12_image_22 (by decide) ?_
      refine lv_istore_n (lv' := [(2, .int 0), (0, .ref (G.1 + 51)), (1, .int x1)]) hx hb dX12_image_23 rfl hl (by decide) rfl (fun ls hl => ?_)
      exact w_X12_image_24  C0  _ _ _ hf _ _ hI _ (lv_sub hl [1, 2, 0] rfl)
    · have hf := ok_t c2 hf
      refine lv_ldc (v := (-1000002)) hx hb hown (hts (.constant RX12 200 (-1000002)) (by decide +kernel)) dX12_image_19 ?_
      cases hf
      exact z_iret hx hb hr hlk hK hG hI dX12_image_21
  · have hf := ok_t c1 hf
    refine lv_ldc (v := (-1000001)) hx hb hown (hts (.constant RX12 71 (-1000001)) (by decide +kernel)) dX12_image_9 ?_
    cases hf
    exact z_iret hx hb hr hlk hK hG hI dX12_image_11

-- ===== FenceYardsModel.restore(I)I
set_option maxRecDepth 100000 in
theorem i_X12_restore_11 : ∀ w ∈ u_ws RX12 TX12 26, w ∈ wsX12_restore := by decide +kernel
def f_X12_restore_26    (x1 : Int32) : Nat → Hp → Int32 → Option (Hp × Int32)
  | 0, _, _ => none
  | n + 1, σ, x2 =>
    if 78 ≤ x2 then (some (σ, 1)) else (chk (inb ((78 * x1) + x2) 156) <| chk (inb x2 78) <| bnd (sI σ 52 (x2.toNatClampNeg) (gI σ 53 (((78 * x1) + x2).toNatClampNeg))) fun s1 => f_X12_restore_26 x1 n s1 (x2 + 1))
def f_X12_restore (σ : Hp) (x1 : Int32) : Option (Hp × Int32) :=
  bd1 (f_X12_in σ x1 0 1) fun r1 => if r1 = 0 then (some (σ, (-1000001))) else (chk (inb x1 2) <| if (gI σ 54 (x1.toNatClampNeg)) = 0 then (some (σ, (-1000002))) else (f_X12_restore_26 x1 fu σ 0))
set_option maxRecDepth 100000 in
set_option maxHeartbeats 4000000 in
theorem w_X12_restore_26 {G : GT} {p : Program} {l : Launch} {e : Env} {s : State} {m : MethodId} {args : Array Value} {below : List Frame} {meth : Method} {c : Code}  {σ' : Hp} {r : Int32}   {x1 : Int32}  (C0 : Cx G cX12_restore RX12 wsX12_restore 3 (some .int) p s m args meth c)  :
    ∀ (n : Nat) (σ : Hp) (x2 : Int32), f_X12_restore_26 x1 n σ x2 = some (σ', r) → ∀ (H : Heap) (locs : List Loc), Inv G s σ H locs → ∀ ls : Array Slot, lv_has ls 3 [(0, .ref (G.1 + 51)), (1, .int x1), (2, .int x2)] → W p l e (rmk 1 22) s m args below meth c H locs 0 0 (MQ below (QI G σ' r) args s (rmk 1 22).cells (rmk 1 22).slots (gA G)) (F0 m 26 ls []) := by
  obtain ⟨hx, hb, hr, hml, hown, hts, hlk, hK, hG⟩ := id C0
  intro n
  induction n with
  | zero =>
    intro σ x2 hf
    cases hf
  | succ n ih =>
    intro σ x2 hf H locs hI ls hl
    rw [f_X12_restore_26] at hf
    refine lv_iload_n hx hb dX12_restore_26 rfl (lv_at hl 2 rfl) ?_
    refine lv_bipush (v := 78) hx hb dX12_restore_27 (by decide) ?_
    refine lv_icmp_ge (tgt := 55) hx hb dX12_restore_29 (by decide) (fun c1 => ?_) (fun c1 => ?_)
    · have hf := ok_t c1 hf
      refine lv_iconst (v := 1) hx hb dX12_restore_55 (by decide) ?_
      cases hf
      exact z_iret hx hb hr hlk hK hG hI dX12_restore_56
    · have hf := ok_f c1 hf
      refine lv_aload_n hx hb dX12_restore_32 rfl (lv_at hl 0 rfl) ?_
      refine z_get (C := RX12) (T := TX12) (N := 26) (ci := 11) (v := .ref (G.1 + 52)) hx hb hts i_X12_restore_11 hown hK hI 51 rfl (by decide) rfl 0 (by decide) (hts (.fieldLink RX12 7 "FenceYardsModel" "st" "[I") (by decide +kernel)) (fun _ h9 => h9) rfl dX12_restore_33 ?_
      refine lv_iload_n hx hb dX12_restore_36 rfl (lv_at hl 2 rfl) ?_
      refine lv_aload_n hx hb dX12_restore_37 rfl (lv_at hl 0 rfl) ?_
      refine z_get (C := RX12) (T := TX12) (N := 26) (ci := 11) (v := .ref (G.1 + 53)) hx hb hts i_X12_restore_11 hown hK hI 51 rfl (by decide) rfl 1 (by decide) (hts (.fieldLink RX12 13 "FenceYardsModel" "kept" "[I") (by decide +kernel)) (fun _ h9 => h9) rfl dX12_restore_38 ?_
      refine lv_bipush (v := 78) hx hb dX12_restore_41 (by decide) ?_
      refine lv_iload_n hx hb dX12_restore_43 rfl (lv_at hl 1 rfl) ?_
      refine lv_imul hx hb dX12_restore_44 ?_
      refine lv_iload_n hx hb dX12_restore_45 rfl (lv_at hl 2 rfl) ?_
      refine lv_iadd hx hb dX12_restore_46 ?_
      obtain ⟨h1, hf⟩ := ok_c hf
      refine z_iald hx hb hK hI 53 (k := ((78 * x1) + x2).toNatClampNeg) rfl h1 rfl dX12_restore_47 ?_
      obtain ⟨h2, hf⟩ := ok_c hf
      refine z_iast hx hb hK hI 52 (k := x2.toNatClampNeg) rfl h2 rfl dX12_restore_48 (fun H locs hI => ?_)
      obtain ⟨s1, es1⟩ : ∃ z, z = sI σ 52 (x2.toNatClampNeg) (gI σ 53 (((78 * x1) + x2).toNatClampNeg)) := ⟨_, rfl⟩
      have hI : Inv G s s1 H locs := by rw [es1]; exact hI
      have hf := ok_n hf es1
      refine lv_iinc (v := x2 + 1) (lv' := [(2, .int (x2 + 1)), (0, .ref (G.1 + 51)), (1, .int x1)]) hx hb dX12_restore_49 hl (k := 2) rfl rfl (by decide) rfl (fun ls hl => ?_)
      refine lv_goto (tgt := 26) hx hb dX12_restore_52 (by decide) ?_
      exact ih _ _ hf _ _ hI _ (lv_sub hl [1, 2, 0] rfl)

set_option maxRecDepth 100000 in
set_option maxHeartbeats 4000000 in
theorem m_X12_restore (G : GT) (l : Launch) {σ : Hp} {x1 : Int32} {σ' : Hp} {r : Int32}  (hf : f_X12_restore σ x1 = some (σ', r)) : MetG G l yX12_restore wsX12_restore (rmk 1 22) σ [.ref (G.1 + 51), .int x1] (QI G σ' r) := by
  refine met_of (cc := cX12_restore) (nL := 3) (ret := (some .int)) (by decide) rfl (Nat.le_of_ble_eq_true rfl) ?_
  intro p e s m below meth c C0 hnm hI ls hl
  obtain ⟨hx, hb, hr, hml, hown, hts, hlk, hK, hG⟩ := id C0
  have hl : lv_has ls 3 [(0, .ref (G.1 + 51)), (1, .int x1)] := hl
  unfold f_X12_restore at hf
  refine lv_iload_n hx hb dX12_restore_0 rfl (lv_at hl 1 rfl) ?_
  refine lv_iconst (v := 0) hx hb dX12_restore_1 (by decide) ?_
  refine lv_iconst (v := 1) hx hb dX12_restore_2 (by decide) ?_
  obtain ⟨r1, hc1, hf⟩ := ok_1 hf
  refine z_calli0 rfl rfl hI (va_runS (As := [.int x1, .int 0, .int 1]) (rest := []) ⟨hx, hb, hml, hown, hts⟩ (m_X12_in G l  hc1) (va_cwS 3 hts gX12_restore_X12_in rfl rfl rfl (by decide +kernel) ⟨Nat.le_of_ble_eq_true rfl, Nat.le_of_ble_eq_true rfl⟩) (z_pre hK hG hI) rfl rfl hl.1 rfl (lv_room (Nat.le_of_ble_eq_true rfl)) dX12_restore_3 ⟨Nat.zero_le _, Nat.zero_le _⟩) (fun H locs hI => ?_)
  refine lv_if_ne (tgt := 12) hx hb dX12_restore_6 (by decide) (fun c1 => ?_) (fun c1 => ?_)
  · have hf := ok_f c1 hf
    refine lv_aload_n hx hb dX12_restore_12 rfl (lv_at hl 0 rfl) ?_
    refine z_get (C := RX12) (T := TX12) (N := 26) (ci := 11) (v := .ref (G.1 + 54)) hx hb hts i_X12_restore_11 hown hK hI 51 rfl (by decide) rfl 2 (by decide) (hts (.fieldLink RX12 16 "FenceYardsModel" "isKept" "[Z") (by decide +kernel)) (fun _ h9 => h9) rfl dX12_restore_13 ?_
    refine lv_iload_n hx hb dX12_restore_16 rfl (lv_at hl 1 rfl) ?_
    obtain ⟨h1, hf⟩ := ok_c hf
    refine z_zald hx hb hK hI 54 (k := x1.toNatClampNeg) rfl h1 rfl dX12_restore_17 ?_
    refine lv_if_ne (tgt := 24) hx hb dX12_restore_18 (by decide) (fun c2 => ?_) (fun c2 => ?_)
    · have hf := ok_f c2 hf
      refine lv_iconst (v := 0) hx hb dX12_restore_24 (by decide) ?_
      refine lv_istore_n (lv' := [(2, .int 0), (0, .ref (G.1 + 51)), (1, .int x1)]) hx hb dX12_restore_25 rfl hl (by decide) rfl (fun ls hl => ?_)
      exact w_X12_restore_26  C0  _ _ _ hf _ _ hI _ (lv_sub hl [1, 2, 0] rfl)
    · have hf := ok_t c2 hf
      refine lv_ldc (v := (-1000002)) hx hb hown (hts (.constant RX12 200 (-1000002)) (by decide +kernel)) dX12_restore_21 ?_
      cases hf
      exact z_iret hx hb hr hlk hK hG hI dX12_restore_23
  · have hf := ok_t c1 hf
    refine lv_ldc (v := (-1000001)) hx hb hown (hts (.constant RX12 71 (-1000001)) (by decide +kernel)) dX12_restore_9 ?_
    cases hf
    exact z_iret hx hb hr hlk hK hG hI dX12_restore_11

-- ===== FenceYardsModel.kind(I)I
def f_X12_kind (σ : Hp) (x1 : Int32) : Option (Int32) :=
  bd1 (f_X12_isStrip σ x1) fun r1 => if r1 = 0 then (some (-1000001)) else (bd1 (f_X12_sown σ x1 0) fun r2 => some r2)
set_option maxRecDepth 100000 in
set_option maxHeartbeats 4000000 in
theorem m_X12_kind (G : GT) (l : Launch) {σ : Hp} {x1 : Int32} {r : Int32}  (hf : f_X12_kind σ x1 = some r) : MetG G l yX12_kind wsX12_kind (rmk 2 43) σ [.ref (G.1 + 51), .int x1] (QI G σ r) := by
  refine met_of (cc := cX12_kind) (nL := 2) (ret := (some .int)) (by decide) rfl (Nat.le_of_ble_eq_true rfl) ?_
  intro p e s m below meth c C0 hnm hI ls hl
  obtain ⟨hx, hb, hr, hml, hown, hts, hlk, hK, hG⟩ := id C0
  have hl : lv_has ls 2 [(0, .ref (G.1 + 51)), (1, .int x1)] := hl
  unfold f_X12_kind at hf
  refine lv_aload_n hx hb dX12_kind_0 rfl (lv_at hl 0 rfl) ?_
  refine lv_iload_n hx hb dX12_kind_1 rfl (lv_at hl 1 rfl) ?_
  obtain ⟨r1, hc1, hf⟩ := ok_1 hf
  refine z_calli0 rfl rfl hI (va_runV (As := [.int x1]) (rest := []) ⟨hx, hb, hml, hown, hts⟩ (m_X12_isStrip G l  hc1) (cwV 1 hts gX12_kind_X12_isStrip rfl rfl rfl (by decide +kernel) ⟨Nat.le_of_ble_eq_true rfl, Nat.le_of_ble_eq_true rfl⟩) (z_preV hK hG hI (z_rc (q := 51) (ci := 11) (n := 0) hK hI rfl (by decide) rfl)) rfl rfl hl.1 rfl (lv_room (Nat.le_of_ble_eq_true rfl)) dX12_kind_2 ⟨Nat.zero_le _, Nat.zero_le _⟩) (fun H locs hI => ?_)
  refine lv_if_eq (tgt := 17) hx hb dX12_kind_5 (by decide) (fun c1 => ?_) (fun c1 => ?_)
  · have hf := ok_t c1 hf
    refine lv_ldc (v := (-1000001)) hx hb hown (hts (.constant RX12 71 (-1000001)) (by decide +kernel)) dX12_kind_17 ?_
    cases hf
    exact z_iret hx hb hr hlk hK hG hI dX12_kind_19
  · have hf := ok_f c1 hf
    refine lv_aload_n hx hb dX12_kind_8 rfl (lv_at hl 0 rfl) ?_
    refine lv_iload_n hx hb dX12_kind_9 rfl (lv_at hl 1 rfl) ?_
    refine lv_iconst (v := 0) hx hb dX12_kind_10 (by decide) ?_
    obtain ⟨r2, hc2, hf⟩ := ok_1 hf
    refine z_calli0 rfl rfl hI (va_runV (As := [.int x1, .int 0]) (rest := []) ⟨hx, hb, hml, hown, hts⟩ (m_X12_sown G l  hc2) (cwV 2 hts gX12_kind_X12_sown rfl rfl rfl (by decide +kernel) ⟨Nat.le_of_ble_eq_true rfl, Nat.le_of_ble_eq_true rfl⟩) (z_preV hK hG hI (z_rc (q := 51) (ci := 11) (n := 0) hK hI rfl (by decide) rfl)) rfl rfl hl.1 rfl (lv_room (Nat.le_of_ble_eq_true rfl)) dX12_kind_11 ⟨Nat.zero_le _, Nat.zero_le _⟩) (fun H locs hI => ?_)
    refine lv_goto (tgt := 19) hx hb dX12_kind_14 (by decide) ?_
    cases hf
    exact z_iret hx hb hr hlk hK hG hI dX12_kind_19

-- ===== FenceYardsModel.isA(II)Z
def f_X12_isA (σ : Hp) (x0 : Int32) (x1 : Int32) : Option (Int32) :=
  if x1 = 0 then (some 1) else (if x0 = x1 then (some 1) else (if x1 = 1 then (bd1 (f_X12_in σ x0 2 3) fun r1 => if r1 = 0 then (if x1 = 4 then (if x0 = 5 then (some 1) else (some 0)) else (some 0)) else (some 1)) else (if x1 = 4 then (if x0 = 5 then (some 1) else (some 0)) else (some 0))))
set_option maxRecDepth 100000 in
set_option maxHeartbeats 4000000 in
theorem m_X12_isA (G : GT) (l : Launch) {σ : Hp} {x0 : Int32} {x1 : Int32} {r : Int32}  (hf : f_X12_isA σ x0 x1 = some r) : MetG G l yX12_isA wsX12_isA (rmk 1 22) σ [.int x0, .int x1] (QI G σ r) := by
  refine met_of (cc := cX12_isA) (nL := 2) (ret := (some .boolean)) (by decide) rfl (Nat.le_of_ble_eq_true rfl) ?_
  intro p e s m below meth c C0 hnm hI ls hl
  obtain ⟨hx, hb, hr, hml, hown, hts, hlk, hK, hG⟩ := id C0
  have hl : lv_has ls 2 [(0, .int x0), (1, .int x1)] := hl
  unfold f_X12_isA at hf
  refine lv_iload_n hx hb dX12_isA_0 rfl (lv_at hl 1 rfl) ?_
  refine lv_if_eq (tgt := 33) hx hb dX12_isA_1 (by decide) (fun c1 => ?_) (fun c1 => ?_)
  · have hf := ok_t c1 hf
    refine lv_iconst (v := 1) hx hb dX12_isA_33 (by decide) ?_
    refine lv_goto (tgt := 38) hx hb dX12_isA_34 (by decide) ?_
    cases hf
    exact z_zret hx hb hr hlk hK hG hI (Or.inr rfl) dX12_isA_38
  · have hf := ok_f c1 hf
    refine lv_iload_n hx hb dX12_isA_4 rfl (lv_at hl 0 rfl) ?_
    refine lv_iload_n hx hb dX12_isA_5 rfl (lv_at hl 1 rfl) ?_
    refine lv_icmp_eq (tgt := 33) hx hb dX12_isA_6 (by decide) (fun c2 => ?_) (fun c2 => ?_)
    · have hf := ok_t c2 hf
      refine lv_iconst (v := 1) hx hb dX12_isA_33 (by decide) ?_
      refine lv_goto (tgt := 38) hx hb dX12_isA_34 (by decide) ?_
      cases hf
      exact z_zret hx hb hr hlk hK hG hI (Or.inr rfl) dX12_isA_38
    · have hf := ok_f c2 hf
      refine lv_iload_n hx hb dX12_isA_9 rfl (lv_at hl 1 rfl) ?_
      refine lv_iconst (v := 1) hx hb dX12_isA_10 (by decide) ?_
      refine lv_icmp_ne (tgt := 23) hx hb dX12_isA_11 (by decide) (fun c3 => ?_) (fun c3 => ?_)
      · have hf := ok_f c3 hf
        refine lv_iload_n hx hb dX12_isA_23 rfl (lv_at hl 1 rfl) ?_
        refine lv_iconst (v := 4) hx hb dX12_isA_24 (by decide) ?_
        refine lv_icmp_ne (tgt := 37) hx hb dX12_isA_25 (by decide) (fun c4 => ?_) (fun c4 => ?_)
        · have hf := ok_f c4 hf
          refine lv_iconst (v := 0) hx hb dX12_isA_37 (by decide) ?_
          cases hf
          exact z_zret hx hb hr hlk hK hG hI (Or.inl rfl) dX12_isA_38
        · have hf := ok_t c4 hf
          refine lv_iload_n hx hb dX12_isA_28 rfl (lv_at hl 0 rfl) ?_
          refine lv_iconst (v := 5) hx hb dX12_isA_29 (by decide) ?_
          refine lv_icmp_ne (tgt := 37) hx hb dX12_isA_30 (by decide) (fun c5 => ?_) (fun c5 => ?_)
          · have hf := ok_f c5 hf
            refine lv_iconst (v := 0) hx hb dX12_isA_37 (by decide) ?_
            cases hf
            exact z_zret hx hb hr hlk hK hG hI (Or.inl rfl) dX12_isA_38
          · have hf := ok_t c5 hf
            refine lv_iconst (v := 1) hx hb dX12_isA_33 (by decide) ?_
            refine lv_goto (tgt := 38) hx hb dX12_isA_34 (by decide) ?_
            cases hf
            exact z_zret hx hb hr hlk hK hG hI (Or.inr rfl) dX12_isA_38
      · have hf := ok_t c3 hf
        refine lv_iload_n hx hb dX12_isA_14 rfl (lv_at hl 0 rfl) ?_
        refine lv_iconst (v := 2) hx hb dX12_isA_15 (by decide) ?_
        refine lv_iconst (v := 3) hx hb dX12_isA_16 (by decide) ?_
        obtain ⟨r1, hc1, hf⟩ := ok_1 hf
        refine z_calli0 rfl rfl hI (va_runS (As := [.int x0, .int 2, .int 3]) (rest := []) ⟨hx, hb, hml, hown, hts⟩ (m_X12_in G l  hc1) (va_cwS 3 hts gX12_isA_X12_in rfl rfl rfl (by decide +kernel) ⟨Nat.le_of_ble_eq_true rfl, Nat.le_of_ble_eq_true rfl⟩) (z_pre hK hG hI) rfl rfl hl.1 rfl (lv_room (Nat.le_of_ble_eq_true rfl)) dX12_isA_17 ⟨Nat.zero_le _, Nat.zero_le _⟩) (fun H locs hI => ?_)
        refine lv_if_ne (tgt := 33) hx hb dX12_isA_20 (by decide) (fun c6 => ?_) (fun c6 => ?_)
        · have hf := ok_f c6 hf
          refine lv_iconst (v := 1) hx hb dX12_isA_33 (by decide) ?_
          refine lv_goto (tgt := 38) hx hb dX12_isA_34 (by decide) ?_
          cases hf
          exact z_zret hx hb hr hlk hK hG hI (Or.inr rfl) dX12_isA_38
        · have hf := ok_t c6 hf
          refine lv_iload_n hx hb dX12_isA_23 rfl (lv_at hl 1 rfl) ?_
          refine lv_iconst (v := 4) hx hb dX12_isA_24 (by decide) ?_
          refine lv_icmp_ne (tgt := 37) hx hb dX12_isA_25 (by decide) (fun c7 => ?_) (fun c7 => ?_)
          · have hf := ok_f c7 hf
            refine lv_iconst (v := 0) hx hb dX12_isA_37 (by decide) ?_
            cases hf
            exact z_zret hx hb hr hlk hK hG hI (Or.inl rfl) dX12_isA_38
          · have hf := ok_t c7 hf
            refine lv_iload_n hx hb dX12_isA_28 rfl (lv_at hl 0 rfl) ?_
            refine lv_iconst (v := 5) hx hb dX12_isA_29 (by decide) ?_
            refine lv_icmp_ne (tgt := 37) hx hb dX12_isA_30 (by decide) (fun c8 => ?_) (fun c8 => ?_)
            · have hf := ok_f c8 hf
              refine lv_iconst (v := 0) hx hb dX12_isA_37 (by decide) ?_
              cases hf
              exact z_zret hx hb hr hlk hK hG hI (Or.inl rfl) dX12_isA_38
            · have hf := ok_t c8 hf
              refine lv_iconst (v := 1) hx hb dX12_isA_33 (by decide) ?_
              refine lv_goto (tgt := 38) hx hb dX12_isA_34 (by decide) ?_
              cases hf
              exact z_zret hx hb hr hlk hK hG hI (Or.inr rfl) dX12_isA_38

-- ===== FenceYardsModel.as(II)I
def f_X12_as (σ : Hp) (x1 : Int32) (x2 : Int32) : Option (Hp × Int32) :=
  bd1 (f_X12_isStrip σ x1) fun r1 => if r1 = 0 then (some (σ, (-1000001))) else (bd1 (f_X12_in σ x2 0 5) fun r2 => if r2 = 0 then (some (σ, (-1000001))) else (bd1 (f_X12_sown σ x1 0) fun r3 => bd1 (f_X12_isA σ r3 x2) fun r4 => if r4 = 0 then (bd2 (f_X12_found σ 3) fun s1 r5 => some (s1, r5)) else (bd2 (f_X12_well σ x1) fun s2 r6 => some (s2, r6))))
set_option maxRecDepth 100000 in
set_option maxHeartbeats 4000000 in
theorem m_X12_as (G : GT) (l : Launch) {σ : Hp} {x1 : Int32} {x2 : Int32} {σ' : Hp} {r : Int32}  (hf : f_X12_as σ x1 x2 = some (σ', r)) : MetG G l yX12_as wsX12_as (rmk 2 43) σ [.ref (G.1 + 51), .int x1, .int x2] (QI G σ' r) := by
  refine met_of (cc := cX12_as) (nL := 3) (ret := (some .int)) (by decide) rfl (Nat.le_of_ble_eq_true rfl) ?_
  intro p e s m below meth c C0 hnm hI ls hl
  obtain ⟨hx, hb, hr, hml, hown, hts, hlk, hK, hG⟩ := id C0
  have hl : lv_has ls 3 [(0, .ref (G.1 + 51)), (1, .int x1), (2, .int x2)] := hl
  unfold f_X12_as at hf
  refine lv_aload_n hx hb dX12_as_0 rfl (lv_at hl 0 rfl) ?_
  refine lv_iload_n hx hb dX12_as_1 rfl (lv_at hl 1 rfl) ?_
  obtain ⟨r1, hc1, hf⟩ := ok_1 hf
  refine z_calli0 rfl rfl hI (va_runV (As := [.int x1]) (rest := []) ⟨hx, hb, hml, hown, hts⟩ (m_X12_isStrip G l  hc1) (cwV 1 hts gX12_as_X12_isStrip rfl rfl rfl (by decide +kernel) ⟨Nat.le_of_ble_eq_true rfl, Nat.le_of_ble_eq_true rfl⟩) (z_preV hK hG hI (z_rc (q := 51) (ci := 11) (n := 0) hK hI rfl (by decide) rfl)) rfl rfl hl.1 rfl (lv_room (Nat.le_of_ble_eq_true rfl)) dX12_as_2 ⟨Nat.zero_le _, Nat.zero_le _⟩) (fun H locs hI => ?_)
  refine lv_if_eq (tgt := 17) hx hb dX12_as_5 (by decide) (fun c1 => ?_) (fun c1 => ?_)
  · have hf := ok_t c1 hf
    refine lv_ldc (v := (-1000001)) hx hb hown (hts (.constant RX12 71 (-1000001)) (by decide +kernel)) dX12_as_17 ?_
    cases hf
    exact z_iret hx hb hr hlk hK hG hI dX12_as_19
  · have hf := ok_f c1 hf
    refine lv_iload_n hx hb dX12_as_8 rfl (lv_at hl 2 rfl) ?_
    refine lv_iconst (v := 0) hx hb dX12_as_9 (by decide) ?_
    refine lv_iconst (v := 5) hx hb dX12_as_10 (by decide) ?_
    obtain ⟨r2, hc2, hf⟩ := ok_1 hf
    refine z_calli0 rfl rfl hI (va_runS (As := [.int x2, .int 0, .int 5]) (rest := []) ⟨hx, hb, hml, hown, hts⟩ (m_X12_in G l  hc2) (va_cwS 3 hts gX12_as_X12_in rfl rfl rfl (by decide +kernel) ⟨Nat.le_of_ble_eq_true rfl, Nat.le_of_ble_eq_true rfl⟩) (z_pre hK hG hI) rfl rfl hl.1 rfl (lv_room (Nat.le_of_ble_eq_true rfl)) dX12_as_11 ⟨Nat.zero_le _, Nat.zero_le _⟩) (fun H locs hI => ?_)
    refine lv_if_ne (tgt := 20) hx hb dX12_as_14 (by decide) (fun c2 => ?_) (fun c2 => ?_)
    · have hf := ok_f c2 hf
      refine lv_aload_n hx hb dX12_as_20 rfl (lv_at hl 0 rfl) ?_
      refine lv_iload_n hx hb dX12_as_21 rfl (lv_at hl 1 rfl) ?_
      refine lv_iconst (v := 0) hx hb dX12_as_22 (by decide) ?_
      obtain ⟨r3, hc3, hf⟩ := ok_1 hf
      refine z_calli0 rfl rfl hI (va_runV (As := [.int x1, .int 0]) (rest := []) ⟨hx, hb, hml, hown, hts⟩ (m_X12_sown G l  hc3) (cwV 2 hts gX12_as_X12_sown rfl rfl rfl (by decide +kernel) ⟨Nat.le_of_ble_eq_true rfl, Nat.le_of_ble_eq_true rfl⟩) (z_preV hK hG hI (z_rc (q := 51) (ci := 11) (n := 0) hK hI rfl (by decide) rfl)) rfl rfl hl.1 rfl (lv_room (Nat.le_of_ble_eq_true rfl)) dX12_as_23 ⟨Nat.zero_le _, Nat.zero_le _⟩) (fun H locs hI => ?_)
      refine lv_iload_n hx hb dX12_as_26 rfl (lv_at hl 2 rfl) ?_
      obtain ⟨r4, hc4, hf⟩ := ok_1 hf
      refine z_calli0 rfl rfl hI (va_runS (As := [.int r3, .int x2]) (rest := []) ⟨hx, hb, hml, hown, hts⟩ (m_X12_isA G l  hc4) (va_cwS 2 hts gX12_as_X12_isA rfl rfl rfl (by decide +kernel) ⟨Nat.le_of_ble_eq_true rfl, Nat.le_of_ble_eq_true rfl⟩) (z_pre hK hG hI) rfl rfl hl.1 rfl (lv_room (Nat.le_of_ble_eq_true rfl)) dX12_as_27 ⟨Nat.zero_le _, Nat.zero_le _⟩) (fun H locs hI => ?_)
      refine lv_if_eq (tgt := 41) hx hb dX12_as_30 (by decide) (fun c3 => ?_) (fun c3 => ?_)
      · have hf := ok_t c3 hf
        refine lv_aload_n hx hb dX12_as_41 rfl (lv_at hl 0 rfl) ?_
        refine lv_iconst (v := 3) hx hb dX12_as_42 (by decide) ?_
        obtain ⟨s1, r5, hc5, hf⟩ := ok_2 hf
        refine z_calli0 rfl rfl hI (va_runV (As := [.int 3]) (rest := []) ⟨hx, hb, hml, hown, hts⟩ (m_X12_found G l  hc5) (cwV 1 hts gX12_as_X12_found rfl rfl rfl (by decide +kernel) ⟨Nat.le_of_ble_eq_true rfl, Nat.le_of_ble_eq_true rfl⟩) (z_preV hK hG hI (z_rc (q := 51) (ci := 11) (n := 0) hK hI rfl (by decide) rfl)) rfl rfl hl.1 rfl (lv_room (Nat.le_of_ble_eq_true rfl)) dX12_as_43 ⟨Nat.zero_le _, Nat.zero_le _⟩) (fun H locs hI => ?_)
        cases hf
        exact z_iret hx hb hr hlk hK hG hI dX12_as_46
      · have hf := ok_f c3 hf
        refine lv_aload_n hx hb dX12_as_33 rfl (lv_at hl 0 rfl) ?_
        refine lv_iload_n hx hb dX12_as_34 rfl (lv_at hl 1 rfl) ?_
        obtain ⟨s2, r6, hc6, hf⟩ := ok_2 hf
        refine z_calli0 rfl rfl hI (va_runV (As := [.int x1]) (rest := []) ⟨hx, hb, hml, hown, hts⟩ (m_X12_well G l  hc6) (cwV 1 hts gX12_as_X12_well rfl rfl rfl (by decide +kernel) ⟨Nat.le_of_ble_eq_true rfl, Nat.le_of_ble_eq_true rfl⟩) (z_preV hK hG hI (z_rc (q := 51) (ci := 11) (n := 0) hK hI rfl (by decide) rfl)) rfl rfl hl.1 rfl (lv_room (Nat.le_of_ble_eq_true rfl)) dX12_as_35 ⟨Nat.zero_le _, Nat.zero_le _⟩) (fun H locs hI => ?_)
        refine lv_goto (tgt := 46) hx hb dX12_as_38 (by decide) ?_
        cases hf
        exact z_iret hx hb hr hlk hK hG hI dX12_as_46
    · have hf := ok_t c2 hf
      refine lv_ldc (v := (-1000001)) hx hb hown (hts (.constant RX12 71 (-1000001)) (by decide +kernel)) dX12_as_17 ?_
      cases hf
      exact z_iret hx hb hr hlk hK hG hI dX12_as_19

-- ===== FenceYardsModel.begins(I)V
set_option maxRecDepth 100000 in
theorem i_X12_begins_11 : ∀ w ∈ u_ws RX12 TX12 26, w ∈ wsX12_begins := by decide +kernel
def f_X12_begins (σ : Hp) (x1 : Int32) : Option (Hp) :=
  if 16 ≤ (gI σ 51 25) then (some σ) else (chk (inb (gI σ 51 25) 16) <| bnd (sI (sI σ 66 ((gI σ 51 25).toNatClampNeg) x1) 51 25 ((gI (sI σ 66 ((gI σ 51 25).toNatClampNeg) x1) 51 25) + 1)) fun s1 => some s1)
set_option maxRecDepth 100000 in
set_option maxHeartbeats 4000000 in
theorem m_X12_begins (G : GT) (l : Launch) {σ : Hp} {x1 : Int32} {σ' : Hp}  (hf : f_X12_begins σ x1 = some σ') : MetG G l yX12_begins wsX12_begins (rmk 0 0) σ [.ref (G.1 + 51), .int x1] (QV G σ') := by
  refine met_of (cc := cX12_begins) (nL := 2) (ret := none) (by decide) rfl (Nat.le_of_ble_eq_true rfl) ?_
  intro p e s m below meth c C0 hnm hI ls hl
  obtain ⟨hx, hb, hr, hml, hown, hts, hlk, hK, hG⟩ := id C0
  have hl : lv_has ls 2 [(0, .ref (G.1 + 51)), (1, .int x1)] := hl
  unfold f_X12_begins at hf
  refine lv_aload_n hx hb dX12_begins_0 rfl (lv_at hl 0 rfl) ?_
  refine z_get (C := RX12) (T := TX12) (N := 26) (ci := 11) (v := .int (gI σ 51 25)) hx hb hts i_X12_begins_11 hown hK hI 51 rfl (by decide) rfl 25 (by decide) (hts (.fieldLink RX12 253 "FenceYardsModel" "traced" "I") (by decide +kernel)) (fun _ h9 => h9) rfl dX12_begins_1 ?_
  refine lv_bipush (v := 16) hx hb dX12_begins_4 (by decide) ?_
  refine lv_icmp_ge (tgt := 29) hx hb dX12_begins_6 (by decide) (fun c1 => ?_) (fun c1 => ?_)
  · have hf := ok_t c1 hf
    cases hf
    exact z_vret hx hb hr hlk hK hG hI dX12_begins_29
  · have hf := ok_f c1 hf
    refine lv_aload_n hx hb dX12_begins_9 rfl (lv_at hl 0 rfl) ?_
    refine z_get (C := RX12) (T := TX12) (N := 26) (ci := 11) (v := .ref (G.1 + 66)) hx hb hts i_X12_begins_11 hown hK hI 51 rfl (by decide) rfl 24 (by decide) (hts (.fieldLink RX12 54 "FenceYardsModel" "trace" "[I") (by decide +kernel)) (fun _ h9 => h9) rfl dX12_begins_10 ?_
    refine lv_aload_n hx hb dX12_begins_13 rfl (lv_at hl 0 rfl) ?_
    refine z_get (C := RX12) (T := TX12) (N := 26) (ci := 11) (v := .int (gI σ 51 25)) hx hb hts i_X12_begins_11 hown hK hI 51 rfl (by decide) rfl 25 (by decide) (hts (.fieldLink RX12 253 "FenceYardsModel" "traced" "I") (by decide +kernel)) (fun _ h9 => h9) rfl dX12_begins_14 ?_
    refine lv_iload_n hx hb dX12_begins_17 rfl (lv_at hl 1 rfl) ?_
    obtain ⟨h1, hf⟩ := ok_c hf
    refine z_iast hx hb hK hI 66 (k := (gI σ 51 25).toNatClampNeg) rfl h1 rfl dX12_begins_18 (fun H locs hI => ?_)
    refine lv_aload_n hx hb dX12_begins_19 rfl (lv_at hl 0 rfl) ?_
    refine lv_dup hx hb dX12_begins_20 rfl ?_
    refine z_get (C := RX12) (T := TX12) (N := 26) (ci := 11) (v := .int (gI (sI σ 66 ((gI σ 51 25).toNatClampNeg) x1) 51 25)) hx hb hts i_X12_begins_11 hown hK hI 51 rfl (by decide) rfl 25 (by decide) (hts (.fieldLink RX12 253 "FenceYardsModel" "traced" "I") (by decide +kernel)) (fun _ h9 => h9) rfl dX12_begins_21 ?_
    refine lv_iconst (v := 1) hx hb dX12_begins_24 (by decide) ?_
    refine lv_iadd hx hb dX12_begins_25 ?_
    refine z_put (C := RX12) (T := TX12) (N := 26) (ci := 11) (ty := .int) (v := .int ((gI (sI σ 66 ((gI σ 51 25).toNatClampNeg) x1) 51 25) + 1)) hx hb hts i_X12_begins_11 tyX12 tyX12_ok nmX12 hown hK hI 51 rfl (by decide) rfl 25 (by decide) (hts (.fieldLink RX12 253 "FenceYardsModel" "traced" "I") (by decide +kernel)) (fun _ h9 => h9) rfl (by decide +kernel) rfl rfl (Nat.le_of_ble_eq_true rfl) (set_I hI.2.2.2 rfl (by decide) rfl) rfl hI.2.2.2 dX12_begins_26 (fun H locs hI => ?_)
    obtain ⟨s1, es1⟩ : ∃ z, z = sI (sI σ 66 ((gI σ 51 25).toNatClampNeg) x1) 51 25 ((gI (sI σ 66 ((gI σ 51 25).toNatClampNeg) x1) 51 25) + 1) := ⟨_, rfl⟩
    have hI : Inv G s s1 H locs := by rw [es1]; exact hI
    have hf := ok_n hf es1
    cases hf
    exact z_vret hx hb hr hlk hK hG hI dX12_begins_29

-- ===== FenceYardsModel.lentSize(I)I
def f_X12_lentSize (σ : Hp) (x1 : Int32) : Option (Hp × Int32) :=
  bd1 (f_X12_begins σ 10) fun s1 => bd1 (f_X12_sown s1 x1 1) fun r1 => some (s1, r1)
set_option maxRecDepth 100000 in
set_option maxHeartbeats 4000000 in
theorem m_X12_lentSize (G : GT) (l : Launch) {σ : Hp} {x1 : Int32} {σ' : Hp} {r : Int32}  (hf : f_X12_lentSize σ x1 = some (σ', r)) : MetG G l yX12_lentSize wsX12_lentSize (rmk 1 22) σ [.ref (G.1 + 51), .int x1] (QI G σ' r) := by
  refine met_of (cc := cX12_lentSize) (nL := 2) (ret := (some .int)) (by decide) rfl (Nat.le_of_ble_eq_true rfl) ?_
  intro p e s m below meth c C0 hnm hI ls hl
  obtain ⟨hx, hb, hr, hml, hown, hts, hlk, hK, hG⟩ := id C0
  have hl : lv_has ls 2 [(0, .ref (G.1 + 51)), (1, .int x1)] := hl
  unfold f_X12_lentSize at hf
  refine lv_aload_n hx hb dX12_lentSize_0 rfl (lv_at hl 0 rfl) ?_
  refine lv_bipush (v := 10) hx hb dX12_lentSize_1 (by decide) ?_
  obtain ⟨s1, hc1, hf⟩ := ok_1 hf
  refine z_callv0 rfl rfl hI (va_runV (As := [.int 10]) (rest := []) ⟨hx, hb, hml, hown, hts⟩ (m_X12_begins G l  hc1) (cwV 1 hts gX12_lentSize_X12_begins rfl rfl rfl (by decide +kernel) ⟨Nat.le_of_ble_eq_true rfl, Nat.le_of_ble_eq_true rfl⟩) (z_preV hK hG hI (z_rc (q := 51) (ci := 11) (n := 0) hK hI rfl (by decide) rfl)) rfl rfl hl.1 rfl (lv_room (Nat.le_of_ble_eq_true rfl)) dX12_lentSize_3 ⟨Nat.zero_le _, Nat.zero_le _⟩) (fun H locs hI => ?_)
  refine lv_aload_n hx hb dX12_lentSize_6 rfl (lv_at hl 0 rfl) ?_
  refine lv_iload_n hx hb dX12_lentSize_7 rfl (lv_at hl 1 rfl) ?_
  refine lv_iconst (v := 1) hx hb dX12_lentSize_8 (by decide) ?_
  obtain ⟨r1, hc2, hf⟩ := ok_1 hf
  refine z_calli0 rfl rfl hI (va_runV (As := [.int x1, .int 1]) (rest := []) ⟨hx, hb, hml, hown, hts⟩ (m_X12_sown G l  hc2) (cwV 2 hts gX12_lentSize_X12_sown rfl rfl rfl (by decide +kernel) ⟨Nat.le_of_ble_eq_true rfl, Nat.le_of_ble_eq_true rfl⟩) (z_preV hK hG hI (z_rc (q := 51) (ci := 11) (n := 0) hK hI rfl (by decide) rfl)) rfl rfl hl.1 rfl (lv_room (Nat.le_of_ble_eq_true rfl)) dX12_lentSize_9 ⟨Nat.zero_le _, Nat.zero_le _⟩) (fun H locs hI => ?_)
  cases hf
  exact z_iret hx hb hr hlk hK hG hI dX12_lentSize_12

-- ===== FenceYardsModel.lentMark(I)I
def f_X12_lentMark (σ : Hp) (x1 : Int32) : Option (Hp × Int32) :=
  bd1 (f_X12_begins σ 20) fun s1 => some (s1, x1)
set_option maxRecDepth 100000 in
set_option maxHeartbeats 4000000 in
theorem m_X12_lentMark (G : GT) (l : Launch) {σ : Hp} {x1 : Int32} {σ' : Hp} {r : Int32}  (hf : f_X12_lentMark σ x1 = some (σ', r)) : MetG G l yX12_lentMark wsX12_lentMark (rmk 1 21) σ [.ref (G.1 + 51), .int x1] (QI G σ' r) := by
  refine met_of (cc := cX12_lentMark) (nL := 2) (ret := (some .int)) (by decide) rfl (Nat.le_of_ble_eq_true rfl) ?_
  intro p e s m below meth c C0 hnm hI ls hl
  obtain ⟨hx, hb, hr, hml, hown, hts, hlk, hK, hG⟩ := id C0
  have hl : lv_has ls 2 [(0, .ref (G.1 + 51)), (1, .int x1)] := hl
  unfold f_X12_lentMark at hf
  refine lv_aload_n hx hb dX12_lentMark_0 rfl (lv_at hl 0 rfl) ?_
  refine lv_bipush (v := 20) hx hb dX12_lentMark_1 (by decide) ?_
  obtain ⟨s1, hc1, hf⟩ := ok_1 hf
  refine z_callv0 rfl rfl hI (va_runV (As := [.int 20]) (rest := []) ⟨hx, hb, hml, hown, hts⟩ (m_X12_begins G l  hc1) (cwV 1 hts gX12_lentMark_X12_begins rfl rfl rfl (by decide +kernel) ⟨Nat.le_of_ble_eq_true rfl, Nat.le_of_ble_eq_true rfl⟩) (z_preV hK hG hI (z_rc (q := 51) (ci := 11) (n := 0) hK hI rfl (by decide) rfl)) rfl rfl hl.1 rfl (lv_room (Nat.le_of_ble_eq_true rfl)) dX12_lentMark_3 ⟨Nat.zero_le _, Nat.zero_le _⟩) (fun H locs hI => ?_)
  refine lv_iload_n hx hb dX12_lentMark_6 rfl (lv_at hl 1 rfl) ?_
  cases hf
  exact z_iret hx hb hr hlk hK hG hI dX12_lentMark_7

-- ===== FenceYardsModel.beansMark(I)I
def f_X12_beansMark (σ : Hp) (x1 : Int32) : Option (Hp × Int32) :=
  bd1 (f_X12_begins σ 21) fun s1 => bd2 (f_X12_lentMark s1 x1) fun s2 r1 => bd1 (f_X12_sown s2 x1 2) fun r2 => some (s2, r1 + r2)
set_option maxRecDepth 100000 in
set_option maxHeartbeats 4000000 in
theorem m_X12_beansMark (G : GT) (l : Launch) {σ : Hp} {x1 : Int32} {σ' : Hp} {r : Int32}  (hf : f_X12_beansMark σ x1 = some (σ', r)) : MetG G l yX12_beansMark wsX12_beansMark (rmk 2 42) σ [.ref (G.1 + 51), .int x1] (QI G σ' r) := by
  refine met_of (cc := cX12_beansMark) (nL := 2) (ret := (some .int)) (by decide) rfl (Nat.le_of_ble_eq_true rfl) ?_
  intro p e s m below meth c C0 hnm hI ls hl
  obtain ⟨hx, hb, hr, hml, hown, hts, hlk, hK, hG⟩ := id C0
  have hl : lv_has ls 2 [(0, .ref (G.1 + 51)), (1, .int x1)] := hl
  unfold f_X12_beansMark at hf
  refine lv_aload_n hx hb dX12_beansMark_0 rfl (lv_at hl 0 rfl) ?_
  refine lv_bipush (v := 21) hx hb dX12_beansMark_1 (by decide) ?_
  obtain ⟨s1, hc1, hf⟩ := ok_1 hf
  refine z_callv0 rfl rfl hI (va_runV (As := [.int 21]) (rest := []) ⟨hx, hb, hml, hown, hts⟩ (m_X12_begins G l  hc1) (cwV 1 hts gX12_beansMark_X12_begins rfl rfl rfl (by decide +kernel) ⟨Nat.le_of_ble_eq_true rfl, Nat.le_of_ble_eq_true rfl⟩) (z_preV hK hG hI (z_rc (q := 51) (ci := 11) (n := 0) hK hI rfl (by decide) rfl)) rfl rfl hl.1 rfl (lv_room (Nat.le_of_ble_eq_true rfl)) dX12_beansMark_3 ⟨Nat.zero_le _, Nat.zero_le _⟩) (fun H locs hI => ?_)
  refine lv_aload_n hx hb dX12_beansMark_6 rfl (lv_at hl 0 rfl) ?_
  refine lv_iload_n hx hb dX12_beansMark_7 rfl (lv_at hl 1 rfl) ?_
  obtain ⟨s2, r1, hc2, hf⟩ := ok_2 hf
  refine z_calli0 rfl rfl hI (va_runV (As := [.int x1]) (rest := []) ⟨hx, hb, hml, hown, hts⟩ (m_X12_lentMark G l  hc2) (cwV 1 hts gX12_beansMark_X12_lentMark rfl rfl rfl (by decide +kernel) ⟨Nat.le_of_ble_eq_true rfl, Nat.le_of_ble_eq_true rfl⟩) (z_preV hK hG hI (z_rc (q := 51) (ci := 11) (n := 0) hK hI rfl (by decide) rfl)) rfl rfl hl.1 rfl (lv_room (Nat.le_of_ble_eq_true rfl)) dX12_beansMark_8 ⟨Nat.zero_le _, Nat.zero_le _⟩) (fun H locs hI => ?_)
  refine lv_aload_n hx hb dX12_beansMark_11 rfl (lv_at hl 0 rfl) ?_
  refine lv_iload_n hx hb dX12_beansMark_12 rfl (lv_at hl 1 rfl) ?_
  refine lv_iconst (v := 2) hx hb dX12_beansMark_13 (by decide) ?_
  obtain ⟨r2, hc3, hf⟩ := ok_1 hf
  refine z_calli0 rfl rfl hI (va_runV (As := [.int x1, .int 2]) (rest := [.int r1]) ⟨hx, hb, hml, hown, hts⟩ (m_X12_sown G l  hc3) (cwV 2 hts gX12_beansMark_X12_sown rfl rfl rfl (by decide +kernel) ⟨Nat.le_of_ble_eq_true rfl, Nat.le_of_ble_eq_true rfl⟩) (z_preV hK hG hI (z_rc (q := 51) (ci := 11) (n := 0) hK hI rfl (by decide) rfl)) rfl rfl hl.1 rfl (lv_room (Nat.le_of_ble_eq_true rfl)) dX12_beansMark_14 ⟨Nat.zero_le _, Nat.zero_le _⟩) (fun H locs hI => ?_)
  refine lv_iadd hx hb dX12_beansMark_17 ?_
  cases hf
  exact z_iret hx hb hr hlk hK hG hI dX12_beansMark_18

-- ===== FenceYardsModel.markOfBeans(I)I
def f_X12_markOfBeans (σ : Hp) (x1 : Int32) : Option (Hp × Int32) :=
  bd1 (f_X12_sown σ x1 0) fun r1 => if r1 = 2 then (bd1 (f_X12_begins σ 24) fun s4 => bd2 (f_X12_beansMark s4 x1) fun s5 r4 => some (s5, 2 * r4)) else (if r1 = 3 then (bd1 (f_X12_begins σ 22) fun s2 => bd2 (f_X12_beansMark s2 x1) fun s3 r3 => some (s3, r3 - 1000)) else (bd2 (f_X12_beansMark σ x1) fun s1 r2 => some (s1, r2)))
set_option maxRecDepth 100000 in
set_option maxHeartbeats 4000000 in
theorem m_X12_markOfBeans (G : GT) (l : Launch) {σ : Hp} {x1 : Int32} {σ' : Hp} {r : Int32}  (hf : f_X12_markOfBeans σ x1 = some (σ', r)) : MetG G l yX12_markOfBeans wsX12_markOfBeans (rmk 3 63) σ [.ref (G.1 + 51), .int x1] (QI G σ' r) := by
  refine met_of (cc := cX12_markOfBeans) (nL := 3) (ret := (some .int)) (by decide) rfl (Nat.le_of_ble_eq_true rfl) ?_
  intro p e s m below meth c C0 hnm hI ls hl
  obtain ⟨hx, hb, hr, hml, hown, hts, hlk, hK, hG⟩ := id C0
  have hl : lv_has ls 3 [(0, .ref (G.1 + 51)), (1, .int x1)] := hl
  unfold f_X12_markOfBeans at hf
  refine lv_aload_n hx hb dX12_markOfBeans_0 rfl (lv_at hl 0 rfl) ?_
  refine lv_iload_n hx hb dX12_markOfBeans_1 rfl (lv_at hl 1 rfl) ?_
  refine lv_iconst (v := 0) hx hb dX12_markOfBeans_2 (by decide) ?_
  obtain ⟨r1, hc1, hf⟩ := ok_1 hf
  refine z_calli0 rfl rfl hI (va_runV (As := [.int x1, .int 0]) (rest := []) ⟨hx, hb, hml, hown, hts⟩ (m_X12_sown G l  hc1) (cwV 2 hts gX12_markOfBeans_X12_sown rfl rfl rfl (by decide +kernel) ⟨Nat.le_of_ble_eq_true rfl, Nat.le_of_ble_eq_true rfl⟩) (z_preV hK hG hI (z_rc (q := 51) (ci := 11) (n := 0) hK hI rfl (by decide) rfl)) rfl rfl hl.1 rfl (lv_room (Nat.le_of_ble_eq_true rfl)) dX12_markOfBeans_3 ⟨Nat.zero_le _, Nat.zero_le _⟩) (fun H locs hI => ?_)
  refine lv_istore_n (lv' := [(2, .int r1), (0, .ref (G.1 + 51)), (1, .int x1)]) hx hb dX12_markOfBeans_6 rfl hl (by decide) rfl (fun ls hl => ?_)
  refine lv_iload_n hx hb dX12_markOfBeans_7 rfl (lv_at hl 0 rfl) ?_
  refine lv_iconst (v := 2) hx hb dX12_markOfBeans_8 (by decide) ?_
  refine lv_icmp_ne (tgt := 26) hx hb dX12_markOfBeans_9 (by decide) (fun c1 => ?_) (fun c1 => ?_)
  · have hf := ok_f c1 hf
    refine lv_iload_n hx hb dX12_markOfBeans_26 rfl (lv_at hl 0 rfl) ?_
    refine lv_iconst (v := 3) hx hb dX12_markOfBeans_27 (by decide) ?_
    refine lv_icmp_ne (tgt := 47) hx hb dX12_markOfBeans_28 (by decide) (fun c2 => ?_) (fun c2 => ?_)
    · have hf := ok_f c2 hf
      refine lv_aload_n hx hb dX12_markOfBeans_47 rfl (lv_at hl 1 rfl) ?_
      refine lv_iload_n hx hb dX12_markOfBeans_48 rfl (lv_at hl 2 rfl) ?_
      obtain ⟨s1, r2, hc2, hf⟩ := ok_2 hf
      refine z_calli0 rfl rfl hI (va_runV (As := [.int x1]) (rest := []) ⟨hx, hb, hml, hown, hts⟩ (m_X12_beansMark G l  hc2) (cwV 1 hts gX12_markOfBeans_X12_beansMark rfl rfl rfl (by decide +kernel) ⟨Nat.le_of_ble_eq_true rfl, Nat.le_of_ble_eq_true rfl⟩) (z_preV hK hG hI (z_rc (q := 51) (ci := 11) (n := 0) hK hI rfl (by decide) rfl)) rfl rfl hl.1 rfl (lv_room (Nat.le_of_ble_eq_true rfl)) dX12_markOfBeans_49 ⟨Nat.zero_le _, Nat.zero_le _⟩) (fun H locs hI => ?_)
      cases hf
      exact z_iret hx hb hr hlk hK hG hI dX12_markOfBeans_52
    · have hf := ok_t c2 hf
      refine lv_aload_n hx hb dX12_markOfBeans_31 rfl (lv_at hl 1 rfl) ?_
      refine lv_bipush (v := 22) hx hb dX12_markOfBeans_32 (by decide) ?_
      obtain ⟨s2, hc3, hf⟩ := ok_1 hf
      refine z_callv0 rfl rfl hI (va_runV (As := [.int 22]) (rest := []) ⟨hx, hb, hml, hown, hts⟩ (m_X12_begins G l  hc3) (cwV 1 hts gX12_markOfBeans_X12_begins rfl rfl rfl (by decide +kernel) ⟨Nat.le_of_ble_eq_true rfl, Nat.le_of_ble_eq_true rfl⟩) (z_preV hK hG hI (z_rc (q := 51) (ci := 11) (n := 0) hK hI rfl (by decide) rfl)) rfl rfl hl.1 rfl (lv_room (Nat.le_of_ble_eq_true rfl)) dX12_markOfBeans_34 ⟨Nat.zero_le _, Nat.zero_le _⟩) (fun H locs hI => ?_)
      refine lv_aload_n hx hb dX12_markOfBeans_37 rfl (lv_at hl 1 rfl) ?_
      refine lv_iload_n hx hb dX12_markOfBeans_38 rfl (lv_at hl 2 rfl) ?_
      obtain ⟨s3, r3, hc4, hf⟩ := ok_2 hf
      refine z_calli0 rfl rfl hI (va_runV (As := [.int x1]) (rest := []) ⟨hx, hb, hml, hown, hts⟩ (m_X12_beansMark G l  hc4) (cwV 1 hts gX12_markOfBeans_X12_beansMark rfl rfl rfl (by decide +kernel) ⟨Nat.le_of_ble_eq_true rfl, Nat.le_of_ble_eq_true rfl⟩) (z_preV hK hG hI (z_rc (q := 51) (ci := 11) (n := 0) hK hI rfl (by decide) rfl)) rfl rfl hl.1 rfl (lv_room (Nat.le_of_ble_eq_true rfl)) dX12_markOfBeans_39 ⟨Nat.zero_le _, Nat.zero_le _⟩) (fun H locs hI => ?_)
      refine lv_sipush (v := 1000) hx hb dX12_markOfBeans_42 (by decide) ?_
      refine lv_isub hx hb dX12_markOfBeans_45 ?_
      cases hf
      exact z_iret hx hb hr hlk hK hG hI dX12_markOfBeans_46
  · have hf := ok_t c1 hf
    refine lv_aload_n hx hb dX12_markOfBeans_12 rfl (lv_at hl 1 rfl) ?_
    refine lv_bipush (v := 24) hx hb dX12_markOfBeans_13 (by decide) ?_
    obtain ⟨s4, hc5, hf⟩ := ok_1 hf
    refine z_callv0 rfl rfl hI (va_runV (As := [.int 24]) (rest := []) ⟨hx, hb, hml, hown, hts⟩ (m_X12_begins G l  hc5) (cwV 1 hts gX12_markOfBeans_X12_begins rfl rfl rfl (by decide +kernel) ⟨Nat.le_of_ble_eq_true rfl, Nat.le_of_ble_eq_true rfl⟩) (z_preV hK hG hI (z_rc (q := 51) (ci := 11) (n := 0) hK hI rfl (by decide) rfl)) rfl rfl hl.1 rfl (lv_room (Nat.le_of_ble_eq_true rfl)) dX12_markOfBeans_15 ⟨Nat.zero_le _, Nat.zero_le _⟩) (fun H locs hI => ?_)
    refine lv_iconst (v := 2) hx hb dX12_markOfBeans_18 (by decide) ?_
    refine lv_aload_n hx hb dX12_markOfBeans_19 rfl (lv_at hl 1 rfl) ?_
    refine lv_iload_n hx hb dX12_markOfBeans_20 rfl (lv_at hl 2 rfl) ?_
    obtain ⟨s5, r4, hc6, hf⟩ := ok_2 hf
    refine z_calli0 rfl rfl hI (va_runV (As := [.int x1]) (rest := [.int 2]) ⟨hx, hb, hml, hown, hts⟩ (m_X12_beansMark G l  hc6) (cwV 1 hts gX12_markOfBeans_X12_beansMark rfl rfl rfl (by decide +kernel) ⟨Nat.le_of_ble_eq_true rfl, Nat.le_of_ble_eq_true rfl⟩) (z_preV hK hG hI (z_rc (q := 51) (ci := 11) (n := 0) hK hI rfl (by decide) rfl)) rfl rfl hl.1 rfl (lv_room (Nat.le_of_ble_eq_true rfl)) dX12_markOfBeans_21 ⟨Nat.zero_le _, Nat.zero_le _⟩) (fun H locs hI => ?_)
    refine lv_imul hx hb dX12_markOfBeans_24 ?_
    cases hf
    exact z_iret hx hb hr hlk hK hG hI dX12_markOfBeans_25

-- ===== FenceYardsModel.beansSize(I)I
def f_X12_beansSize (σ : Hp) (x1 : Int32) : Option (Hp × Int32) :=
  bd1 (f_X12_begins σ 11) fun s1 => bd2 (f_X12_lentSize s1 x1) fun s2 r1 => bd2 (f_X12_markOfBeans s2 x1) fun s3 r2 => some (s3, r1 + r2)
set_option maxRecDepth 100000 in
set_option maxHeartbeats 4000000 in
theorem m_X12_beansSize (G : GT) (l : Launch) {σ : Hp} {x1 : Int32} {σ' : Hp} {r : Int32}  (hf : f_X12_beansSize σ x1 = some (σ', r)) : MetG G l yX12_beansSize wsX12_beansSize (rmk 4 85) σ [.ref (G.1 + 51), .int x1] (QI G σ' r) := by
  refine met_of (cc := cX12_beansSize) (nL := 3) (ret := (some .int)) (by decide) rfl (Nat.le_of_ble_eq_true rfl) ?_
  intro p e s m below meth c C0 hnm hI ls hl
  obtain ⟨hx, hb, hr, hml, hown, hts, hlk, hK, hG⟩ := id C0
  have hl : lv_has ls 3 [(0, .ref (G.1 + 51)), (1, .int x1)] := hl
  unfold f_X12_beansSize at hf
  refine lv_aload_n hx hb dX12_beansSize_0 rfl (lv_at hl 0 rfl) ?_
  refine lv_bipush (v := 11) hx hb dX12_beansSize_1 (by decide) ?_
  obtain ⟨s1, hc1, hf⟩ := ok_1 hf
  refine z_callv0 rfl rfl hI (va_runV (As := [.int 11]) (rest := []) ⟨hx, hb, hml, hown, hts⟩ (m_X12_begins G l  hc1) (cwV 1 hts gX12_beansSize_X12_begins rfl rfl rfl (by decide +kernel) ⟨Nat.le_of_ble_eq_true rfl, Nat.le_of_ble_eq_true rfl⟩) (z_preV hK hG hI (z_rc (q := 51) (ci := 11) (n := 0) hK hI rfl (by decide) rfl)) rfl rfl hl.1 rfl (lv_room (Nat.le_of_ble_eq_true rfl)) dX12_beansSize_3 ⟨Nat.zero_le _, Nat.zero_le _⟩) (fun H locs hI => ?_)
  refine lv_aload_n hx hb dX12_beansSize_6 rfl (lv_at hl 0 rfl) ?_
  refine lv_iload_n hx hb dX12_beansSize_7 rfl (lv_at hl 1 rfl) ?_
  obtain ⟨s2, r1, hc2, hf⟩ := ok_2 hf
  refine z_calli0 rfl rfl hI (va_runV (As := [.int x1]) (rest := []) ⟨hx, hb, hml, hown, hts⟩ (m_X12_lentSize G l  hc2) (cwV 1 hts gX12_beansSize_X12_lentSize rfl rfl rfl (by decide +kernel) ⟨Nat.le_of_ble_eq_true rfl, Nat.le_of_ble_eq_true rfl⟩) (z_preV hK hG hI (z_rc (q := 51) (ci := 11) (n := 0) hK hI rfl (by decide) rfl)) rfl rfl hl.1 rfl (lv_room (Nat.le_of_ble_eq_true rfl)) dX12_beansSize_8 ⟨Nat.zero_le _, Nat.zero_le _⟩) (fun H locs hI => ?_)
  refine lv_istore_n (lv' := [(2, .int r1), (0, .ref (G.1 + 51)), (1, .int x1)]) hx hb dX12_beansSize_11 rfl hl (by decide) rfl (fun ls hl => ?_)
  refine lv_iload_n hx hb dX12_beansSize_12 rfl (lv_at hl 0 rfl) ?_
  refine lv_aload_n hx hb dX12_beansSize_13 rfl (lv_at hl 1 rfl) ?_
  refine lv_iload_n hx hb dX12_beansSize_14 rfl (lv_at hl 2 rfl) ?_
  obtain ⟨s3, r2, hc3, hf⟩ := ok_2 hf
  refine z_calli0 rfl rfl hI (va_runV (As := [.int x1]) (rest := [.int r1]) ⟨hx, hb, hml, hown, hts⟩ (m_X12_markOfBeans G l  hc3) (cwV 1 hts gX12_beansSize_X12_markOfBeans rfl rfl rfl (by decide +kernel) ⟨Nat.le_of_ble_eq_true rfl, Nat.le_of_ble_eq_true rfl⟩) (z_preV hK hG hI (z_rc (q := 51) (ci := 11) (n := 0) hK hI rfl (by decide) rfl)) rfl rfl hl.1 rfl (lv_room (Nat.le_of_ble_eq_true rfl)) dX12_beansSize_15 ⟨Nat.zero_le _, Nat.zero_le _⟩) (fun H locs hI => ?_)
  refine lv_iadd hx hb dX12_beansSize_18 ?_
  cases hf
  exact z_iret hx hb hr hlk hK hG hI dX12_beansSize_19

-- ===== FenceYardsModel.grassSize(I)I
def f_X12_grassSize (σ : Hp) (x1 : Int32) : Option (Hp × Int32) :=
  bd1 (f_X12_begins σ 13) fun s1 => bd2 (f_X12_lentSize s1 x1) fun s2 r1 => some (s2, r1 - 100)
set_option maxRecDepth 100000 in
set_option maxHeartbeats 4000000 in
theorem m_X12_grassSize (G : GT) (l : Launch) {σ : Hp} {x1 : Int32} {σ' : Hp} {r : Int32}  (hf : f_X12_grassSize σ x1 = some (σ', r)) : MetG G l yX12_grassSize wsX12_grassSize (rmk 2 43) σ [.ref (G.1 + 51), .int x1] (QI G σ' r) := by
  refine met_of (cc := cX12_grassSize) (nL := 2) (ret := (some .int)) (by decide) rfl (Nat.le_of_ble_eq_true rfl) ?_
  intro p e s m below meth c C0 hnm hI ls hl
  obtain ⟨hx, hb, hr, hml, hown, hts, hlk, hK, hG⟩ := id C0
  have hl : lv_has ls 2 [(0, .ref (G.1 + 51)), (1, .int x1)] := hl
  unfold f_X12_grassSize at hf
  refine lv_aload_n hx hb dX12_grassSize_0 rfl (lv_at hl 0 rfl) ?_
  refine lv_bipush (v := 13) hx hb dX12_grassSize_1 (by decide) ?_
  obtain ⟨s1, hc1, hf⟩ := ok_1 hf
  refine z_callv0 rfl rfl hI (va_runV (As := [.int 13]) (rest := []) ⟨hx, hb, hml, hown, hts⟩ (m_X12_begins G l  hc1) (cwV 1 hts gX12_grassSize_X12_begins rfl rfl rfl (by decide +kernel) ⟨Nat.le_of_ble_eq_true rfl, Nat.le_of_ble_eq_true rfl⟩) (z_preV hK hG hI (z_rc (q := 51) (ci := 11) (n := 0) hK hI rfl (by decide) rfl)) rfl rfl hl.1 rfl (lv_room (Nat.le_of_ble_eq_true rfl)) dX12_grassSize_3 ⟨Nat.zero_le _, Nat.zero_le _⟩) (fun H locs hI => ?_)
  refine lv_aload_n hx hb dX12_grassSize_6 rfl (lv_at hl 0 rfl) ?_
  refine lv_iload_n hx hb dX12_grassSize_7 rfl (lv_at hl 1 rfl) ?_
  obtain ⟨s2, r1, hc2, hf⟩ := ok_2 hf
  refine z_calli0 rfl rfl hI (va_runV (As := [.int x1]) (rest := []) ⟨hx, hb, hml, hown, hts⟩ (m_X12_lentSize G l  hc2) (cwV 1 hts gX12_grassSize_X12_lentSize rfl rfl rfl (by decide +kernel) ⟨Nat.le_of_ble_eq_true rfl, Nat.le_of_ble_eq_true rfl⟩) (z_preV hK hG hI (z_rc (q := 51) (ci := 11) (n := 0) hK hI rfl (by decide) rfl)) rfl rfl hl.1 rfl (lv_room (Nat.le_of_ble_eq_true rfl)) dX12_grassSize_8 ⟨Nat.zero_le _, Nat.zero_le _⟩) (fun H locs hI => ?_)
  refine lv_bipush (v := 100) hx hb dX12_grassSize_11 (by decide) ?_
  refine lv_isub hx hb dX12_grassSize_13 ?_
  cases hf
  exact z_iret hx hb hr hlk hK hG hI dX12_grassSize_14

-- ===== FenceYardsModel.sizeOfGrass(I)I
def f_X12_sizeOfGrass (σ : Hp) (x1 : Int32) : Option (Hp × Int32) :=
  bd1 (f_X12_sown σ x1 0) fun r1 => if r1 = 5 then (bd1 (f_X12_begins σ 14) fun s2 => bd2 (f_X12_grassSize s2 x1) fun s3 r3 => some (s3, 2 * r3)) else (bd2 (f_X12_grassSize σ x1) fun s1 r2 => some (s1, r2))
set_option maxRecDepth 100000 in
set_option maxHeartbeats 4000000 in
theorem m_X12_sizeOfGrass (G : GT) (l : Launch) {σ : Hp} {x1 : Int32} {σ' : Hp} {r : Int32}  (hf : f_X12_sizeOfGrass σ x1 = some (σ', r)) : MetG G l yX12_sizeOfGrass wsX12_sizeOfGrass (rmk 3 64) σ [.ref (G.1 + 51), .int x1] (QI G σ' r) := by
  refine met_of (cc := cX12_sizeOfGrass) (nL := 2) (ret := (some .int)) (by decide) rfl (Nat.le_of_ble_eq_true rfl) ?_
  intro p e s m below meth c C0 hnm hI ls hl
  obtain ⟨hx, hb, hr, hml, hown, hts, hlk, hK, hG⟩ := id C0
  have hl : lv_has ls 2 [(0, .ref (G.1 + 51)), (1, .int x1)] := hl
  unfold f_X12_sizeOfGrass at hf
  refine lv_aload_n hx hb dX12_sizeOfGrass_0 rfl (lv_at hl 0 rfl) ?_
  refine lv_iload_n hx hb dX12_sizeOfGrass_1 rfl (lv_at hl 1 rfl) ?_
  refine lv_iconst (v := 0) hx hb dX12_sizeOfGrass_2 (by decide) ?_
  obtain ⟨r1, hc1, hf⟩ := ok_1 hf
  refine z_calli0 rfl rfl hI (va_runV (As := [.int x1, .int 0]) (rest := []) ⟨hx, hb, hml, hown, hts⟩ (m_X12_sown G l  hc1) (cwV 2 hts gX12_sizeOfGrass_X12_sown rfl rfl rfl (by decide +kernel) ⟨Nat.le_of_ble_eq_true rfl, Nat.le_of_ble_eq_true rfl⟩) (z_preV hK hG hI (z_rc (q := 51) (ci := 11) (n := 0) hK hI rfl (by decide) rfl)) rfl rfl hl.1 rfl (lv_room (Nat.le_of_ble_eq_true rfl)) dX12_sizeOfGrass_3 ⟨Nat.zero_le _, Nat.zero_le _⟩) (fun H locs hI => ?_)
  refine lv_iconst (v := 5) hx hb dX12_sizeOfGrass_6 (by decide) ?_
  refine lv_icmp_ne (tgt := 24) hx hb dX12_sizeOfGrass_7 (by decide) (fun c1 => ?_) (fun c1 => ?_)
  · have hf := ok_f c1 hf
    refine lv_aload_n hx hb dX12_sizeOfGrass_24 rfl (lv_at hl 0 rfl) ?_
    refine lv_iload_n hx hb dX12_sizeOfGrass_25 rfl (lv_at hl 1 rfl) ?_
    obtain ⟨s1, r2, hc2, hf⟩ := ok_2 hf
    refine z_calli0 rfl rfl hI (va_runV (As := [.int x1]) (rest := []) ⟨hx, hb, hml, hown, hts⟩ (m_X12_grassSize G l  hc2) (cwV 1 hts gX12_sizeOfGrass_X12_grassSize rfl rfl rfl (by decide +kernel) ⟨Nat.le_of_ble_eq_true rfl, Nat.le_of_ble_eq_true rfl⟩) (z_preV hK hG hI (z_rc (q := 51) (ci := 11) (n := 0) hK hI rfl (by decide) rfl)) rfl rfl hl.1 rfl (lv_room (Nat.le_of_ble_eq_true rfl)) dX12_sizeOfGrass_26 ⟨Nat.zero_le _, Nat.zero_le _⟩) (fun H locs hI => ?_)
    cases hf
    exact z_iret hx hb hr hlk hK hG hI dX12_sizeOfGrass_29
  · have hf := ok_t c1 hf
    refine lv_aload_n hx hb dX12_sizeOfGrass_10 rfl (lv_at hl 0 rfl) ?_
    refine lv_bipush (v := 14) hx hb dX12_sizeOfGrass_11 (by decide) ?_
    obtain ⟨s2, hc3, hf⟩ := ok_1 hf
    refine z_callv0 rfl rfl hI (va_runV (As := [.int 14]) (rest := []) ⟨hx, hb, hml, hown, hts⟩ (m_X12_begins G l  hc3) (cwV 1 hts gX12_sizeOfGrass_X12_begins rfl rfl rfl (by decide +kernel) ⟨Nat.le_of_ble_eq_true rfl, Nat.le_of_ble_eq_true rfl⟩) (z_preV hK hG hI (z_rc (q := 51) (ci := 11) (n := 0) hK hI rfl (by decide) rfl)) rfl rfl hl.1 rfl (lv_room (Nat.le_of_ble_eq_true rfl)) dX12_sizeOfGrass_13 ⟨Nat.zero_le _, Nat.zero_le _⟩) (fun H locs hI => ?_)
    refine lv_iconst (v := 2) hx hb dX12_sizeOfGrass_16 (by decide) ?_
    refine lv_aload_n hx hb dX12_sizeOfGrass_17 rfl (lv_at hl 0 rfl) ?_
    refine lv_iload_n hx hb dX12_sizeOfGrass_18 rfl (lv_at hl 1 rfl) ?_
    obtain ⟨s3, r3, hc4, hf⟩ := ok_2 hf
    refine z_calli0 rfl rfl hI (va_runV (As := [.int x1]) (rest := [.int 2]) ⟨hx, hb, hml, hown, hts⟩ (m_X12_grassSize G l  hc4) (cwV 1 hts gX12_sizeOfGrass_X12_grassSize rfl rfl rfl (by decide +kernel) ⟨Nat.le_of_ble_eq_true rfl, Nat.le_of_ble_eq_true rfl⟩) (z_preV hK hG hI (z_rc (q := 51) (ci := 11) (n := 0) hK hI rfl (by decide) rfl)) rfl rfl hl.1 rfl (lv_room (Nat.le_of_ble_eq_true rfl)) dX12_sizeOfGrass_19 ⟨Nat.zero_le _, Nat.zero_le _⟩) (fun H locs hI => ?_)
    refine lv_imul hx hb dX12_sizeOfGrass_22 ?_
    cases hf
    exact z_iret hx hb hr hlk hK hG hI dX12_sizeOfGrass_23

-- ===== FenceYardsModel.sizeOf(I)I
def f_X12_sizeOf (σ : Hp) (x1 : Int32) : Option (Hp × Int32) :=
  bd1 (f_X12_sown σ x1 0) fun r1 => bd1 (f_X12_in σ r1 4 5) fun r2 => if r2 = 0 then (bd1 (f_X12_sown σ x1 0) fun r3 => if r3 = 2 then (bd1 (f_X12_begins σ 12) fun s2 => bd2 (f_X12_beansSize s2 x1) fun s3 r5 => some (s3, -r5)) else (bd2 (f_X12_beansSize σ x1) fun s1 r4 => some (s1, r4))) else (bd2 (f_X12_sizeOfGrass σ x1) fun s4 r6 => some (s4, r6))
set_option maxRecDepth 100000 in
set_option maxHeartbeats 4000000 in
theorem m_X12_sizeOf (G : GT) (l : Launch) {σ : Hp} {x1 : Int32} {σ' : Hp} {r : Int32}  (hf : f_X12_sizeOf σ x1 = some (σ', r)) : MetG G l yX12_sizeOf wsX12_sizeOf (rmk 5 107) σ [.ref (G.1 + 51), .int x1] (QI G σ' r) := by
  refine met_of (cc := cX12_sizeOf) (nL := 2) (ret := (some .int)) (by decide) rfl (Nat.le_of_ble_eq_true rfl) ?_
  intro p e s m below meth c C0 hnm hI ls hl
  obtain ⟨hx, hb, hr, hml, hown, hts, hlk, hK, hG⟩ := id C0
  have hl : lv_has ls 2 [(0, .ref (G.1 + 51)), (1, .int x1)] := hl
  unfold f_X12_sizeOf at hf
  refine lv_aload_n hx hb dX12_sizeOf_0 rfl (lv_at hl 0 rfl) ?_
  refine lv_iload_n hx hb dX12_sizeOf_1 rfl (lv_at hl 1 rfl) ?_
  refine lv_iconst (v := 0) hx hb dX12_sizeOf_2 (by decide) ?_
  obtain ⟨r1, hc1, hf⟩ := ok_1 hf
  refine z_calli0 rfl rfl hI (va_runV (As := [.int x1, .int 0]) (rest := []) ⟨hx, hb, hml, hown, hts⟩ (m_X12_sown G l  hc1) (cwV 2 hts gX12_sizeOf_X12_sown rfl rfl rfl (by decide +kernel) ⟨Nat.le_of_ble_eq_true rfl, Nat.le_of_ble_eq_true rfl⟩) (z_preV hK hG hI (z_rc (q := 51) (ci := 11) (n := 0) hK hI rfl (by decide) rfl)) rfl rfl hl.1 rfl (lv_room (Nat.le_of_ble_eq_true rfl)) dX12_sizeOf_3 ⟨Nat.zero_le _, Nat.zero_le _⟩) (fun H locs hI => ?_)
  refine lv_iconst (v := 4) hx hb dX12_sizeOf_6 (by decide) ?_
  refine lv_iconst (v := 5) hx hb dX12_sizeOf_7 (by decide) ?_
  obtain ⟨r2, hc2, hf⟩ := ok_1 hf
  refine z_calli0 rfl rfl hI (va_runS (As := [.int r1, .int 4, .int 5]) (rest := []) ⟨hx, hb, hml, hown, hts⟩ (m_X12_in G l  hc2) (va_cwS 3 hts gX12_sizeOf_X12_in rfl rfl rfl (by decide +kernel) ⟨Nat.le_of_ble_eq_true rfl, Nat.le_of_ble_eq_true rfl⟩) (z_pre hK hG hI) rfl rfl hl.1 rfl (lv_room (Nat.le_of_ble_eq_true rfl)) dX12_sizeOf_8 ⟨Nat.zero_le _, Nat.zero_le _⟩) (fun H locs hI => ?_)
  refine lv_if_eq (tgt := 20) hx hb dX12_sizeOf_11 (by decide) (fun c1 => ?_) (fun c1 => ?_)
  · have hf := ok_t c1 hf
    refine lv_aload_n hx hb dX12_sizeOf_20 rfl (lv_at hl 0 rfl) ?_
    refine lv_iload_n hx hb dX12_sizeOf_21 rfl (lv_at hl 1 rfl) ?_
    refine lv_iconst (v := 0) hx hb dX12_sizeOf_22 (by decide) ?_
    obtain ⟨r3, hc3, hf⟩ := ok_1 hf
    refine z_calli0 rfl rfl hI (va_runV (As := [.int x1, .int 0]) (rest := []) ⟨hx, hb, hml, hown, hts⟩ (m_X12_sown G l  hc3) (cwV 2 hts gX12_sizeOf_X12_sown rfl rfl rfl (by decide +kernel) ⟨Nat.le_of_ble_eq_true rfl, Nat.le_of_ble_eq_true rfl⟩) (z_preV hK hG hI (z_rc (q := 51) (ci := 11) (n := 0) hK hI rfl (by decide) rfl)) rfl rfl hl.1 rfl (lv_room (Nat.le_of_ble_eq_true rfl)) dX12_sizeOf_23 ⟨Nat.zero_le _, Nat.zero_le _⟩) (fun H locs hI => ?_)
    refine lv_iconst (v := 2) hx hb dX12_sizeOf_26 (by decide) ?_
    refine lv_icmp_ne (tgt := 43) hx hb dX12_sizeOf_27 (by decide) (fun c2 => ?_) (fun c2 => ?_)
    · have hf := ok_f c2 hf
      refine lv_aload_n hx hb dX12_sizeOf_43 rfl (lv_at hl 0 rfl) ?_
      refine lv_iload_n hx hb dX12_sizeOf_44 rfl (lv_at hl 1 rfl) ?_
      obtain ⟨s1, r4, hc4, hf⟩ := ok_2 hf
      refine z_calli0 rfl rfl hI (va_runV (As := [.int x1]) (rest := []) ⟨hx, hb, hml, hown, hts⟩ (m_X12_beansSize G l  hc4) (cwV 1 hts gX12_sizeOf_X12_beansSize rfl rfl rfl (by decide +kernel) ⟨Nat.le_of_ble_eq_true rfl, Nat.le_of_ble_eq_true rfl⟩) (z_preV hK hG hI (z_rc (q := 51) (ci := 11) (n := 0) hK hI rfl (by decide) rfl)) rfl rfl hl.1 rfl (lv_room (Nat.le_of_ble_eq_true rfl)) dX12_sizeOf_45 ⟨Nat.zero_le _, Nat.zero_le _⟩) (fun H locs hI => ?_)
      cases hf
      exact z_iret hx hb hr hlk hK hG hI dX12_sizeOf_48
    · have hf := ok_t c2 hf
      refine lv_aload_n hx hb dX12_sizeOf_30 rfl (lv_at hl 0 rfl) ?_
      refine lv_bipush (v := 12) hx hb dX12_sizeOf_31 (by decide) ?_
      obtain ⟨s2, hc5, hf⟩ := ok_1 hf
      refine z_callv0 rfl rfl hI (va_runV (As := [.int 12]) (rest := []) ⟨hx, hb, hml, hown, hts⟩ (m_X12_begins G l  hc5) (cwV 1 hts gX12_sizeOf_X12_begins rfl rfl rfl (by decide +kernel) ⟨Nat.le_of_ble_eq_true rfl, Nat.le_of_ble_eq_true rfl⟩) (z_preV hK hG hI (z_rc (q := 51) (ci := 11) (n := 0) hK hI rfl (by decide) rfl)) rfl rfl hl.1 rfl (lv_room (Nat.le_of_ble_eq_true rfl)) dX12_sizeOf_33 ⟨Nat.zero_le _, Nat.zero_le _⟩) (fun H locs hI => ?_)
      refine lv_aload_n hx hb dX12_sizeOf_36 rfl (lv_at hl 0 rfl) ?_
      refine lv_iload_n hx hb dX12_sizeOf_37 rfl (lv_at hl 1 rfl) ?_
      obtain ⟨s3, r5, hc6, hf⟩ := ok_2 hf
      refine z_calli0 rfl rfl hI (va_runV (As := [.int x1]) (rest := []) ⟨hx, hb, hml, hown, hts⟩ (m_X12_beansSize G l  hc6) (cwV 1 hts gX12_sizeOf_X12_beansSize rfl rfl rfl (by decide +kernel) ⟨Nat.le_of_ble_eq_true rfl, Nat.le_of_ble_eq_true rfl⟩) (z_preV hK hG hI (z_rc (q := 51) (ci := 11) (n := 0) hK hI rfl (by decide) rfl)) rfl rfl hl.1 rfl (lv_room (Nat.le_of_ble_eq_true rfl)) dX12_sizeOf_38 ⟨Nat.zero_le _, Nat.zero_le _⟩) (fun H locs hI => ?_)
      refine lv_ineg hx hb dX12_sizeOf_41 ?_
      cases hf
      exact z_iret hx hb hr hlk hK hG hI dX12_sizeOf_42
  · have hf := ok_f c1 hf
    refine lv_aload_n hx hb dX12_sizeOf_14 rfl (lv_at hl 0 rfl) ?_
    refine lv_iload_n hx hb dX12_sizeOf_15 rfl (lv_at hl 1 rfl) ?_
    obtain ⟨s4, r6, hc7, hf⟩ := ok_2 hf
    refine z_calli0 rfl rfl hI (va_runV (As := [.int x1]) (rest := []) ⟨hx, hb, hml, hown, hts⟩ (m_X12_sizeOfGrass G l  hc7) (cwV 1 hts gX12_sizeOf_X12_sizeOfGrass rfl rfl rfl (by decide +kernel) ⟨Nat.le_of_ble_eq_true rfl, Nat.le_of_ble_eq_true rfl⟩) (z_preV hK hG hI (z_rc (q := 51) (ci := 11) (n := 0) hK hI rfl (by decide) rfl)) rfl rfl hl.1 rfl (lv_room (Nat.le_of_ble_eq_true rfl)) dX12_sizeOf_16 ⟨Nat.zero_le _, Nat.zero_le _⟩) (fun H locs hI => ?_)
    cases hf
    exact z_iret hx hb hr hlk hK hG hI dX12_sizeOf_19

-- ===== FenceYardsModel.markOf(I)I
def f_X12_markOf (σ : Hp) (x1 : Int32) : Option (Hp × Int32) :=
  bd1 (f_X12_sown σ x1 0) fun r1 => bd1 (f_X12_in σ r1 4 5) fun r2 => if r2 = 0 then (bd2 (f_X12_markOfBeans σ x1) fun s4 r5 => some (s4, r5)) else (bd1 (f_X12_begins σ 23) fun s1 => bd2 (f_X12_lentMark s1 x1) fun s2 r3 => bd2 (f_X12_sizeOfGrass s2 x1) fun s3 r4 => some (s3, r3 - r4))
set_option maxRecDepth 100000 in
set_option maxHeartbeats 4000000 in
theorem m_X12_markOf (G : GT) (l : Launch) {σ : Hp} {x1 : Int32} {σ' : Hp} {r : Int32}  (hf : f_X12_markOf σ x1 = some (σ', r)) : MetG G l yX12_markOf wsX12_markOf (rmk 4 85) σ [.ref (G.1 + 51), .int x1] (QI G σ' r) := by
  refine met_of (cc := cX12_markOf) (nL := 3) (ret := (some .int)) (by decide) rfl (Nat.le_of_ble_eq_true rfl) ?_
  intro p e s m below meth c C0 hnm hI ls hl
  obtain ⟨hx, hb, hr, hml, hown, hts, hlk, hK, hG⟩ := id C0
  have hl : lv_has ls 3 [(0, .ref (G.1 + 51)), (1, .int x1)] := hl
  unfold f_X12_markOf at hf
  refine lv_aload_n hx hb dX12_markOf_0 rfl (lv_at hl 0 rfl) ?_
  refine lv_iload_n hx hb dX12_markOf_1 rfl (lv_at hl 1 rfl) ?_
  refine lv_iconst (v := 0) hx hb dX12_markOf_2 (by decide) ?_
  obtain ⟨r1, hc1, hf⟩ := ok_1 hf
  refine z_calli0 rfl rfl hI (va_runV (As := [.int x1, .int 0]) (rest := []) ⟨hx, hb, hml, hown, hts⟩ (m_X12_sown G l  hc1) (cwV 2 hts gX12_markOf_X12_sown rfl rfl rfl (by decide +kernel) ⟨Nat.le_of_ble_eq_true rfl, Nat.le_of_ble_eq_true rfl⟩) (z_preV hK hG hI (z_rc (q := 51) (ci := 11) (n := 0) hK hI rfl (by decide) rfl)) rfl rfl hl.1 rfl (lv_room (Nat.le_of_ble_eq_true rfl)) dX12_markOf_3 ⟨Nat.zero_le _, Nat.zero_le _⟩) (fun H locs hI => ?_)
  refine lv_iconst (v := 4) hx hb dX12_markOf_6 (by decide) ?_
  refine lv_iconst (v := 5) hx hb dX12_markOf_7 (by decide) ?_
  obtain ⟨r2, hc2, hf⟩ := ok_1 hf
  refine z_calli0 rfl rfl hI (va_runS (As := [.int r1, .int 4, .int 5]) (rest := []) ⟨hx, hb, hml, hown, hts⟩ (m_X12_in G l  hc2) (va_cwS 3 hts gX12_markOf_X12_in rfl rfl rfl (by decide +kernel) ⟨Nat.le_of_ble_eq_true rfl, Nat.le_of_ble_eq_true rfl⟩) (z_pre hK hG hI) rfl rfl hl.1 rfl (lv_room (Nat.le_of_ble_eq_true rfl)) dX12_markOf_8 ⟨Nat.zero_le _, Nat.zero_le _⟩) (fun H locs hI => ?_)
  refine lv_if_ne (tgt := 20) hx hb dX12_markOf_11 (by decide) (fun c1 => ?_) (fun c1 => ?_)
  · have hf := ok_f c1 hf
    refine lv_aload_n hx hb dX12_markOf_20 rfl (lv_at hl 0 rfl) ?_
    refine lv_bipush (v := 23) hx hb dX12_markOf_21 (by decide) ?_
    obtain ⟨s1, hc3, hf⟩ := ok_1 hf
    refine z_callv0 rfl rfl hI (va_runV (As := [.int 23]) (rest := []) ⟨hx, hb, hml, hown, hts⟩ (m_X12_begins G l  hc3) (cwV 1 hts gX12_markOf_X12_begins rfl rfl rfl (by decide +kernel) ⟨Nat.le_of_ble_eq_true rfl, Nat.le_of_ble_eq_true rfl⟩) (z_preV hK hG hI (z_rc (q := 51) (ci := 11) (n := 0) hK hI rfl (by decide) rfl)) rfl rfl hl.1 rfl (lv_room (Nat.le_of_ble_eq_true rfl)) dX12_markOf_23 ⟨Nat.zero_le _, Nat.zero_le _⟩) (fun H locs hI => ?_)
    refine lv_aload_n hx hb dX12_markOf_26 rfl (lv_at hl 0 rfl) ?_
    refine lv_iload_n hx hb dX12_markOf_27 rfl (lv_at hl 1 rfl) ?_
    obtain ⟨s2, r3, hc4, hf⟩ := ok_2 hf
    refine z_calli0 rfl rfl hI (va_runV (As := [.int x1]) (rest := []) ⟨hx, hb, hml, hown, hts⟩ (m_X12_lentMark G l  hc4) (cwV 1 hts gX12_markOf_X12_lentMark rfl rfl rfl (by decide +kernel) ⟨Nat.le_of_ble_eq_true rfl, Nat.le_of_ble_eq_true rfl⟩) (z_preV hK hG hI (z_rc (q := 51) (ci := 11) (n := 0) hK hI rfl (by decide) rfl)) rfl rfl hl.1 rfl (lv_room (Nat.le_of_ble_eq_true rfl)) dX12_markOf_28 ⟨Nat.zero_le _, Nat.zero_le _⟩) (fun H locs hI => ?_)
    refine lv_istore_n (lv' := [(2, .int r3), (0, .ref (G.1 + 51)), (1, .int x1)]) hx hb dX12_markOf_31 rfl hl (by decide) rfl (fun ls hl => ?_)
    refine lv_iload_n hx hb dX12_markOf_32 rfl (lv_at hl 0 rfl) ?_
    refine lv_aload_n hx hb dX12_markOf_33 rfl (lv_at hl 1 rfl) ?_
    refine lv_iload_n hx hb dX12_markOf_34 rfl (lv_at hl 2 rfl) ?_
    obtain ⟨s3, r4, hc5, hf⟩ := ok_2 hf
    refine z_calli0 rfl rfl hI (va_runV (As := [.int x1]) (rest := [.int r3]) ⟨hx, hb, hml, hown, hts⟩ (m_X12_sizeOfGrass G l  hc5) (cwV 1 hts gX12_markOf_X12_sizeOfGrass rfl rfl rfl (by decide +kernel) ⟨Nat.le_of_ble_eq_true rfl, Nat.le_of_ble_eq_true rfl⟩) (z_preV hK hG hI (z_rc (q := 51) (ci := 11) (n := 0) hK hI rfl (by decide) rfl)) rfl rfl hl.1 rfl (lv_room (Nat.le_of_ble_eq_true rfl)) dX12_markOf_35 ⟨Nat.zero_le _, Nat.zero_le _⟩) (fun H locs hI => ?_)
    refine lv_isub hx hb dX12_markOf_38 ?_
    cases hf
    exact z_iret hx hb hr hlk hK hG hI dX12_markOf_39
  · have hf := ok_t c1 hf
    refine lv_aload_n hx hb dX12_markOf_14 rfl (lv_at hl 0 rfl) ?_
    refine lv_iload_n hx hb dX12_markOf_15 rfl (lv_at hl 1 rfl) ?_
    obtain ⟨s4, r5, hc6, hf⟩ := ok_2 hf
    refine z_calli0 rfl rfl hI (va_runV (As := [.int x1]) (rest := []) ⟨hx, hb, hml, hown, hts⟩ (m_X12_markOfBeans G l  hc6) (cwV 1 hts gX12_markOf_X12_markOfBeans rfl rfl rfl (by decide +kernel) ⟨Nat.le_of_ble_eq_true rfl, Nat.le_of_ble_eq_true rfl⟩) (z_preV hK hG hI (z_rc (q := 51) (ci := 11) (n := 0) hK hI rfl (by decide) rfl)) rfl rfl hl.1 rfl (lv_room (Nat.le_of_ble_eq_true rfl)) dX12_markOf_16 ⟨Nat.zero_le _, Nat.zero_le _⟩) (fun H locs hI => ?_)
    cases hf
    exact z_iret hx hb hr hlk hK hG hI dX12_markOf_19

-- ===== FenceYardsModel.ask(II)I
set_option maxRecDepth 100000 in
theorem i_X12_ask_11 : ∀ w ∈ u_ws RX12 TX12 26, w ∈ wsX12_ask := by decide +kernel
def f_X12_ask (σ : Hp) (x1 : Int32) (x2 : Int32) : Option (Hp × Int32) :=
  bd1 (f_X12_isStrip σ x1) fun r1 => if r1 = 0 then (some (σ, (-1000001))) else (bd1 (f_X12_in σ x2 0 1) fun r2 => if r2 = 0 then (some (σ, (-1000001))) else (if x2 = 0 then (bd2 (f_X12_sizeOf (sI σ 51 25 0) x1) fun s2 r4 => some (s2, r4)) else (bd2 (f_X12_markOf (sI σ 51 25 0) x1) fun s1 r3 => some (s1, r3))))
set_option maxRecDepth 100000 in
set_option maxHeartbeats 4000000 in
theorem m_X12_ask (G : GT) (l : Launch) {σ : Hp} {x1 : Int32} {x2 : Int32} {σ' : Hp} {r : Int32}  (hf : f_X12_ask σ x1 x2 = some (σ', r)) : MetG G l yX12_ask wsX12_ask (rmk 6 128) σ [.ref (G.1 + 51), .int x1, .int x2] (QI G σ' r) := by
  refine met_of (cc := cX12_ask) (nL := 3) (ret := (some .int)) (by decide) rfl (Nat.le_of_ble_eq_true rfl) ?_
  intro p e s m below meth c C0 hnm hI ls hl
  obtain ⟨hx, hb, hr, hml, hown, hts, hlk, hK, hG⟩ := id C0
  have hl : lv_has ls 3 [(0, .ref (G.1 + 51)), (1, .int x1), (2, .int x2)] := hl
  unfold f_X12_ask at hf
  refine lv_aload_n hx hb dX12_ask_0 rfl (lv_at hl 0 rfl) ?_
  refine lv_iload_n hx hb dX12_ask_1 rfl (lv_at hl 1 rfl) ?_
  obtain ⟨r1, hc1, hf⟩ := ok_1 hf
  refine z_calli0 rfl rfl hI (va_runV (As := [.int x1]) (rest := []) ⟨hx, hb, hml, hown, hts⟩ (m_X12_isStrip G l  hc1) (cwV 1 hts gX12_ask_X12_isStrip rfl rfl rfl (by decide +kernel) ⟨Nat.le_of_ble_eq_true rfl, Nat.le_of_ble_eq_true rfl⟩) (z_preV hK hG hI (z_rc (q := 51) (ci := 11) (n := 0) hK hI rfl (by decide) rfl)) rfl rfl hl.1 rfl (lv_room (Nat.le_of_ble_eq_true rfl)) dX12_ask_2 ⟨Nat.zero_le _, Nat.zero_le _⟩) (fun H locs hI => ?_)
  refine lv_if_eq (tgt := 17) hx hb dX12_ask_5 (by decide) (fun c1 => ?_) (fun c1 => ?_)
  · have hf := ok_t c1 hf
    refine lv_ldc (v := (-1000001)) hx hb hown (hts (.constant RX12 71 (-1000001)) (by decide +kernel)) dX12_ask_17 ?_
    cases hf
    exact z_iret hx hb hr hlk hK hG hI dX12_ask_19
  · have hf := ok_f c1 hf
    refine lv_iload_n hx hb dX12_ask_8 rfl (lv_at hl 2 rfl) ?_
    refine lv_iconst (v := 0) hx hb dX12_ask_9 (by decide) ?_
    refine lv_iconst (v := 1) hx hb dX12_ask_10 (by decide) ?_
    obtain ⟨r2, hc2, hf⟩ := ok_1 hf
    refine z_calli0 rfl rfl hI (va_runS (As := [.int x2, .int 0, .int 1]) (rest := []) ⟨hx, hb, hml, hown, hts⟩ (m_X12_in G l  hc2) (va_cwS 3 hts gX12_ask_X12_in rfl rfl rfl (by decide +kernel) ⟨Nat.le_of_ble_eq_true rfl, Nat.le_of_ble_eq_true rfl⟩) (z_pre hK hG hI) rfl rfl hl.1 rfl (lv_room (Nat.le_of_ble_eq_true rfl)) dX12_ask_11 ⟨Nat.zero_le _, Nat.zero_le _⟩) (fun H locs hI => ?_)
    refine lv_if_ne (tgt := 20) hx hb dX12_ask_14 (by decide) (fun c2 => ?_) (fun c2 => ?_)
    · have hf := ok_f c2 hf
      refine lv_aload_n hx hb dX12_ask_20 rfl (lv_at hl 0 rfl) ?_
      refine lv_iconst (v := 0) hx hb dX12_ask_21 (by decide) ?_
      refine z_put (C := RX12) (T := TX12) (N := 26) (ci := 11) (ty := .int) (v := .int 0) hx hb hts i_X12_ask_11 tyX12 tyX12_ok nmX12 hown hK hI 51 rfl (by decide) rfl 25 (by decide) (hts (.fieldLink RX12 253 "FenceYardsModel" "traced" "I") (by decide +kernel)) (fun _ h9 => h9) rfl (by decide +kernel) rfl rfl (Nat.le_of_ble_eq_true rfl) (set_I hI.2.2.2 rfl (by decide) rfl) rfl hI.2.2.2 dX12_ask_22 (fun H locs hI => ?_)
      refine lv_iload_n hx hb dX12_ask_25 rfl (lv_at hl 2 rfl) ?_
      refine lv_if_ne (tgt := 37) hx hb dX12_ask_26 (by decide) (fun c3 => ?_) (fun c3 => ?_)
      · have hf := ok_f c3 hf
        refine lv_aload_n hx hb dX12_ask_37 rfl (lv_at hl 0 rfl) ?_
        refine lv_iload_n hx hb dX12_ask_38 rfl (lv_at hl 1 rfl) ?_
        obtain ⟨s1, r3, hc3, hf⟩ := ok_2 hf
        refine z_calli0 rfl rfl hI (va_runV (As := [.int x1]) (rest := []) ⟨hx, hb, hml, hown, hts⟩ (m_X12_markOf G l  hc3) (cwV 1 hts gX12_ask_X12_markOf rfl rfl rfl (by decide +kernel) ⟨Nat.le_of_ble_eq_true rfl, Nat.le_of_ble_eq_true rfl⟩) (z_preV hK hG hI (z_rc (q := 51) (ci := 11) (n := 0) hK hI rfl (by decide) rfl)) rfl rfl hl.1 rfl (lv_room (Nat.le_of_ble_eq_true rfl)) dX12_ask_39 ⟨Nat.zero_le _, Nat.zero_le _⟩) (fun H locs hI => ?_)
        cases hf
        exact z_iret hx hb hr hlk hK hG hI dX12_ask_42
      · have hf := ok_t c3 hf
        refine lv_aload_n hx hb dX12_ask_29 rfl (lv_at hl 0 rfl) ?_
        refine lv_iload_n hx hb dX12_ask_30 rfl (lv_at hl 1 rfl) ?_
        obtain ⟨s2, r4, hc4, hf⟩ := ok_2 hf
        refine z_calli0 rfl rfl hI (va_runV (As := [.int x1]) (rest := []) ⟨hx, hb, hml, hown, hts⟩ (m_X12_sizeOf G l  hc4) (cwV 1 hts gX12_ask_X12_sizeOf rfl rfl rfl (by decide +kernel) ⟨Nat.le_of_ble_eq_true rfl, Nat.le_of_ble_eq_true rfl⟩) (z_preV hK hG hI (z_rc (q := 51) (ci := 11) (n := 0) hK hI rfl (by decide) rfl)) rfl rfl hl.1 rfl (lv_room (Nat.le_of_ble_eq_true rfl)) dX12_ask_31 ⟨Nat.zero_le _, Nat.zero_le _⟩) (fun H locs hI => ?_)
        refine lv_goto (tgt := 42) hx hb dX12_ask_34 (by decide) ?_
        cases hf
        exact z_iret hx hb hr hlk hK hG hI dX12_ask_42
    · have hf := ok_t c2 hf
      refine lv_ldc (v := (-1000001)) hx hb hown (hts (.constant RX12 71 (-1000001)) (by decide +kernel)) dX12_ask_17 ?_
      cases hf
      exact z_iret hx hb hr hlk hK hG hI dX12_ask_19

-- ===== FenceYardsModel.trace(I)I
set_option maxRecDepth 100000 in
theorem i_X12_trace_11 : ∀ w ∈ u_ws RX12 TX12 26, w ∈ wsX12_trace := by decide +kernel
def f_X12_trace (σ : Hp) (x1 : Int32) : Option (Int32) :=
  bd1 (f_X12_in σ x1 0 ((gI σ 51 25) - 1)) fun r1 => if r1 = 0 then (some (-1000000)) else (chk (inb x1 16) <| some (gI σ 66 (x1.toNatClampNeg)))
set_option maxRecDepth 100000 in
set_option maxHeartbeats 4000000 in
theorem m_X12_trace (G : GT) (l : Launch) {σ : Hp} {x1 : Int32} {r : Int32}  (hf : f_X12_trace σ x1 = some r) : MetG G l yX12_trace wsX12_trace (rmk 1 22) σ [.ref (G.1 + 51), .int x1] (QI G σ r) := by
  refine met_of (cc := cX12_trace) (nL := 2) (ret := (some .int)) (by decide) rfl (Nat.le_of_ble_eq_true rfl) ?_
  intro p e s m below meth c C0 hnm hI ls hl
  obtain ⟨hx, hb, hr, hml, hown, hts, hlk, hK, hG⟩ := id C0
  have hl : lv_has ls 2 [(0, .ref (G.1 + 51)), (1, .int x1)] := hl
  unfold f_X12_trace at hf
  refine lv_iload_n hx hb dX12_trace_0 rfl (lv_at hl 1 rfl) ?_
  refine lv_iconst (v := 0) hx hb dX12_trace_1 (by decide) ?_
  refine lv_aload_n hx hb dX12_trace_2 rfl (lv_at hl 0 rfl) ?_
  refine z_get (C := RX12) (T := TX12) (N := 26) (ci := 11) (v := .int (gI σ 51 25)) hx hb hts i_X12_trace_11 hown hK hI 51 rfl (by decide) rfl 25 (by decide) (hts (.fieldLink RX12 253 "FenceYardsModel" "traced" "I") (by decide +kernel)) (fun _ h9 => h9) rfl dX12_trace_3 ?_
  refine lv_iconst (v := 1) hx hb dX12_trace_6 (by decide) ?_
  refine lv_isub hx hb dX12_trace_7 ?_
  obtain ⟨r1, hc1, hf⟩ := ok_1 hf
  refine z_calli0 rfl rfl hI (va_runS (As := [.int x1, .int 0, .int ((gI σ 51 25) - 1)]) (rest := []) ⟨hx, hb, hml, hown, hts⟩ (m_X12_in G l  hc1) (va_cwS 3 hts gX12_trace_X12_in rfl rfl rfl (by decide +kernel) ⟨Nat.le_of_ble_eq_true rfl, Nat.le_of_ble_eq_true rfl⟩) (z_pre hK hG hI) rfl rfl hl.1 rfl (lv_room (Nat.le_of_ble_eq_true rfl)) dX12_trace_8 ⟨Nat.zero_le _, Nat.zero_le _⟩) (fun H locs hI => ?_)
  refine lv_if_eq (tgt := 23) hx hb dX12_trace_11 (by decide) (fun c1 => ?_) (fun c1 => ?_)
  · have hf := ok_t c1 hf
    refine lv_ldc (v := (-1000000)) hx hb hown (hts (.constant RX12 57 (-1000000)) (by decide +kernel)) dX12_trace_23 ?_
    cases hf
    exact z_iret hx hb hr hlk hK hG hI dX12_trace_25
  · have hf := ok_f c1 hf
    refine lv_aload_n hx hb dX12_trace_14 rfl (lv_at hl 0 rfl) ?_
    refine z_get (C := RX12) (T := TX12) (N := 26) (ci := 11) (v := .ref (G.1 + 66)) hx hb hts i_X12_trace_11 hown hK hI 51 rfl (by decide) rfl 24 (by decide) (hts (.fieldLink RX12 54 "FenceYardsModel" "trace" "[I") (by decide +kernel)) (fun _ h9 => h9) rfl dX12_trace_15 ?_
    refine lv_iload_n hx hb dX12_trace_18 rfl (lv_at hl 1 rfl) ?_
    obtain ⟨h1, hf⟩ := ok_c hf
    refine z_iald hx hb hK hI 66 (k := x1.toNatClampNeg) rfl h1 rfl dX12_trace_19 ?_
    refine lv_goto (tgt := 25) hx hb dX12_trace_20 (by decide) ?_
    cases hf
    exact z_iret hx hb hr hlk hK hG hI dX12_trace_25

-- ===== FenceYardsModel.count(I)I
set_option maxRecDepth 100000 in
theorem i_X12_count_11 : ∀ w ∈ u_ws RX12 TX12 26, w ∈ wsX12_count := by decide +kernel
def f_X12_count_4   (σ : Hp) (x1 : Int32) : Nat → Int32 → Int32 → Option (Int32)
  | 0, _, _ => none
  | n + 1, x2, x3 =>
    if 8 ≤ x3 then (if x1 = 0 then (some x2) else if x1 = 1 then (some (gI σ 52 4)) else if x1 = 2 then (some (gI σ 52 3)) else if x1 = 3 then (some (gI σ 52 1)) else if x1 = 4 then (some (gI σ 52 2)) else if x1 = 5 then (some (gI σ 52 5)) else if x1 = 6 then (some (gI σ 51 8)) else (some (-1000001))) else (chk (inb x3 8) <| if (gI σ 55 (x3.toNatClampNeg)) = (-1000000) then (bnd (x2 + 0) fun v2 => f_X12_count_4 σ x1 n v2 (x3 + 1)) else (bnd (x2 + 1) fun v1 => f_X12_count_4 σ x1 n v1 (x3 + 1)))
def f_X12_count (σ : Hp) (x1 : Int32) : Option (Int32) :=
  f_X12_count_4 σ x1 fu 0 0
set_option maxRecDepth 100000 in
set_option maxHeartbeats 4000000 in
theorem w_X12_count_4 {G : GT} {p : Program} {l : Launch} {e : Env} {s : State} {m : MethodId} {args : Array Value} {below : List Frame} {meth : Method} {c : Code}  {r : Int32}  {σ : Hp} {x1 : Int32}  (C0 : Cx G cX12_count RX12 wsX12_count 4 (some .int) p s m args meth c)  :
    ∀ (n : Nat) (x2 : Int32) (x3 : Int32), f_X12_count_4 σ x1 n x2 x3 = some r → ∀ (H : Heap) (locs : List Loc), Inv G s σ H locs → ∀ ls : Array Slot, lv_has ls 4 [(0, .ref (G.1 + 51)), (1, .int x1), (2, .int x2), (3, .int x3)] → W p l e (rmk 0 0) s m args below meth c H locs 0 0 (MQ below (QI G σ r) args s (rmk 0 0).cells (rmk 0 0).slots (gA G)) (F0 m 4 ls []) := by
  obtain ⟨hx, hb, hr, hml, hown, hts, hlk, hK, hG⟩ := id C0
  intro n
  induction n with
  | zero =>
    intro x2 x3 hf
    cases hf
  | succ n ih =>
    intro x2 x3 hf H locs hI ls hl
    rw [f_X12_count_4] at hf
    refine lv_iload_n hx hb dX12_count_4 rfl (lv_at hl 3 rfl) ?_
    refine lv_bipush (v := 8) hx hb dX12_count_5 (by decide) ?_
    refine lv_icmp_ge (tgt := 35) hx hb dX12_count_7 (by decide) (fun c1 => ?_) (fun c1 => ?_)
    · have hf := ok_t c1 hf
      refine lv_iload_n hx hb dX12_count_35 rfl (lv_at hl 1 rfl) ?_
      by_cases c2 : x1 = 0
      · have hf := ok_t c2 hf
        refine lv_tableIn (tgt := 80) hx hb dX12_count_36 (by rw [c2]; decide) (by rw [c2]; decide) (by rw [c2]; rfl) (by decide) ?_
        refine lv_iload_n hx hb dX12_count_80 rfl (lv_at hl 2 rfl) ?_
        cases hf
        exact z_iret hx hb hr hlk hK hG hI dX12_count_81
      have hf := ok_f c2 hf
      by_cases c3 : x1 = 1
      · have hf := ok_t c3 hf
        refine lv_tableIn (tgt := 82) hx hb dX12_count_36 (by rw [c3]; decide) (by rw [c3]; decide) (by rw [c3]; rfl) (by decide) ?_
        refine lv_aload_n hx hb dX12_count_82 rfl (lv_at hl 0 rfl) ?_
        refine z_get (C := RX12) (T := TX12) (N := 26) (ci := 11) (v := .ref (G.1 + 52)) hx hb hts i_X12_count_11 hown hK hI 51 rfl (by decide) rfl 0 (by decide) (hts (.fieldLink RX12 7 "FenceYardsModel" "st" "[I") (by decide +kernel)) (fun _ h9 => h9) rfl dX12_count_83 ?_
        refine lv_iconst (v := 4) hx hb dX12_count_86 (by decide) ?_
        refine z_iald hx hb hK hI 52 (k := 4) rfl (by decide) (by decide) dX12_count_87 ?_
        cases hf
        exact z_iret hx hb hr hlk hK hG hI dX12_count_88
      have hf := ok_f c3 hf
      by_cases c4 : x1 = 2
      · have hf := ok_t c4 hf
        refine lv_tableIn (tgt := 89) hx hb dX12_count_36 (by rw [c4]; decide) (by rw [c4]; decide) (by rw [c4]; rfl) (by decide) ?_
        refine lv_aload_n hx hb dX12_count_89 rfl (lv_at hl 0 rfl) ?_
        refine z_get (C := RX12) (T := TX12) (N := 26) (ci := 11) (v := .ref (G.1 + 52)) hx hb hts i_X12_count_11 hown hK hI 51 rfl (by decide) rfl 0 (by decide) (hts (.fieldLink RX12 7 "FenceYardsModel" "st" "[I") (by decide +kernel)) (fun _ h9 => h9) rfl dX12_count_90 ?_
        refine lv_iconst (v := 3) hx hb dX12_count_93 (by decide) ?_
        refine z_iald hx hb hK hI 52 (k := 3) rfl (by decide) (by decide) dX12_count_94 ?_
        cases hf
        exact z_iret hx hb hr hlk hK hG hI dX12_count_95
      have hf := ok_f c4 hf
      by_cases c5 : x1 = 3
      · have hf := ok_t c5 hf
        refine lv_tableIn (tgt := 96) hx hb dX12_count_36 (by rw [c5]; decide) (by rw [c5]; decide) (by rw [c5]; rfl) (by decide) ?_
        refine lv_aload_n hx hb dX12_count_96 rfl (lv_at hl 0 rfl) ?_
        refine z_get (C := RX12) (T := TX12) (N := 26) (ci := 11) (v := .ref (G.1 + 52)) hx hb hts i_X12_count_11 hown hK hI 51 rfl (by decide) rfl 0 (by decide) (hts (.fieldLink RX12 7 "FenceYardsModel" "st" "[I") (by decide +kernel)) (fun _ h9 => h9) rfl dX12_count_97 ?_
        refine lv_iconst (v := 1) hx hb dX12_count_100 (by decide) ?_
        refine z_iald hx hb hK hI 52 (k := 1) rfl (by decide) (by decide) dX12_count_101 ?_
        cases hf
        exact z_iret hx hb hr hlk hK hG hI dX12_count_102
      have hf := ok_f c5 hf
      by_cases c6 : x1 = 4
      · have hf := ok_t c6 hf
        refine lv_tableIn (tgt := 103) hx hb dX12_count_36 (by rw [c6]; decide) (by rw [c6]; decide) (by rw [c6]; rfl) (by decide) ?_
        refine lv_aload_n hx hb dX12_count_103 rfl (lv_at hl 0 rfl) ?_
        refine z_get (C := RX12) (T := TX12) (N := 26) (ci := 11) (v := .ref (G.1 + 52)) hx hb hts i_X12_count_11 hown hK hI 51 rfl (by decide) rfl 0 (by decide) (hts (.fieldLink RX12 7 "FenceYardsModel" "st" "[I") (by decide +kernel)) (fun _ h9 => h9) rfl dX12_count_104 ?_
        refine lv_iconst (v := 2) hx hb dX12_count_107 (by decide) ?_
        refine z_iald hx hb hK hI 52 (k := 2) rfl (by decide) (by decide) dX12_count_108 ?_
        cases hf
        exact z_iret hx hb hr hlk hK hG hI dX12_count_109
      have hf := ok_f c6 hf
      by_cases c7 : x1 = 5
      · have hf := ok_t c7 hf
        refine lv_tableIn (tgt := 110) hx hb dX12_count_36 (by rw [c7]; decide) (by rw [c7]; decide) (by rw [c7]; rfl) (by decide) ?_
        refine lv_aload_n hx hb dX12_count_110 rfl (lv_at hl 0 rfl) ?_
        refine z_get (C := RX12) (T := TX12) (N := 26) (ci := 11) (v := .ref (G.1 + 52)) hx hb hts i_X12_count_11 hown hK hI 51 rfl (by decide) rfl 0 (by decide) (hts (.fieldLink RX12 7 "FenceYardsModel" "st" "[I") (by decide +kernel)) (fun _ h9 => h9) rfl dX12_count_111 ?_
        refine lv_iconst (v := 5) hx hb dX12_count_114 (by decide) ?_
        refine z_iald hx hb hK hI 52 (k := 5) rfl (by decide) (by decide) dX12_count_115 ?_
        cases hf
        exact z_iret hx hb hr hlk hK hG hI dX12_count_116
      have hf := ok_f c7 hf
      by_cases c8 : x1 = 6
      · have hf := ok_t c8 hf
        refine lv_tableIn (tgt := 117) hx hb dX12_count_36 (by rw [c8]; decide) (by rw [c8]; decide) (by rw [c8]; rfl) (by decide) ?_
        refine lv_aload_n hx hb dX12_count_117 rfl (lv_at hl 0 rfl) ?_
        refine z_get (C := RX12) (T := TX12) (N := 26) (ci := 11) (v := .int (gI σ 51 8)) hx hb hts i_X12_count_11 hown hK hI 51 rfl (by decide) rfl 8 (by decide) (hts (.fieldLink RX12 82 "FenceYardsModel" "taped" "I") (by decide +kernel)) (fun _ h9 => h9) rfl dX12_count_118 ?_
        cases hf
        exact z_iret hx hb hr hlk hK hG hI dX12_count_121
      have hf := ok_f c8 hf
      refine lv_tableOut (tgt := 122) hx hb dX12_count_36 (by have a0 := sw_ne (k := 0) (by decide) c2; have a1 := sw_ne (k := 1) (by decide) c3; have a2 := sw_ne (k := 2) (by decide) c4; have a3 := sw_ne (k := 3) (by decide) c5; have a4 := sw_ne (k := 4) (by decide) c6; have a5 := sw_ne (k := 5) (by decide) c7; have a6 := sw_ne (k := 6) (by decide) c8; omega) (by decide) ?_
      refine lv_ldc (v := (-1000001)) hx hb hown (hts (.constant RX12 71 (-1000001)) (by decide +kernel)) dX12_count_122 ?_
      cases hf
      exact z_iret hx hb hr hlk hK hG hI dX12_count_124
    · have hf := ok_f c1 hf
      refine lv_iload_n hx hb dX12_count_10 rfl (lv_at hl 2 rfl) ?_
      refine lv_aload_n hx hb dX12_count_11 rfl (lv_at hl 0 rfl) ?_
      refine z_get (C := RX12) (T := TX12) (N := 26) (ci := 11) (v := .ref (G.1 + 55)) hx hb hts i_X12_count_11 hown hK hI 51 rfl (by decide) rfl 3 (by decide) (hts (.fieldLink RX12 20 "FenceYardsModel" "lanes" "[I") (by decide +kernel)) (fun _ h9 => h9) rfl dX12_count_12 ?_
      refine lv_iload_n hx hb dX12_count_15 rfl (lv_at hl 3 rfl) ?_
      obtain ⟨h1, hf⟩ := ok_c hf
      refine z_iald hx hb hK hI 55 (k := x3.toNatClampNeg) rfl h1 rfl dX12_count_16 ?_
      refine lv_ldc (v := (-1000000)) hx hb hown (hts (.constant RX12 57 (-1000000)) (by decide +kernel)) dX12_count_17 ?_
      refine lv_icmp_ne (tgt := 26) hx hb dX12_count_19 (by decide) (fun c9 => ?_) (fun c9 => ?_)
      · have hf := ok_f c9 hf
        refine lv_iconst (v := 1) hx hb dX12_count_26 (by decide) ?_
        refine lv_iadd hx hb dX12_count_27 ?_
        refine lv_topi (fun v1 ev1 => ?_)
        have hf := ok_n hf ev1
        refine lv_istore_n (lv' := [(2, .int v1), (0, .ref (G.1 + 51)), (1, .int x1), (3, .int x3)]) hx hb dX12_count_28 rfl hl (by decide) rfl (fun ls hl => ?_)
        refine lv_iinc (v := x3 + 1) (lv' := [(3, .int (x3 + 1)), (2, .int v1), (0, .ref (G.1 + 51)), (1, .int x1)]) hx hb dX12_count_29 hl (k := 3) rfl rfl (by decide) rfl (fun ls hl => ?_)
        refine lv_goto (tgt := 4) hx hb dX12_count_32 (by decide) ?_
        exact ih _ _ hf _ _ hI _ (lv_sub hl [2, 3, 1, 0] rfl)
      · have hf := ok_t c9 hf
        refine lv_iconst (v := 0) hx hb dX12_count_22 (by decide) ?_
        refine lv_goto (tgt := 27) hx hb dX12_count_23 (by decide) ?_
        refine lv_iadd hx hb dX12_count_27 ?_
        refine lv_topi (fun v2 ev2 => ?_)
        have hf := ok_n hf ev2
        refine lv_istore_n (lv' := [(2, .int v2), (0, .ref (G.1 + 51)), (1, .int x1), (3, .int x3)]) hx hb dX12_count_28 rfl hl (by decide) rfl (fun ls hl => ?_)
        refine lv_iinc (v := x3 + 1) (lv' := [(3, .int (x3 + 1)), (2, .int v2), (0, .ref (G.1 + 51)), (1, .int x1)]) hx hb dX12_count_29 hl (k := 3) rfl rfl (by decide) rfl (fun ls hl => ?_)
        refine lv_goto (tgt := 4) hx hb dX12_count_32 (by decide) ?_
        exact ih _ _ hf _ _ hI _ (lv_sub hl [2, 3, 1, 0] rfl)

set_option maxRecDepth 100000 in
set_option maxHeartbeats 4000000 in
theorem m_X12_count (G : GT) (l : Launch) {σ : Hp} {x1 : Int32} {r : Int32}  (hf : f_X12_count σ x1 = some r) : MetG G l yX12_count wsX12_count (rmk 0 0) σ [.ref (G.1 + 51), .int x1] (QI G σ r) := by
  refine met_of (cc := cX12_count) (nL := 4) (ret := (some .int)) (by decide) rfl (Nat.le_of_ble_eq_true rfl) ?_
  intro p e s m below meth c C0 hnm hI ls hl
  obtain ⟨hx, hb, hr, hml, hown, hts, hlk, hK, hG⟩ := id C0
  have hl : lv_has ls 4 [(0, .ref (G.1 + 51)), (1, .int x1)] := hl
  unfold f_X12_count at hf
  refine lv_iconst (v := 0) hx hb dX12_count_0 (by decide) ?_
  refine lv_istore_n (lv' := [(2, .int 0), (0, .ref (G.1 + 51)), (1, .int x1)]) hx hb dX12_count_1 rfl hl (by decide) rfl (fun ls hl => ?_)
  refine lv_iconst (v := 0) hx hb dX12_count_2 (by decide) ?_
  refine lv_istore_n (lv' := [(3, .int 0), (2, .int 0), (0, .ref (G.1 + 51)), (1, .int x1)]) hx hb dX12_count_3 rfl hl (by decide) rfl (fun ls hl => ?_)
  exact w_X12_count_4  C0  _ _ _ hf _ _ hI _ (lv_sub hl [2, 3, 1, 0] rfl)

-- ===== FenceYardsModel.status()I
set_option maxRecDepth 100000 in
theorem i_X12_status_11 : ∀ w ∈ u_ws RX12 TX12 26, w ∈ wsX12_status := by decide +kernel
def f_X12_status (σ : Hp)  : Option (Int32) :=
  some (gI σ 51 6)
set_option maxRecDepth 100000 in
set_option maxHeartbeats 4000000 in
theorem m_X12_status (G : GT) (l : Launch) {σ : Hp}  {r : Int32}  (hf : f_X12_status σ = some r) : MetG G l yX12_status wsX12_status (rmk 0 0) σ [.ref (G.1 + 51)] (QI G σ r) := by
  refine met_of (cc := cX12_status) (nL := 1) (ret := (some .int)) (by decide) rfl (Nat.le_of_ble_eq_true rfl) ?_
  intro p e s m below meth c C0 hnm hI ls hl
  obtain ⟨hx, hb, hr, hml, hown, hts, hlk, hK, hG⟩ := id C0
  have hl : lv_has ls 1 [(0, .ref (G.1 + 51))] := hl
  unfold f_X12_status at hf
  refine lv_aload_n hx hb dX12_status_0 rfl (lv_at hl 0 rfl) ?_
  refine z_get (C := RX12) (T := TX12) (N := 26) (ci := 11) (v := .int (gI σ 51 6)) hx hb hts i_X12_status_11 hown hK hI 51 rfl (by decide) rfl 6 (by decide) (hts (.fieldLink RX12 58 "FenceYardsModel" "status" "I") (by decide +kernel)) (fun _ h9 => h9) rfl dX12_status_1 ?_
  cases hf
  exact z_iret hx hb hr hlk hK hG hI dX12_status_4

