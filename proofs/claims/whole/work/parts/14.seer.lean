-- ===== FenceYards$Seer.gather(LFenceYards$Ground;I)V
def v_Strip_cropOn (σ : Hp) (q : Nat) (x1 : Int32) : Option (Int32) :=
  if gK σ q = 0 then f_X1_cropOn σ q x1 else if gK σ q = 1 then f_X1_cropOn σ q x1 else if gK σ q = 2 then f_X2_cropOn σ q x1 else if gK σ q = 3 then f_X3_cropOn σ q x1 else if gK σ q = 7 then f_X7_cropOn σ q x1 else none
def v_Strip_fallsWhole (σ : Hp) (q : Nat) : Option (Int32) :=
  if gK σ q = 0 then f_X0_fallsWhole σ q else if gK σ q = 1 then f_X9_fallsWhole σ q else if gK σ q = 2 then f_X9_fallsWhole σ q else if gK σ q = 3 then f_X9_fallsWhole σ q else if gK σ q = 7 then f_X9_fallsWhole σ q else none
set_option maxRecDepth 100000 in
theorem i_X8_gather_4 : ∀ w ∈ u_ws RX4 TX4 11, w ∈ wsX8_gather := by decide +kernel
set_option maxRecDepth 100000 in
theorem i_X8_gather_8 : ∀ w ∈ u_ws RX8 TX8 16, w ∈ wsX8_gather := by decide +kernel
def f_X8_gather_43 (k7 : Hp → Int32 → Option (Hp)) (g : Nat) (σ : Hp) (x2 : Int32) (x3 : Int32) (tx0 : Int32) : Option (Hp) :=
  k7 σ (x3 + 1)
def f_X8_gather_43b (k7 : Hp → Int32 → Option (Hp)) (g : Nat) (σ : Hp) (x2 : Int32) (x3 : Int32) (q4 : Nat) (tx0 : Int32) : Option (Hp) :=
  if tx0 ≤ 0 then (k7 σ (x3 + 1)) else (chk (inb (gI σ 15 3) 12) <| chk (inb (gI (sI σ 16 ((gI σ 15 3).toNatClampNeg) x3) 15 3) 12) <| bnd (sI (sI σ 16 ((gI σ 15 3).toNatClampNeg) x3) 17 ((gI (sI σ 16 ((gI σ 15 3).toNatClampNeg) x3) 15 3).toNatClampNeg) tx0) fun s1 => chk (okS s1 q4) <| bd1 (v_Strip_fallsWhole s1 q4) fun r1 => chk (inb (gI s1 15 3) 12) <| bnd (sI (sI s1 18 ((gI s1 15 3).toNatClampNeg) (vp_nar .boolean r1)) 15 3 ((gI (sI s1 18 ((gI s1 15 3).toNatClampNeg) (vp_nar .boolean r1)) 15 3) + 1)) fun s2 => k7 s2 (x3 + 1))
def f_X8_gather_7  (g : Nat)  (x2 : Int32) : Nat → Hp → Int32 → Option (Hp)
  | 0, _, _ => none
  | n + 1, σ, x3 =>
    if (gI σ g 6) ≤ x3 then (some σ) else (if 12 ≤ x3 then (some σ) else (bd1 (f_X4_toldStrip σ g x3) fun r1 => opc r1 (f_X8_gather_43 (f_X8_gather_7 g x2 n) g σ x2 x3 0) fun q1 => (chk (okS σ q1) <| bd1 (v_Strip_cropOn σ q1 x2) fun r2 => f_X8_gather_43b (f_X8_gather_7 g x2 n) g σ x2 x3 q1 r2)))
def f_X8_gather (σ : Hp) (g : Nat) (x2 : Int32) : Option (Hp) :=
  f_X8_gather_7 g x2 fu (sI σ 15 3 0) 0
set_option maxRecDepth 100000 in
set_option maxHeartbeats 4000000 in
theorem w_X8_gather_43 {G : GT} {p : Program} {l : Launch} {e : Env} {s : State} {m : MethodId} {args : Array Value} {below : List Frame} {meth : Method} {c : Code} {g : Nat} {σ' : Hp} {k7 : Hp → Int32 → Option (Hp)} {σ : Hp} {x2 : Int32} {x3 : Int32} {tx0 : Int32} (hg : isG g) (C0 : Cx G cX8_gather RX8 wsX8_gather 6 none p s m args meth c) (hk7 : ∀ (σ : Hp) (x3 : Int32), k7 σ x3 = some σ' → ∀ (H : Heap) (locs : List Loc), Inv G s σ H locs → ∀ ls : Array Slot, lv_has ls 6 [(0, .ref (G.1 + 15)), (1, .ref (G.1 + g)), (2, .int x2), (3, .int x3)] → W p l e (rmk 2 45) s m args below meth c H locs 0 0 (MQ below (QV G σ') args s (rmk 2 45).cells (rmk 2 45).slots (gA G)) (F0 m 7 ls [])) (hf : f_X8_gather_43 k7 g σ x2 x3 tx0 = some σ') {H : Heap} {locs : List Loc} (hI : Inv G s σ H locs) {ls : Array Slot} (hl : lv_has ls 6 [(0, .ref (G.1 + 15)), (1, .ref (G.1 + g)), (2, .int x2), (3, .int x3), (4, .null)]) : W p l e (rmk 2 45) s m args below meth c H locs 0 0 (MQ below (QV G σ') args s (rmk 2 45).cells (rmk 2 45).slots (gA G)) (F0 m 43 ls [.int tx0]) := by
  obtain ⟨hx, hb, hr, hml, hown, hts, hlk, hK, hG⟩ := id C0
  unfold f_X8_gather_43 at hf
  refine lv_istore (lv' := [(5, .int tx0), (0, .ref (G.1 + 15)), (1, .ref (G.1 + g)), (2, .int x2), (3, .int x3), (4, .null)]) hx hb dX8_gather_43 hl (by decide) rfl (fun ls hl => ?_)
  refine lv_aloadN hx hb dX8_gather_45 (lv_at hl 5 rfl) ?_
  refine lv_ifnullN (tgt := 100) hx hb dX8_gather_47 (by decide) ?_
  refine lv_iinc (v := x3 + 1) (lv' := [(3, .int (x3 + 1)), (5, .int tx0), (0, .ref (G.1 + 15)), (1, .ref (G.1 + g)), (2, .int x2), (4, .null)]) hx hb dX8_gather_100 hl (k := 4) rfl rfl (by decide) rfl (fun ls hl => ?_)
  refine lv_goto (tgt := 7) hx hb dX8_gather_103 (by decide) ?_
  exact hk7 _ _ hf _ _ hI _ (lv_sub hl [2, 3, 4, 0] rfl)

set_option maxRecDepth 100000 in
set_option maxHeartbeats 4000000 in
theorem w_X8_gather_43b {G : GT} {p : Program} {l : Launch} {e : Env} {s : State} {m : MethodId} {args : Array Value} {below : List Frame} {meth : Method} {c : Code} {g : Nat} {σ' : Hp} {k7 : Hp → Int32 → Option (Hp)} {σ : Hp} {x2 : Int32} {x3 : Int32} {q4 : Nat} {tx0 : Int32} (hg : isG g) (C0 : Cx G cX8_gather RX8 wsX8_gather 6 none p s m args meth c) (hk7 : ∀ (σ : Hp) (x3 : Int32), k7 σ x3 = some σ' → ∀ (H : Heap) (locs : List Loc), Inv G s σ H locs → ∀ ls : Array Slot, lv_has ls 6 [(0, .ref (G.1 + 15)), (1, .ref (G.1 + g)), (2, .int x2), (3, .int x3)] → W p l e (rmk 2 45) s m args below meth c H locs 0 0 (MQ below (QV G σ') args s (rmk 2 45).cells (rmk 2 45).slots (gA G)) (F0 m 7 ls [])) (hf : f_X8_gather_43b k7 g σ x2 x3 q4 tx0 = some σ') {H : Heap} {locs : List Loc} (hI : Inv G s σ H locs) {ls : Array Slot} (hl : lv_has ls 6 [(0, .ref (G.1 + 15)), (1, .ref (G.1 + g)), (2, .int x2), (3, .int x3), (4, .ref (G.1 + q4))]) : W p l e (rmk 2 45) s m args below meth c H locs 0 0 (MQ below (QV G σ') args s (rmk 2 45).cells (rmk 2 45).slots (gA G)) (F0 m 43 ls [.int tx0]) := by
  obtain ⟨hx, hb, hr, hml, hown, hts, hlk, hK, hG⟩ := id C0
  unfold f_X8_gather_43b at hf
  refine lv_istore (lv' := [(5, .int tx0), (0, .ref (G.1 + 15)), (1, .ref (G.1 + g)), (2, .int x2), (3, .int x3), (4, .ref (G.1 + q4))]) hx hb dX8_gather_43 hl (by decide) rfl (fun ls hl => ?_)
  refine lv_aload hx hb dX8_gather_45 (lv_at hl 5 rfl) ?_
  refine lv_ifnull hx hb dX8_gather_47 ?_
  refine lv_iload hx hb dX8_gather_50 (lv_at hl 0 rfl) ?_
  refine lv_if_le (tgt := 100) hx hb dX8_gather_52 (by decide) (fun c1 => ?_) (fun c1 => ?_)
  · have hf := ok_t c1 hf
    refine lv_iinc (v := x3 + 1) (lv' := [(3, .int (x3 + 1)), (5, .int tx0), (0, .ref (G.1 + 15)), (1, .ref (G.1 + g)), (2, .int x2), (4, .ref (G.1 + q4))]) hx hb dX8_gather_100 hl (k := 4) rfl rfl (by decide) rfl (fun ls hl => ?_)
    refine lv_goto (tgt := 7) hx hb dX8_gather_103 (by decide) ?_
    exact hk7 _ _ hf _ _ hI _ (lv_sub hl [2, 3, 4, 0] rfl)
  · have hf := ok_f c1 hf
    refine lv_aload_n hx hb dX8_gather_55 rfl (lv_at hl 1 rfl) ?_
    refine z_get (C := RX8) (T := TX8) (N := 16) (ci := 8) (v := .ref (G.1 + 16)) hx hb hts i_X8_gather_8 hown hK hI 15 rfl (by decide) rfl 0 (by decide) (hts (.fieldLink RX8 9 "FenceYards$Seer" "ripeStrips" "[I") (by decide +kernel)) (fun _ h9 => h9) rfl dX8_gather_56 ?_
    refine lv_aload_n hx hb dX8_gather_59 rfl (lv_at hl 1 rfl) ?_
    refine z_get (C := RX8) (T := TX8) (N := 16) (ci := 8) (v := .int (gI σ 15 3)) hx hb hts i_X8_gather_8 hown hK hI 15 rfl (by decide) rfl 3 (by decide) (hts (.fieldLink RX8 40 "FenceYards$Seer" "ripeCount" "I") (by decide +kernel)) (fun _ h9 => h9) rfl dX8_gather_60 ?_
    refine lv_iload_n hx hb dX8_gather_63 rfl (lv_at hl 4 rfl) ?_
    obtain ⟨h1, hf⟩ := ok_c hf
    refine z_iast hx hb hK hI 16 (k := (gI σ 15 3).toNatClampNeg) rfl h1 rfl dX8_gather_64 (fun H locs hI => ?_)
    refine lv_aload_n hx hb dX8_gather_65 rfl (lv_at hl 1 rfl) ?_
    refine z_get (C := RX8) (T := TX8) (N := 16) (ci := 8) (v := .ref (G.1 + 17)) hx hb hts i_X8_gather_8 hown hK hI 15 rfl (by decide) rfl 1 (by decide) (hts (.fieldLink RX8 15 "FenceYards$Seer" "ripeCrops" "[I") (by decide +kernel)) (fun _ h9 => h9) rfl dX8_gather_66 ?_
    refine lv_aload_n hx hb dX8_gather_69 rfl (lv_at hl 1 rfl) ?_
    refine z_get (C := RX8) (T := TX8) (N := 16) (ci := 8) (v := .int (gI (sI σ 16 ((gI σ 15 3).toNatClampNeg) x3) 15 3)) hx hb hts i_X8_gather_8 hown hK hI 15 rfl (by decide) rfl 3 (by decide) (hts (.fieldLink RX8 40 "FenceYards$Seer" "ripeCount" "I") (by decide +kernel)) (fun _ h9 => h9) rfl dX8_gather_70 ?_
    refine lv_iload hx hb dX8_gather_73 (lv_at hl 0 rfl) ?_
    obtain ⟨h2, hf⟩ := ok_c hf
    refine z_iast hx hb hK hI 17 (k := (gI (sI σ 16 ((gI σ 15 3).toNatClampNeg) x3) 15 3).toNatClampNeg) rfl h2 rfl dX8_gather_75 (fun H locs hI => ?_)
    obtain ⟨s1, es1⟩ : ∃ z, z = sI (sI σ 16 ((gI σ 15 3).toNatClampNeg) x3) 17 ((gI (sI σ 16 ((gI σ 15 3).toNatClampNeg) x3) 15 3).toNatClampNeg) tx0 := ⟨_, rfl⟩
    have hI : Inv G s s1 H locs := by rw [es1]; exact hI
    have hf := ok_n hf es1
    refine lv_aload_n hx hb dX8_gather_76 rfl (lv_at hl 1 rfl) ?_
    refine z_get (C := RX8) (T := TX8) (N := 16) (ci := 8) (v := .ref (G.1 + 18)) hx hb hts i_X8_gather_8 hown hK hI 15 rfl (by decide) rfl 2 (by decide) (hts (.fieldLink RX8 18 "FenceYards$Seer" "fallsWhole" "[Z") (by decide +kernel)) (fun _ h9 => h9) rfl dX8_gather_77 ?_
    refine lv_aload_n hx hb dX8_gather_80 rfl (lv_at hl 1 rfl) ?_
    refine z_get (C := RX8) (T := TX8) (N := 16) (ci := 8) (v := .int (gI s1 15 3)) hx hb hts i_X8_gather_8 hown hK hI 15 rfl (by decide) rfl 3 (by decide) (hts (.fieldLink RX8 40 "FenceYards$Seer" "ripeCount" "I") (by decide +kernel)) (fun _ h9 => h9) rfl dX8_gather_81 ?_
    refine lv_aload hx hb dX8_gather_84 (lv_at hl 5 rfl) ?_
    obtain ⟨h3, hf⟩ := ok_c hf
    obtain ⟨r1, hc1, hf⟩ := ok_1 hf
    refine z_calli0 (σ1 := s1) (r := r1) (a := (.ref (G.1 + q4) :: []).toArray) (rest := [.int (gI s1 15 3), .ref (G.1 + 18)]) (mc := 0) (ms := 0) rfl rfl hI ?_ (fun H locs hI => ?_)
    · unfold v_Strip_fallsWhole at hc1
      by_cases k1 : gK s1 q4 = 0
      · have hc1 := ok_t k1 hc1
        exact va_runU (As := []) (rest := [.int (gI s1 15 3), .ref (G.1 + 18)]) ⟨hx, hb, hml, hown, hts⟩ (m_X0_fallsWhole G l h3 hc1) (va_cwO 0 hts gX8_gather_X0_fallsWhole_u59X0 rfl rfl rfl (b0 := cX9_fallsWhole) (m0 := 1) (r0 := (some .boolean)) (by decide +kernel) (by decide +kernel) ⟨Nat.le_of_ble_eq_true rfl, Nat.le_of_ble_eq_true rfl⟩) (z_preV hK hG hI (z_rc (q := q4) (ci := 0) (n := 0) hK hI (kd_S h3 k1) (by decide) rfl)) rfl rfl hl.1 rfl (lv_room (Nat.le_of_ble_eq_true rfl)) dX8_gather_86 ⟨Nat.zero_le _, Nat.zero_le _⟩
      have hc1 := ok_f k1 hc1
      by_cases k2 : gK s1 q4 = 1
      · have hc1 := ok_t k2 hc1
        exact va_runU (As := []) (rest := [.int (gI s1 15 3), .ref (G.1 + 18)]) ⟨hx, hb, hml, hown, hts⟩ (m_X9_fallsWhole G l h3 hc1) (va_cwU 0 hts gX8_gather_X9_fallsWhole_u59X1 rfl rfl rfl rfl (by decide +kernel) ⟨Nat.le_of_ble_eq_true rfl, Nat.le_of_ble_eq_true rfl⟩) (z_preV hK hG hI (z_rc (q := q4) (ci := 1) (n := 0) hK hI (kd_S h3 k2) (by decide) rfl)) rfl rfl hl.1 rfl (lv_room (Nat.le_of_ble_eq_true rfl)) dX8_gather_86 ⟨Nat.zero_le _, Nat.zero_le _⟩
      have hc1 := ok_f k2 hc1
      by_cases k3 : gK s1 q4 = 2
      · have hc1 := ok_t k3 hc1
        exact va_runU (As := []) (rest := [.int (gI s1 15 3), .ref (G.1 + 18)]) ⟨hx, hb, hml, hown, hts⟩ (m_X9_fallsWhole G l h3 hc1) (va_cwU 0 hts gX8_gather_X9_fallsWhole_u59X2 rfl rfl rfl rfl (by decide +kernel) ⟨Nat.le_of_ble_eq_true rfl, Nat.le_of_ble_eq_true rfl⟩) (z_preV hK hG hI (z_rc (q := q4) (ci := 2) (n := 0) hK hI (kd_S h3 k3) (by decide) rfl)) rfl rfl hl.1 rfl (lv_room (Nat.le_of_ble_eq_true rfl)) dX8_gather_86 ⟨Nat.zero_le _, Nat.zero_le _⟩
      have hc1 := ok_f k3 hc1
      by_cases k4 : gK s1 q4 = 3
      · have hc1 := ok_t k4 hc1
        exact va_runU (As := []) (rest := [.int (gI s1 15 3), .ref (G.1 + 18)]) ⟨hx, hb, hml, hown, hts⟩ (m_X9_fallsWhole G l h3 hc1) (va_cwU 0 hts gX8_gather_X9_fallsWhole_u59X3 rfl rfl rfl rfl (by decide +kernel) ⟨Nat.le_of_ble_eq_true rfl, Nat.le_of_ble_eq_true rfl⟩) (z_preV hK hG hI (z_rc (q := q4) (ci := 3) (n := 0) hK hI (kd_S h3 k4) (by decide) rfl)) rfl rfl hl.1 rfl (lv_room (Nat.le_of_ble_eq_true rfl)) dX8_gather_86 ⟨Nat.zero_le _, Nat.zero_le _⟩
      have hc1 := ok_f k4 hc1
      by_cases k5 : gK s1 q4 = 7
      · have hc1 := ok_t k5 hc1
        exact va_runU (As := []) (rest := [.int (gI s1 15 3), .ref (G.1 + 18)]) ⟨hx, hb, hml, hown, hts⟩ (m_X9_fallsWhole G l h3 hc1) (va_cwU 0 hts gX8_gather_X9_fallsWhole_u59X7 rfl rfl rfl rfl (by decide +kernel) ⟨Nat.le_of_ble_eq_true rfl, Nat.le_of_ble_eq_true rfl⟩) (z_preV hK hG hI (z_rc (q := q4) (ci := 7) (n := 0) hK hI (kd_S h3 k5) (by decide) rfl)) rfl rfl hl.1 rfl (lv_room (Nat.le_of_ble_eq_true rfl)) dX8_gather_86 ⟨Nat.zero_le _, Nat.zero_le _⟩
      have hc1 := ok_f k5 hc1
      cases hc1
    obtain ⟨h4, hf⟩ := ok_c hf
    refine z_zast hx hb hK hI 18 (k := (gI s1 15 3).toNatClampNeg) rfl h4 rfl dX8_gather_89 (fun H locs hI => ?_)
    refine lv_aload_n hx hb dX8_gather_90 rfl (lv_at hl 1 rfl) ?_
    refine lv_dup hx hb dX8_gather_91 rfl ?_
    refine z_get (C := RX8) (T := TX8) (N := 16) (ci := 8) (v := .int (gI (sI s1 18 ((gI s1 15 3).toNatClampNeg) (vp_nar .boolean r1)) 15 3)) hx hb hts i_X8_gather_8 hown hK hI 15 rfl (by decide) rfl 3 (by decide) (hts (.fieldLink RX8 40 "FenceYards$Seer" "ripeCount" "I") (by decide +kernel)) (fun _ h9 => h9) rfl dX8_gather_92 ?_
    refine lv_iconst (v := 1) hx hb dX8_gather_95 (by decide) ?_
    refine lv_iadd hx hb dX8_gather_96 ?_
    refine z_put (C := RX8) (T := TX8) (N := 16) (ci := 8) (ty := .int) (v := .int ((gI (sI s1 18 ((gI s1 15 3).toNatClampNeg) (vp_nar .boolean r1)) 15 3) + 1)) hx hb hts i_X8_gather_8 tyX8 tyX8_ok nmX8 hown hK hI 15 rfl (by decide) rfl 3 (by decide) (hts (.fieldLink RX8 40 "FenceYards$Seer" "ripeCount" "I") (by decide +kernel)) (fun _ h9 => h9) rfl (by decide +kernel) rfl rfl (Nat.le_of_ble_eq_true rfl) (set_I hI.2.2.2 rfl (by decide) rfl) rfl hI.2.2.2 dX8_gather_97 (fun H locs hI => ?_)
    obtain ⟨s2, es2⟩ : ∃ z, z = sI (sI s1 18 ((gI s1 15 3).toNatClampNeg) (vp_nar .boolean r1)) 15 3 ((gI (sI s1 18 ((gI s1 15 3).toNatClampNeg) (vp_nar .boolean r1)) 15 3) + 1) := ⟨_, rfl⟩
    have hI : Inv G s s2 H locs := by rw [es2]; exact hI
    have hf := ok_n hf es2
    refine lv_iinc (v := x3 + 1) (lv' := [(3, .int (x3 + 1)), (5, .int tx0), (0, .ref (G.1 + 15)), (1, .ref (G.1 + g)), (2, .int x2), (4, .ref (G.1 + q4))]) hx hb dX8_gather_100 hl (k := 4) rfl rfl (by decide) rfl (fun ls hl => ?_)
    refine lv_goto (tgt := 7) hx hb dX8_gather_103 (by decide) ?_
    exact hk7 _ _ hf _ _ hI _ (lv_sub hl [2, 3, 4, 0] rfl)

set_option maxRecDepth 100000 in
set_option maxHeartbeats 4000000 in
theorem w_X8_gather_7 {G : GT} {p : Program} {l : Launch} {e : Env} {s : State} {m : MethodId} {args : Array Value} {below : List Frame} {meth : Method} {c : Code} {g : Nat} {σ' : Hp}   {x2 : Int32} (hg : isG g) (C0 : Cx G cX8_gather RX8 wsX8_gather 6 none p s m args meth c)  :
    ∀ (n : Nat) (σ : Hp) (x3 : Int32), f_X8_gather_7 g x2 n σ x3 = some σ' → ∀ (H : Heap) (locs : List Loc), Inv G s σ H locs → ∀ ls : Array Slot, lv_has ls 6 [(0, .ref (G.1 + 15)), (1, .ref (G.1 + g)), (2, .int x2), (3, .int x3)] → W p l e (rmk 2 45) s m args below meth c H locs 0 0 (MQ below (QV G σ') args s (rmk 2 45).cells (rmk 2 45).slots (gA G)) (F0 m 7 ls []) := by
  obtain ⟨hx, hb, hr, hml, hown, hts, hlk, hK, hG⟩ := id C0
  intro n
  induction n with
  | zero =>
    intro σ x3 hf
    cases hf
  | succ n ih =>
    intro σ x3 hf H locs hI ls hl
    rw [f_X8_gather_7] at hf
    refine lv_iload_n hx hb dX8_gather_7 rfl (lv_at hl 3 rfl) ?_
    refine lv_aload_n hx hb dX8_gather_8 rfl (lv_at hl 1 rfl) ?_
    refine z_getN (C := RX4) (T := TX4) (N := 11) (ci := 4) (v := .int (gI σ g 6)) hx hb hts i_X8_gather_4 hown hK hI g (kd_G hg) (by decide) rfl 6 (by decide) (hG.1.1 ("FenceYards$Seer", 44, "FenceYards$Ground", "told", "I") (by decide +kernel)) (fun _ h9 => h9) rfl dX8_gather_9 ?_
    refine lv_icmp_ge (tgt := 106) hx hb dX8_gather_12 (by decide) (fun c1 => ?_) (fun c1 => ?_)
    · have hf := ok_t c1 hf
      cases hf
      exact z_vret hx hb hr hlk hK hG hI dX8_gather_106
    · have hf := ok_f c1 hf
      refine lv_iload_n hx hb dX8_gather_15 rfl (lv_at hl 3 rfl) ?_
      refine lv_bipush (v := 12) hx hb dX8_gather_16 (by decide) ?_
      refine lv_icmp_ge (tgt := 106) hx hb dX8_gather_18 (by decide) (fun c2 => ?_) (fun c2 => ?_)
      · have hf := ok_t c2 hf
        cases hf
        exact z_vret hx hb hr hlk hK hG hI dX8_gather_106
      · have hf := ok_f c2 hf
        refine lv_aload_n hx hb dX8_gather_21 rfl (lv_at hl 1 rfl) ?_
        refine lv_iload_n hx hb dX8_gather_22 rfl (lv_at hl 3 rfl) ?_
        obtain ⟨r1, hc1, hf⟩ := ok_1 hf
        refine z_callq0 rfl rfl hI (va_runVN (As := [.int x3]) (rest := []) ⟨hx, hb, hml, hown, hts⟩ (m_X4_toldStrip G l hg hc1) ⟨va_cnB (host := "FenceYards") 1 hts gX8_gather_X4_toldStrip_n49 rfl rfl rfl (hG.1.2.1 ("FenceYards$Seer", 49, ⟨"FenceYards$Ground", "toldStrip", "(I)LFenceYards$Strip;"⟩) (by decide +kernel)) (hts (.initialized "FenceYards$Ground") (by decide +kernel)) (by decide +kernel) ⟨Nat.le_of_ble_eq_true rfl, Nat.le_of_ble_eq_true rfl⟩, hts (.instanceMethod yX4_toldStrip) (by decide +kernel), hts (.selects "FenceYards$Ground" yX4_toldStrip yX4_toldStrip) (by decide +kernel)⟩ (z_preV hK hG hI (z_rc (q := g) (ci := 4) (n := 0) hK hI (kd_G hg) (by decide) rfl)) rfl rfl hl.1 rfl (lv_room (Nat.le_of_ble_eq_true rfl)) dX8_gather_23 ⟨Nat.zero_le _, Nat.zero_le _⟩) (fun H locs hI => ?_)
        cases r1 with
        | none =>
          have hf := ok_on hf
          refine W.eq (g2 := F0 m 26 ls [.null]) rfl ?_
          refine lv_astoreN (lv' := [(4, .null), (0, .ref (G.1 + 15)), (1, .ref (G.1 + g)), (2, .int x2), (3, .int x3)]) hx hb dX8_gather_26 hl (by decide) rfl (fun ls hl => ?_)
          refine lv_aloadN hx hb dX8_gather_28 (lv_at hl 0 rfl) ?_
          refine lv_ifnonnullN hx hb dX8_gather_30 ?_
          refine lv_iconst (v := 0) hx hb dX8_gather_33 (by decide) ?_
          refine lv_goto (tgt := 43) hx hb dX8_gather_34 (by decide) ?_
          exact w_X8_gather_43 hg C0 ih hf hI (lv_sub hl [1, 2, 3, 4, 0] rfl)
        | some q1 =>
          have hf := ok_os hf
          refine W.eq (g2 := F0 m 26 ls [.ref (G.1 + q1)]) rfl ?_
          refine lv_astore (lv' := [(4, .ref (G.1 + q1)), (0, .ref (G.1 + 15)), (1, .ref (G.1 + g)), (2, .int x2), (3, .int x3)]) hx hb dX8_gather_26 hl (by decide) rfl (fun ls hl => ?_)
          refine lv_aload hx hb dX8_gather_28 (lv_at hl 0 rfl) ?_
          refine lv_ifnonnull (tgt := 37) hx hb dX8_gather_30 (by decide) ?_
          refine lv_aload hx hb dX8_gather_37 (lv_at hl 0 rfl) ?_
          refine lv_iload_n hx hb dX8_gather_39 rfl (lv_at hl 3 rfl) ?_
          obtain ⟨h1, hf⟩ := ok_c hf
          obtain ⟨r2, hc2, hf⟩ := ok_1 hf
          refine z_calli0 (σ1 := σ) (r := r2) (a := (.ref (G.1 + q1) :: [.int x2]).toArray) (rest := []) (mc := 0) (ms := 0) rfl rfl hI ?_ (fun H locs hI => ?_)
          · unfold v_Strip_cropOn at hc2
            by_cases k1 : gK σ q1 = 0
            · have hc2 := ok_t k1 hc2
              exact va_runU (As := [.int x2]) (rest := []) ⟨hx, hb, hml, hown, hts⟩ (m_X1_cropOn G l h1 hc2) (va_cwA 1 hts gX8_gather_X1_cropOn_u53X0 rfl rfl rfl (hG.1.2.2.1 ⟨"FenceYards$Strip", "cropOn", "(I)I"⟩ (by decide +kernel)) (by decide +kernel) ⟨Nat.le_of_ble_eq_true rfl, Nat.le_of_ble_eq_true rfl⟩) (z_preV hK hG hI (z_rc (q := q1) (ci := 0) (n := 0) hK hI (kd_S h1 k1) (by decide) rfl)) rfl rfl hl.1 rfl (lv_room (Nat.le_of_ble_eq_true rfl)) dX8_gather_40 ⟨Nat.zero_le _, Nat.zero_le _⟩
            have hc2 := ok_f k1 hc2
            by_cases k2 : gK σ q1 = 1
            · have hc2 := ok_t k2 hc2
              exact va_runU (As := [.int x2]) (rest := []) ⟨hx, hb, hml, hown, hts⟩ (m_X1_cropOn G l h1 hc2) (va_cwA 1 hts gX8_gather_X1_cropOn_u53X1 rfl rfl rfl (hG.1.2.2.1 ⟨"FenceYards$Strip", "cropOn", "(I)I"⟩ (by decide +kernel)) (by decide +kernel) ⟨Nat.le_of_ble_eq_true rfl, Nat.le_of_ble_eq_true rfl⟩) (z_preV hK hG hI (z_rc (q := q1) (ci := 1) (n := 0) hK hI (kd_S h1 k2) (by decide) rfl)) rfl rfl hl.1 rfl (lv_room (Nat.le_of_ble_eq_true rfl)) dX8_gather_40 ⟨Nat.zero_le _, Nat.zero_le _⟩
            have hc2 := ok_f k2 hc2
            by_cases k3 : gK σ q1 = 2
            · have hc2 := ok_t k3 hc2
              exact va_runU (As := [.int x2]) (rest := []) ⟨hx, hb, hml, hown, hts⟩ (m_X2_cropOn G l h1 hc2) (va_cwA 1 hts gX8_gather_X2_cropOn_u53X2 rfl rfl rfl (hG.1.2.2.1 ⟨"FenceYards$Strip", "cropOn", "(I)I"⟩ (by decide +kernel)) (by decide +kernel) ⟨Nat.le_of_ble_eq_true rfl, Nat.le_of_ble_eq_true rfl⟩) (z_preV hK hG hI (z_rc (q := q1) (ci := 2) (n := 0) hK hI (kd_S h1 k3) (by decide) rfl)) rfl rfl hl.1 rfl (lv_room (Nat.le_of_ble_eq_true rfl)) dX8_gather_40 ⟨Nat.zero_le _, Nat.zero_le _⟩
            have hc2 := ok_f k3 hc2
            by_cases k4 : gK σ q1 = 3
            · have hc2 := ok_t k4 hc2
              exact va_runU (As := [.int x2]) (rest := []) ⟨hx, hb, hml, hown, hts⟩ (m_X3_cropOn G l h1 hc2) (va_cwA 1 hts gX8_gather_X3_cropOn_u53X3 rfl rfl rfl (hG.1.2.2.1 ⟨"FenceYards$Strip", "cropOn", "(I)I"⟩ (by decide +kernel)) (by decide +kernel) ⟨Nat.le_of_ble_eq_true rfl, Nat.le_of_ble_eq_true rfl⟩) (z_preV hK hG hI (z_rc (q := q1) (ci := 3) (n := 0) hK hI (kd_S h1 k4) (by decide) rfl)) rfl rfl hl.1 rfl (lv_room (Nat.le_of_ble_eq_true rfl)) dX8_gather_40 ⟨Nat.zero_le _, Nat.zero_le _⟩
            have hc2 := ok_f k4 hc2
            by_cases k5 : gK σ q1 = 7
            · have hc2 := ok_t k5 hc2
              exact va_runU (As := [.int x2]) (rest := []) ⟨hx, hb, hml, hown, hts⟩ (m_X7_cropOn G l h1 hc2) (va_cwA 1 hts gX8_gather_X7_cropOn_u53X7 rfl rfl rfl (hG.1.2.2.1 ⟨"FenceYards$Strip", "cropOn", "(I)I"⟩ (by decide +kernel)) (by decide +kernel) ⟨Nat.le_of_ble_eq_true rfl, Nat.le_of_ble_eq_true rfl⟩) (z_preV hK hG hI (z_rc (q := q1) (ci := 7) (n := 0) hK hI (kd_S h1 k5) (by decide) rfl)) rfl rfl hl.1 rfl (lv_room (Nat.le_of_ble_eq_true rfl)) dX8_gather_40 ⟨Nat.zero_le _, Nat.zero_le _⟩
            have hc2 := ok_f k5 hc2
            cases hc2
          exact w_X8_gather_43b hg C0 ih hf hI (lv_sub hl [1, 2, 3, 4, 0] rfl)

set_option maxRecDepth 100000 in
set_option maxHeartbeats 4000000 in
theorem m_X8_gather (G : GT) (l : Launch) {σ : Hp} {g : Nat} {x2 : Int32} {σ' : Hp} (hg : isG g) (hf : f_X8_gather σ g x2 = some σ') : MetG G l yX8_gather wsX8_gather (rmk 2 45) σ [.ref (G.1 + 15), .ref (G.1 + g), .int x2] (QV G σ') := by
  refine met_of (cc := cX8_gather) (nL := 6) (ret := none) (by decide) rfl (Nat.le_of_ble_eq_true rfl) ?_
  intro p e s m below meth c C0 hnm hI ls hl
  obtain ⟨hx, hb, hr, hml, hown, hts, hlk, hK, hG⟩ := id C0
  have hl : lv_has ls 6 [(0, .ref (G.1 + 15)), (1, .ref (G.1 + g)), (2, .int x2)] := hl
  unfold f_X8_gather at hf
  refine lv_aload_n hx hb dX8_gather_0 rfl (lv_at hl 0 rfl) ?_
  refine lv_iconst (v := 0) hx hb dX8_gather_1 (by decide) ?_
  refine z_put (C := RX8) (T := TX8) (N := 16) (ci := 8) (ty := .int) (v := .int 0) hx hb hts i_X8_gather_8 tyX8 tyX8_ok nmX8 hown hK hI 15 rfl (by decide) rfl 3 (by decide) (hts (.fieldLink RX8 40 "FenceYards$Seer" "ripeCount" "I") (by decide +kernel)) (fun _ h9 => h9) rfl (by decide +kernel) rfl rfl (Nat.le_of_ble_eq_true rfl) (set_I hI.2.2.2 rfl (by decide) rfl) rfl hI.2.2.2 dX8_gather_2 (fun H locs hI => ?_)
  refine lv_iconst (v := 0) hx hb dX8_gather_5 (by decide) ?_
  refine lv_istore_n (lv' := [(3, .int 0), (0, .ref (G.1 + 15)), (1, .ref (G.1 + g)), (2, .int x2)]) hx hb dX8_gather_6 rfl hl (by decide) rfl (fun ls hl => ?_)
  exact w_X8_gather_7 hg C0  _ _ _ hf _ _ hI _ (lv_sub hl [1, 2, 3, 0] rfl)

-- ===== FenceYards$Seer.leftReaps(II)I
set_option maxRecDepth 100000 in
theorem i_X8_leftReaps_8 : ∀ w ∈ u_ws RX8 TX8 16, w ∈ wsX8_leftReaps := by decide +kernel
def f_X8_leftReaps_5   (σ : Hp) (x1 : Int32) (x2 : Int32) : Nat → Int32 → Int32 → Option (Int32)
  | 0, _, _ => none
  | n + 1, x3, x4 =>
    if (gI σ 15 3) ≤ x4 then (some x3) else (chk (inb x4 12) <| bd1 (f_X11_shareOf σ x1 x2 (gI σ 16 (x4.toNatClampNeg))) fun r1 => chk (inb x4 12) <| if (gI σ 18 (x4.toNatClampNeg)) = 0 then (chk (inb x4 12) <| bnd (x3 + ((gI σ 17 (x4.toNatClampNeg)) * r1)) fun v1 => f_X8_leftReaps_5 σ x1 x2 n v1 (x4 + 1)) else (if (2 * r1) ≤ 55440 then (chk (inb x4 12) <| bnd (x3 + ((gI σ 17 (x4.toNatClampNeg)) * 0)) fun v2 => f_X8_leftReaps_5 σ x1 x2 n v2 (x4 + 1)) else (chk (inb x4 12) <| bnd (x3 + ((gI σ 17 (x4.toNatClampNeg)) * 55440)) fun v3 => f_X8_leftReaps_5 σ x1 x2 n v3 (x4 + 1))))
def f_X8_leftReaps (σ : Hp) (x1 : Int32) (x2 : Int32) : Option (Int32) :=
  f_X8_leftReaps_5 σ x1 x2 fu 0 0
set_option maxRecDepth 100000 in
set_option maxHeartbeats 4000000 in
theorem w_X8_leftReaps_5 {G : GT} {p : Program} {l : Launch} {e : Env} {s : State} {m : MethodId} {args : Array Value} {below : List Frame} {meth : Method} {c : Code}  {r : Int32}  {σ : Hp} {x1 : Int32} {x2 : Int32}  (C0 : Cx G cX8_leftReaps RX8 wsX8_leftReaps 6 (some .int) p s m args meth c)  :
    ∀ (n : Nat) (x3 : Int32) (x4 : Int32), f_X8_leftReaps_5 σ x1 x2 n x3 x4 = some r → ∀ (H : Heap) (locs : List Loc), Inv G s σ H locs → ∀ ls : Array Slot, lv_has ls 6 [(0, .ref (G.1 + 15)), (1, .int x1), (2, .int x2), (3, .int x3), (4, .int x4)] → W p l e (rmk 2 49) s m args below meth c H locs 0 0 (MQ below (QI G σ r) args s (rmk 2 49).cells (rmk 2 49).slots (gA G)) (F0 m 5 ls []) := by
  obtain ⟨hx, hb, hr, hml, hown, hts, hlk, hK, hG⟩ := id C0
  intro n
  induction n with
  | zero =>
    intro x3 x4 hf
    cases hf
  | succ n ih =>
    intro x3 x4 hf H locs hI ls hl
    rw [f_X8_leftReaps_5] at hf
    refine lv_iload hx hb dX8_leftReaps_5 (lv_at hl 4 rfl) ?_
    refine lv_aload_n hx hb dX8_leftReaps_7 rfl (lv_at hl 0 rfl) ?_
    refine z_get (C := RX8) (T := TX8) (N := 16) (ci := 8) (v := .int (gI σ 15 3)) hx hb hts i_X8_leftReaps_8 hown hK hI 15 rfl (by decide) rfl 3 (by decide) (hts (.fieldLink RX8 40 "FenceYards$Seer" "ripeCount" "I") (by decide +kernel)) (fun _ h9 => h9) rfl dX8_leftReaps_8 ?_
    refine lv_icmp_ge (tgt := 74) hx hb dX8_leftReaps_11 (by decide) (fun c1 => ?_) (fun c1 => ?_)
    · have hf := ok_t c1 hf
      refine lv_iload_n hx hb dX8_leftReaps_74 rfl (lv_at hl 3 rfl) ?_
      cases hf
      exact z_iret hx hb hr hlk hK hG hI dX8_leftReaps_75
    · have hf := ok_f c1 hf
      refine lv_iload_n hx hb dX8_leftReaps_14 rfl (lv_at hl 1 rfl) ?_
      refine lv_iload_n hx hb dX8_leftReaps_15 rfl (lv_at hl 2 rfl) ?_
      refine lv_aload_n hx hb dX8_leftReaps_16 rfl (lv_at hl 0 rfl) ?_
      refine z_get (C := RX8) (T := TX8) (N := 16) (ci := 8) (v := .ref (G.1 + 16)) hx hb hts i_X8_leftReaps_8 hown hK hI 15 rfl (by decide) rfl 0 (by decide) (hts (.fieldLink RX8 9 "FenceYards$Seer" "ripeStrips" "[I") (by decide +kernel)) (fun _ h9 => h9) rfl dX8_leftReaps_17 ?_
      refine lv_iload hx hb dX8_leftReaps_20 (lv_at hl 4 rfl) ?_
      obtain ⟨h1, hf⟩ := ok_c hf
      refine z_iald hx hb hK hI 16 (k := x4.toNatClampNeg) rfl h1 rfl dX8_leftReaps_22 ?_
      obtain ⟨r1, hc1, hf⟩ := ok_1 hf
      refine z_calli0 rfl rfl hI (va_runSN (As := [.int x1, .int x2, .int (gI σ 16 (x4.toNatClampNeg))]) (rest := []) ⟨hx, hb, hml, hown, hts⟩ (m_X11_shareOf G l  hc1) ⟨va_cnB (host := "FenceYards") 3 hts gX8_leftReaps_X11_shareOf_n62 rfl rfl rfl (hG.1.2.1 ("FenceYards$Seer", 62, ⟨"FenceYards", "shareOf", "(III)I"⟩) (by decide +kernel)) (hts (.initialized "FenceYards") (by decide +kernel)) (by decide +kernel) ⟨Nat.le_of_ble_eq_true rfl, Nat.le_of_ble_eq_true rfl⟩, hts (.static yX11_shareOf) (by decide +kernel), trivial⟩ (z_pre hK hG hI) rfl rfl hl.1 rfl (lv_room (Nat.le_of_ble_eq_true rfl)) dX8_leftReaps_23 ⟨Nat.zero_le _, Nat.zero_le _⟩) (fun H locs hI => ?_)
      refine lv_istore (lv' := [(5, .int r1), (0, .ref (G.1 + 15)), (1, .int x1), (2, .int x2), (3, .int x3), (4, .int x4)]) hx hb dX8_leftReaps_26 hl (by decide) rfl (fun ls hl => ?_)
      refine lv_aload_n hx hb dX8_leftReaps_28 rfl (lv_at hl 1 rfl) ?_
      refine z_get (C := RX8) (T := TX8) (N := 16) (ci := 8) (v := .ref (G.1 + 18)) hx hb hts i_X8_leftReaps_8 hown hK hI 15 rfl (by decide) rfl 2 (by decide) (hts (.fieldLink RX8 18 "FenceYards$Seer" "fallsWhole" "[Z") (by decide +kernel)) (fun _ h9 => h9) rfl dX8_leftReaps_29 ?_
      refine lv_iload hx hb dX8_leftReaps_32 (lv_at hl 5 rfl) ?_
      obtain ⟨h2, hf⟩ := ok_c hf
      refine z_zald hx hb hK hI 18 (k := x4.toNatClampNeg) rfl h2 rfl dX8_leftReaps_34 ?_
      refine lv_if_eq (tgt := 55) hx hb dX8_leftReaps_35 (by decide) (fun c2 => ?_) (fun c2 => ?_)
      · have hf := ok_t c2 hf
        refine lv_iload_n hx hb dX8_leftReaps_55 rfl (lv_at hl 4 rfl) ?_
        refine lv_aload_n hx hb dX8_leftReaps_56 rfl (lv_at hl 1 rfl) ?_
        refine z_get (C := RX8) (T := TX8) (N := 16) (ci := 8) (v := .ref (G.1 + 17)) hx hb hts i_X8_leftReaps_8 hown hK hI 15 rfl (by decide) rfl 1 (by decide) (hts (.fieldLink RX8 15 "FenceYards$Seer" "ripeCrops" "[I") (by decide +kernel)) (fun _ h9 => h9) rfl dX8_leftReaps_57 ?_
        refine lv_iload hx hb dX8_leftReaps_60 (lv_at hl 5 rfl) ?_
        obtain ⟨h3, hf⟩ := ok_c hf
        refine z_iald hx hb hK hI 17 (k := x4.toNatClampNeg) rfl h3 rfl dX8_leftReaps_62 ?_
        refine lv_iload hx hb dX8_leftReaps_63 (lv_at hl 0 rfl) ?_
        refine lv_imul hx hb dX8_leftReaps_65 ?_
        refine lv_iadd hx hb dX8_leftReaps_66 ?_
        refine lv_topi (fun v1 ev1 => ?_)
        have hf := ok_n hf ev1
        refine lv_istore_n (lv' := [(3, .int v1), (5, .int r1), (0, .ref (G.1 + 15)), (1, .int x1), (2, .int x2), (4, .int x4)]) hx hb dX8_leftReaps_67 rfl hl (by decide) rfl (fun ls hl => ?_)
        refine lv_iinc (v := x4 + 1) (lv' := [(4, .int (x4 + 1)), (3, .int v1), (5, .int r1), (0, .ref (G.1 + 15)), (1, .int x1), (2, .int x2)]) hx hb dX8_leftReaps_68 hl (k := 5) rfl rfl (by decide) rfl (fun ls hl => ?_)
        refine lv_goto (tgt := 5) hx hb dX8_leftReaps_71 (by decide) ?_
        exact ih _ _ hf _ _ hI _ (lv_sub hl [3, 4, 5, 1, 0] rfl)
      · have hf := ok_f c2 hf
        refine lv_iconst (v := 2) hx hb dX8_leftReaps_38 (by decide) ?_
        refine lv_iload hx hb dX8_leftReaps_39 (lv_at hl 0 rfl) ?_
        refine lv_imul hx hb dX8_leftReaps_41 ?_
        refine lv_ldc (v := 55440) hx hb hown (hts (.constant RX8 66 55440) (by decide +kernel)) dX8_leftReaps_42 ?_
        refine lv_icmp_le (tgt := 52) hx hb dX8_leftReaps_44 (by decide) (fun c3 => ?_) (fun c3 => ?_)
        · have hf := ok_t c3 hf
          refine lv_iconst (v := 0) hx hb dX8_leftReaps_52 (by decide) ?_
          refine lv_istore (lv' := [(5, .int 0), (0, .ref (G.1 + 15)), (1, .int x1), (2, .int x2), (3, .int x3), (4, .int x4)]) hx hb dX8_leftReaps_53 hl (by decide) rfl (fun ls hl => ?_)
          refine lv_iload_n hx hb dX8_leftReaps_55 rfl (lv_at hl 4 rfl) ?_
          refine lv_aload_n hx hb dX8_leftReaps_56 rfl (lv_at hl 1 rfl) ?_
          refine z_get (C := RX8) (T := TX8) (N := 16) (ci := 8) (v := .ref (G.1 + 17)) hx hb hts i_X8_leftReaps_8 hown hK hI 15 rfl (by decide) rfl 1 (by decide) (hts (.fieldLink RX8 15 "FenceYards$Seer" "ripeCrops" "[I") (by decide +kernel)) (fun _ h9 => h9) rfl dX8_leftReaps_57 ?_
          refine lv_iload hx hb dX8_leftReaps_60 (lv_at hl 5 rfl) ?_
          obtain ⟨h4, hf⟩ := ok_c hf
          refine z_iald hx hb hK hI 17 (k := x4.toNatClampNeg) rfl h4 rfl dX8_leftReaps_62 ?_
          refine lv_iload hx hb dX8_leftReaps_63 (lv_at hl 0 rfl) ?_
          refine lv_imul hx hb dX8_leftReaps_65 ?_
          refine lv_iadd hx hb dX8_leftReaps_66 ?_
          refine lv_topi (fun v2 ev2 => ?_)
          have hf := ok_n hf ev2
          refine lv_istore_n (lv' := [(3, .int v2), (5, .int 0), (0, .ref (G.1 + 15)), (1, .int x1), (2, .int x2), (4, .int x4)]) hx hb dX8_leftReaps_67 rfl hl (by decide) rfl (fun ls hl => ?_)
          refine lv_iinc (v := x4 + 1) (lv' := [(4, .int (x4 + 1)), (3, .int v2), (5, .int 0), (0, .ref (G.1 + 15)), (1, .int x1), (2, .int x2)]) hx hb dX8_leftReaps_68 hl (k := 5) rfl rfl (by decide) rfl (fun ls hl => ?_)
          refine lv_goto (tgt := 5) hx hb dX8_leftReaps_71 (by decide) ?_
          exact ih _ _ hf _ _ hI _ (lv_sub hl [3, 4, 5, 1, 0] rfl)
        · have hf := ok_f c3 hf
          refine lv_ldc (v := 55440) hx hb hown (hts (.constant RX8 66 55440) (by decide +kernel)) dX8_leftReaps_47 ?_
          refine lv_goto (tgt := 53) hx hb dX8_leftReaps_49 (by decide) ?_
          refine lv_istore (lv' := [(5, .int 55440), (0, .ref (G.1 + 15)), (1, .int x1), (2, .int x2), (3, .int x3), (4, .int x4)]) hx hb dX8_leftReaps_53 hl (by decide) rfl (fun ls hl => ?_)
          refine lv_iload_n hx hb dX8_leftReaps_55 rfl (lv_at hl 4 rfl) ?_
          refine lv_aload_n hx hb dX8_leftReaps_56 rfl (lv_at hl 1 rfl) ?_
          refine z_get (C := RX8) (T := TX8) (N := 16) (ci := 8) (v := .ref (G.1 + 17)) hx hb hts i_X8_leftReaps_8 hown hK hI 15 rfl (by decide) rfl 1 (by decide) (hts (.fieldLink RX8 15 "FenceYards$Seer" "ripeCrops" "[I") (by decide +kernel)) (fun _ h9 => h9) rfl dX8_leftReaps_57 ?_
          refine lv_iload hx hb dX8_leftReaps_60 (lv_at hl 5 rfl) ?_
          obtain ⟨h5, hf⟩ := ok_c hf
          refine z_iald hx hb hK hI 17 (k := x4.toNatClampNeg) rfl h5 rfl dX8_leftReaps_62 ?_
          refine lv_iload hx hb dX8_leftReaps_63 (lv_at hl 0 rfl) ?_
          refine lv_imul hx hb dX8_leftReaps_65 ?_
          refine lv_iadd hx hb dX8_leftReaps_66 ?_
          refine lv_topi (fun v3 ev3 => ?_)
          have hf := ok_n hf ev3
          refine lv_istore_n (lv' := [(3, .int v3), (5, .int 55440), (0, .ref (G.1 + 15)), (1, .int x1), (2, .int x2), (4, .int x4)]) hx hb dX8_leftReaps_67 rfl hl (by decide) rfl (fun ls hl => ?_)
          refine lv_iinc (v := x4 + 1) (lv' := [(4, .int (x4 + 1)), (3, .int v3), (5, .int 55440), (0, .ref (G.1 + 15)), (1, .int x1), (2, .int x2)]) hx hb dX8_leftReaps_68 hl (k := 5) rfl rfl (by decide) rfl (fun ls hl => ?_)
          refine lv_goto (tgt := 5) hx hb dX8_leftReaps_71 (by decide) ?_
          exact ih _ _ hf _ _ hI _ (lv_sub hl [3, 4, 5, 1, 0] rfl)

set_option maxRecDepth 100000 in
set_option maxHeartbeats 4000000 in
theorem m_X8_leftReaps (G : GT) (l : Launch) {σ : Hp} {x1 : Int32} {x2 : Int32} {r : Int32}  (hf : f_X8_leftReaps σ x1 x2 = some r) : MetG G l yX8_leftReaps wsX8_leftReaps (rmk 2 49) σ [.ref (G.1 + 15), .int x1, .int x2] (QI G σ r) := by
  refine met_of (cc := cX8_leftReaps) (nL := 6) (ret := (some .int)) (by decide) rfl (Nat.le_of_ble_eq_true rfl) ?_
  intro p e s m below meth c C0 hnm hI ls hl
  obtain ⟨hx, hb, hr, hml, hown, hts, hlk, hK, hG⟩ := id C0
  have hl : lv_has ls 6 [(0, .ref (G.1 + 15)), (1, .int x1), (2, .int x2)] := hl
  unfold f_X8_leftReaps at hf
  refine lv_iconst (v := 0) hx hb dX8_leftReaps_0 (by decide) ?_
  refine lv_istore_n (lv' := [(3, .int 0), (0, .ref (G.1 + 15)), (1, .int x1), (2, .int x2)]) hx hb dX8_leftReaps_1 rfl hl (by decide) rfl (fun ls hl => ?_)
  refine lv_iconst (v := 0) hx hb dX8_leftReaps_2 (by decide) ?_
  refine lv_istore (lv' := [(4, .int 0), (3, .int 0), (0, .ref (G.1 + 15)), (1, .int x1), (2, .int x2)]) hx hb dX8_leftReaps_3 hl (by decide) rfl (fun ls hl => ?_)
  exact w_X8_leftReaps_5  C0  _ _ _ hf _ _ hI _ (lv_sub hl [2, 3, 4, 1, 0] rfl)

-- ===== FenceYards$Seer.allReaps()I
set_option maxRecDepth 100000 in
theorem i_X8_allReaps_8 : ∀ w ∈ u_ws RX8 TX8 16, w ∈ wsX8_allReaps := by decide +kernel
def f_X8_allReaps_4   (σ : Hp)  : Nat → Int32 → Int32 → Option (Int32)
  | 0, _, _ => none
  | n + 1, x1, x2 =>
    if (gI σ 15 3) ≤ x2 then (some x1) else (chk (inb x2 12) <| bnd (x1 + ((gI σ 17 (x2.toNatClampNeg)) * 55440)) fun v1 => f_X8_allReaps_4 σ n v1 (x2 + 1))
def f_X8_allReaps (σ : Hp)  : Option (Int32) :=
  f_X8_allReaps_4 σ fu 0 0
set_option maxRecDepth 100000 in
set_option maxHeartbeats 4000000 in
theorem w_X8_allReaps_4 {G : GT} {p : Program} {l : Launch} {e : Env} {s : State} {m : MethodId} {args : Array Value} {below : List Frame} {meth : Method} {c : Code}  {r : Int32}  {σ : Hp}   (C0 : Cx G cX8_allReaps RX8 wsX8_allReaps 3 (some .int) p s m args meth c)  :
    ∀ (n : Nat) (x1 : Int32) (x2 : Int32), f_X8_allReaps_4 σ n x1 x2 = some r → ∀ (H : Heap) (locs : List Loc), Inv G s σ H locs → ∀ ls : Array Slot, lv_has ls 3 [(0, .ref (G.1 + 15)), (1, .int x1), (2, .int x2)] → W p l e (rmk 0 0) s m args below meth c H locs 0 0 (MQ below (QI G σ r) args s (rmk 0 0).cells (rmk 0 0).slots (gA G)) (F0 m 4 ls []) := by
  obtain ⟨hx, hb, hr, hml, hown, hts, hlk, hK, hG⟩ := id C0
  intro n
  induction n with
  | zero =>
    intro x1 x2 hf
    cases hf
  | succ n ih =>
    intro x1 x2 hf H locs hI ls hl
    rw [f_X8_allReaps_4] at hf
    refine lv_iload_n hx hb dX8_allReaps_4 rfl (lv_at hl 2 rfl) ?_
    refine lv_aload_n hx hb dX8_allReaps_5 rfl (lv_at hl 0 rfl) ?_
    refine z_get (C := RX8) (T := TX8) (N := 16) (ci := 8) (v := .int (gI σ 15 3)) hx hb hts i_X8_allReaps_8 hown hK hI 15 rfl (by decide) rfl 3 (by decide) (hts (.fieldLink RX8 40 "FenceYards$Seer" "ripeCount" "I") (by decide +kernel)) (fun _ h9 => h9) rfl dX8_allReaps_6 ?_
    refine lv_icmp_ge (tgt := 30) hx hb dX8_allReaps_9 (by decide) (fun c1 => ?_) (fun c1 => ?_)
    · have hf := ok_t c1 hf
      refine lv_iload_n hx hb dX8_allReaps_30 rfl (lv_at hl 1 rfl) ?_
      cases hf
      exact z_iret hx hb hr hlk hK hG hI dX8_allReaps_31
    · have hf := ok_f c1 hf
      refine lv_iload_n hx hb dX8_allReaps_12 rfl (lv_at hl 1 rfl) ?_
      refine lv_aload_n hx hb dX8_allReaps_13 rfl (lv_at hl 0 rfl) ?_
      refine z_get (C := RX8) (T := TX8) (N := 16) (ci := 8) (v := .ref (G.1 + 17)) hx hb hts i_X8_allReaps_8 hown hK hI 15 rfl (by decide) rfl 1 (by decide) (hts (.fieldLink RX8 15 "FenceYards$Seer" "ripeCrops" "[I") (by decide +kernel)) (fun _ h9 => h9) rfl dX8_allReaps_14 ?_
      refine lv_iload_n hx hb dX8_allReaps_17 rfl (lv_at hl 2 rfl) ?_
      obtain ⟨h1, hf⟩ := ok_c hf
      refine z_iald hx hb hK hI 17 (k := x2.toNatClampNeg) rfl h1 rfl dX8_allReaps_18 ?_
      refine lv_ldc (v := 55440) hx hb hown (hts (.constant RX8 66 55440) (by decide +kernel)) dX8_allReaps_19 ?_
      refine lv_imul hx hb dX8_allReaps_21 ?_
      refine lv_iadd hx hb dX8_allReaps_22 ?_
      refine lv_topi (fun v1 ev1 => ?_)
      have hf := ok_n hf ev1
      refine lv_istore_n (lv' := [(1, .int v1), (0, .ref (G.1 + 15)), (2, .int x2)]) hx hb dX8_allReaps_23 rfl hl (by decide) rfl (fun ls hl => ?_)
      refine lv_iinc (v := x2 + 1) (lv' := [(2, .int (x2 + 1)), (1, .int v1), (0, .ref (G.1 + 15))]) hx hb dX8_allReaps_24 hl (k := 2) rfl rfl (by decide) rfl (fun ls hl => ?_)
      refine lv_goto (tgt := 4) hx hb dX8_allReaps_27 (by decide) ?_
      exact ih _ _ hf _ _ hI _ (lv_sub hl [2, 1, 0] rfl)

set_option maxRecDepth 100000 in
set_option maxHeartbeats 4000000 in
theorem m_X8_allReaps (G : GT) (l : Launch) {σ : Hp}  {r : Int32}  (hf : f_X8_allReaps σ = some r) : MetG G l yX8_allReaps wsX8_allReaps (rmk 0 0) σ [.ref (G.1 + 15)] (QI G σ r) := by
  refine met_of (cc := cX8_allReaps) (nL := 3) (ret := (some .int)) (by decide) rfl (Nat.le_of_ble_eq_true rfl) ?_
  intro p e s m below meth c C0 hnm hI ls hl
  obtain ⟨hx, hb, hr, hml, hown, hts, hlk, hK, hG⟩ := id C0
  have hl : lv_has ls 3 [(0, .ref (G.1 + 15))] := hl
  unfold f_X8_allReaps at hf
  refine lv_iconst (v := 0) hx hb dX8_allReaps_0 (by decide) ?_
  refine lv_istore_n (lv' := [(1, .int 0), (0, .ref (G.1 + 15))]) hx hb dX8_allReaps_1 rfl hl (by decide) rfl (fun ls hl => ?_)
  refine lv_iconst (v := 0) hx hb dX8_allReaps_2 (by decide) ?_
  refine lv_istore_n (lv' := [(2, .int 0), (1, .int 0), (0, .ref (G.1 + 15))]) hx hb dX8_allReaps_3 rfl hl (by decide) rfl (fun ls hl => ?_)
  exact w_X8_allReaps_4  C0  _ _ _ hf _ _ hI _ (lv_sub hl [2, 1, 0] rfl)

-- ===== FenceYards$Seer.findReach(LFenceYards$Ground;I)V
set_option maxRecDepth 100000 in
theorem i_X8_findReach_8 : ∀ w ∈ u_ws RX8 TX8 16, w ∈ wsX8_findReach := by decide +kernel
def f_X8_findReach (σ : Hp) (g : Nat) (x2 : Int32) : Option (Hp) :=
  bd1 (f_X4_lowestOn σ g 0 x2) fun r1 => bd1 (f_X4_highestOn (sI σ 15 10 r1) g 0 x2) fun r2 => bd1 (f_X4_lowestOn (sI (sI σ 15 10 r1) 15 11 r2) g 1 x2) fun r3 => bd1 (f_X4_highestOn (sI (sI (sI σ 15 10 r1) 15 11 r2) 15 12 r3) g 1 x2) fun r4 => some (sI (sI (sI (sI σ 15 10 r1) 15 11 r2) 15 12 r3) 15 13 r4)
set_option maxRecDepth 100000 in
set_option maxHeartbeats 4000000 in
theorem m_X8_findReach (G : GT) (l : Launch) {σ : Hp} {g : Nat} {x2 : Int32} {σ' : Hp} (hg : isG g) (hf : f_X8_findReach σ g x2 = some σ') : MetG G l yX8_findReach wsX8_findReach (rmk 2 47) σ [.ref (G.1 + 15), .ref (G.1 + g), .int x2] (QV G σ') := by
  refine met_of (cc := cX8_findReach) (nL := 3) (ret := none) (by decide) rfl (Nat.le_of_ble_eq_true rfl) ?_
  intro p e s m below meth c C0 hnm hI ls hl
  obtain ⟨hx, hb, hr, hml, hown, hts, hlk, hK, hG⟩ := id C0
  have hl : lv_has ls 3 [(0, .ref (G.1 + 15)), (1, .ref (G.1 + g)), (2, .int x2)] := hl
  unfold f_X8_findReach at hf
  refine lv_aload_n hx hb dX8_findReach_0 rfl (lv_at hl 0 rfl) ?_
  refine lv_aload_n hx hb dX8_findReach_1 rfl (lv_at hl 1 rfl) ?_
  refine lv_iconst (v := 0) hx hb dX8_findReach_2 (by decide) ?_
  refine lv_iload_n hx hb dX8_findReach_3 rfl (lv_at hl 2 rfl) ?_
  obtain ⟨r1, hc1, hf⟩ := ok_1 hf
  refine z_calli0 rfl rfl hI (va_runVN (As := [.int 0, .int x2]) (rest := [.ref (G.1 + 15)]) ⟨hx, hb, hml, hown, hts⟩ (m_X4_lowestOn G l hg hc1) ⟨va_cnB (host := "FenceYards") 2 hts gX8_findReach_X4_lowestOn_n67 rfl rfl rfl (hG.1.2.1 ("FenceYards$Seer", 67, ⟨"FenceYards$Ground", "lowestOn", "(II)I"⟩) (by decide +kernel)) (hts (.initialized "FenceYards$Ground") (by decide +kernel)) (by decide +kernel) ⟨Nat.le_of_ble_eq_true rfl, Nat.le_of_ble_eq_true rfl⟩, hts (.instanceMethod yX4_lowestOn) (by decide +kernel), hts (.selects "FenceYards$Ground" yX4_lowestOn yX4_lowestOn) (by decide +kernel)⟩ (z_preV hK hG hI (z_rc (q := g) (ci := 4) (n := 0) hK hI (kd_G hg) (by decide) rfl)) rfl rfl hl.1 rfl (lv_room (Nat.le_of_ble_eq_true rfl)) dX8_findReach_4 ⟨Nat.zero_le _, Nat.zero_le _⟩) (fun H locs hI => ?_)
  refine z_put (C := RX8) (T := TX8) (N := 16) (ci := 8) (ty := .int) (v := .int r1) hx hb hts i_X8_findReach_8 tyX8 tyX8_ok nmX8 hown hK hI 15 rfl (by decide) rfl 10 (by decide) (hts (.fieldLink RX8 71 "FenceYards$Seer" "upperFrom" "I") (by decide +kernel)) (fun _ h9 => h9) rfl (by decide +kernel) rfl rfl (Nat.le_of_ble_eq_true rfl) (set_I hI.2.2.2 rfl (by decide) rfl) rfl hI.2.2.2 dX8_findReach_7 (fun H locs hI => ?_)
  refine lv_aload_n hx hb dX8_findReach_10 rfl (lv_at hl 0 rfl) ?_
  refine lv_aload_n hx hb dX8_findReach_11 rfl (lv_at hl 1 rfl) ?_
  refine lv_iconst (v := 0) hx hb dX8_findReach_12 (by decide) ?_
  refine lv_iload_n hx hb dX8_findReach_13 rfl (lv_at hl 2 rfl) ?_
  obtain ⟨r2, hc2, hf⟩ := ok_1 hf
  refine z_calli0 rfl rfl hI (va_runVN (As := [.int 0, .int x2]) (rest := [.ref (G.1 + 15)]) ⟨hx, hb, hml, hown, hts⟩ (m_X4_highestOn G l hg hc2) ⟨va_cnB (host := "FenceYards") 2 hts gX8_findReach_X4_highestOn_n74 rfl rfl rfl (hG.1.2.1 ("FenceYards$Seer", 74, ⟨"FenceYards$Ground", "highestOn", "(II)I"⟩) (by decide +kernel)) (hts (.initialized "FenceYards$Ground") (by decide +kernel)) (by decide +kernel) ⟨Nat.le_of_ble_eq_true rfl, Nat.le_of_ble_eq_true rfl⟩, hts (.instanceMethod yX4_highestOn) (by decide +kernel), hts (.selects "FenceYards$Ground" yX4_highestOn yX4_highestOn) (by decide +kernel)⟩ (z_preV hK hG hI (z_rc (q := g) (ci := 4) (n := 0) hK hI (kd_G hg) (by decide) rfl)) rfl rfl hl.1 rfl (lv_room (Nat.le_of_ble_eq_true rfl)) dX8_findReach_14 ⟨Nat.zero_le _, Nat.zero_le _⟩) (fun H locs hI => ?_)
  refine z_put (C := RX8) (T := TX8) (N := 16) (ci := 8) (ty := .int) (v := .int r2) hx hb hts i_X8_findReach_8 tyX8 tyX8_ok nmX8 hown hK hI 15 rfl (by decide) rfl 11 (by decide) (hts (.fieldLink RX8 77 "FenceYards$Seer" "upperTo" "I") (by decide +kernel)) (fun _ h9 => h9) rfl (by decide +kernel) rfl rfl (Nat.le_of_ble_eq_true rfl) (set_I hI.2.2.2 rfl (by decide) rfl) rfl hI.2.2.2 dX8_findReach_17 (fun H locs hI => ?_)
  refine lv_aload_n hx hb dX8_findReach_20 rfl (lv_at hl 0 rfl) ?_
  refine lv_aload_n hx hb dX8_findReach_21 rfl (lv_at hl 1 rfl) ?_
  refine lv_iconst (v := 1) hx hb dX8_findReach_22 (by decide) ?_
  refine lv_iload_n hx hb dX8_findReach_23 rfl (lv_at hl 2 rfl) ?_
  obtain ⟨r3, hc3, hf⟩ := ok_1 hf
  refine z_calli0 rfl rfl hI (va_runVN (As := [.int 1, .int x2]) (rest := [.ref (G.1 + 15)]) ⟨hx, hb, hml, hown, hts⟩ (m_X4_lowestOn G l hg hc3) ⟨va_cnB (host := "FenceYards") 2 hts gX8_findReach_X4_lowestOn_n67 rfl rfl rfl (hG.1.2.1 ("FenceYards$Seer", 67, ⟨"FenceYards$Ground", "lowestOn", "(II)I"⟩) (by decide +kernel)) (hts (.initialized "FenceYards$Ground") (by decide +kernel)) (by decide +kernel) ⟨Nat.le_of_ble_eq_true rfl, Nat.le_of_ble_eq_true rfl⟩, hts (.instanceMethod yX4_lowestOn) (by decide +kernel), hts (.selects "FenceYards$Ground" yX4_lowestOn yX4_lowestOn) (by decide +kernel)⟩ (z_preV hK hG hI (z_rc (q := g) (ci := 4) (n := 0) hK hI (kd_G hg) (by decide) rfl)) rfl rfl hl.1 rfl (lv_room (Nat.le_of_ble_eq_true rfl)) dX8_findReach_24 ⟨Nat.zero_le _, Nat.zero_le _⟩) (fun H locs hI => ?_)
  refine z_put (C := RX8) (T := TX8) (N := 16) (ci := 8) (ty := .int) (v := .int r3) hx hb hts i_X8_findReach_8 tyX8 tyX8_ok nmX8 hown hK hI 15 rfl (by decide) rfl 12 (by decide) (hts (.fieldLink RX8 80 "FenceYards$Seer" "lowerFrom" "I") (by decide +kernel)) (fun _ h9 => h9) rfl (by decide +kernel) rfl rfl (Nat.le_of_ble_eq_true rfl) (set_I hI.2.2.2 rfl (by decide) rfl) rfl hI.2.2.2 dX8_findReach_27 (fun H locs hI => ?_)
  refine lv_aload_n hx hb dX8_findReach_30 rfl (lv_at hl 0 rfl) ?_
  refine lv_aload_n hx hb dX8_findReach_31 rfl (lv_at hl 1 rfl) ?_
  refine lv_iconst (v := 1) hx hb dX8_findReach_32 (by decide) ?_
  refine lv_iload_n hx hb dX8_findReach_33 rfl (lv_at hl 2 rfl) ?_
  obtain ⟨r4, hc4, hf⟩ := ok_1 hf
  refine z_calli0 rfl rfl hI (va_runVN (As := [.int 1, .int x2]) (rest := [.ref (G.1 + 15)]) ⟨hx, hb, hml, hown, hts⟩ (m_X4_highestOn G l hg hc4) ⟨va_cnB (host := "FenceYards") 2 hts gX8_findReach_X4_highestOn_n74 rfl rfl rfl (hG.1.2.1 ("FenceYards$Seer", 74, ⟨"FenceYards$Ground", "highestOn", "(II)I"⟩) (by decide +kernel)) (hts (.initialized "FenceYards$Ground") (by decide +kernel)) (by decide +kernel) ⟨Nat.le_of_ble_eq_true rfl, Nat.le_of_ble_eq_true rfl⟩, hts (.instanceMethod yX4_highestOn) (by decide +kernel), hts (.selects "FenceYards$Ground" yX4_highestOn yX4_highestOn) (by decide +kernel)⟩ (z_preV hK hG hI (z_rc (q := g) (ci := 4) (n := 0) hK hI (kd_G hg) (by decide) rfl)) rfl rfl hl.1 rfl (lv_room (Nat.le_of_ble_eq_true rfl)) dX8_findReach_34 ⟨Nat.zero_le _, Nat.zero_le _⟩) (fun H locs hI => ?_)
  refine z_put (C := RX8) (T := TX8) (N := 16) (ci := 8) (ty := .int) (v := .int r4) hx hb hts i_X8_findReach_8 tyX8 tyX8_ok nmX8 hown hK hI 15 rfl (by decide) rfl 13 (by decide) (hts (.fieldLink RX8 83 "FenceYards$Seer" "lowerTo" "I") (by decide +kernel)) (fun _ h9 => h9) rfl (by decide +kernel) rfl rfl (Nat.le_of_ble_eq_true rfl) (set_I hI.2.2.2 rfl (by decide) rfl) rfl hI.2.2.2 dX8_findReach_37 (fun H locs hI => ?_)
  cases hf
  exact z_vret hx hb hr hlk hK hG hI dX8_findReach_40

-- ===== FenceYards$Seer.followRight(LFenceYards$Ground;[II)V
set_option maxRecDepth 100000 in
theorem i_X8_followRight_8 : ∀ w ∈ u_ws RX8 TX8 16, w ∈ wsX8_followRight := by decide +kernel
def f_X8_followRight_10  (g : Nat) (tq : Nat)  (x3 : Int32) : Nat → Hp → Int32 → Int32 → Option (Hp)
  | 0, _, _, _ => none
  | n + 1, σ, x4, x5 =>
    if x3 ≤ x5 then (some σ) else (if 40 ≤ x5 then (some σ) else (chk (inb x5 40) <| bd1 (f_X4_isOpen σ g 1 (x4 + (gI σ tq (x5.toNatClampNeg)))) fun r1 => if r1 = 0 then (chk (inb x5 12) <| f_X8_followRight_10 g tq x3 n (sI σ 22 (x5.toNatClampNeg) x4) x4 (x5 + 1)) else (chk (inb x5 40) <| bnd (x4 + (gI σ tq (x5.toNatClampNeg))) fun v1 => chk (inb x5 12) <| f_X8_followRight_10 g tq x3 n (sI σ 22 (x5.toNatClampNeg) v1) v1 (x5 + 1))))
def f_X8_followRight (σ : Hp) (g : Nat) (tq : Nat) (x3 : Int32) : Option (Hp) :=
  bd1 (f_X4_endOn σ g 1) fun r1 => f_X8_followRight_10 g tq x3 fu σ r1 0
set_option maxRecDepth 100000 in
set_option maxHeartbeats 4000000 in
theorem w_X8_followRight_10 {G : GT} {p : Program} {l : Launch} {e : Env} {s : State} {m : MethodId} {args : Array Value} {below : List Frame} {meth : Method} {c : Code} {g : Nat} {tq : Nat} {σ' : Hp}   {x3 : Int32} (hg : isG g) (htq : isW tq) (C0 : Cx G cX8_followRight RX8 wsX8_followRight 6 none p s m args meth c)  :
    ∀ (n : Nat) (σ : Hp) (x4 : Int32) (x5 : Int32), f_X8_followRight_10 g tq x3 n σ x4 x5 = some σ' → ∀ (H : Heap) (locs : List Loc), Inv G s σ H locs → ∀ ls : Array Slot, lv_has ls 6 [(0, .ref (G.1 + 15)), (1, .ref (G.1 + g)), (2, .ref (G.1 + tq)), (3, .int x3), (4, .int x4), (5, .int x5)] → W p l e (rmk 1 23) s m args below meth c H locs 0 0 (MQ below (QV G σ') args s (rmk 1 23).cells (rmk 1 23).slots (gA G)) (F0 m 10 ls []) := by
  obtain ⟨hx, hb, hr, hml, hown, hts, hlk, hK, hG⟩ := id C0
  intro n
  induction n with
  | zero =>
    intro σ x4 x5 hf
    cases hf
  | succ n ih =>
    intro σ x4 x5 hf H locs hI ls hl
    rw [f_X8_followRight_10] at hf
    refine lv_iload hx hb dX8_followRight_10 (lv_at hl 5 rfl) ?_
    refine lv_iload_n hx hb dX8_followRight_12 rfl (lv_at hl 3 rfl) ?_
    refine lv_icmp_ge (tgt := 67) hx hb dX8_followRight_13 (by decide) (fun c1 => ?_) (fun c1 => ?_)
    · have hf := ok_t c1 hf
      cases hf
      exact z_vret hx hb hr hlk hK hG hI dX8_followRight_67
    · have hf := ok_f c1 hf
      refine lv_iload hx hb dX8_followRight_16 (lv_at hl 5 rfl) ?_
      refine lv_aload_n hx hb dX8_followRight_18 rfl (lv_at hl 2 rfl) ?_
      refine z_alen hx hb hK hI tq (kd_W htq) (v := 40) (by decide) dX8_followRight_19 ?_
      refine lv_icmp_ge (tgt := 67) hx hb dX8_followRight_20 (by decide) (fun c2 => ?_) (fun c2 => ?_)
      · have hf := ok_t c2 hf
        cases hf
        exact z_vret hx hb hr hlk hK hG hI dX8_followRight_67
      · have hf := ok_f c2 hf
        refine lv_aload_n hx hb dX8_followRight_23 rfl (lv_at hl 1 rfl) ?_
        refine lv_iconst (v := 1) hx hb dX8_followRight_24 (by decide) ?_
        refine lv_iload hx hb dX8_followRight_25 (lv_at hl 4 rfl) ?_
        refine lv_aload_n hx hb dX8_followRight_27 rfl (lv_at hl 2 rfl) ?_
        refine lv_iload hx hb dX8_followRight_28 (lv_at hl 5 rfl) ?_
        obtain ⟨h1, hf⟩ := ok_c hf
        refine z_iald hx hb hK hI tq (k := x5.toNatClampNeg) (kd_W htq) h1 rfl dX8_followRight_30 ?_
        refine lv_iadd hx hb dX8_followRight_31 ?_
        obtain ⟨r1, hc1, hf⟩ := ok_1 hf
        refine z_calli0 rfl rfl hI (va_runVN (As := [.int 1, .int (x4 + (gI σ tq (x5.toNatClampNeg)))]) (rest := []) ⟨hx, hb, hml, hown, hts⟩ (m_X4_isOpen G l hg hc1) ⟨va_cnB (host := "FenceYards") 2 hts gX8_followRight_X4_isOpen_n139 rfl rfl rfl (hG.1.2.1 ("FenceYards$Seer", 139, ⟨"FenceYards$Ground", "isOpen", "(II)Z"⟩) (by decide +kernel)) (hts (.initialized "FenceYards$Ground") (by decide +kernel)) (by decide +kernel) ⟨Nat.le_of_ble_eq_true rfl, Nat.le_of_ble_eq_true rfl⟩, hts (.instanceMethod yX4_isOpen) (by decide +kernel), hts (.selects "FenceYards$Ground" yX4_isOpen yX4_isOpen) (by decide +kernel)⟩ (z_preV hK hG hI (z_rc (q := g) (ci := 4) (n := 0) hK hI (kd_G hg) (by decide) rfl)) rfl rfl hl.1 rfl (lv_room (Nat.le_of_ble_eq_true rfl)) dX8_followRight_32 ⟨Nat.zero_le _, Nat.zero_le _⟩) (fun H locs hI => ?_)
        refine lv_if_eq (tgt := 48) hx hb dX8_followRight_35 (by decide) (fun c3 => ?_) (fun c3 => ?_)
        · have hf := ok_t c3 hf
          refine lv_iload hx hb dX8_followRight_48 (lv_at hl 4 rfl) ?_
          refine lv_istore (lv' := [(4, .int x4), (0, .ref (G.1 + 15)), (1, .ref (G.1 + g)), (2, .ref (G.1 + tq)), (3, .int x3), (5, .int x5)]) hx hb dX8_followRight_50 hl (by decide) rfl (fun ls hl => ?_)
          refine lv_aload_n hx hb dX8_followRight_52 rfl (lv_at hl 1 rfl) ?_
          refine z_get (C := RX8) (T := TX8) (N := 16) (ci := 8) (v := .ref (G.1 + 22)) hx hb hts i_X8_followRight_8 hown hK hI 15 rfl (by decide) rfl 7 (by decide) (hts (.fieldLink RX8 31 "FenceYards$Seer" "lowerEnds" "[I") (by decide +kernel)) (fun _ h9 => h9) rfl dX8_followRight_53 ?_
          refine lv_iload hx hb dX8_followRight_56 (lv_at hl 5 rfl) ?_
          refine lv_iload hx hb dX8_followRight_58 (lv_at hl 0 rfl) ?_
          obtain ⟨h2, hf⟩ := ok_c hf
          refine z_iast hx hb hK hI 22 (k := x5.toNatClampNeg) rfl h2 rfl dX8_followRight_60 (fun H locs hI => ?_)
          refine lv_iinc (v := x5 + 1) (lv' := [(5, .int (x5 + 1)), (4, .int x4), (0, .ref (G.1 + 15)), (1, .ref (G.1 + g)), (2, .ref (G.1 + tq)), (3, .int x3)]) hx hb dX8_followRight_61 hl (k := 5) rfl rfl (by decide) rfl (fun ls hl => ?_)
          refine lv_goto (tgt := 10) hx hb dX8_followRight_64 (by decide) ?_
          exact ih _ _ _ hf _ _ hI _ (lv_sub hl [2, 3, 4, 5, 1, 0] rfl)
        · have hf := ok_f c3 hf
          refine lv_iload hx hb dX8_followRight_38 (lv_at hl 4 rfl) ?_
          refine lv_aload_n hx hb dX8_followRight_40 rfl (lv_at hl 2 rfl) ?_
          refine lv_iload hx hb dX8_followRight_41 (lv_at hl 5 rfl) ?_
          obtain ⟨h3, hf⟩ := ok_c hf
          refine z_iald hx hb hK hI tq (k := x5.toNatClampNeg) (kd_W htq) h3 rfl dX8_followRight_43 ?_
          refine lv_iadd hx hb dX8_followRight_44 ?_
          refine lv_goto (tgt := 50) hx hb dX8_followRight_45 (by decide) ?_
          refine lv_topi (fun v1 ev1 => ?_)
          have hf := ok_n hf ev1
          refine lv_istore (lv' := [(4, .int v1), (0, .ref (G.1 + 15)), (1, .ref (G.1 + g)), (2, .ref (G.1 + tq)), (3, .int x3), (5, .int x5)]) hx hb dX8_followRight_50 hl (by decide) rfl (fun ls hl => ?_)
          refine lv_aload_n hx hb dX8_followRight_52 rfl (lv_at hl 1 rfl) ?_
          refine z_get (C := RX8) (T := TX8) (N := 16) (ci := 8) (v := .ref (G.1 + 22)) hx hb hts i_X8_followRight_8 hown hK hI 15 rfl (by decide) rfl 7 (by decide) (hts (.fieldLink RX8 31 "FenceYards$Seer" "lowerEnds" "[I") (by decide +kernel)) (fun _ h9 => h9) rfl dX8_followRight_53 ?_
          refine lv_iload hx hb dX8_followRight_56 (lv_at hl 5 rfl) ?_
          refine lv_iload hx hb dX8_followRight_58 (lv_at hl 0 rfl) ?_
          obtain ⟨h4, hf⟩ := ok_c hf
          refine z_iast hx hb hK hI 22 (k := x5.toNatClampNeg) rfl h4 rfl dX8_followRight_60 (fun H locs hI => ?_)
          refine lv_iinc (v := x5 + 1) (lv' := [(5, .int (x5 + 1)), (4, .int v1), (0, .ref (G.1 + 15)), (1, .ref (G.1 + g)), (2, .ref (G.1 + tq)), (3, .int x3)]) hx hb dX8_followRight_61 hl (k := 5) rfl rfl (by decide) rfl (fun ls hl => ?_)
          refine lv_goto (tgt := 10) hx hb dX8_followRight_64 (by decide) ?_
          exact ih _ _ _ hf _ _ hI _ (lv_sub hl [2, 3, 4, 5, 1, 0] rfl)

set_option maxRecDepth 100000 in
set_option maxHeartbeats 4000000 in
theorem m_X8_followRight (G : GT) (l : Launch) {σ : Hp} {g : Nat} {tq : Nat} {x3 : Int32} {σ' : Hp} (hg : isG g) (htq : isW tq) (hf : f_X8_followRight σ g tq x3 = some σ') : MetG G l yX8_followRight wsX8_followRight (rmk 1 23) σ [.ref (G.1 + 15), .ref (G.1 + g), .ref (G.1 + tq), .int x3] (QV G σ') := by
  refine met_of (cc := cX8_followRight) (nL := 6) (ret := none) (by decide) rfl (Nat.le_of_ble_eq_true rfl) ?_
  intro p e s m below meth c C0 hnm hI ls hl
  obtain ⟨hx, hb, hr, hml, hown, hts, hlk, hK, hG⟩ := id C0
  have hl : lv_has ls 6 [(0, .ref (G.1 + 15)), (1, .ref (G.1 + g)), (2, .ref (G.1 + tq)), (3, .int x3)] := hl
  unfold f_X8_followRight at hf
  refine lv_aload_n hx hb dX8_followRight_0 rfl (lv_at hl 1 rfl) ?_
  refine lv_iconst (v := 1) hx hb dX8_followRight_1 (by decide) ?_
  obtain ⟨r1, hc1, hf⟩ := ok_1 hf
  refine z_calli0 rfl rfl hI (va_runVN (As := [.int 1]) (rest := []) ⟨hx, hb, hml, hown, hts⟩ (m_X4_endOn G l hg hc1) ⟨va_cnB (host := "FenceYards") 1 hts gX8_followRight_X4_endOn_n114 rfl rfl rfl (hG.1.2.1 ("FenceYards$Seer", 114, ⟨"FenceYards$Ground", "endOn", "(I)I"⟩) (by decide +kernel)) (hts (.initialized "FenceYards$Ground") (by decide +kernel)) (by decide +kernel) ⟨Nat.le_of_ble_eq_true rfl, Nat.le_of_ble_eq_true rfl⟩, hts (.instanceMethod yX4_endOn) (by decide +kernel), hts (.selects "FenceYards$Ground" yX4_endOn yX4_endOn) (by decide +kernel)⟩ (z_preV hK hG hI (z_rc (q := g) (ci := 4) (n := 0) hK hI (kd_G hg) (by decide) rfl)) rfl rfl hl.1 rfl (lv_room (Nat.le_of_ble_eq_true rfl)) dX8_followRight_2 ⟨Nat.zero_le _, Nat.zero_le _⟩) (fun H locs hI => ?_)
  refine lv_istore (lv' := [(4, .int r1), (0, .ref (G.1 + 15)), (1, .ref (G.1 + g)), (2, .ref (G.1 + tq)), (3, .int x3)]) hx hb dX8_followRight_5 hl (by decide) rfl (fun ls hl => ?_)
  refine lv_iconst (v := 0) hx hb dX8_followRight_7 (by decide) ?_
  refine lv_istore (lv' := [(5, .int 0), (4, .int r1), (0, .ref (G.1 + 15)), (1, .ref (G.1 + g)), (2, .ref (G.1 + tq)), (3, .int x3)]) hx hb dX8_followRight_8 hl (by decide) rfl (fun ls hl => ?_)
  exact w_X8_followRight_10 hg htq C0  _ _ _ _ hf _ _ hI _ (lv_sub hl [2, 3, 4, 5, 1, 0] rfl)

-- ===== FenceYards$Seer.moveToMost(I)I
set_option maxRecDepth 100000 in
theorem i_X8_moveToMost_8 : ∀ w ∈ u_ws RX8 TX8 16, w ∈ wsX8_moveToMost := by decide +kernel
def f_X8_moveToMost_18   (σ : Hp) (x1 : Int32) : Nat → Int32 → Int32 → Option (Int32)
  | 0, _, _ => none
  | n + 1, x2, x3 =>
    if 1 < x3 then (some x2) else (if (gI σ 15 11) < (x1 + x3) then (f_X8_moveToMost_18 σ x1 n x2 (x3 + 1)) else (chk (inb (x1 + x3) 169) <| chk (inb (x1 + x2) 169) <| if (gI σ 20 ((x1 + x3).toNatClampNeg)) ≤ (gI σ 20 ((x1 + x2).toNatClampNeg)) then (f_X8_moveToMost_18 σ x1 n x2 (x3 + 1)) else (f_X8_moveToMost_18 σ x1 n x3 (x3 + 1))))
def f_X8_moveToMost (σ : Hp) (x1 : Int32) : Option (Int32) :=
  if x1 ≤ (gI σ 15 10) then (bnd (0 + 1) fun v1 => f_X8_moveToMost_18 σ x1 fu 0 v1) else (bnd ((-1) + 1) fun v2 => f_X8_moveToMost_18 σ x1 fu (-1) v2)
set_option maxRecDepth 100000 in
set_option maxHeartbeats 4000000 in
theorem w_X8_moveToMost_18 {G : GT} {p : Program} {l : Launch} {e : Env} {s : State} {m : MethodId} {args : Array Value} {below : List Frame} {meth : Method} {c : Code}  {r : Int32}  {σ : Hp} {x1 : Int32}  (C0 : Cx G cX8_moveToMost RX8 wsX8_moveToMost 4 (some .int) p s m args meth c)  :
    ∀ (n : Nat) (x2 : Int32) (x3 : Int32), f_X8_moveToMost_18 σ x1 n x2 x3 = some r → ∀ (H : Heap) (locs : List Loc), Inv G s σ H locs → ∀ ls : Array Slot, lv_has ls 4 [(0, .ref (G.1 + 15)), (1, .int x1), (2, .int x2), (3, .int x3)] → W p l e (rmk 0 0) s m args below meth c H locs 0 0 (MQ below (QI G σ r) args s (rmk 0 0).cells (rmk 0 0).slots (gA G)) (F0 m 18 ls []) := by
  obtain ⟨hx, hb, hr, hml, hown, hts, hlk, hK, hG⟩ := id C0
  intro n
  induction n with
  | zero =>
    intro x2 x3 hf
    cases hf
  | succ n ih =>
    intro x2 x3 hf H locs hI ls hl
    rw [f_X8_moveToMost_18] at hf
    refine lv_iload_n hx hb dX8_moveToMost_18 rfl (lv_at hl 3 rfl) ?_
    refine lv_iconst (v := 1) hx hb dX8_moveToMost_19 (by decide) ?_
    refine lv_icmp_gt (tgt := 60) hx hb dX8_moveToMost_20 (by decide) (fun c1 => ?_) (fun c1 => ?_)
    · have hf := ok_t c1 hf
      refine lv_iload_n hx hb dX8_moveToMost_60 rfl (lv_at hl 2 rfl) ?_
      cases hf
      exact z_iret hx hb hr hlk hK hG hI dX8_moveToMost_61
    · have hf := ok_f c1 hf
      refine lv_iload_n hx hb dX8_moveToMost_23 rfl (lv_at hl 1 rfl) ?_
      refine lv_iload_n hx hb dX8_moveToMost_24 rfl (lv_at hl 3 rfl) ?_
      refine lv_iadd hx hb dX8_moveToMost_25 ?_
      refine lv_aload_n hx hb dX8_moveToMost_26 rfl (lv_at hl 0 rfl) ?_
      refine z_get (C := RX8) (T := TX8) (N := 16) (ci := 8) (v := .int (gI σ 15 11)) hx hb hts i_X8_moveToMost_8 hown hK hI 15 rfl (by decide) rfl 11 (by decide) (hts (.fieldLink RX8 77 "FenceYards$Seer" "upperTo" "I") (by decide +kernel)) (fun _ h9 => h9) rfl dX8_moveToMost_27 ?_
      refine lv_icmp_gt (tgt := 54) hx hb dX8_moveToMost_30 (by decide) (fun c2 => ?_) (fun c2 => ?_)
      · have hf := ok_t c2 hf
        refine lv_iinc (v := x3 + 1) (lv' := [(3, .int (x3 + 1)), (0, .ref (G.1 + 15)), (1, .int x1), (2, .int x2)]) hx hb dX8_moveToMost_54 hl (k := 3) rfl rfl (by decide) rfl (fun ls hl => ?_)
        refine lv_goto (tgt := 18) hx hb dX8_moveToMost_57 (by decide) ?_
        exact ih _ _ hf _ _ hI _ (lv_sub hl [1, 2, 3, 0] rfl)
      · have hf := ok_f c2 hf
        refine lv_aload_n hx hb dX8_moveToMost_33 rfl (lv_at hl 0 rfl) ?_
        refine z_get (C := RX8) (T := TX8) (N := 16) (ci := 8) (v := .ref (G.1 + 20)) hx hb hts i_X8_moveToMost_8 hown hK hI 15 rfl (by decide) rfl 5 (by decide) (hts (.fieldLink RX8 25 "FenceYards$Seer" "withDay" "[I") (by decide +kernel)) (fun _ h9 => h9) rfl dX8_moveToMost_34 ?_
        refine lv_iload_n hx hb dX8_moveToMost_37 rfl (lv_at hl 1 rfl) ?_
        refine lv_iload_n hx hb dX8_moveToMost_38 rfl (lv_at hl 3 rfl) ?_
        refine lv_iadd hx hb dX8_moveToMost_39 ?_
        obtain ⟨h1, hf⟩ := ok_c hf
        refine z_iald hx hb hK hI 20 (k := (x1 + x3).toNatClampNeg) rfl h1 rfl dX8_moveToMost_40 ?_
        refine lv_aload_n hx hb dX8_moveToMost_41 rfl (lv_at hl 0 rfl) ?_
        refine z_get (C := RX8) (T := TX8) (N := 16) (ci := 8) (v := .ref (G.1 + 20)) hx hb hts i_X8_moveToMost_8 hown hK hI 15 rfl (by decide) rfl 5 (by decide) (hts (.fieldLink RX8 25 "FenceYards$Seer" "withDay" "[I") (by decide +kernel)) (fun _ h9 => h9) rfl dX8_moveToMost_42 ?_
        refine lv_iload_n hx hb dX8_moveToMost_45 rfl (lv_at hl 1 rfl) ?_
        refine lv_iload_n hx hb dX8_moveToMost_46 rfl (lv_at hl 2 rfl) ?_
        refine lv_iadd hx hb dX8_moveToMost_47 ?_
        obtain ⟨h2, hf⟩ := ok_c hf
        refine z_iald hx hb hK hI 20 (k := (x1 + x2).toNatClampNeg) rfl h2 rfl dX8_moveToMost_48 ?_
        refine lv_icmp_le (tgt := 54) hx hb dX8_moveToMost_49 (by decide) (fun c3 => ?_) (fun c3 => ?_)
        · have hf := ok_t c3 hf
          refine lv_iinc (v := x3 + 1) (lv' := [(3, .int (x3 + 1)), (0, .ref (G.1 + 15)), (1, .int x1), (2, .int x2)]) hx hb dX8_moveToMost_54 hl (k := 3) rfl rfl (by decide) rfl (fun ls hl => ?_)
          refine lv_goto (tgt := 18) hx hb dX8_moveToMost_57 (by decide) ?_
          exact ih _ _ hf _ _ hI _ (lv_sub hl [1, 2, 3, 0] rfl)
        · have hf := ok_f c3 hf
          refine lv_iload_n hx hb dX8_moveToMost_52 rfl (lv_at hl 3 rfl) ?_
          refine lv_istore_n (lv' := [(2, .int x3), (0, .ref (G.1 + 15)), (1, .int x1), (3, .int x3)]) hx hb dX8_moveToMost_53 rfl hl (by decide) rfl (fun ls hl => ?_)
          refine lv_iinc (v := x3 + 1) (lv' := [(3, .int (x3 + 1)), (2, .int x3), (0, .ref (G.1 + 15)), (1, .int x1)]) hx hb dX8_moveToMost_54 hl (k := 3) rfl rfl (by decide) rfl (fun ls hl => ?_)
          refine lv_goto (tgt := 18) hx hb dX8_moveToMost_57 (by decide) ?_
          exact ih _ _ hf _ _ hI _ (lv_sub hl [2, 3, 1, 0] rfl)

set_option maxRecDepth 100000 in
set_option maxHeartbeats 4000000 in
theorem m_X8_moveToMost (G : GT) (l : Launch) {σ : Hp} {x1 : Int32} {r : Int32}  (hf : f_X8_moveToMost σ x1 = some r) : MetG G l yX8_moveToMost wsX8_moveToMost (rmk 0 0) σ [.ref (G.1 + 15), .int x1] (QI G σ r) := by
  refine met_of (cc := cX8_moveToMost) (nL := 4) (ret := (some .int)) (by decide) rfl (Nat.le_of_ble_eq_true rfl) ?_
  intro p e s m below meth c C0 hnm hI ls hl
  obtain ⟨hx, hb, hr, hml, hown, hts, hlk, hK, hG⟩ := id C0
  have hl : lv_has ls 4 [(0, .ref (G.1 + 15)), (1, .int x1)] := hl
  unfold f_X8_moveToMost at hf
  refine lv_iload_n hx hb dX8_moveToMost_0 rfl (lv_at hl 1 rfl) ?_
  refine lv_aload_n hx hb dX8_moveToMost_1 rfl (lv_at hl 0 rfl) ?_
  refine z_get (C := RX8) (T := TX8) (N := 16) (ci := 8) (v := .int (gI σ 15 10)) hx hb hts i_X8_moveToMost_8 hown hK hI 15 rfl (by decide) rfl 10 (by decide) (hts (.fieldLink RX8 71 "FenceYards$Seer" "upperFrom" "I") (by decide +kernel)) (fun _ h9 => h9) rfl dX8_moveToMost_2 ?_
  refine lv_icmp_le (tgt := 12) hx hb dX8_moveToMost_5 (by decide) (fun c1 => ?_) (fun c1 => ?_)
  · have hf := ok_t c1 hf
    refine lv_iconst (v := 0) hx hb dX8_moveToMost_12 (by decide) ?_
    refine lv_istore_n (lv' := [(2, .int 0), (0, .ref (G.1 + 15)), (1, .int x1)]) hx hb dX8_moveToMost_13 rfl hl (by decide) rfl (fun ls hl => ?_)
    refine lv_iload_n hx hb dX8_moveToMost_14 rfl (lv_at hl 0 rfl) ?_
    refine lv_iconst (v := 1) hx hb dX8_moveToMost_15 (by decide) ?_
    refine lv_iadd hx hb dX8_moveToMost_16 ?_
    refine lv_topi (fun v1 ev1 => ?_)
    have hf := ok_n hf ev1
    refine lv_istore_n (lv' := [(3, .int v1), (2, .int 0), (0, .ref (G.1 + 15)), (1, .int x1)]) hx hb dX8_moveToMost_17 rfl hl (by decide) rfl (fun ls hl => ?_)
    exact w_X8_moveToMost_18  C0  _ _ _ hf _ _ hI _ (lv_sub hl [2, 3, 1, 0] rfl)
  · have hf := ok_f c1 hf
    refine lv_iconst (v := (-1)) hx hb dX8_moveToMost_8 (by decide) ?_
    refine lv_goto (tgt := 13) hx hb dX8_moveToMost_9 (by decide) ?_
    refine lv_istore_n (lv' := [(2, .int (-1)), (0, .ref (G.1 + 15)), (1, .int x1)]) hx hb dX8_moveToMost_13 rfl hl (by decide) rfl (fun ls hl => ?_)
    refine lv_iload_n hx hb dX8_moveToMost_14 rfl (lv_at hl 0 rfl) ?_
    refine lv_iconst (v := 1) hx hb dX8_moveToMost_15 (by decide) ?_
    refine lv_iadd hx hb dX8_moveToMost_16 ?_
    refine lv_topi (fun v2 ev2 => ?_)
    have hf := ok_n hf ev2
    refine lv_istore_n (lv' := [(3, .int v2), (2, .int (-1)), (0, .ref (G.1 + 15)), (1, .int x1)]) hx hb dX8_moveToMost_17 rfl hl (by decide) rfl (fun ls hl => ?_)
    exact w_X8_moveToMost_18  C0  _ _ _ hf _ _ hI _ (lv_sub hl [2, 3, 1, 0] rfl)

-- ===== FenceYards$Seer.followChoices(LFenceYards$Ground;I)V
set_option maxRecDepth 100000 in
theorem i_X8_followChoices_8 : ∀ w ∈ u_ws RX8 TX8 16, w ∈ wsX8_followChoices := by decide +kernel
def f_X8_followChoices_9  (g : Nat)  (x2 : Int32) : Nat → Hp → Int32 → Int32 → Option (Hp)
  | 0, _, _, _ => none
  | n + 1, σ, x3, x4 =>
    if x2 ≤ x4 then (some σ) else (chk (inb ((13 * x4) + x3) 156) <| chk (inb x4 12) <| bnd (sI σ 24 (x4.toNatClampNeg) (gI σ 23 (((13 * x4) + x3).toNatClampNeg))) fun s1 => chk (inb x4 12) <| bnd (x3 + (gI s1 24 (x4.toNatClampNeg))) fun v1 => f_X8_followChoices_9 g x2 n s1 v1 (x4 + 1))
def f_X8_followChoices (σ : Hp) (g : Nat) (x2 : Int32) : Option (Hp) :=
  bd1 (f_X4_endOn σ g 0) fun r1 => f_X8_followChoices_9 g x2 fu σ r1 0
set_option maxRecDepth 100000 in
set_option maxHeartbeats 4000000 in
theorem w_X8_followChoices_9 {G : GT} {p : Program} {l : Launch} {e : Env} {s : State} {m : MethodId} {args : Array Value} {below : List Frame} {meth : Method} {c : Code} {g : Nat} {σ' : Hp}   {x2 : Int32} (hg : isG g) (C0 : Cx G cX8_followChoices RX8 wsX8_followChoices 5 none p s m args meth c)  :
    ∀ (n : Nat) (σ : Hp) (x3 : Int32) (x4 : Int32), f_X8_followChoices_9 g x2 n σ x3 x4 = some σ' → ∀ (H : Heap) (locs : List Loc), Inv G s σ H locs → ∀ ls : Array Slot, lv_has ls 5 [(0, .ref (G.1 + 15)), (2, .int x2), (3, .int x3), (4, .int x4)] → W p l e (rmk 1 21) s m args below meth c H locs 0 0 (MQ below (QV G σ') args s (rmk 1 21).cells (rmk 1 21).slots (gA G)) (F0 m 9 ls []) := by
  obtain ⟨hx, hb, hr, hml, hown, hts, hlk, hK, hG⟩ := id C0
  intro n
  induction n with
  | zero =>
    intro σ x3 x4 hf
    cases hf
  | succ n ih =>
    intro σ x3 x4 hf H locs hI ls hl
    rw [f_X8_followChoices_9] at hf
    refine lv_iload hx hb dX8_followChoices_9 (lv_at hl 3 rfl) ?_
    refine lv_iload_n hx hb dX8_followChoices_11 rfl (lv_at hl 1 rfl) ?_
    refine lv_icmp_ge (tgt := 50) hx hb dX8_followChoices_12 (by decide) (fun c1 => ?_) (fun c1 => ?_)
    · have hf := ok_t c1 hf
      cases hf
      exact z_vret hx hb hr hlk hK hG hI dX8_followChoices_50
    · have hf := ok_f c1 hf
      refine lv_aload_n hx hb dX8_followChoices_15 rfl (lv_at hl 0 rfl) ?_
      refine z_get (C := RX8) (T := TX8) (N := 16) (ci := 8) (v := .ref (G.1 + 24)) hx hb hts i_X8_followChoices_8 hown hK hI 15 rfl (by decide) rfl 9 (by decide) (hts (.fieldLink RX8 37 "FenceYards$Seer" "bestMoves" "[I") (by decide +kernel)) (fun _ h9 => h9) rfl dX8_followChoices_16 ?_
      refine lv_iload hx hb dX8_followChoices_19 (lv_at hl 3 rfl) ?_
      refine lv_aload_n hx hb dX8_followChoices_21 rfl (lv_at hl 0 rfl) ?_
      refine z_get (C := RX8) (T := TX8) (N := 16) (ci := 8) (v := .ref (G.1 + 23)) hx hb hts i_X8_followChoices_8 hown hK hI 15 rfl (by decide) rfl 8 (by decide) (hts (.fieldLink RX8 34 "FenceYards$Seer" "choices" "[I") (by decide +kernel)) (fun _ h9 => h9) rfl dX8_followChoices_22 ?_
      refine lv_bipush (v := 13) hx hb dX8_followChoices_25 (by decide) ?_
      refine lv_iload hx hb dX8_followChoices_27 (lv_at hl 3 rfl) ?_
      refine lv_imul hx hb dX8_followChoices_29 ?_
      refine lv_iload_n hx hb dX8_followChoices_30 rfl (lv_at hl 2 rfl) ?_
      refine lv_iadd hx hb dX8_followChoices_31 ?_
      obtain ⟨h1, hf⟩ := ok_c hf
      refine z_iald hx hb hK hI 23 (k := ((13 * x4) + x3).toNatClampNeg) rfl h1 rfl dX8_followChoices_32 ?_
      obtain ⟨h2, hf⟩ := ok_c hf
      refine z_iast hx hb hK hI 24 (k := x4.toNatClampNeg) rfl h2 rfl dX8_followChoices_33 (fun H locs hI => ?_)
      obtain ⟨s1, es1⟩ : ∃ z, z = sI σ 24 (x4.toNatClampNeg) (gI σ 23 (((13 * x4) + x3).toNatClampNeg)) := ⟨_, rfl⟩
      have hI : Inv G s s1 H locs := by rw [es1]; exact hI
      have hf := ok_n hf es1
      refine lv_iload_n hx hb dX8_followChoices_34 rfl (lv_at hl 2 rfl) ?_
      refine lv_aload_n hx hb dX8_followChoices_35 rfl (lv_at hl 0 rfl) ?_
      refine z_get (C := RX8) (T := TX8) (N := 16) (ci := 8) (v := .ref (G.1 + 24)) hx hb hts i_X8_followChoices_8 hown hK hI 15 rfl (by decide) rfl 9 (by decide) (hts (.fieldLink RX8 37 "FenceYards$Seer" "bestMoves" "[I") (by decide +kernel)) (fun _ h9 => h9) rfl dX8_followChoices_36 ?_
      refine lv_iload hx hb dX8_followChoices_39 (lv_at hl 3 rfl) ?_
      obtain ⟨h3, hf⟩ := ok_c hf
      refine z_iald hx hb hK hI 24 (k := x4.toNatClampNeg) rfl h3 rfl dX8_followChoices_41 ?_
      refine lv_iadd hx hb dX8_followChoices_42 ?_
      refine lv_topi (fun v1 ev1 => ?_)
      have hf := ok_n hf ev1
      refine lv_istore_n (lv' := [(3, .int v1), (0, .ref (G.1 + 15)), (2, .int x2), (4, .int x4)]) hx hb dX8_followChoices_43 rfl hl (by decide) rfl (fun ls hl => ?_)
      refine lv_iinc (v := x4 + 1) (lv' := [(4, .int (x4 + 1)), (3, .int v1), (0, .ref (G.1 + 15)), (2, .int x2)]) hx hb dX8_followChoices_44 hl (k := 3) rfl rfl (by decide) rfl (fun ls hl => ?_)
      refine lv_goto (tgt := 9) hx hb dX8_followChoices_47 (by decide) ?_
      exact ih _ _ _ hf _ _ hI _ (lv_sub hl [2, 3, 1, 0] rfl)

set_option maxRecDepth 100000 in
set_option maxHeartbeats 4000000 in
theorem m_X8_followChoices (G : GT) (l : Launch) {σ : Hp} {g : Nat} {x2 : Int32} {σ' : Hp} (hg : isG g) (hf : f_X8_followChoices σ g x2 = some σ') : MetG G l yX8_followChoices wsX8_followChoices (rmk 1 21) σ [.ref (G.1 + 15), .ref (G.1 + g), .int x2] (QV G σ') := by
  refine met_of (cc := cX8_followChoices) (nL := 5) (ret := none) (by decide) rfl (Nat.le_of_ble_eq_true rfl) ?_
  intro p e s m below meth c C0 hnm hI ls hl
  obtain ⟨hx, hb, hr, hml, hown, hts, hlk, hK, hG⟩ := id C0
  have hl : lv_has ls 5 [(0, .ref (G.1 + 15)), (1, .ref (G.1 + g)), (2, .int x2)] := hl
  unfold f_X8_followChoices at hf
  refine lv_aload_n hx hb dX8_followChoices_0 rfl (lv_at hl 1 rfl) ?_
  refine lv_iconst (v := 0) hx hb dX8_followChoices_1 (by decide) ?_
  obtain ⟨r1, hc1, hf⟩ := ok_1 hf
  refine z_calli0 rfl rfl hI (va_runVN (As := [.int 0]) (rest := []) ⟨hx, hb, hml, hown, hts⟩ (m_X4_endOn G l hg hc1) ⟨va_cnB (host := "FenceYards") 1 hts gX8_followChoices_X4_endOn_n114 rfl rfl rfl (hG.1.2.1 ("FenceYards$Seer", 114, ⟨"FenceYards$Ground", "endOn", "(I)I"⟩) (by decide +kernel)) (hts (.initialized "FenceYards$Ground") (by decide +kernel)) (by decide +kernel) ⟨Nat.le_of_ble_eq_true rfl, Nat.le_of_ble_eq_true rfl⟩, hts (.instanceMethod yX4_endOn) (by decide +kernel), hts (.selects "FenceYards$Ground" yX4_endOn yX4_endOn) (by decide +kernel)⟩ (z_preV hK hG hI (z_rc (q := g) (ci := 4) (n := 0) hK hI (kd_G hg) (by decide) rfl)) rfl rfl hl.1 rfl (lv_room (Nat.le_of_ble_eq_true rfl)) dX8_followChoices_2 ⟨Nat.zero_le _, Nat.zero_le _⟩) (fun H locs hI => ?_)
  refine lv_istore_n (lv' := [(3, .int r1), (0, .ref (G.1 + 15)), (1, .ref (G.1 + g)), (2, .int x2)]) hx hb dX8_followChoices_5 rfl hl (by decide) rfl (fun ls hl => ?_)
  refine lv_iconst (v := 0) hx hb dX8_followChoices_6 (by decide) ?_
  refine lv_istore (lv' := [(4, .int 0), (3, .int r1), (0, .ref (G.1 + 15)), (1, .ref (G.1 + g)), (2, .int x2)]) hx hb dX8_followChoices_7 hl (by decide) rfl (fun ls hl => ?_)
  exact w_X8_followChoices_9 hg C0  _ _ _ _ hf _ _ hI _ (lv_sub hl [2, 4, 1, 0] rfl)

-- ===== FenceYards$Seer.bestOf(LFenceYards$Ground;[II)I
set_option maxRecDepth 100000 in
theorem i_X8_bestOf_4 : ∀ w ∈ u_ws RX4 TX4 11, w ∈ wsX8_bestOf := by decide +kernel
set_option maxRecDepth 100000 in
theorem i_X8_bestOf_8 : ∀ w ∈ u_ws RX8 TX8 16, w ∈ wsX8_bestOf := by decide +kernel
def f_X8_bestOf_108 (k36 : Hp → Int32 → Option (Hp × Int32)) (g : Nat) (tq : Nat)  (x4 : Int32) (x5 : Int32) : Nat → Hp → Int32 → Option (Hp × Int32)
  | 0, _, _ => none
  | n + 1, σ, x6 =>
    if (gI σ 15 11) < x6 then (k36 σ (x5 + (-1))) else (bd1 (f_X8_moveToMost σ x6) fun r1 => chk (inb ((13 * x5) + x6) 156) <| chk (inb (x6 + r1) 169) <| chk (inb x6 169) <| bnd (sI (sI σ 23 (((13 * x5) + x6).toNatClampNeg) r1) 19 (x6.toNatClampNeg) (gI (sI σ 23 (((13 * x5) + x6).toNatClampNeg) r1) 20 ((x6 + r1).toNatClampNeg))) fun s1 => f_X8_bestOf_108 k36 g tq x4 x5 n s1 (x6 + 1))
def f_X8_bestOf_59 (k36 : Hp → Int32 → Option (Hp × Int32)) (g : Nat) (tq : Nat)  (x4 : Int32) (x5 : Int32) : Nat → Hp → Int32 → Option (Hp × Int32)
  | 0, _, _ => none
  | n + 1, σ, x6 =>
    if (gI σ 15 11) < x6 then (bnd (gI σ 15 10) fun v1 => f_X8_bestOf_108 k36 g tq x4 x5 fu σ v1) else (chk (inb x5 12) <| bd1 (f_X8_leftReaps σ x6 (gI σ 22 (x5.toNatClampNeg))) fun r1 => chk (inb x6 169) <| chk (inb x6 169) <| bnd (sI σ 20 (x6.toNatClampNeg) (r1 + (gI σ 19 (x6.toNatClampNeg)))) fun s1 => f_X8_bestOf_59 k36 g tq x4 x5 n s1 (x6 + 1))
def f_X8_bestOf_36  (g : Nat) (tq : Nat)  (x4 : Int32) : Nat → Hp → Int32 → Option (Hp × Int32)
  | 0, _, _ => none
  | n + 1, σ, x5 =>
    if x5 < 0 then (bd1 (f_X8_followChoices σ g x4) fun s1 => bd1 (f_X4_endOn s1 g 0) fun r1 => chk (inb r1 169) <| some (s1, gI s1 19 (r1.toNatClampNeg))) else (bd1 (f_X8_gather σ g ((gI σ g 10) + x5)) fun s2 => bnd (gI s2 15 10) fun v1 => f_X8_bestOf_59 (f_X8_bestOf_36 g tq x4 n) g tq x4 x5 fu s2 v1)
def f_X8_bestOf (σ : Hp) (g : Nat) (tq : Nat) (x3 : Int32) : Option (Hp × Int32) :=
  bd1 (f_X4_daysOf σ g x3) fun r1 => bd1 (f_X8_findReach σ g r1) fun s1 => bd1 (f_X8_followRight s1 g tq r1) fun s2 => bd1 (f_fill s2 19 169 0) fun s3 => bnd (r1 - 1) fun v1 => f_X8_bestOf_36 g tq r1 fu s3 v1
set_option maxRecDepth 100000 in
set_option maxHeartbeats 4000000 in
theorem w_X8_bestOf_108 {G : GT} {p : Program} {l : Launch} {e : Env} {s : State} {m : MethodId} {args : Array Value} {below : List Frame} {meth : Method} {c : Code} {g : Nat} {tq : Nat} {σ' : Hp} {r : Int32} {k36 : Hp → Int32 → Option (Hp × Int32)}  {x4 : Int32} {x5 : Int32} (hg : isG g) (htq : isW tq) (C0 : Cx G cX8_bestOf RX8 wsX8_bestOf 8 (some .int) p s m args meth c) (hk36 : ∀ (σ : Hp) (x5 : Int32), k36 σ x5 = some (σ', r) → ∀ (H : Heap) (locs : List Loc), Inv G s σ H locs → ∀ ls : Array Slot, lv_has ls 8 [(0, .ref (G.1 + 15)), (1, .ref (G.1 + g)), (4, .int x4), (5, .int x5)] → W p l e (rmk 3 74) s m args below meth c H locs 0 0 (MQ below (QI G σ' r) args s (rmk 3 74).cells (rmk 3 74).slots (gA G)) (F0 m 36 ls [])) :
    ∀ (n : Nat) (σ : Hp) (x6 : Int32), f_X8_bestOf_108 k36 g tq x4 x5 n σ x6 = some (σ', r) → ∀ (H : Heap) (locs : List Loc), Inv G s σ H locs → ∀ ls : Array Slot, lv_has ls 8 [(0, .ref (G.1 + 15)), (1, .ref (G.1 + g)), (4, .int x4), (5, .int x5), (6, .int x6)] → W p l e (rmk 3 74) s m args below meth c H locs 0 0 (MQ below (QI G σ' r) args s (rmk 3 74).cells (rmk 3 74).slots (gA G)) (F0 m 108 ls []) := by
  obtain ⟨hx, hb, hr, hml, hown, hts, hlk, hK, hG⟩ := id C0
  intro n
  induction n with
  | zero =>
    intro σ x6 hf
    cases hf
  | succ n ih =>
    intro σ x6 hf H locs hI ls hl
    rw [f_X8_bestOf_108] at hf
    refine lv_iload hx hb dX8_bestOf_108 (lv_at hl 4 rfl) ?_
    refine lv_aload_n hx hb dX8_bestOf_110 rfl (lv_at hl 0 rfl) ?_
    refine z_get (C := RX8) (T := TX8) (N := 16) (ci := 8) (v := .int (gI σ 15 11)) hx hb hts i_X8_bestOf_8 hown hK hI 15 rfl (by decide) rfl 11 (by decide) (hts (.fieldLink RX8 77 "FenceYards$Seer" "upperTo" "I") (by decide +kernel)) (fun _ h9 => h9) rfl dX8_bestOf_111 ?_
    refine lv_icmp_gt (tgt := 163) hx hb dX8_bestOf_114 (by decide) (fun c1 => ?_) (fun c1 => ?_)
    · have hf := ok_t c1 hf
      refine lv_iinc (v := x5 + (-1)) (lv' := [(5, .int (x5 + (-1))), (0, .ref (G.1 + 15)), (1, .ref (G.1 + g)), (4, .int x4), (6, .int x6)]) hx hb dX8_bestOf_163 hl (k := 3) rfl rfl (by decide) rfl (fun ls hl => ?_)
      refine lv_goto (tgt := 36) hx hb dX8_bestOf_166 (by decide) ?_
      exact hk36 _ _ hf _ _ hI _ (lv_sub hl [1, 2, 3, 0] rfl)
    · have hf := ok_f c1 hf
      refine lv_aload_n hx hb dX8_bestOf_117 rfl (lv_at hl 0 rfl) ?_
      refine lv_iload hx hb dX8_bestOf_118 (lv_at hl 4 rfl) ?_
      obtain ⟨r1, hc1, hf⟩ := ok_1 hf
      refine z_calli0 rfl rfl hI (va_runV (As := [.int x6]) (rest := []) ⟨hx, hb, hml, hown, hts⟩ (m_X8_moveToMost G l  hc1) (cwV 1 hts gX8_bestOf_X8_moveToMost rfl rfl rfl (by decide +kernel) ⟨Nat.le_of_ble_eq_true rfl, Nat.le_of_ble_eq_true rfl⟩) (z_preV hK hG hI (z_rc (q := 15) (ci := 8) (n := 0) hK hI rfl (by decide) rfl)) rfl rfl hl.1 rfl (lv_room (Nat.le_of_ble_eq_true rfl)) dX8_bestOf_120 ⟨Nat.zero_le _, Nat.zero_le _⟩) (fun H locs hI => ?_)
      refine lv_istore (lv' := [(7, .int r1), (0, .ref (G.1 + 15)), (1, .ref (G.1 + g)), (4, .int x4), (5, .int x5), (6, .int x6)]) hx hb dX8_bestOf_123 hl (by decide) rfl (fun ls hl => ?_)
      refine lv_aload_n hx hb dX8_bestOf_125 rfl (lv_at hl 1 rfl) ?_
      refine z_get (C := RX8) (T := TX8) (N := 16) (ci := 8) (v := .ref (G.1 + 23)) hx hb hts i_X8_bestOf_8 hown hK hI 15 rfl (by decide) rfl 8 (by decide) (hts (.fieldLink RX8 34 "FenceYards$Seer" "choices" "[I") (by decide +kernel)) (fun _ h9 => h9) rfl dX8_bestOf_126 ?_
      refine lv_bipush (v := 13) hx hb dX8_bestOf_129 (by decide) ?_
      refine lv_iload hx hb dX8_bestOf_131 (lv_at hl 4 rfl) ?_
      refine lv_imul hx hb dX8_bestOf_133 ?_
      refine lv_iload hx hb dX8_bestOf_134 (lv_at hl 5 rfl) ?_
      refine lv_iadd hx hb dX8_bestOf_136 ?_
      refine lv_iload hx hb dX8_bestOf_137 (lv_at hl 0 rfl) ?_
      obtain ⟨h1, hf⟩ := ok_c hf
      refine z_iast hx hb hK hI 23 (k := ((13 * x5) + x6).toNatClampNeg) rfl h1 rfl dX8_bestOf_139 (fun H locs hI => ?_)
      refine lv_aload_n hx hb dX8_bestOf_140 rfl (lv_at hl 1 rfl) ?_
      refine z_get (C := RX8) (T := TX8) (N := 16) (ci := 8) (v := .ref (G.1 + 19)) hx hb hts i_X8_bestOf_8 hown hK hI 15 rfl (by decide) rfl 4 (by decide) (hts (.fieldLink RX8 22 "FenceYards$Seer" "afterDay" "[I") (by decide +kernel)) (fun _ h9 => h9) rfl dX8_bestOf_141 ?_
      refine lv_iload hx hb dX8_bestOf_144 (lv_at hl 5 rfl) ?_
      refine lv_aload_n hx hb dX8_bestOf_146 rfl (lv_at hl 1 rfl) ?_
      refine z_get (C := RX8) (T := TX8) (N := 16) (ci := 8) (v := .ref (G.1 + 20)) hx hb hts i_X8_bestOf_8 hown hK hI 15 rfl (by decide) rfl 5 (by decide) (hts (.fieldLink RX8 25 "FenceYards$Seer" "withDay" "[I") (by decide +kernel)) (fun _ h9 => h9) rfl dX8_bestOf_147 ?_
      refine lv_iload hx hb dX8_bestOf_150 (lv_at hl 5 rfl) ?_
      refine lv_iload hx hb dX8_bestOf_152 (lv_at hl 0 rfl) ?_
      refine lv_iadd hx hb dX8_bestOf_154 ?_
      obtain ⟨h2, hf⟩ := ok_c hf
      refine z_iald hx hb hK hI 20 (k := (x6 + r1).toNatClampNeg) rfl h2 rfl dX8_bestOf_155 ?_
      obtain ⟨h3, hf⟩ := ok_c hf
      refine z_iast hx hb hK hI 19 (k := x6.toNatClampNeg) rfl h3 rfl dX8_bestOf_156 (fun H locs hI => ?_)
      obtain ⟨s1, es1⟩ : ∃ z, z = sI (sI σ 23 (((13 * x5) + x6).toNatClampNeg) r1) 19 (x6.toNatClampNeg) (gI (sI σ 23 (((13 * x5) + x6).toNatClampNeg) r1) 20 ((x6 + r1).toNatClampNeg)) := ⟨_, rfl⟩
      have hI : Inv G s s1 H locs := by rw [es1]; exact hI
      have hf := ok_n hf es1
      refine lv_iinc (v := x6 + 1) (lv' := [(6, .int (x6 + 1)), (7, .int r1), (0, .ref (G.1 + 15)), (1, .ref (G.1 + g)), (4, .int x4), (5, .int x5)]) hx hb dX8_bestOf_157 hl (k := 5) rfl rfl (by decide) rfl (fun ls hl => ?_)
      refine lv_goto (tgt := 108) hx hb dX8_bestOf_160 (by decide) ?_
      exact ih _ _ hf _ _ hI _ (lv_sub hl [2, 3, 4, 5, 0] rfl)

set_option maxRecDepth 100000 in
set_option maxHeartbeats 4000000 in
theorem w_X8_bestOf_59 {G : GT} {p : Program} {l : Launch} {e : Env} {s : State} {m : MethodId} {args : Array Value} {below : List Frame} {meth : Method} {c : Code} {g : Nat} {tq : Nat} {σ' : Hp} {r : Int32} {k36 : Hp → Int32 → Option (Hp × Int32)}  {x4 : Int32} {x5 : Int32} (hg : isG g) (htq : isW tq) (C0 : Cx G cX8_bestOf RX8 wsX8_bestOf 8 (some .int) p s m args meth c) (hk36 : ∀ (σ : Hp) (x5 : Int32), k36 σ x5 = some (σ', r) → ∀ (H : Heap) (locs : List Loc), Inv G s σ H locs → ∀ ls : Array Slot, lv_has ls 8 [(0, .ref (G.1 + 15)), (1, .ref (G.1 + g)), (4, .int x4), (5, .int x5)] → W p l e (rmk 3 74) s m args below meth c H locs 0 0 (MQ below (QI G σ' r) args s (rmk 3 74).cells (rmk 3 74).slots (gA G)) (F0 m 36 ls [])) :
    ∀ (n : Nat) (σ : Hp) (x6 : Int32), f_X8_bestOf_59 k36 g tq x4 x5 n σ x6 = some (σ', r) → ∀ (H : Heap) (locs : List Loc), Inv G s σ H locs → ∀ ls : Array Slot, lv_has ls 8 [(0, .ref (G.1 + 15)), (1, .ref (G.1 + g)), (4, .int x4), (5, .int x5), (6, .int x6)] → W p l e (rmk 3 74) s m args below meth c H locs 0 0 (MQ below (QI G σ' r) args s (rmk 3 74).cells (rmk 3 74).slots (gA G)) (F0 m 59 ls []) := by
  obtain ⟨hx, hb, hr, hml, hown, hts, hlk, hK, hG⟩ := id C0
  intro n
  induction n with
  | zero =>
    intro σ x6 hf
    cases hf
  | succ n ih =>
    intro σ x6 hf H locs hI ls hl
    rw [f_X8_bestOf_59] at hf
    refine lv_iload hx hb dX8_bestOf_59 (lv_at hl 4 rfl) ?_
    refine lv_aload_n hx hb dX8_bestOf_61 rfl (lv_at hl 0 rfl) ?_
    refine z_get (C := RX8) (T := TX8) (N := 16) (ci := 8) (v := .int (gI σ 15 11)) hx hb hts i_X8_bestOf_8 hown hK hI 15 rfl (by decide) rfl 11 (by decide) (hts (.fieldLink RX8 77 "FenceYards$Seer" "upperTo" "I") (by decide +kernel)) (fun _ h9 => h9) rfl dX8_bestOf_62 ?_
    refine lv_icmp_gt (tgt := 102) hx hb dX8_bestOf_65 (by decide) (fun c1 => ?_) (fun c1 => ?_)
    · have hf := ok_t c1 hf
      refine lv_aload_n hx hb dX8_bestOf_102 rfl (lv_at hl 0 rfl) ?_
      refine z_get (C := RX8) (T := TX8) (N := 16) (ci := 8) (v := .int (gI σ 15 10)) hx hb hts i_X8_bestOf_8 hown hK hI 15 rfl (by decide) rfl 10 (by decide) (hts (.fieldLink RX8 71 "FenceYards$Seer" "upperFrom" "I") (by decide +kernel)) (fun _ h9 => h9) rfl dX8_bestOf_103 ?_
      refine lv_topi (fun v1 ev1 => ?_)
      have hf := ok_n hf ev1
      refine lv_istore (lv' := [(6, .int v1), (0, .ref (G.1 + 15)), (1, .ref (G.1 + g)), (4, .int x4), (5, .int x5)]) hx hb dX8_bestOf_106 hl (by decide) rfl (fun ls hl => ?_)
      exact w_X8_bestOf_108 hg htq C0 hk36 _ _ _ hf _ _ hI _ (lv_sub hl [1, 2, 3, 4, 0] rfl)
    · have hf := ok_f c1 hf
      refine lv_aload_n hx hb dX8_bestOf_68 rfl (lv_at hl 0 rfl) ?_
      refine z_get (C := RX8) (T := TX8) (N := 16) (ci := 8) (v := .ref (G.1 + 20)) hx hb hts i_X8_bestOf_8 hown hK hI 15 rfl (by decide) rfl 5 (by decide) (hts (.fieldLink RX8 25 "FenceYards$Seer" "withDay" "[I") (by decide +kernel)) (fun _ h9 => h9) rfl dX8_bestOf_69 ?_
      refine lv_iload hx hb dX8_bestOf_72 (lv_at hl 4 rfl) ?_
      refine lv_aload_n hx hb dX8_bestOf_74 rfl (lv_at hl 0 rfl) ?_
      refine lv_iload hx hb dX8_bestOf_75 (lv_at hl 4 rfl) ?_
      refine lv_aload_n hx hb dX8_bestOf_77 rfl (lv_at hl 0 rfl) ?_
      refine z_get (C := RX8) (T := TX8) (N := 16) (ci := 8) (v := .ref (G.1 + 22)) hx hb hts i_X8_bestOf_8 hown hK hI 15 rfl (by decide) rfl 7 (by decide) (hts (.fieldLink RX8 31 "FenceYards$Seer" "lowerEnds" "[I") (by decide +kernel)) (fun _ h9 => h9) rfl dX8_bestOf_78 ?_
      refine lv_iload hx hb dX8_bestOf_81 (lv_at hl 3 rfl) ?_
      obtain ⟨h1, hf⟩ := ok_c hf
      refine z_iald hx hb hK hI 22 (k := x5.toNatClampNeg) rfl h1 rfl dX8_bestOf_83 ?_
      obtain ⟨r1, hc1, hf⟩ := ok_1 hf
      refine z_calli0 rfl rfl hI (va_runV (As := [.int x6, .int (gI σ 22 (x5.toNatClampNeg))]) (rest := [.int x6, .ref (G.1 + 20)]) ⟨hx, hb, hml, hown, hts⟩ (m_X8_leftReaps G l  hc1) (cwV 2 hts gX8_bestOf_X8_leftReaps rfl rfl rfl (by decide +kernel) ⟨Nat.le_of_ble_eq_true rfl, Nat.le_of_ble_eq_true rfl⟩) (z_preV hK hG hI (z_rc (q := 15) (ci := 8) (n := 0) hK hI rfl (by decide) rfl)) rfl rfl hl.1 rfl (lv_room (Nat.le_of_ble_eq_true rfl)) dX8_bestOf_84 ⟨Nat.zero_le _, Nat.zero_le _⟩) (fun H locs hI => ?_)
      refine lv_aload_n hx hb dX8_bestOf_87 rfl (lv_at hl 0 rfl) ?_
      refine z_get (C := RX8) (T := TX8) (N := 16) (ci := 8) (v := .ref (G.1 + 19)) hx hb hts i_X8_bestOf_8 hown hK hI 15 rfl (by decide) rfl 4 (by decide) (hts (.fieldLink RX8 22 "FenceYards$Seer" "afterDay" "[I") (by decide +kernel)) (fun _ h9 => h9) rfl dX8_bestOf_88 ?_
      refine lv_iload hx hb dX8_bestOf_91 (lv_at hl 4 rfl) ?_
      obtain ⟨h2, hf⟩ := ok_c hf
      refine z_iald hx hb hK hI 19 (k := x6.toNatClampNeg) rfl h2 rfl dX8_bestOf_93 ?_
      refine lv_iadd hx hb dX8_bestOf_94 ?_
      obtain ⟨h3, hf⟩ := ok_c hf
      refine z_iast hx hb hK hI 20 (k := x6.toNatClampNeg) rfl h3 rfl dX8_bestOf_95 (fun H locs hI => ?_)
      obtain ⟨s1, es1⟩ : ∃ z, z = sI σ 20 (x6.toNatClampNeg) (r1 + (gI σ 19 (x6.toNatClampNeg))) := ⟨_, rfl⟩
      have hI : Inv G s s1 H locs := by rw [es1]; exact hI
      have hf := ok_n hf es1
      refine lv_iinc (v := x6 + 1) (lv' := [(6, .int (x6 + 1)), (0, .ref (G.1 + 15)), (1, .ref (G.1 + g)), (4, .int x4), (5, .int x5)]) hx hb dX8_bestOf_96 hl (k := 4) rfl rfl (by decide) rfl (fun ls hl => ?_)
      refine lv_goto (tgt := 59) hx hb dX8_bestOf_99 (by decide) ?_
      exact ih _ _ hf _ _ hI _ (lv_sub hl [1, 2, 3, 4, 0] rfl)

set_option maxRecDepth 100000 in
set_option maxHeartbeats 4000000 in
theorem w_X8_bestOf_36 {G : GT} {p : Program} {l : Launch} {e : Env} {s : State} {m : MethodId} {args : Array Value} {below : List Frame} {meth : Method} {c : Code} {g : Nat} {tq : Nat} {σ' : Hp} {r : Int32}   {x4 : Int32} (hg : isG g) (htq : isW tq) (C0 : Cx G cX8_bestOf RX8 wsX8_bestOf 8 (some .int) p s m args meth c)  :
    ∀ (n : Nat) (σ : Hp) (x5 : Int32), f_X8_bestOf_36 g tq x4 n σ x5 = some (σ', r) → ∀ (H : Heap) (locs : List Loc), Inv G s σ H locs → ∀ ls : Array Slot, lv_has ls 8 [(0, .ref (G.1 + 15)), (1, .ref (G.1 + g)), (4, .int x4), (5, .int x5)] → W p l e (rmk 3 74) s m args below meth c H locs 0 0 (MQ below (QI G σ' r) args s (rmk 3 74).cells (rmk 3 74).slots (gA G)) (F0 m 36 ls []) := by
  obtain ⟨hx, hb, hr, hml, hown, hts, hlk, hK, hG⟩ := id C0
  intro n
  induction n with
  | zero =>
    intro σ x5 hf
    cases hf
  | succ n ih =>
    intro σ x5 hf H locs hI ls hl
    rw [f_X8_bestOf_36] at hf
    refine lv_iload hx hb dX8_bestOf_36 (lv_at hl 3 rfl) ?_
    refine lv_if_lt (tgt := 169) hx hb dX8_bestOf_38 (by decide) (fun c1 => ?_) (fun c1 => ?_)
    · have hf := ok_t c1 hf
      refine lv_aload_n hx hb dX8_bestOf_169 rfl (lv_at hl 0 rfl) ?_
      refine lv_aload_n hx hb dX8_bestOf_170 rfl (lv_at hl 1 rfl) ?_
      refine lv_iload hx hb dX8_bestOf_171 (lv_at hl 2 rfl) ?_
      obtain ⟨s1, hc1, hf⟩ := ok_1 hf
      refine z_callv0 rfl rfl hI (va_runV (As := [.ref (G.1 + g), .int x4]) (rest := []) ⟨hx, hb, hml, hown, hts⟩ (m_X8_followChoices G l hg hc1) (cwV 2 hts gX8_bestOf_X8_followChoices rfl rfl rfl (by decide +kernel) ⟨Nat.le_of_ble_eq_true rfl, Nat.le_of_ble_eq_true rfl⟩) (z_preV hK hG hI (z_rc (q := 15) (ci := 8) (n := 0) hK hI rfl (by decide) rfl)) rfl rfl hl.1 rfl (lv_room (Nat.le_of_ble_eq_true rfl)) dX8_bestOf_173 ⟨Nat.zero_le _, Nat.zero_le _⟩) (fun H locs hI => ?_)
      refine lv_aload_n hx hb dX8_bestOf_176 rfl (lv_at hl 0 rfl) ?_
      refine z_get (C := RX8) (T := TX8) (N := 16) (ci := 8) (v := .ref (G.1 + 19)) hx hb hts i_X8_bestOf_8 hown hK hI 15 rfl (by decide) rfl 4 (by decide) (hts (.fieldLink RX8 22 "FenceYards$Seer" "afterDay" "[I") (by decide +kernel)) (fun _ h9 => h9) rfl dX8_bestOf_177 ?_
      refine lv_aload_n hx hb dX8_bestOf_180 rfl (lv_at hl 1 rfl) ?_
      refine lv_iconst (v := 0) hx hb dX8_bestOf_181 (by decide) ?_
      obtain ⟨r1, hc2, hf⟩ := ok_1 hf
      refine z_calli0 rfl rfl hI (va_runVN (As := [.int 0]) (rest := [.ref (G.1 + 19)]) ⟨hx, hb, hml, hown, hts⟩ (m_X4_endOn G l hg hc2) ⟨va_cnB (host := "FenceYards") 1 hts gX8_bestOf_X4_endOn_n114 rfl rfl rfl (hG.1.2.1 ("FenceYards$Seer", 114, ⟨"FenceYards$Ground", "endOn", "(I)I"⟩) (by decide +kernel)) (hts (.initialized "FenceYards$Ground") (by decide +kernel)) (by decide +kernel) ⟨Nat.le_of_ble_eq_true rfl, Nat.le_of_ble_eq_true rfl⟩, hts (.instanceMethod yX4_endOn) (by decide +kernel), hts (.selects "FenceYards$Ground" yX4_endOn yX4_endOn) (by decide +kernel)⟩ (z_preV hK hG hI (z_rc (q := g) (ci := 4) (n := 0) hK hI (kd_G hg) (by decide) rfl)) rfl rfl hl.1 rfl (lv_room (Nat.le_of_ble_eq_true rfl)) dX8_bestOf_182 ⟨Nat.zero_le _, Nat.zero_le _⟩) (fun H locs hI => ?_)
      obtain ⟨h1, hf⟩ := ok_c hf
      refine z_iald hx hb hK hI 19 (k := r1.toNatClampNeg) rfl h1 rfl dX8_bestOf_185 ?_
      cases hf
      exact z_iret hx hb hr hlk hK hG hI dX8_bestOf_186
    · have hf := ok_f c1 hf
      refine lv_aload_n hx hb dX8_bestOf_41 rfl (lv_at hl 0 rfl) ?_
      refine lv_aload_n hx hb dX8_bestOf_42 rfl (lv_at hl 1 rfl) ?_
      refine lv_aload_n hx hb dX8_bestOf_43 rfl (lv_at hl 1 rfl) ?_
      refine z_getN (C := RX4) (T := TX4) (N := 11) (ci := 4) (v := .int (gI σ g 10)) hx hb hts i_X8_bestOf_4 hown hK hI g (kd_G hg) (by decide) rfl 10 (by decide) (hG.1.1 ("FenceYards$Seer", 99, "FenceYards$Ground", "today", "I") (by decide +kernel)) (fun _ h9 => h9) rfl dX8_bestOf_44 ?_
      refine lv_iload hx hb dX8_bestOf_47 (lv_at hl 3 rfl) ?_
      refine lv_iadd hx hb dX8_bestOf_49 ?_
      obtain ⟨s2, hc3, hf⟩ := ok_1 hf
      refine z_callv0 rfl rfl hI (va_runV (As := [.ref (G.1 + g), .int ((gI σ g 10) + x5)]) (rest := []) ⟨hx, hb, hml, hown, hts⟩ (m_X8_gather G l hg hc3) (cwV 2 hts gX8_bestOf_X8_gather rfl rfl rfl (by decide +kernel) ⟨Nat.le_of_ble_eq_true rfl, Nat.le_of_ble_eq_true rfl⟩) (z_preV hK hG hI (z_rc (q := 15) (ci := 8) (n := 0) hK hI rfl (by decide) rfl)) rfl rfl hl.1 rfl (lv_room (Nat.le_of_ble_eq_true rfl)) dX8_bestOf_50 ⟨Nat.zero_le _, Nat.zero_le _⟩) (fun H locs hI => ?_)
      refine lv_aload_n hx hb dX8_bestOf_53 rfl (lv_at hl 0 rfl) ?_
      refine z_get (C := RX8) (T := TX8) (N := 16) (ci := 8) (v := .int (gI s2 15 10)) hx hb hts i_X8_bestOf_8 hown hK hI 15 rfl (by decide) rfl 10 (by decide) (hts (.fieldLink RX8 71 "FenceYards$Seer" "upperFrom" "I") (by decide +kernel)) (fun _ h9 => h9) rfl dX8_bestOf_54 ?_
      refine lv_topi (fun v1 ev1 => ?_)
      have hf := ok_n hf ev1
      refine lv_istore (lv' := [(6, .int v1), (0, .ref (G.1 + 15)), (1, .ref (G.1 + g)), (4, .int x4), (5, .int x5)]) hx hb dX8_bestOf_57 hl (by decide) rfl (fun ls hl => ?_)
      exact w_X8_bestOf_59 hg htq C0 ih _ _ _ hf _ _ hI _ (lv_sub hl [1, 2, 3, 4, 0] rfl)

set_option maxRecDepth 100000 in
set_option maxHeartbeats 4000000 in
theorem m_X8_bestOf (G : GT) (l : Launch) {σ : Hp} {g : Nat} {tq : Nat} {x3 : Int32} {σ' : Hp} {r : Int32} (hg : isG g) (htq : isW tq) (hf : f_X8_bestOf σ g tq x3 = some (σ', r)) : MetG G l yX8_bestOf wsX8_bestOf (rmk 3 74) σ [.ref (G.1 + 15), .ref (G.1 + g), .ref (G.1 + tq), .int x3] (QI G σ' r) := by
  refine met_of (cc := cX8_bestOf) (nL := 8) (ret := (some .int)) (by decide) rfl (Nat.le_of_ble_eq_true rfl) ?_
  intro p e s m below meth c C0 hnm hI ls hl
  obtain ⟨hx, hb, hr, hml, hown, hts, hlk, hK, hG⟩ := id C0
  have hl : lv_has ls 8 [(0, .ref (G.1 + 15)), (1, .ref (G.1 + g)), (2, .ref (G.1 + tq)), (3, .int x3)] := hl
  unfold f_X8_bestOf at hf
  refine lv_aload_n hx hb dX8_bestOf_0 rfl (lv_at hl 1 rfl) ?_
  refine lv_iload_n hx hb dX8_bestOf_1 rfl (lv_at hl 3 rfl) ?_
  obtain ⟨r1, hc1, hf⟩ := ok_1 hf
  refine z_calli0 rfl rfl hI (va_runVN (As := [.int x3]) (rest := []) ⟨hx, hb, hml, hown, hts⟩ (m_X4_daysOf G l hg hc1) ⟨va_cnB (host := "FenceYards") 1 hts gX8_bestOf_X4_daysOf_n86 rfl rfl rfl (hG.1.2.1 ("FenceYards$Seer", 86, ⟨"FenceYards$Ground", "daysOf", "(I)I"⟩) (by decide +kernel)) (hts (.initialized "FenceYards$Ground") (by decide +kernel)) (by decide +kernel) ⟨Nat.le_of_ble_eq_true rfl, Nat.le_of_ble_eq_true rfl⟩, hts (.instanceMethod yX4_daysOf) (by decide +kernel), hts (.selects "FenceYards$Ground" yX4_daysOf yX4_daysOf) (by decide +kernel)⟩ (z_preV hK hG hI (z_rc (q := g) (ci := 4) (n := 0) hK hI (kd_G hg) (by decide) rfl)) rfl rfl hl.1 rfl (lv_room (Nat.le_of_ble_eq_true rfl)) dX8_bestOf_2 ⟨Nat.zero_le _, Nat.zero_le _⟩) (fun H locs hI => ?_)
  refine lv_istore (lv' := [(4, .int r1), (0, .ref (G.1 + 15)), (1, .ref (G.1 + g)), (2, .ref (G.1 + tq)), (3, .int x3)]) hx hb dX8_bestOf_5 hl (by decide) rfl (fun ls hl => ?_)
  refine lv_aload_n hx hb dX8_bestOf_7 rfl (lv_at hl 1 rfl) ?_
  refine lv_aload_n hx hb dX8_bestOf_8 rfl (lv_at hl 2 rfl) ?_
  refine lv_iload hx hb dX8_bestOf_9 (lv_at hl 0 rfl) ?_
  obtain ⟨s1, hc2, hf⟩ := ok_1 hf
  refine z_callv0 rfl rfl hI (va_runV (As := [.ref (G.1 + g), .int r1]) (rest := []) ⟨hx, hb, hml, hown, hts⟩ (m_X8_findReach G l hg hc2) (cwV 2 hts gX8_bestOf_X8_findReach rfl rfl rfl (by decide +kernel) ⟨Nat.le_of_ble_eq_true rfl, Nat.le_of_ble_eq_true rfl⟩) (z_preV hK hG hI (z_rc (q := 15) (ci := 8) (n := 0) hK hI rfl (by decide) rfl)) rfl rfl hl.1 rfl (lv_room (Nat.le_of_ble_eq_true rfl)) dX8_bestOf_11 ⟨Nat.zero_le _, Nat.zero_le _⟩) (fun H locs hI => ?_)
  refine lv_aload_n hx hb dX8_bestOf_14 rfl (lv_at hl 1 rfl) ?_
  refine lv_aload_n hx hb dX8_bestOf_15 rfl (lv_at hl 2 rfl) ?_
  refine lv_aload_n hx hb dX8_bestOf_16 rfl (lv_at hl 3 rfl) ?_
  refine lv_iload hx hb dX8_bestOf_17 (lv_at hl 0 rfl) ?_
  obtain ⟨s2, hc3, hf⟩ := ok_1 hf
  refine z_callv0 rfl rfl hI (va_runV (As := [.ref (G.1 + g), .ref (G.1 + tq), .int r1]) (rest := []) ⟨hx, hb, hml, hown, hts⟩ (m_X8_followRight G l hg htq hc3) (cwV 3 hts gX8_bestOf_X8_followRight rfl rfl rfl (by decide +kernel) ⟨Nat.le_of_ble_eq_true rfl, Nat.le_of_ble_eq_true rfl⟩) (z_preV hK hG hI (z_rc (q := 15) (ci := 8) (n := 0) hK hI rfl (by decide) rfl)) rfl rfl hl.1 rfl (lv_room (Nat.le_of_ble_eq_true rfl)) dX8_bestOf_19 ⟨Nat.zero_le _, Nat.zero_le _⟩) (fun H locs hI => ?_)
  refine lv_aload_n hx hb dX8_bestOf_22 rfl (lv_at hl 1 rfl) ?_
  refine z_get (C := RX8) (T := TX8) (N := 16) (ci := 8) (v := .ref (G.1 + 19)) hx hb hts i_X8_bestOf_8 hown hK hI 15 rfl (by decide) rfl 4 (by decide) (hts (.fieldLink RX8 22 "FenceYards$Seer" "afterDay" "[I") (by decide +kernel)) (fun _ h9 => h9) rfl dX8_bestOf_23 ?_
  refine lv_iconst (v := 0) hx hb dX8_bestOf_26 (by decide) ?_
  obtain ⟨s3, hc4, hf⟩ := ok_1 hf
  refine z_callv0 rfl rfl hI (va_runS (As := [.ref (G.1 + 19), .int 0]) (rest := []) ⟨hx, hb, hml, hown, hts⟩ (m_fill G l rfl hc4) (va_cwS 2 hts gX8_bestOf_J7_fill_53178 rfl rfl rfl (by decide +kernel) ⟨Nat.le_of_ble_eq_true rfl, Nat.le_of_ble_eq_true rfl⟩) (z_pre hK hG hI) rfl rfl hl.1 rfl (lv_room (Nat.le_of_ble_eq_true rfl)) dX8_bestOf_27 ⟨Nat.zero_le _, Nat.zero_le _⟩) (fun H locs hI => ?_)
  refine lv_iload hx hb dX8_bestOf_30 (lv_at hl 0 rfl) ?_
  refine lv_iconst (v := 1) hx hb dX8_bestOf_32 (by decide) ?_
  refine lv_isub hx hb dX8_bestOf_33 ?_
  refine lv_topi (fun v1 ev1 => ?_)
  have hf := ok_n hf ev1
  refine lv_istore (lv' := [(5, .int v1), (4, .int r1), (0, .ref (G.1 + 15)), (1, .ref (G.1 + g)), (2, .ref (G.1 + tq)), (3, .int x3)]) hx hb dX8_bestOf_34 hl (by decide) rfl (fun ls hl => ?_)
  exact w_X8_bestOf_36 hg htq C0  _ _ _ hf _ _ hI _ (lv_sub hl [2, 3, 1, 0] rfl)

-- ===== FenceYards$Seer.bestMove(I)I
set_option maxRecDepth 100000 in
theorem i_X8_bestMove_8 : ∀ w ∈ u_ws RX8 TX8 16, w ∈ wsX8_bestMove := by decide +kernel
def f_X8_bestMove (σ : Hp) (x1 : Int32) : Option (Int32) :=
  if x1 < 0 then (some (-1000000)) else (if 12 ≤ x1 then (some (-1000000)) else (chk (inb x1 12) <| some (gI σ 24 (x1.toNatClampNeg))))
set_option maxRecDepth 100000 in
set_option maxHeartbeats 4000000 in
theorem m_X8_bestMove (G : GT) (l : Launch) {σ : Hp} {x1 : Int32} {r : Int32}  (hf : f_X8_bestMove σ x1 = some r) : MetG G l yX8_bestMove wsX8_bestMove (rmk 0 0) σ [.ref (G.1 + 15), .int x1] (QI G σ r) := by
  refine met_of (cc := cX8_bestMove) (nL := 2) (ret := (some .int)) (by decide) rfl (Nat.le_of_ble_eq_true rfl) ?_
  intro p e s m below meth c C0 hnm hI ls hl
  obtain ⟨hx, hb, hr, hml, hown, hts, hlk, hK, hG⟩ := id C0
  have hl : lv_has ls 2 [(0, .ref (G.1 + 15)), (1, .int x1)] := hl
  unfold f_X8_bestMove at hf
  refine lv_iload_n hx hb dX8_bestMove_0 rfl (lv_at hl 1 rfl) ?_
  refine lv_if_lt (tgt := 19) hx hb dX8_bestMove_1 (by decide) (fun c1 => ?_) (fun c1 => ?_)
  · have hf := ok_t c1 hf
    refine lv_ldc (v := (-1000000)) hx hb hown (hts (.constant RX8 128 (-1000000)) (by decide +kernel)) dX8_bestMove_19 ?_
    cases hf
    exact z_iret hx hb hr hlk hK hG hI dX8_bestMove_21
  · have hf := ok_f c1 hf
    refine lv_iload_n hx hb dX8_bestMove_4 rfl (lv_at hl 1 rfl) ?_
    refine lv_bipush (v := 12) hx hb dX8_bestMove_5 (by decide) ?_
    refine lv_icmp_ge (tgt := 19) hx hb dX8_bestMove_7 (by decide) (fun c2 => ?_) (fun c2 => ?_)
    · have hf := ok_t c2 hf
      refine lv_ldc (v := (-1000000)) hx hb hown (hts (.constant RX8 128 (-1000000)) (by decide +kernel)) dX8_bestMove_19 ?_
      cases hf
      exact z_iret hx hb hr hlk hK hG hI dX8_bestMove_21
    · have hf := ok_f c2 hf
      refine lv_aload_n hx hb dX8_bestMove_10 rfl (lv_at hl 0 rfl) ?_
      refine z_get (C := RX8) (T := TX8) (N := 16) (ci := 8) (v := .ref (G.1 + 24)) hx hb hts i_X8_bestMove_8 hown hK hI 15 rfl (by decide) rfl 9 (by decide) (hts (.fieldLink RX8 37 "FenceYards$Seer" "bestMoves" "[I") (by decide +kernel)) (fun _ h9 => h9) rfl dX8_bestMove_11 ?_
      refine lv_iload_n hx hb dX8_bestMove_14 rfl (lv_at hl 1 rfl) ?_
      obtain ⟨h1, hf⟩ := ok_c hf
      refine z_iald hx hb hK hI 24 (k := x1.toNatClampNeg) rfl h1 rfl dX8_bestMove_15 ?_
      refine lv_goto (tgt := 21) hx hb dX8_bestMove_16 (by decide) ?_
      cases hf
      exact z_iret hx hb hr hlk hK hG hI dX8_bestMove_21

-- ===== FenceYards$Seer.addDay()V
set_option maxRecDepth 100000 in
theorem i_X8_addDay_8 : ∀ w ∈ u_ws RX8 TX8 16, w ∈ wsX8_addDay := by decide +kernel
def f_X8_addDay_18 (k5 : Hp → Int32 → Option (Hp))   (x1 : Int32) : Nat → Hp → Int32 → Option (Hp)
  | 0, _, _ => none
  | n + 1, σ, x2 =>
    if (gI σ 15 13) < x2 then (k5 σ (x1 + 1)) else (bd1 (f_X8_leftReaps σ x1 x2) fun r1 => chk (inb ((13 * x1) + x2) 169) <| chk (inb ((13 * x1) + x2) 169) <| bnd (sI σ 20 (((13 * x1) + x2).toNatClampNeg) (r1 + (gI σ 19 (((13 * x1) + x2).toNatClampNeg)))) fun s1 => f_X8_addDay_18 k5 x1 n s1 (x2 + 1))
def f_X8_addDay_5     : Nat → Hp → Int32 → Option (Hp)
  | 0, _, _ => none
  | n + 1, σ, x1 =>
    if (gI σ 15 11) < x1 then (some σ) else (bnd (gI σ 15 12) fun v1 => f_X8_addDay_18 (f_X8_addDay_5 n) x1 fu σ v1)
def f_X8_addDay (σ : Hp)  : Option (Hp) :=
  bnd (gI σ 15 10) fun v1 => f_X8_addDay_5 fu σ v1
set_option maxRecDepth 100000 in
set_option maxHeartbeats 4000000 in
theorem w_X8_addDay_18 {G : GT} {p : Program} {l : Launch} {e : Env} {s : State} {m : MethodId} {args : Array Value} {below : List Frame} {meth : Method} {c : Code}  {σ' : Hp} {k5 : Hp → Int32 → Option (Hp)}  {x1 : Int32}  (C0 : Cx G cX8_addDay RX8 wsX8_addDay 3 none p s m args meth c) (hk5 : ∀ (σ : Hp) (x1 : Int32), k5 σ x1 = some σ' → ∀ (H : Heap) (locs : List Loc), Inv G s σ H locs → ∀ ls : Array Slot, lv_has ls 3 [(0, .ref (G.1 + 15)), (1, .int x1)] → W p l e (rmk 3 74) s m args below meth c H locs 0 0 (MQ below (QV G σ') args s (rmk 3 74).cells (rmk 3 74).slots (gA G)) (F0 m 5 ls [])) :
    ∀ (n : Nat) (σ : Hp) (x2 : Int32), f_X8_addDay_18 k5 x1 n σ x2 = some σ' → ∀ (H : Heap) (locs : List Loc), Inv G s σ H locs → ∀ ls : Array Slot, lv_has ls 3 [(0, .ref (G.1 + 15)), (1, .int x1), (2, .int x2)] → W p l e (rmk 3 74) s m args below meth c H locs 0 0 (MQ below (QV G σ') args s (rmk 3 74).cells (rmk 3 74).slots (gA G)) (F0 m 18 ls []) := by
  obtain ⟨hx, hb, hr, hml, hown, hts, hlk, hK, hG⟩ := id C0
  intro n
  induction n with
  | zero =>
    intro σ x2 hf
    cases hf
  | succ n ih =>
    intro σ x2 hf H locs hI ls hl
    rw [f_X8_addDay_18] at hf
    refine lv_iload_n hx hb dX8_addDay_18 rfl (lv_at hl 2 rfl) ?_
    refine lv_aload_n hx hb dX8_addDay_19 rfl (lv_at hl 0 rfl) ?_
    refine z_get (C := RX8) (T := TX8) (N := 16) (ci := 8) (v := .int (gI σ 15 13)) hx hb hts i_X8_addDay_8 hown hK hI 15 rfl (by decide) rfl 13 (by decide) (hts (.fieldLink RX8 83 "FenceYards$Seer" "lowerTo" "I") (by decide +kernel)) (fun _ h9 => h9) rfl dX8_addDay_20 ?_
    refine lv_icmp_gt (tgt := 61) hx hb dX8_addDay_23 (by decide) (fun c1 => ?_) (fun c1 => ?_)
    · have hf := ok_t c1 hf
      refine lv_iinc (v := x1 + 1) (lv' := [(1, .int (x1 + 1)), (0, .ref (G.1 + 15)), (2, .int x2)]) hx hb dX8_addDay_61 hl (k := 1) rfl rfl (by decide) rfl (fun ls hl => ?_)
      refine lv_goto (tgt := 5) hx hb dX8_addDay_64 (by decide) ?_
      exact hk5 _ _ hf _ _ hI _ (lv_sub hl [1, 0] rfl)
    · have hf := ok_f c1 hf
      refine lv_aload_n hx hb dX8_addDay_26 rfl (lv_at hl 0 rfl) ?_
      refine z_get (C := RX8) (T := TX8) (N := 16) (ci := 8) (v := .ref (G.1 + 20)) hx hb hts i_X8_addDay_8 hown hK hI 15 rfl (by decide) rfl 5 (by decide) (hts (.fieldLink RX8 25 "FenceYards$Seer" "withDay" "[I") (by decide +kernel)) (fun _ h9 => h9) rfl dX8_addDay_27 ?_
      refine lv_bipush (v := 13) hx hb dX8_addDay_30 (by decide) ?_
      refine lv_iload_n hx hb dX8_addDay_32 rfl (lv_at hl 1 rfl) ?_
      refine lv_imul hx hb dX8_addDay_33 ?_
      refine lv_iload_n hx hb dX8_addDay_34 rfl (lv_at hl 2 rfl) ?_
      refine lv_iadd hx hb dX8_addDay_35 ?_
      refine lv_aload_n hx hb dX8_addDay_36 rfl (lv_at hl 0 rfl) ?_
      refine lv_iload_n hx hb dX8_addDay_37 rfl (lv_at hl 1 rfl) ?_
      refine lv_iload_n hx hb dX8_addDay_38 rfl (lv_at hl 2 rfl) ?_
      obtain ⟨r1, hc1, hf⟩ := ok_1 hf
      refine z_calli0 rfl rfl hI (va_runV (As := [.int x1, .int x2]) (rest := [.int ((13 * x1) + x2), .ref (G.1 + 20)]) ⟨hx, hb, hml, hown, hts⟩ (m_X8_leftReaps G l  hc1) (cwV 2 hts gX8_addDay_X8_leftReaps rfl rfl rfl (by decide +kernel) ⟨Nat.le_of_ble_eq_true rfl, Nat.le_of_ble_eq_true rfl⟩) (z_preV hK hG hI (z_rc (q := 15) (ci := 8) (n := 0) hK hI rfl (by decide) rfl)) rfl rfl hl.1 rfl (lv_room (Nat.le_of_ble_eq_true rfl)) dX8_addDay_39 ⟨Nat.zero_le _, Nat.zero_le _⟩) (fun H locs hI => ?_)
      refine lv_aload_n hx hb dX8_addDay_42 rfl (lv_at hl 0 rfl) ?_
      refine z_get (C := RX8) (T := TX8) (N := 16) (ci := 8) (v := .ref (G.1 + 19)) hx hb hts i_X8_addDay_8 hown hK hI 15 rfl (by decide) rfl 4 (by decide) (hts (.fieldLink RX8 22 "FenceYards$Seer" "afterDay" "[I") (by decide +kernel)) (fun _ h9 => h9) rfl dX8_addDay_43 ?_
      refine lv_bipush (v := 13) hx hb dX8_addDay_46 (by decide) ?_
      refine lv_iload_n hx hb dX8_addDay_48 rfl (lv_at hl 1 rfl) ?_
      refine lv_imul hx hb dX8_addDay_49 ?_
      refine lv_iload_n hx hb dX8_addDay_50 rfl (lv_at hl 2 rfl) ?_
      refine lv_iadd hx hb dX8_addDay_51 ?_
      obtain ⟨h1, hf⟩ := ok_c hf
      refine z_iald hx hb hK hI 19 (k := ((13 * x1) + x2).toNatClampNeg) rfl h1 rfl dX8_addDay_52 ?_
      refine lv_iadd hx hb dX8_addDay_53 ?_
      obtain ⟨h2, hf⟩ := ok_c hf
      refine z_iast hx hb hK hI 20 (k := ((13 * x1) + x2).toNatClampNeg) rfl h2 rfl dX8_addDay_54 (fun H locs hI => ?_)
      obtain ⟨s1, es1⟩ : ∃ z, z = sI σ 20 (((13 * x1) + x2).toNatClampNeg) (r1 + (gI σ 19 (((13 * x1) + x2).toNatClampNeg))) := ⟨_, rfl⟩
      have hI : Inv G s s1 H locs := by rw [es1]; exact hI
      have hf := ok_n hf es1
      refine lv_iinc (v := x2 + 1) (lv' := [(2, .int (x2 + 1)), (0, .ref (G.1 + 15)), (1, .int x1)]) hx hb dX8_addDay_55 hl (k := 2) rfl rfl (by decide) rfl (fun ls hl => ?_)
      refine lv_goto (tgt := 18) hx hb dX8_addDay_58 (by decide) ?_
      exact ih _ _ hf _ _ hI _ (lv_sub hl [1, 2, 0] rfl)

set_option maxRecDepth 100000 in
set_option maxHeartbeats 4000000 in
theorem w_X8_addDay_5 {G : GT} {p : Program} {l : Launch} {e : Env} {s : State} {m : MethodId} {args : Array Value} {below : List Frame} {meth : Method} {c : Code}  {σ' : Hp}     (C0 : Cx G cX8_addDay RX8 wsX8_addDay 3 none p s m args meth c)  :
    ∀ (n : Nat) (σ : Hp) (x1 : Int32), f_X8_addDay_5 n σ x1 = some σ' → ∀ (H : Heap) (locs : List Loc), Inv G s σ H locs → ∀ ls : Array Slot, lv_has ls 3 [(0, .ref (G.1 + 15)), (1, .int x1)] → W p l e (rmk 3 74) s m args below meth c H locs 0 0 (MQ below (QV G σ') args s (rmk 3 74).cells (rmk 3 74).slots (gA G)) (F0 m 5 ls []) := by
  obtain ⟨hx, hb, hr, hml, hown, hts, hlk, hK, hG⟩ := id C0
  intro n
  induction n with
  | zero =>
    intro σ x1 hf
    cases hf
  | succ n ih =>
    intro σ x1 hf H locs hI ls hl
    rw [f_X8_addDay_5] at hf
    refine lv_iload_n hx hb dX8_addDay_5 rfl (lv_at hl 1 rfl) ?_
    refine lv_aload_n hx hb dX8_addDay_6 rfl (lv_at hl 0 rfl) ?_
    refine z_get (C := RX8) (T := TX8) (N := 16) (ci := 8) (v := .int (gI σ 15 11)) hx hb hts i_X8_addDay_8 hown hK hI 15 rfl (by decide) rfl 11 (by decide) (hts (.fieldLink RX8 77 "FenceYards$Seer" "upperTo" "I") (by decide +kernel)) (fun _ h9 => h9) rfl dX8_addDay_7 ?_
    refine lv_icmp_gt (tgt := 67) hx hb dX8_addDay_10 (by decide) (fun c1 => ?_) (fun c1 => ?_)
    · have hf := ok_t c1 hf
      cases hf
      exact z_vret hx hb hr hlk hK hG hI dX8_addDay_67
    · have hf := ok_f c1 hf
      refine lv_aload_n hx hb dX8_addDay_13 rfl (lv_at hl 0 rfl) ?_
      refine z_get (C := RX8) (T := TX8) (N := 16) (ci := 8) (v := .int (gI σ 15 12)) hx hb hts i_X8_addDay_8 hown hK hI 15 rfl (by decide) rfl 12 (by decide) (hts (.fieldLink RX8 80 "FenceYards$Seer" "lowerFrom" "I") (by decide +kernel)) (fun _ h9 => h9) rfl dX8_addDay_14 ?_
      refine lv_topi (fun v1 ev1 => ?_)
      have hf := ok_n hf ev1
      refine lv_istore_n (lv' := [(2, .int v1), (0, .ref (G.1 + 15)), (1, .int x1)]) hx hb dX8_addDay_17 rfl hl (by decide) rfl (fun ls hl => ?_)
      exact w_X8_addDay_18  C0 ih _ _ _ hf _ _ hI _ (lv_sub hl [1, 2, 0] rfl)

set_option maxRecDepth 100000 in
set_option maxHeartbeats 4000000 in
theorem m_X8_addDay (G : GT) (l : Launch) {σ : Hp}  {σ' : Hp}  (hf : f_X8_addDay σ = some σ') : MetG G l yX8_addDay wsX8_addDay (rmk 3 74) σ [.ref (G.1 + 15)] (QV G σ') := by
  refine met_of (cc := cX8_addDay) (nL := 3) (ret := none) (by decide) rfl (Nat.le_of_ble_eq_true rfl) ?_
  intro p e s m below meth c C0 hnm hI ls hl
  obtain ⟨hx, hb, hr, hml, hown, hts, hlk, hK, hG⟩ := id C0
  have hl : lv_has ls 3 [(0, .ref (G.1 + 15))] := hl
  unfold f_X8_addDay at hf
  refine lv_aload_n hx hb dX8_addDay_0 rfl (lv_at hl 0 rfl) ?_
  refine z_get (C := RX8) (T := TX8) (N := 16) (ci := 8) (v := .int (gI σ 15 10)) hx hb hts i_X8_addDay_8 hown hK hI 15 rfl (by decide) rfl 10 (by decide) (hts (.fieldLink RX8 71 "FenceYards$Seer" "upperFrom" "I") (by decide +kernel)) (fun _ h9 => h9) rfl dX8_addDay_1 ?_
  refine lv_topi (fun v1 ev1 => ?_)
  have hf := ok_n hf ev1
  refine lv_istore_n (lv' := [(1, .int v1), (0, .ref (G.1 + 15))]) hx hb dX8_addDay_4 rfl hl (by decide) rfl (fun ls hl => ?_)
  exact w_X8_addDay_5  C0  _ _ _ hf _ _ hI _ (lv_sub hl [1, 0] rfl)

-- ===== FenceYards$Seer.letRightChoose()V
set_option maxRecDepth 100000 in
theorem i_X8_letRightChoose_8 : ∀ w ∈ u_ws RX8 TX8 16, w ∈ wsX8_letRightChoose := by decide +kernel
def f_X8_letRightChoose_64 (k5 : Hp → Int32 → Option (Hp)) (k18 : Hp → Int32 → Option (Hp))  (σ : Hp) (x1 : Int32) (x2 : Int32) (x3 : Int32) : Option (Hp) :=
  if (gI σ 15 13) ≤ x2 then (chk (inb ((13 * x1) + x2) 169) <| k18 (sI σ 21 (((13 * x1) + x2).toNatClampNeg) x3) (x2 + 1)) else (chk (inb (((13 * x1) + x2) + 1) 169) <| bnd (if (gI σ 20 ((((13 * x1) + x2) + 1).toNatClampNeg)) < x3 then (gI σ 20 ((((13 * x1) + x2) + 1).toNatClampNeg)) else x3) fun v1 => chk (inb ((13 * x1) + x2) 169) <| k18 (sI σ 21 (((13 * x1) + x2).toNatClampNeg) v1) (x2 + 1))
def f_X8_letRightChoose_18 (k5 : Hp → Int32 → Option (Hp))   (x1 : Int32) : Nat → Hp → Int32 → Option (Hp)
  | 0, _, _ => none
  | n + 1, σ, x2 =>
    if (gI σ 15 13) < x2 then (k5 σ (x1 + 1)) else (chk (inb ((13 * x1) + x2) 169) <| bnd (gI σ 20 (((13 * x1) + x2).toNatClampNeg)) fun v1 => if x2 ≤ (gI σ 15 12) then (f_X8_letRightChoose_64 k5 (f_X8_letRightChoose_18 k5 x1 n) σ x1 x2 v1) else (chk (inb (((13 * x1) + x2) - 1) 169) <| bnd (if (gI σ 20 ((((13 * x1) + x2) - 1).toNatClampNeg)) < v1 then (gI σ 20 ((((13 * x1) + x2) - 1).toNatClampNeg)) else v1) fun v2 => f_X8_letRightChoose_64 k5 (f_X8_letRightChoose_18 k5 x1 n) σ x1 x2 v2))
def f_X8_letRightChoose_5     : Nat → Hp → Int32 → Option (Hp)
  | 0, _, _ => none
  | n + 1, σ, x1 =>
    if (gI σ 15 11) < x1 then (some σ) else (bnd (gI σ 15 12) fun v1 => f_X8_letRightChoose_18 (f_X8_letRightChoose_5 n) x1 fu σ v1)
def f_X8_letRightChoose (σ : Hp)  : Option (Hp) :=
  bnd (gI σ 15 10) fun v1 => f_X8_letRightChoose_5 fu σ v1
set_option maxRecDepth 100000 in
set_option maxHeartbeats 4000000 in
theorem w_X8_letRightChoose_64 {G : GT} {p : Program} {l : Launch} {e : Env} {s : State} {m : MethodId} {args : Array Value} {below : List Frame} {meth : Method} {c : Code}  {σ' : Hp} {k5 : Hp → Int32 → Option (Hp)} {k18 : Hp → Int32 → Option (Hp)} {σ : Hp} {x1 : Int32} {x2 : Int32} {x3 : Int32}  (C0 : Cx G cX8_letRightChoose RX8 wsX8_letRightChoose 4 none p s m args meth c) (hk5 : ∀ (σ : Hp) (x1 : Int32), k5 σ x1 = some σ' → ∀ (H : Heap) (locs : List Loc), Inv G s σ H locs → ∀ ls : Array Slot, lv_has ls 4 [(0, .ref (G.1 + 15)), (1, .int x1)] → W p l e (rmk 1 24) s m args below meth c H locs 0 0 (MQ below (QV G σ') args s (rmk 1 24).cells (rmk 1 24).slots (gA G)) (F0 m 5 ls [])) (hk18 : ∀ (σ : Hp) (x2 : Int32), k18 σ x2 = some σ' → ∀ (H : Heap) (locs : List Loc), Inv G s σ H locs → ∀ ls : Array Slot, lv_has ls 4 [(0, .ref (G.1 + 15)), (1, .int x1), (2, .int x2)] → W p l e (rmk 1 24) s m args below meth c H locs 0 0 (MQ below (QV G σ') args s (rmk 1 24).cells (rmk 1 24).slots (gA G)) (F0 m 18 ls [])) (hf : f_X8_letRightChoose_64 k5 k18 σ x1 x2 x3 = some σ') {H : Heap} {locs : List Loc} (hI : Inv G s σ H locs) {ls : Array Slot} (hl : lv_has ls 4 [(0, .ref (G.1 + 15)), (1, .int x1), (2, .int x2), (3, .int x3)]) : W p l e (rmk 1 24) s m args below meth c H locs 0 0 (MQ below (QV G σ') args s (rmk 1 24).cells (rmk 1 24).slots (gA G)) (F0 m 64 ls []) := by
  obtain ⟨hx, hb, hr, hml, hown, hts, hlk, hK, hG⟩ := id C0
  unfold f_X8_letRightChoose_64 at hf
  refine lv_iload_n hx hb dX8_letRightChoose_64 rfl (lv_at hl 2 rfl) ?_
  refine lv_aload_n hx hb dX8_letRightChoose_65 rfl (lv_at hl 0 rfl) ?_
  refine z_get (C := RX8) (T := TX8) (N := 16) (ci := 8) (v := .int (gI σ 15 13)) hx hb hts i_X8_letRightChoose_8 hown hK hI 15 rfl (by decide) rfl 13 (by decide) (hts (.fieldLink RX8 83 "FenceYards$Seer" "lowerTo" "I") (by decide +kernel)) (fun _ h9 => h9) rfl dX8_letRightChoose_66 ?_
  refine lv_icmp_ge (tgt := 90) hx hb dX8_letRightChoose_69 (by decide) (fun c1 => ?_) (fun c1 => ?_)
  · have hf := ok_t c1 hf
    refine lv_aload_n hx hb dX8_letRightChoose_90 rfl (lv_at hl 0 rfl) ?_
    refine z_get (C := RX8) (T := TX8) (N := 16) (ci := 8) (v := .ref (G.1 + 21)) hx hb hts i_X8_letRightChoose_8 hown hK hI 15 rfl (by decide) rfl 6 (by decide) (hts (.fieldLink RX8 28 "FenceYards$Seer" "rightChosen" "[I") (by decide +kernel)) (fun _ h9 => h9) rfl dX8_letRightChoose_91 ?_
    refine lv_bipush (v := 13) hx hb dX8_letRightChoose_94 (by decide) ?_
    refine lv_iload_n hx hb dX8_letRightChoose_96 rfl (lv_at hl 1 rfl) ?_
    refine lv_imul hx hb dX8_letRightChoose_97 ?_
    refine lv_iload_n hx hb dX8_letRightChoose_98 rfl (lv_at hl 2 rfl) ?_
    refine lv_iadd hx hb dX8_letRightChoose_99 ?_
    refine lv_iload_n hx hb dX8_letRightChoose_100 rfl (lv_at hl 3 rfl) ?_
    obtain ⟨h1, hf⟩ := ok_c hf
    refine z_iast hx hb hK hI 21 (k := ((13 * x1) + x2).toNatClampNeg) rfl h1 rfl dX8_letRightChoose_101 (fun H locs hI => ?_)
    refine lv_iinc (v := x2 + 1) (lv' := [(2, .int (x2 + 1)), (0, .ref (G.1 + 15)), (1, .int x1), (3, .int x3)]) hx hb dX8_letRightChoose_102 hl (k := 2) rfl rfl (by decide) rfl (fun ls hl => ?_)
    refine lv_goto (tgt := 18) hx hb dX8_letRightChoose_105 (by decide) ?_
    exact hk18 _ _ hf _ _ hI _ (lv_sub hl [1, 2, 0] rfl)
  · have hf := ok_f c1 hf
    refine lv_iload_n hx hb dX8_letRightChoose_72 rfl (lv_at hl 3 rfl) ?_
    refine lv_aload_n hx hb dX8_letRightChoose_73 rfl (lv_at hl 0 rfl) ?_
    refine z_get (C := RX8) (T := TX8) (N := 16) (ci := 8) (v := .ref (G.1 + 20)) hx hb hts i_X8_letRightChoose_8 hown hK hI 15 rfl (by decide) rfl 5 (by decide) (hts (.fieldLink RX8 25 "FenceYards$Seer" "withDay" "[I") (by decide +kernel)) (fun _ h9 => h9) rfl dX8_letRightChoose_74 ?_
    refine lv_bipush (v := 13) hx hb dX8_letRightChoose_77 (by decide) ?_
    refine lv_iload_n hx hb dX8_letRightChoose_79 rfl (lv_at hl 1 rfl) ?_
    refine lv_imul hx hb dX8_letRightChoose_80 ?_
    refine lv_iload_n hx hb dX8_letRightChoose_81 rfl (lv_at hl 2 rfl) ?_
    refine lv_iadd hx hb dX8_letRightChoose_82 ?_
    refine lv_iconst (v := 1) hx hb dX8_letRightChoose_83 (by decide) ?_
    refine lv_iadd hx hb dX8_letRightChoose_84 ?_
    obtain ⟨h2, hf⟩ := ok_c hf
    refine z_iald hx hb hK hI 20 (k := (((13 * x1) + x2) + 1).toNatClampNeg) rfl h2 rfl dX8_letRightChoose_85 ?_
    refine va_mmin hx hb (hml.trans hl.1.symm) hown (hts (.methodLink RX8 120 Lib.Math.min.name) (by decide +kernel)) (hts (.static Lib.Math.min.name) (by decide +kernel)) (hts (.initialized "java/lang/Math") (by decide +kernel)) (hts (.code Lib.Math.min.name Lib.Math.min.code 2 (some .int)) (by decide +kernel)) (Nat.le_of_ble_eq_true rfl) (Nat.le_of_ble_eq_true rfl) (Nat.zero_le _) (Nat.zero_le _) dX8_letRightChoose_86 ?_
    refine lv_topi (fun v1 ev1 => ?_)
    have hf := ok_n hf ev1
    refine lv_istore_n (lv' := [(3, .int v1), (0, .ref (G.1 + 15)), (1, .int x1), (2, .int x2)]) hx hb dX8_letRightChoose_89 rfl hl (by decide) rfl (fun ls hl => ?_)
    refine lv_aload_n hx hb dX8_letRightChoose_90 rfl (lv_at hl 1 rfl) ?_
    refine z_get (C := RX8) (T := TX8) (N := 16) (ci := 8) (v := .ref (G.1 + 21)) hx hb hts i_X8_letRightChoose_8 hown hK hI 15 rfl (by decide) rfl 6 (by decide) (hts (.fieldLink RX8 28 "FenceYards$Seer" "rightChosen" "[I") (by decide +kernel)) (fun _ h9 => h9) rfl dX8_letRightChoose_91 ?_
    refine lv_bipush (v := 13) hx hb dX8_letRightChoose_94 (by decide) ?_
    refine lv_iload_n hx hb dX8_letRightChoose_96 rfl (lv_at hl 2 rfl) ?_
    refine lv_imul hx hb dX8_letRightChoose_97 ?_
    refine lv_iload_n hx hb dX8_letRightChoose_98 rfl (lv_at hl 3 rfl) ?_
    refine lv_iadd hx hb dX8_letRightChoose_99 ?_
    refine lv_iload_n hx hb dX8_letRightChoose_100 rfl (lv_at hl 0 rfl) ?_
    obtain ⟨h3, hf⟩ := ok_c hf
    refine z_iast hx hb hK hI 21 (k := ((13 * x1) + x2).toNatClampNeg) rfl h3 rfl dX8_letRightChoose_101 (fun H locs hI => ?_)
    refine lv_iinc (v := x2 + 1) (lv' := [(2, .int (x2 + 1)), (3, .int v1), (0, .ref (G.1 + 15)), (1, .int x1)]) hx hb dX8_letRightChoose_102 hl (k := 3) rfl rfl (by decide) rfl (fun ls hl => ?_)
    refine lv_goto (tgt := 18) hx hb dX8_letRightChoose_105 (by decide) ?_
    exact hk18 _ _ hf _ _ hI _ (lv_sub hl [2, 3, 0] rfl)

set_option maxRecDepth 100000 in
set_option maxHeartbeats 4000000 in
theorem w_X8_letRightChoose_18 {G : GT} {p : Program} {l : Launch} {e : Env} {s : State} {m : MethodId} {args : Array Value} {below : List Frame} {meth : Method} {c : Code}  {σ' : Hp} {k5 : Hp → Int32 → Option (Hp)}  {x1 : Int32}  (C0 : Cx G cX8_letRightChoose RX8 wsX8_letRightChoose 4 none p s m args meth c) (hk5 : ∀ (σ : Hp) (x1 : Int32), k5 σ x1 = some σ' → ∀ (H : Heap) (locs : List Loc), Inv G s σ H locs → ∀ ls : Array Slot, lv_has ls 4 [(0, .ref (G.1 + 15)), (1, .int x1)] → W p l e (rmk 1 24) s m args below meth c H locs 0 0 (MQ below (QV G σ') args s (rmk 1 24).cells (rmk 1 24).slots (gA G)) (F0 m 5 ls [])) :
    ∀ (n : Nat) (σ : Hp) (x2 : Int32), f_X8_letRightChoose_18 k5 x1 n σ x2 = some σ' → ∀ (H : Heap) (locs : List Loc), Inv G s σ H locs → ∀ ls : Array Slot, lv_has ls 4 [(0, .ref (G.1 + 15)), (1, .int x1), (2, .int x2)] → W p l e (rmk 1 24) s m args below meth c H locs 0 0 (MQ below (QV G σ') args s (rmk 1 24).cells (rmk 1 24).slots (gA G)) (F0 m 18 ls []) := by
  obtain ⟨hx, hb, hr, hml, hown, hts, hlk, hK, hG⟩ := id C0
  intro n
  induction n with
  | zero =>
    intro σ x2 hf
    cases hf
  | succ n ih =>
    intro σ x2 hf H locs hI ls hl
    rw [f_X8_letRightChoose_18] at hf
    refine lv_iload_n hx hb dX8_letRightChoose_18 rfl (lv_at hl 2 rfl) ?_
    refine lv_aload_n hx hb dX8_letRightChoose_19 rfl (lv_at hl 0 rfl) ?_
    refine z_get (C := RX8) (T := TX8) (N := 16) (ci := 8) (v := .int (gI σ 15 13)) hx hb hts i_X8_letRightChoose_8 hown hK hI 15 rfl (by decide) rfl 13 (by decide) (hts (.fieldLink RX8 83 "FenceYards$Seer" "lowerTo" "I") (by decide +kernel)) (fun _ h9 => h9) rfl dX8_letRightChoose_20 ?_
    refine lv_icmp_gt (tgt := 108) hx hb dX8_letRightChoose_23 (by decide) (fun c1 => ?_) (fun c1 => ?_)
    · have hf := ok_t c1 hf
      refine lv_iinc (v := x1 + 1) (lv' := [(1, .int (x1 + 1)), (0, .ref (G.1 + 15)), (2, .int x2)]) hx hb dX8_letRightChoose_108 hl (k := 1) rfl rfl (by decide) rfl (fun ls hl => ?_)
      refine lv_goto (tgt := 5) hx hb dX8_letRightChoose_111 (by decide) ?_
      exact hk5 _ _ hf _ _ hI _ (lv_sub hl [1, 0] rfl)
    · have hf := ok_f c1 hf
      refine lv_aload_n hx hb dX8_letRightChoose_26 rfl (lv_at hl 0 rfl) ?_
      refine z_get (C := RX8) (T := TX8) (N := 16) (ci := 8) (v := .ref (G.1 + 20)) hx hb hts i_X8_letRightChoose_8 hown hK hI 15 rfl (by decide) rfl 5 (by decide) (hts (.fieldLink RX8 25 "FenceYards$Seer" "withDay" "[I") (by decide +kernel)) (fun _ h9 => h9) rfl dX8_letRightChoose_27 ?_
      refine lv_bipush (v := 13) hx hb dX8_letRightChoose_30 (by decide) ?_
      refine lv_iload_n hx hb dX8_letRightChoose_32 rfl (lv_at hl 1 rfl) ?_
      refine lv_imul hx hb dX8_letRightChoose_33 ?_
      refine lv_iload_n hx hb dX8_letRightChoose_34 rfl (lv_at hl 2 rfl) ?_
      refine lv_iadd hx hb dX8_letRightChoose_35 ?_
      obtain ⟨h1, hf⟩ := ok_c hf
      refine z_iald hx hb hK hI 20 (k := ((13 * x1) + x2).toNatClampNeg) rfl h1 rfl dX8_letRightChoose_36 ?_
      refine lv_topi (fun v1 ev1 => ?_)
      have hf := ok_n hf ev1
      refine lv_istore_n (lv' := [(3, .int v1), (0, .ref (G.1 + 15)), (1, .int x1), (2, .int x2)]) hx hb dX8_letRightChoose_37 rfl hl (by decide) rfl (fun ls hl => ?_)
      refine lv_iload_n hx hb dX8_letRightChoose_38 rfl (lv_at hl 3 rfl) ?_
      refine lv_aload_n hx hb dX8_letRightChoose_39 rfl (lv_at hl 1 rfl) ?_
      refine z_get (C := RX8) (T := TX8) (N := 16) (ci := 8) (v := .int (gI σ 15 12)) hx hb hts i_X8_letRightChoose_8 hown hK hI 15 rfl (by decide) rfl 12 (by decide) (hts (.fieldLink RX8 80 "FenceYards$Seer" "lowerFrom" "I") (by decide +kernel)) (fun _ h9 => h9) rfl dX8_letRightChoose_40 ?_
      refine lv_icmp_le (tgt := 64) hx hb dX8_letRightChoose_43 (by decide) (fun c2 => ?_) (fun c2 => ?_)
      · have hf := ok_t c2 hf
        exact w_X8_letRightChoose_64  C0 hk5 ih hf hI (lv_sub hl [1, 2, 3, 0] rfl)
      · have hf := ok_f c2 hf
        refine lv_iload_n hx hb dX8_letRightChoose_46 rfl (lv_at hl 0 rfl) ?_
        refine lv_aload_n hx hb dX8_letRightChoose_47 rfl (lv_at hl 1 rfl) ?_
        refine z_get (C := RX8) (T := TX8) (N := 16) (ci := 8) (v := .ref (G.1 + 20)) hx hb hts i_X8_letRightChoose_8 hown hK hI 15 rfl (by decide) rfl 5 (by decide) (hts (.fieldLink RX8 25 "FenceYards$Seer" "withDay" "[I") (by decide +kernel)) (fun _ h9 => h9) rfl dX8_letRightChoose_48 ?_
        refine lv_bipush (v := 13) hx hb dX8_letRightChoose_51 (by decide) ?_
        refine lv_iload_n hx hb dX8_letRightChoose_53 rfl (lv_at hl 2 rfl) ?_
        refine lv_imul hx hb dX8_letRightChoose_54 ?_
        refine lv_iload_n hx hb dX8_letRightChoose_55 rfl (lv_at hl 3 rfl) ?_
        refine lv_iadd hx hb dX8_letRightChoose_56 ?_
        refine lv_iconst (v := 1) hx hb dX8_letRightChoose_57 (by decide) ?_
        refine lv_isub hx hb dX8_letRightChoose_58 ?_
        obtain ⟨h2, hf⟩ := ok_c hf
        refine z_iald hx hb hK hI 20 (k := (((13 * x1) + x2) - 1).toNatClampNeg) rfl h2 rfl dX8_letRightChoose_59 ?_
        refine va_mmin hx hb (hml.trans hl.1.symm) hown (hts (.methodLink RX8 120 Lib.Math.min.name) (by decide +kernel)) (hts (.static Lib.Math.min.name) (by decide +kernel)) (hts (.initialized "java/lang/Math") (by decide +kernel)) (hts (.code Lib.Math.min.name Lib.Math.min.code 2 (some .int)) (by decide +kernel)) (Nat.le_of_ble_eq_true rfl) (Nat.le_of_ble_eq_true rfl) (Nat.zero_le _) (Nat.zero_le _) dX8_letRightChoose_60 ?_
        refine lv_topi (fun v2 ev2 => ?_)
        have hf := ok_n hf ev2
        refine lv_istore_n (lv' := [(3, .int v2), (0, .ref (G.1 + 15)), (1, .int x1), (2, .int x2)]) hx hb dX8_letRightChoose_63 rfl hl (by decide) rfl (fun ls hl => ?_)
        exact w_X8_letRightChoose_64  C0 hk5 ih hf hI (lv_sub hl [1, 2, 3, 0] rfl)

set_option maxRecDepth 100000 in
set_option maxHeartbeats 4000000 in
theorem w_X8_letRightChoose_5 {G : GT} {p : Program} {l : Launch} {e : Env} {s : State} {m : MethodId} {args : Array Value} {below : List Frame} {meth : Method} {c : Code}  {σ' : Hp}     (C0 : Cx G cX8_letRightChoose RX8 wsX8_letRightChoose 4 none p s m args meth c)  :
    ∀ (n : Nat) (σ : Hp) (x1 : Int32), f_X8_letRightChoose_5 n σ x1 = some σ' → ∀ (H : Heap) (locs : List Loc), Inv G s σ H locs → ∀ ls : Array Slot, lv_has ls 4 [(0, .ref (G.1 + 15)), (1, .int x1)] → W p l e (rmk 1 24) s m args below meth c H locs 0 0 (MQ below (QV G σ') args s (rmk 1 24).cells (rmk 1 24).slots (gA G)) (F0 m 5 ls []) := by
  obtain ⟨hx, hb, hr, hml, hown, hts, hlk, hK, hG⟩ := id C0
  intro n
  induction n with
  | zero =>
    intro σ x1 hf
    cases hf
  | succ n ih =>
    intro σ x1 hf H locs hI ls hl
    rw [f_X8_letRightChoose_5] at hf
    refine lv_iload_n hx hb dX8_letRightChoose_5 rfl (lv_at hl 1 rfl) ?_
    refine lv_aload_n hx hb dX8_letRightChoose_6 rfl (lv_at hl 0 rfl) ?_
    refine z_get (C := RX8) (T := TX8) (N := 16) (ci := 8) (v := .int (gI σ 15 11)) hx hb hts i_X8_letRightChoose_8 hown hK hI 15 rfl (by decide) rfl 11 (by decide) (hts (.fieldLink RX8 77 "FenceYards$Seer" "upperTo" "I") (by decide +kernel)) (fun _ h9 => h9) rfl dX8_letRightChoose_7 ?_
    refine lv_icmp_gt (tgt := 114) hx hb dX8_letRightChoose_10 (by decide) (fun c1 => ?_) (fun c1 => ?_)
    · have hf := ok_t c1 hf
      cases hf
      exact z_vret hx hb hr hlk hK hG hI dX8_letRightChoose_114
    · have hf := ok_f c1 hf
      refine lv_aload_n hx hb dX8_letRightChoose_13 rfl (lv_at hl 0 rfl) ?_
      refine z_get (C := RX8) (T := TX8) (N := 16) (ci := 8) (v := .int (gI σ 15 12)) hx hb hts i_X8_letRightChoose_8 hown hK hI 15 rfl (by decide) rfl 12 (by decide) (hts (.fieldLink RX8 80 "FenceYards$Seer" "lowerFrom" "I") (by decide +kernel)) (fun _ h9 => h9) rfl dX8_letRightChoose_14 ?_
      refine lv_topi (fun v1 ev1 => ?_)
      have hf := ok_n hf ev1
      refine lv_istore_n (lv' := [(2, .int v1), (0, .ref (G.1 + 15)), (1, .int x1)]) hx hb dX8_letRightChoose_17 rfl hl (by decide) rfl (fun ls hl => ?_)
      exact w_X8_letRightChoose_18  C0 ih _ _ _ hf _ _ hI _ (lv_sub hl [1, 2, 0] rfl)

set_option maxRecDepth 100000 in
set_option maxHeartbeats 4000000 in
theorem m_X8_letRightChoose (G : GT) (l : Launch) {σ : Hp}  {σ' : Hp}  (hf : f_X8_letRightChoose σ = some σ') : MetG G l yX8_letRightChoose wsX8_letRightChoose (rmk 1 24) σ [.ref (G.1 + 15)] (QV G σ') := by
  refine met_of (cc := cX8_letRightChoose) (nL := 4) (ret := none) (by decide) rfl (Nat.le_of_ble_eq_true rfl) ?_
  intro p e s m below meth c C0 hnm hI ls hl
  obtain ⟨hx, hb, hr, hml, hown, hts, hlk, hK, hG⟩ := id C0
  have hl : lv_has ls 4 [(0, .ref (G.1 + 15))] := hl
  unfold f_X8_letRightChoose at hf
  refine lv_aload_n hx hb dX8_letRightChoose_0 rfl (lv_at hl 0 rfl) ?_
  refine z_get (C := RX8) (T := TX8) (N := 16) (ci := 8) (v := .int (gI σ 15 10)) hx hb hts i_X8_letRightChoose_8 hown hK hI 15 rfl (by decide) rfl 10 (by decide) (hts (.fieldLink RX8 71 "FenceYards$Seer" "upperFrom" "I") (by decide +kernel)) (fun _ h9 => h9) rfl dX8_letRightChoose_1 ?_
  refine lv_topi (fun v1 ev1 => ?_)
  have hf := ok_n hf ev1
  refine lv_istore_n (lv' := [(1, .int v1), (0, .ref (G.1 + 15))]) hx hb dX8_letRightChoose_4 rfl hl (by decide) rfl (fun ls hl => ?_)
  exact w_X8_letRightChoose_5  C0  _ _ _ hf _ _ hI _ (lv_sub hl [1, 0] rfl)

-- ===== FenceYards$Seer.letLeftChoose()V
set_option maxRecDepth 100000 in
theorem i_X8_letLeftChoose_8 : ∀ w ∈ u_ws RX8 TX8 16, w ∈ wsX8_letLeftChoose := by decide +kernel
def f_X8_letLeftChoose_64 (k5 : Hp → Int32 → Option (Hp)) (k18 : Hp → Int32 → Option (Hp))  (σ : Hp) (x1 : Int32) (x2 : Int32) (x3 : Int32) : Option (Hp) :=
  if (gI σ 15 11) ≤ x1 then (chk (inb ((13 * x1) + x2) 169) <| k18 (sI σ 19 (((13 * x1) + x2).toNatClampNeg) x3) (x2 + 1)) else (chk (inb ((13 * (x1 + 1)) + x2) 169) <| bnd (if x3 < (gI σ 21 (((13 * (x1 + 1)) + x2).toNatClampNeg)) then (gI σ 21 (((13 * (x1 + 1)) + x2).toNatClampNeg)) else x3) fun v1 => chk (inb ((13 * x1) + x2) 169) <| k18 (sI σ 19 (((13 * x1) + x2).toNatClampNeg) v1) (x2 + 1))
def f_X8_letLeftChoose_18 (k5 : Hp → Int32 → Option (Hp))   (x1 : Int32) : Nat → Hp → Int32 → Option (Hp)
  | 0, _, _ => none
  | n + 1, σ, x2 =>
    if (gI σ 15 13) < x2 then (k5 σ (x1 + 1)) else (chk (inb ((13 * x1) + x2) 169) <| bnd (gI σ 21 (((13 * x1) + x2).toNatClampNeg)) fun v1 => if x1 ≤ (gI σ 15 10) then (f_X8_letLeftChoose_64 k5 (f_X8_letLeftChoose_18 k5 x1 n) σ x1 x2 v1) else (chk (inb ((13 * (x1 - 1)) + x2) 169) <| bnd (if v1 < (gI σ 21 (((13 * (x1 - 1)) + x2).toNatClampNeg)) then (gI σ 21 (((13 * (x1 - 1)) + x2).toNatClampNeg)) else v1) fun v2 => f_X8_letLeftChoose_64 k5 (f_X8_letLeftChoose_18 k5 x1 n) σ x1 x2 v2))
def f_X8_letLeftChoose_5     : Nat → Hp → Int32 → Option (Hp)
  | 0, _, _ => none
  | n + 1, σ, x1 =>
    if (gI σ 15 11) < x1 then (some σ) else (bnd (gI σ 15 12) fun v1 => f_X8_letLeftChoose_18 (f_X8_letLeftChoose_5 n) x1 fu σ v1)
def f_X8_letLeftChoose (σ : Hp)  : Option (Hp) :=
  bnd (gI σ 15 10) fun v1 => f_X8_letLeftChoose_5 fu σ v1
set_option maxRecDepth 100000 in
set_option maxHeartbeats 4000000 in
theorem w_X8_letLeftChoose_64 {G : GT} {p : Program} {l : Launch} {e : Env} {s : State} {m : MethodId} {args : Array Value} {below : List Frame} {meth : Method} {c : Code}  {σ' : Hp} {k5 : Hp → Int32 → Option (Hp)} {k18 : Hp → Int32 → Option (Hp)} {σ : Hp} {x1 : Int32} {x2 : Int32} {x3 : Int32}  (C0 : Cx G cX8_letLeftChoose RX8 wsX8_letLeftChoose 4 none p s m args meth c) (hk5 : ∀ (σ : Hp) (x1 : Int32), k5 σ x1 = some σ' → ∀ (H : Heap) (locs : List Loc), Inv G s σ H locs → ∀ ls : Array Slot, lv_has ls 4 [(0, .ref (G.1 + 15)), (1, .int x1)] → W p l e (rmk 1 24) s m args below meth c H locs 0 0 (MQ below (QV G σ') args s (rmk 1 24).cells (rmk 1 24).slots (gA G)) (F0 m 5 ls [])) (hk18 : ∀ (σ : Hp) (x2 : Int32), k18 σ x2 = some σ' → ∀ (H : Heap) (locs : List Loc), Inv G s σ H locs → ∀ ls : Array Slot, lv_has ls 4 [(0, .ref (G.1 + 15)), (1, .int x1), (2, .int x2)] → W p l e (rmk 1 24) s m args below meth c H locs 0 0 (MQ below (QV G σ') args s (rmk 1 24).cells (rmk 1 24).slots (gA G)) (F0 m 18 ls [])) (hf : f_X8_letLeftChoose_64 k5 k18 σ x1 x2 x3 = some σ') {H : Heap} {locs : List Loc} (hI : Inv G s σ H locs) {ls : Array Slot} (hl : lv_has ls 4 [(0, .ref (G.1 + 15)), (1, .int x1), (2, .int x2), (3, .int x3)]) : W p l e (rmk 1 24) s m args below meth c H locs 0 0 (MQ below (QV G σ') args s (rmk 1 24).cells (rmk 1 24).slots (gA G)) (F0 m 64 ls []) := by
  obtain ⟨hx, hb, hr, hml, hown, hts, hlk, hK, hG⟩ := id C0
  unfold f_X8_letLeftChoose_64 at hf
  refine lv_iload_n hx hb dX8_letLeftChoose_64 rfl (lv_at hl 1 rfl) ?_
  refine lv_aload_n hx hb dX8_letLeftChoose_65 rfl (lv_at hl 0 rfl) ?_
  refine z_get (C := RX8) (T := TX8) (N := 16) (ci := 8) (v := .int (gI σ 15 11)) hx hb hts i_X8_letLeftChoose_8 hown hK hI 15 rfl (by decide) rfl 11 (by decide) (hts (.fieldLink RX8 77 "FenceYards$Seer" "upperTo" "I") (by decide +kernel)) (fun _ h9 => h9) rfl dX8_letLeftChoose_66 ?_
  refine lv_icmp_ge (tgt := 90) hx hb dX8_letLeftChoose_69 (by decide) (fun c1 => ?_) (fun c1 => ?_)
  · have hf := ok_t c1 hf
    refine lv_aload_n hx hb dX8_letLeftChoose_90 rfl (lv_at hl 0 rfl) ?_
    refine z_get (C := RX8) (T := TX8) (N := 16) (ci := 8) (v := .ref (G.1 + 19)) hx hb hts i_X8_letLeftChoose_8 hown hK hI 15 rfl (by decide) rfl 4 (by decide) (hts (.fieldLink RX8 22 "FenceYards$Seer" "afterDay" "[I") (by decide +kernel)) (fun _ h9 => h9) rfl dX8_letLeftChoose_91 ?_
    refine lv_bipush (v := 13) hx hb dX8_letLeftChoose_94 (by decide) ?_
    refine lv_iload_n hx hb dX8_letLeftChoose_96 rfl (lv_at hl 1 rfl) ?_
    refine lv_imul hx hb dX8_letLeftChoose_97 ?_
    refine lv_iload_n hx hb dX8_letLeftChoose_98 rfl (lv_at hl 2 rfl) ?_
    refine lv_iadd hx hb dX8_letLeftChoose_99 ?_
    refine lv_iload_n hx hb dX8_letLeftChoose_100 rfl (lv_at hl 3 rfl) ?_
    obtain ⟨h1, hf⟩ := ok_c hf
    refine z_iast hx hb hK hI 19 (k := ((13 * x1) + x2).toNatClampNeg) rfl h1 rfl dX8_letLeftChoose_101 (fun H locs hI => ?_)
    refine lv_iinc (v := x2 + 1) (lv' := [(2, .int (x2 + 1)), (0, .ref (G.1 + 15)), (1, .int x1), (3, .int x3)]) hx hb dX8_letLeftChoose_102 hl (k := 2) rfl rfl (by decide) rfl (fun ls hl => ?_)
    refine lv_goto (tgt := 18) hx hb dX8_letLeftChoose_105 (by decide) ?_
    exact hk18 _ _ hf _ _ hI _ (lv_sub hl [1, 2, 0] rfl)
  · have hf := ok_f c1 hf
    refine lv_iload_n hx hb dX8_letLeftChoose_72 rfl (lv_at hl 3 rfl) ?_
    refine lv_aload_n hx hb dX8_letLeftChoose_73 rfl (lv_at hl 0 rfl) ?_
    refine z_get (C := RX8) (T := TX8) (N := 16) (ci := 8) (v := .ref (G.1 + 21)) hx hb hts i_X8_letLeftChoose_8 hown hK hI 15 rfl (by decide) rfl 6 (by decide) (hts (.fieldLink RX8 28 "FenceYards$Seer" "rightChosen" "[I") (by decide +kernel)) (fun _ h9 => h9) rfl dX8_letLeftChoose_74 ?_
    refine lv_bipush (v := 13) hx hb dX8_letLeftChoose_77 (by decide) ?_
    refine lv_iload_n hx hb dX8_letLeftChoose_79 rfl (lv_at hl 1 rfl) ?_
    refine lv_iconst (v := 1) hx hb dX8_letLeftChoose_80 (by decide) ?_
    refine lv_iadd hx hb dX8_letLeftChoose_81 ?_
    refine lv_imul hx hb dX8_letLeftChoose_82 ?_
    refine lv_iload_n hx hb dX8_letLeftChoose_83 rfl (lv_at hl 2 rfl) ?_
    refine lv_iadd hx hb dX8_letLeftChoose_84 ?_
    obtain ⟨h2, hf⟩ := ok_c hf
    refine z_iald hx hb hK hI 21 (k := ((13 * (x1 + 1)) + x2).toNatClampNeg) rfl h2 rfl dX8_letLeftChoose_85 ?_
    refine va_mmax hx hb (hml.trans hl.1.symm) hown (hts (.methodLink RX8 125 Lib.Math.max.name) (by decide +kernel)) (hts (.static Lib.Math.max.name) (by decide +kernel)) (hts (.initialized "java/lang/Math") (by decide +kernel)) (hts (.code Lib.Math.max.name Lib.Math.max.code 2 (some .int)) (by decide +kernel)) (Nat.le_of_ble_eq_true rfl) (Nat.le_of_ble_eq_true rfl) (Nat.zero_le _) (Nat.zero_le _) dX8_letLeftChoose_86 ?_
    refine lv_topi (fun v1 ev1 => ?_)
    have hf := ok_n hf ev1
    refine lv_istore_n (lv' := [(3, .int v1), (0, .ref (G.1 + 15)), (1, .int x1), (2, .int x2)]) hx hb dX8_letLeftChoose_89 rfl hl (by decide) rfl (fun ls hl => ?_)
    refine lv_aload_n hx hb dX8_letLeftChoose_90 rfl (lv_at hl 1 rfl) ?_
    refine z_get (C := RX8) (T := TX8) (N := 16) (ci := 8) (v := .ref (G.1 + 19)) hx hb hts i_X8_letLeftChoose_8 hown hK hI 15 rfl (by decide) rfl 4 (by decide) (hts (.fieldLink RX8 22 "FenceYards$Seer" "afterDay" "[I") (by decide +kernel)) (fun _ h9 => h9) rfl dX8_letLeftChoose_91 ?_
    refine lv_bipush (v := 13) hx hb dX8_letLeftChoose_94 (by decide) ?_
    refine lv_iload_n hx hb dX8_letLeftChoose_96 rfl (lv_at hl 2 rfl) ?_
    refine lv_imul hx hb dX8_letLeftChoose_97 ?_
    refine lv_iload_n hx hb dX8_letLeftChoose_98 rfl (lv_at hl 3 rfl) ?_
    refine lv_iadd hx hb dX8_letLeftChoose_99 ?_
    refine lv_iload_n hx hb dX8_letLeftChoose_100 rfl (lv_at hl 0 rfl) ?_
    obtain ⟨h3, hf⟩ := ok_c hf
    refine z_iast hx hb hK hI 19 (k := ((13 * x1) + x2).toNatClampNeg) rfl h3 rfl dX8_letLeftChoose_101 (fun H locs hI => ?_)
    refine lv_iinc (v := x2 + 1) (lv' := [(2, .int (x2 + 1)), (3, .int v1), (0, .ref (G.1 + 15)), (1, .int x1)]) hx hb dX8_letLeftChoose_102 hl (k := 3) rfl rfl (by decide) rfl (fun ls hl => ?_)
    refine lv_goto (tgt := 18) hx hb dX8_letLeftChoose_105 (by decide) ?_
    exact hk18 _ _ hf _ _ hI _ (lv_sub hl [2, 3, 0] rfl)

set_option maxRecDepth 100000 in
set_option maxHeartbeats 4000000 in
theorem w_X8_letLeftChoose_18 {G : GT} {p : Program} {l : Launch} {e : Env} {s : State} {m : MethodId} {args : Array Value} {below : List Frame} {meth : Method} {c : Code}  {σ' : Hp} {k5 : Hp → Int32 → Option (Hp)}  {x1 : Int32}  (C0 : Cx G cX8_letLeftChoose RX8 wsX8_letLeftChoose 4 none p s m args meth c) (hk5 : ∀ (σ : Hp) (x1 : Int32), k5 σ x1 = some σ' → ∀ (H : Heap) (locs : List Loc), Inv G s σ H locs → ∀ ls : Array Slot, lv_has ls 4 [(0, .ref (G.1 + 15)), (1, .int x1)] → W p l e (rmk 1 24) s m args below meth c H locs 0 0 (MQ below (QV G σ') args s (rmk 1 24).cells (rmk 1 24).slots (gA G)) (F0 m 5 ls [])) :
    ∀ (n : Nat) (σ : Hp) (x2 : Int32), f_X8_letLeftChoose_18 k5 x1 n σ x2 = some σ' → ∀ (H : Heap) (locs : List Loc), Inv G s σ H locs → ∀ ls : Array Slot, lv_has ls 4 [(0, .ref (G.1 + 15)), (1, .int x1), (2, .int x2)] → W p l e (rmk 1 24) s m args below meth c H locs 0 0 (MQ below (QV G σ') args s (rmk 1 24).cells (rmk 1 24).slots (gA G)) (F0 m 18 ls []) := by
  obtain ⟨hx, hb, hr, hml, hown, hts, hlk, hK, hG⟩ := id C0
  intro n
  induction n with
  | zero =>
    intro σ x2 hf
    cases hf
  | succ n ih =>
    intro σ x2 hf H locs hI ls hl
    rw [f_X8_letLeftChoose_18] at hf
    refine lv_iload_n hx hb dX8_letLeftChoose_18 rfl (lv_at hl 2 rfl) ?_
    refine lv_aload_n hx hb dX8_letLeftChoose_19 rfl (lv_at hl 0 rfl) ?_
    refine z_get (C := RX8) (T := TX8) (N := 16) (ci := 8) (v := .int (gI σ 15 13)) hx hb hts i_X8_letLeftChoose_8 hown hK hI 15 rfl (by decide) rfl 13 (by decide) (hts (.fieldLink RX8 83 "FenceYards$Seer" "lowerTo" "I") (by decide +kernel)) (fun _ h9 => h9) rfl dX8_letLeftChoose_20 ?_
    refine lv_icmp_gt (tgt := 108) hx hb dX8_letLeftChoose_23 (by decide) (fun c1 => ?_) (fun c1 => ?_)
    · have hf := ok_t c1 hf
      refine lv_iinc (v := x1 + 1) (lv' := [(1, .int (x1 + 1)), (0, .ref (G.1 + 15)), (2, .int x2)]) hx hb dX8_letLeftChoose_108 hl (k := 1) rfl rfl (by decide) rfl (fun ls hl => ?_)
      refine lv_goto (tgt := 5) hx hb dX8_letLeftChoose_111 (by decide) ?_
      exact hk5 _ _ hf _ _ hI _ (lv_sub hl [1, 0] rfl)
    · have hf := ok_f c1 hf
      refine lv_aload_n hx hb dX8_letLeftChoose_26 rfl (lv_at hl 0 rfl) ?_
      refine z_get (C := RX8) (T := TX8) (N := 16) (ci := 8) (v := .ref (G.1 + 21)) hx hb hts i_X8_letLeftChoose_8 hown hK hI 15 rfl (by decide) rfl 6 (by decide) (hts (.fieldLink RX8 28 "FenceYards$Seer" "rightChosen" "[I") (by decide +kernel)) (fun _ h9 => h9) rfl dX8_letLeftChoose_27 ?_
      refine lv_bipush (v := 13) hx hb dX8_letLeftChoose_30 (by decide) ?_
      refine lv_iload_n hx hb dX8_letLeftChoose_32 rfl (lv_at hl 1 rfl) ?_
      refine lv_imul hx hb dX8_letLeftChoose_33 ?_
      refine lv_iload_n hx hb dX8_letLeftChoose_34 rfl (lv_at hl 2 rfl) ?_
      refine lv_iadd hx hb dX8_letLeftChoose_35 ?_
      obtain ⟨h1, hf⟩ := ok_c hf
      refine z_iald hx hb hK hI 21 (k := ((13 * x1) + x2).toNatClampNeg) rfl h1 rfl dX8_letLeftChoose_36 ?_
      refine lv_topi (fun v1 ev1 => ?_)
      have hf := ok_n hf ev1
      refine lv_istore_n (lv' := [(3, .int v1), (0, .ref (G.1 + 15)), (1, .int x1), (2, .int x2)]) hx hb dX8_letLeftChoose_37 rfl hl (by decide) rfl (fun ls hl => ?_)
      refine lv_iload_n hx hb dX8_letLeftChoose_38 rfl (lv_at hl 2 rfl) ?_
      refine lv_aload_n hx hb dX8_letLeftChoose_39 rfl (lv_at hl 1 rfl) ?_
      refine z_get (C := RX8) (T := TX8) (N := 16) (ci := 8) (v := .int (gI σ 15 10)) hx hb hts i_X8_letLeftChoose_8 hown hK hI 15 rfl (by decide) rfl 10 (by decide) (hts (.fieldLink RX8 71 "FenceYards$Seer" "upperFrom" "I") (by decide +kernel)) (fun _ h9 => h9) rfl dX8_letLeftChoose_40 ?_
      refine lv_icmp_le (tgt := 64) hx hb dX8_letLeftChoose_43 (by decide) (fun c2 => ?_) (fun c2 => ?_)
      · have hf := ok_t c2 hf
        exact w_X8_letLeftChoose_64  C0 hk5 ih hf hI (lv_sub hl [1, 2, 3, 0] rfl)
      · have hf := ok_f c2 hf
        refine lv_iload_n hx hb dX8_letLeftChoose_46 rfl (lv_at hl 0 rfl) ?_
        refine lv_aload_n hx hb dX8_letLeftChoose_47 rfl (lv_at hl 1 rfl) ?_
        refine z_get (C := RX8) (T := TX8) (N := 16) (ci := 8) (v := .ref (G.1 + 21)) hx hb hts i_X8_letLeftChoose_8 hown hK hI 15 rfl (by decide) rfl 6 (by decide) (hts (.fieldLink RX8 28 "FenceYards$Seer" "rightChosen" "[I") (by decide +kernel)) (fun _ h9 => h9) rfl dX8_letLeftChoose_48 ?_
        refine lv_bipush (v := 13) hx hb dX8_letLeftChoose_51 (by decide) ?_
        refine lv_iload_n hx hb dX8_letLeftChoose_53 rfl (lv_at hl 2 rfl) ?_
        refine lv_iconst (v := 1) hx hb dX8_letLeftChoose_54 (by decide) ?_
        refine lv_isub hx hb dX8_letLeftChoose_55 ?_
        refine lv_imul hx hb dX8_letLeftChoose_56 ?_
        refine lv_iload_n hx hb dX8_letLeftChoose_57 rfl (lv_at hl 3 rfl) ?_
        refine lv_iadd hx hb dX8_letLeftChoose_58 ?_
        obtain ⟨h2, hf⟩ := ok_c hf
        refine z_iald hx hb hK hI 21 (k := ((13 * (x1 - 1)) + x2).toNatClampNeg) rfl h2 rfl dX8_letLeftChoose_59 ?_
        refine va_mmax hx hb (hml.trans hl.1.symm) hown (hts (.methodLink RX8 125 Lib.Math.max.name) (by decide +kernel)) (hts (.static Lib.Math.max.name) (by decide +kernel)) (hts (.initialized "java/lang/Math") (by decide +kernel)) (hts (.code Lib.Math.max.name Lib.Math.max.code 2 (some .int)) (by decide +kernel)) (Nat.le_of_ble_eq_true rfl) (Nat.le_of_ble_eq_true rfl) (Nat.zero_le _) (Nat.zero_le _) dX8_letLeftChoose_60 ?_
        refine lv_topi (fun v2 ev2 => ?_)
        have hf := ok_n hf ev2
        refine lv_istore_n (lv' := [(3, .int v2), (0, .ref (G.1 + 15)), (1, .int x1), (2, .int x2)]) hx hb dX8_letLeftChoose_63 rfl hl (by decide) rfl (fun ls hl => ?_)
        exact w_X8_letLeftChoose_64  C0 hk5 ih hf hI (lv_sub hl [1, 2, 3, 0] rfl)

set_option maxRecDepth 100000 in
set_option maxHeartbeats 4000000 in
theorem w_X8_letLeftChoose_5 {G : GT} {p : Program} {l : Launch} {e : Env} {s : State} {m : MethodId} {args : Array Value} {below : List Frame} {meth : Method} {c : Code}  {σ' : Hp}     (C0 : Cx G cX8_letLeftChoose RX8 wsX8_letLeftChoose 4 none p s m args meth c)  :
    ∀ (n : Nat) (σ : Hp) (x1 : Int32), f_X8_letLeftChoose_5 n σ x1 = some σ' → ∀ (H : Heap) (locs : List Loc), Inv G s σ H locs → ∀ ls : Array Slot, lv_has ls 4 [(0, .ref (G.1 + 15)), (1, .int x1)] → W p l e (rmk 1 24) s m args below meth c H locs 0 0 (MQ below (QV G σ') args s (rmk 1 24).cells (rmk 1 24).slots (gA G)) (F0 m 5 ls []) := by
  obtain ⟨hx, hb, hr, hml, hown, hts, hlk, hK, hG⟩ := id C0
  intro n
  induction n with
  | zero =>
    intro σ x1 hf
    cases hf
  | succ n ih =>
    intro σ x1 hf H locs hI ls hl
    rw [f_X8_letLeftChoose_5] at hf
    refine lv_iload_n hx hb dX8_letLeftChoose_5 rfl (lv_at hl 1 rfl) ?_
    refine lv_aload_n hx hb dX8_letLeftChoose_6 rfl (lv_at hl 0 rfl) ?_
    refine z_get (C := RX8) (T := TX8) (N := 16) (ci := 8) (v := .int (gI σ 15 11)) hx hb hts i_X8_letLeftChoose_8 hown hK hI 15 rfl (by decide) rfl 11 (by decide) (hts (.fieldLink RX8 77 "FenceYards$Seer" "upperTo" "I") (by decide +kernel)) (fun _ h9 => h9) rfl dX8_letLeftChoose_7 ?_
    refine lv_icmp_gt (tgt := 114) hx hb dX8_letLeftChoose_10 (by decide) (fun c1 => ?_) (fun c1 => ?_)
    · have hf := ok_t c1 hf
      cases hf
      exact z_vret hx hb hr hlk hK hG hI dX8_letLeftChoose_114
    · have hf := ok_f c1 hf
      refine lv_aload_n hx hb dX8_letLeftChoose_13 rfl (lv_at hl 0 rfl) ?_
      refine z_get (C := RX8) (T := TX8) (N := 16) (ci := 8) (v := .int (gI σ 15 12)) hx hb hts i_X8_letLeftChoose_8 hown hK hI 15 rfl (by decide) rfl 12 (by decide) (hts (.fieldLink RX8 80 "FenceYards$Seer" "lowerFrom" "I") (by decide +kernel)) (fun _ h9 => h9) rfl dX8_letLeftChoose_14 ?_
      refine lv_topi (fun v1 ev1 => ?_)
      have hf := ok_n hf ev1
      refine lv_istore_n (lv' := [(2, .int v1), (0, .ref (G.1 + 15)), (1, .int x1)]) hx hb dX8_letLeftChoose_17 rfl hl (by decide) rfl (fun ls hl => ?_)
      exact w_X8_letLeftChoose_18  C0 ih _ _ _ hf _ _ hI _ (lv_sub hl [1, 2, 0] rfl)

set_option maxRecDepth 100000 in
set_option maxHeartbeats 4000000 in
theorem m_X8_letLeftChoose (G : GT) (l : Launch) {σ : Hp}  {σ' : Hp}  (hf : f_X8_letLeftChoose σ = some σ') : MetG G l yX8_letLeftChoose wsX8_letLeftChoose (rmk 1 24) σ [.ref (G.1 + 15)] (QV G σ') := by
  refine met_of (cc := cX8_letLeftChoose) (nL := 4) (ret := none) (by decide) rfl (Nat.le_of_ble_eq_true rfl) ?_
  intro p e s m below meth c C0 hnm hI ls hl
  obtain ⟨hx, hb, hr, hml, hown, hts, hlk, hK, hG⟩ := id C0
  have hl : lv_has ls 4 [(0, .ref (G.1 + 15))] := hl
  unfold f_X8_letLeftChoose at hf
  refine lv_aload_n hx hb dX8_letLeftChoose_0 rfl (lv_at hl 0 rfl) ?_
  refine z_get (C := RX8) (T := TX8) (N := 16) (ci := 8) (v := .int (gI σ 15 10)) hx hb hts i_X8_letLeftChoose_8 hown hK hI 15 rfl (by decide) rfl 10 (by decide) (hts (.fieldLink RX8 71 "FenceYards$Seer" "upperFrom" "I") (by decide +kernel)) (fun _ h9 => h9) rfl dX8_letLeftChoose_1 ?_
  refine lv_topi (fun v1 ev1 => ?_)
  have hf := ok_n hf ev1
  refine lv_istore_n (lv' := [(1, .int v1), (0, .ref (G.1 + 15))]) hx hb dX8_letLeftChoose_4 rfl hl (by decide) rfl (fun ls hl => ?_)
  exact w_X8_letLeftChoose_5  C0  _ _ _ hf _ _ hI _ (lv_sub hl [1, 0] rfl)

-- ===== FenceYards$Seer.gameOf(LFenceYards$Ground;I)I
set_option maxRecDepth 100000 in
theorem i_X8_gameOf_4 : ∀ w ∈ u_ws RX4 TX4 11, w ∈ wsX8_gameOf := by decide +kernel
set_option maxRecDepth 100000 in
theorem i_X8_gameOf_8 : ∀ w ∈ u_ws RX8 TX8 16, w ∈ wsX8_gameOf := by decide +kernel
def f_X8_gameOf_30  (g : Nat)   : Nat → Hp → Int32 → Option (Hp × Int32)
  | 0, _, _ => none
  | n + 1, σ, x4 =>
    if x4 < (gI σ g 10) then (bd1 (f_X4_endOn σ g 0) fun r1 => bd1 (f_X4_endOn σ g 1) fun r2 => chk (inb ((13 * r1) + r2) 169) <| some (σ, gI σ 19 (((13 * r1) + r2).toNatClampNeg))) else (bd1 (f_X8_gather σ g x4) fun s1 => bd1 (f_X8_addDay s1) fun s2 => bd1 (f_X8_letRightChoose s2) fun s3 => bd1 (f_X8_letLeftChoose s3) fun s4 => f_X8_gameOf_30 g n s4 (x4 + (-1)))
def f_X8_gameOf (σ : Hp) (g : Nat) (x2 : Int32) : Option (Hp × Int32) :=
  bd1 (f_X4_daysOf σ g x2) fun r1 => bd1 (f_X8_findReach σ g r1) fun s1 => bd1 (f_fill s1 19 169 0) fun s2 => bnd (((gI s2 g 10) + r1) - 1) fun v1 => f_X8_gameOf_30 g fu s2 v1
set_option maxRecDepth 100000 in
set_option maxHeartbeats 4000000 in
theorem w_X8_gameOf_30 {G : GT} {p : Program} {l : Launch} {e : Env} {s : State} {m : MethodId} {args : Array Value} {below : List Frame} {meth : Method} {c : Code} {g : Nat} {σ' : Hp} {r : Int32}    (hg : isG g) (C0 : Cx G cX8_gameOf RX8 wsX8_gameOf 5 (some .int) p s m args meth c)  :
    ∀ (n : Nat) (σ : Hp) (x4 : Int32), f_X8_gameOf_30 g n σ x4 = some (σ', r) → ∀ (H : Heap) (locs : List Loc), Inv G s σ H locs → ∀ ls : Array Slot, lv_has ls 5 [(0, .ref (G.1 + 15)), (1, .ref (G.1 + g)), (4, .int x4)] → W p l e (rmk 4 96) s m args below meth c H locs 0 0 (MQ below (QI G σ' r) args s (rmk 4 96).cells (rmk 4 96).slots (gA G)) (F0 m 30 ls []) := by
  obtain ⟨hx, hb, hr, hml, hown, hts, hlk, hK, hG⟩ := id C0
  intro n
  induction n with
  | zero =>
    intro σ x4 hf
    cases hf
  | succ n ih =>
    intro σ x4 hf H locs hI ls hl
    rw [f_X8_gameOf_30] at hf
    refine lv_iload hx hb dX8_gameOf_30 (lv_at hl 2 rfl) ?_
    refine lv_aload_n hx hb dX8_gameOf_32 rfl (lv_at hl 1 rfl) ?_
    refine z_getN (C := RX4) (T := TX4) (N := 11) (ci := 4) (v := .int (gI σ g 10)) hx hb hts i_X8_gameOf_4 hown hK hI g (kd_G hg) (by decide) rfl 10 (by decide) (hG.1.1 ("FenceYards$Seer", 99, "FenceYards$Ground", "today", "I") (by decide +kernel)) (fun _ h9 => h9) rfl dX8_gameOf_33 ?_
    refine lv_icmp_lt (tgt := 64) hx hb dX8_gameOf_36 (by decide) (fun c1 => ?_) (fun c1 => ?_)
    · have hf := ok_t c1 hf
      refine lv_aload_n hx hb dX8_gameOf_64 rfl (lv_at hl 0 rfl) ?_
      refine z_get (C := RX8) (T := TX8) (N := 16) (ci := 8) (v := .ref (G.1 + 19)) hx hb hts i_X8_gameOf_8 hown hK hI 15 rfl (by decide) rfl 4 (by decide) (hts (.fieldLink RX8 22 "FenceYards$Seer" "afterDay" "[I") (by decide +kernel)) (fun _ h9 => h9) rfl dX8_gameOf_65 ?_
      refine lv_bipush (v := 13) hx hb dX8_gameOf_68 (by decide) ?_
      refine lv_aload_n hx hb dX8_gameOf_70 rfl (lv_at hl 1 rfl) ?_
      refine lv_iconst (v := 0) hx hb dX8_gameOf_71 (by decide) ?_
      obtain ⟨r1, hc1, hf⟩ := ok_1 hf
      refine z_calli0 rfl rfl hI (va_runVN (As := [.int 0]) (rest := [.int 13, .ref (G.1 + 19)]) ⟨hx, hb, hml, hown, hts⟩ (m_X4_endOn G l hg hc1) ⟨va_cnB (host := "FenceYards") 1 hts gX8_gameOf_X4_endOn_n114 rfl rfl rfl (hG.1.2.1 ("FenceYards$Seer", 114, ⟨"FenceYards$Ground", "endOn", "(I)I"⟩) (by decide +kernel)) (hts (.initialized "FenceYards$Ground") (by decide +kernel)) (by decide +kernel) ⟨Nat.le_of_ble_eq_true rfl, Nat.le_of_ble_eq_true rfl⟩, hts (.instanceMethod yX4_endOn) (by decide +kernel), hts (.selects "FenceYards$Ground" yX4_endOn yX4_endOn) (by decide +kernel)⟩ (z_preV hK hG hI (z_rc (q := g) (ci := 4) (n := 0) hK hI (kd_G hg) (by decide) rfl)) rfl rfl hl.1 rfl (lv_room (Nat.le_of_ble_eq_true rfl)) dX8_gameOf_72 ⟨Nat.zero_le _, Nat.zero_le _⟩) (fun H locs hI => ?_)
      refine lv_imul hx hb dX8_gameOf_75 ?_
      refine lv_aload_n hx hb dX8_gameOf_76 rfl (lv_at hl 1 rfl) ?_
      refine lv_iconst (v := 1) hx hb dX8_gameOf_77 (by decide) ?_
      obtain ⟨r2, hc2, hf⟩ := ok_1 hf
      refine z_calli0 rfl rfl hI (va_runVN (As := [.int 1]) (rest := [.int (13 * r1), .ref (G.1 + 19)]) ⟨hx, hb, hml, hown, hts⟩ (m_X4_endOn G l hg hc2) ⟨va_cnB (host := "FenceYards") 1 hts gX8_gameOf_X4_endOn_n114 rfl rfl rfl (hG.1.2.1 ("FenceYards$Seer", 114, ⟨"FenceYards$Ground", "endOn", "(I)I"⟩) (by decide +kernel)) (hts (.initialized "FenceYards$Ground") (by decide +kernel)) (by decide +kernel) ⟨Nat.le_of_ble_eq_true rfl, Nat.le_of_ble_eq_true rfl⟩, hts (.instanceMethod yX4_endOn) (by decide +kernel), hts (.selects "FenceYards$Ground" yX4_endOn yX4_endOn) (by decide +kernel)⟩ (z_preV hK hG hI (z_rc (q := g) (ci := 4) (n := 0) hK hI (kd_G hg) (by decide) rfl)) rfl rfl hl.1 rfl (lv_room (Nat.le_of_ble_eq_true rfl)) dX8_gameOf_78 ⟨Nat.zero_le _, Nat.zero_le _⟩) (fun H locs hI => ?_)
      refine lv_iadd hx hb dX8_gameOf_81 ?_
      obtain ⟨h1, hf⟩ := ok_c hf
      refine z_iald hx hb hK hI 19 (k := ((13 * r1) + r2).toNatClampNeg) rfl h1 rfl dX8_gameOf_82 ?_
      cases hf
      exact z_iret hx hb hr hlk hK hG hI dX8_gameOf_83
    · have hf := ok_f c1 hf
      refine lv_aload_n hx hb dX8_gameOf_39 rfl (lv_at hl 0 rfl) ?_
      refine lv_aload_n hx hb dX8_gameOf_40 rfl (lv_at hl 1 rfl) ?_
      refine lv_iload hx hb dX8_gameOf_41 (lv_at hl 2 rfl) ?_
      obtain ⟨s1, hc3, hf⟩ := ok_1 hf
      refine z_callv0 rfl rfl hI (va_runV (As := [.ref (G.1 + g), .int x4]) (rest := []) ⟨hx, hb, hml, hown, hts⟩ (m_X8_gather G l hg hc3) (cwV 2 hts gX8_gameOf_X8_gather rfl rfl rfl (by decide +kernel) ⟨Nat.le_of_ble_eq_true rfl, Nat.le_of_ble_eq_true rfl⟩) (z_preV hK hG hI (z_rc (q := 15) (ci := 8) (n := 0) hK hI rfl (by decide) rfl)) rfl rfl hl.1 rfl (lv_room (Nat.le_of_ble_eq_true rfl)) dX8_gameOf_43 ⟨Nat.zero_le _, Nat.zero_le _⟩) (fun H locs hI => ?_)
      refine lv_aload_n hx hb dX8_gameOf_46 rfl (lv_at hl 0 rfl) ?_
      obtain ⟨s2, hc4, hf⟩ := ok_1 hf
      refine z_callv0 rfl rfl hI (va_runV (As := []) (rest := []) ⟨hx, hb, hml, hown, hts⟩ (m_X8_addDay G l  hc4) (cwV 0 hts gX8_gameOf_X8_addDay rfl rfl rfl (by decide +kernel) ⟨Nat.le_of_ble_eq_true rfl, Nat.le_of_ble_eq_true rfl⟩) (z_preV hK hG hI (z_rc (q := 15) (ci := 8) (n := 0) hK hI rfl (by decide) rfl)) rfl rfl hl.1 rfl (lv_room (Nat.le_of_ble_eq_true rfl)) dX8_gameOf_47 ⟨Nat.zero_le _, Nat.zero_le _⟩) (fun H locs hI => ?_)
      refine lv_aload_n hx hb dX8_gameOf_50 rfl (lv_at hl 0 rfl) ?_
      obtain ⟨s3, hc5, hf⟩ := ok_1 hf
      refine z_callv0 rfl rfl hI (va_runV (As := []) (rest := []) ⟨hx, hb, hml, hown, hts⟩ (m_X8_letRightChoose G l  hc5) (cwV 0 hts gX8_gameOf_X8_letRightChoose rfl rfl rfl (by decide +kernel) ⟨Nat.le_of_ble_eq_true rfl, Nat.le_of_ble_eq_true rfl⟩) (z_preV hK hG hI (z_rc (q := 15) (ci := 8) (n := 0) hK hI rfl (by decide) rfl)) rfl rfl hl.1 rfl (lv_room (Nat.le_of_ble_eq_true rfl)) dX8_gameOf_51 ⟨Nat.zero_le _, Nat.zero_le _⟩) (fun H locs hI => ?_)
      refine lv_aload_n hx hb dX8_gameOf_54 rfl (lv_at hl 0 rfl) ?_
      obtain ⟨s4, hc6, hf⟩ := ok_1 hf
      refine z_callv0 rfl rfl hI (va_runV (As := []) (rest := []) ⟨hx, hb, hml, hown, hts⟩ (m_X8_letLeftChoose G l  hc6) (cwV 0 hts gX8_gameOf_X8_letLeftChoose rfl rfl rfl (by decide +kernel) ⟨Nat.le_of_ble_eq_true rfl, Nat.le_of_ble_eq_true rfl⟩) (z_preV hK hG hI (z_rc (q := 15) (ci := 8) (n := 0) hK hI rfl (by decide) rfl)) rfl rfl hl.1 rfl (lv_room (Nat.le_of_ble_eq_true rfl)) dX8_gameOf_55 ⟨Nat.zero_le _, Nat.zero_le _⟩) (fun H locs hI => ?_)
      refine lv_iinc (v := x4 + (-1)) (lv' := [(4, .int (x4 + (-1))), (0, .ref (G.1 + 15)), (1, .ref (G.1 + g))]) hx hb dX8_gameOf_58 hl (k := 2) rfl rfl (by decide) rfl (fun ls hl => ?_)
      refine lv_goto (tgt := 30) hx hb dX8_gameOf_61 (by decide) ?_
      exact ih _ _ hf _ _ hI _ (lv_sub hl [1, 2, 0] rfl)

set_option maxRecDepth 100000 in
set_option maxHeartbeats 4000000 in
theorem m_X8_gameOf (G : GT) (l : Launch) {σ : Hp} {g : Nat} {x2 : Int32} {σ' : Hp} {r : Int32} (hg : isG g) (hf : f_X8_gameOf σ g x2 = some (σ', r)) : MetG G l yX8_gameOf wsX8_gameOf (rmk 4 96) σ [.ref (G.1 + 15), .ref (G.1 + g), .int x2] (QI G σ' r) := by
  refine met_of (cc := cX8_gameOf) (nL := 5) (ret := (some .int)) (by decide) rfl (Nat.le_of_ble_eq_true rfl) ?_
  intro p e s m below meth c C0 hnm hI ls hl
  obtain ⟨hx, hb, hr, hml, hown, hts, hlk, hK, hG⟩ := id C0
  have hl : lv_has ls 5 [(0, .ref (G.1 + 15)), (1, .ref (G.1 + g)), (2, .int x2)] := hl
  unfold f_X8_gameOf at hf
  refine lv_aload_n hx hb dX8_gameOf_0 rfl (lv_at hl 1 rfl) ?_
  refine lv_iload_n hx hb dX8_gameOf_1 rfl (lv_at hl 2 rfl) ?_
  obtain ⟨r1, hc1, hf⟩ := ok_1 hf
  refine z_calli0 rfl rfl hI (va_runVN (As := [.int x2]) (rest := []) ⟨hx, hb, hml, hown, hts⟩ (m_X4_daysOf G l hg hc1) ⟨va_cnB (host := "FenceYards") 1 hts gX8_gameOf_X4_daysOf_n86 rfl rfl rfl (hG.1.2.1 ("FenceYards$Seer", 86, ⟨"FenceYards$Ground", "daysOf", "(I)I"⟩) (by decide +kernel)) (hts (.initialized "FenceYards$Ground") (by decide +kernel)) (by decide +kernel) ⟨Nat.le_of_ble_eq_true rfl, Nat.le_of_ble_eq_true rfl⟩, hts (.instanceMethod yX4_daysOf) (by decide +kernel), hts (.selects "FenceYards$Ground" yX4_daysOf yX4_daysOf) (by decide +kernel)⟩ (z_preV hK hG hI (z_rc (q := g) (ci := 4) (n := 0) hK hI (kd_G hg) (by decide) rfl)) rfl rfl hl.1 rfl (lv_room (Nat.le_of_ble_eq_true rfl)) dX8_gameOf_2 ⟨Nat.zero_le _, Nat.zero_le _⟩) (fun H locs hI => ?_)
  refine lv_istore_n (lv' := [(3, .int r1), (0, .ref (G.1 + 15)), (1, .ref (G.1 + g)), (2, .int x2)]) hx hb dX8_gameOf_5 rfl hl (by decide) rfl (fun ls hl => ?_)
  refine lv_aload_n hx hb dX8_gameOf_6 rfl (lv_at hl 1 rfl) ?_
  refine lv_aload_n hx hb dX8_gameOf_7 rfl (lv_at hl 2 rfl) ?_
  refine lv_iload_n hx hb dX8_gameOf_8 rfl (lv_at hl 0 rfl) ?_
  obtain ⟨s1, hc2, hf⟩ := ok_1 hf
  refine z_callv0 rfl rfl hI (va_runV (As := [.ref (G.1 + g), .int r1]) (rest := []) ⟨hx, hb, hml, hown, hts⟩ (m_X8_findReach G l hg hc2) (cwV 2 hts gX8_gameOf_X8_findReach rfl rfl rfl (by decide +kernel) ⟨Nat.le_of_ble_eq_true rfl, Nat.le_of_ble_eq_true rfl⟩) (z_preV hK hG hI (z_rc (q := 15) (ci := 8) (n := 0) hK hI rfl (by decide) rfl)) rfl rfl hl.1 rfl (lv_room (Nat.le_of_ble_eq_true rfl)) dX8_gameOf_9 ⟨Nat.zero_le _, Nat.zero_le _⟩) (fun H locs hI => ?_)
  refine lv_aload_n hx hb dX8_gameOf_12 rfl (lv_at hl 1 rfl) ?_
  refine z_get (C := RX8) (T := TX8) (N := 16) (ci := 8) (v := .ref (G.1 + 19)) hx hb hts i_X8_gameOf_8 hown hK hI 15 rfl (by decide) rfl 4 (by decide) (hts (.fieldLink RX8 22 "FenceYards$Seer" "afterDay" "[I") (by decide +kernel)) (fun _ h9 => h9) rfl dX8_gameOf_13 ?_
  refine lv_iconst (v := 0) hx hb dX8_gameOf_16 (by decide) ?_
  obtain ⟨s2, hc3, hf⟩ := ok_1 hf
  refine z_callv0 rfl rfl hI (va_runS (As := [.ref (G.1 + 19), .int 0]) (rest := []) ⟨hx, hb, hml, hown, hts⟩ (m_fill G l rfl hc3) (va_cwS 2 hts gX8_gameOf_J7_fill_53178 rfl rfl rfl (by decide +kernel) ⟨Nat.le_of_ble_eq_true rfl, Nat.le_of_ble_eq_true rfl⟩) (z_pre hK hG hI) rfl rfl hl.1 rfl (lv_room (Nat.le_of_ble_eq_true rfl)) dX8_gameOf_17 ⟨Nat.zero_le _, Nat.zero_le _⟩) (fun H locs hI => ?_)
  refine lv_aload_n hx hb dX8_gameOf_20 rfl (lv_at hl 2 rfl) ?_
  refine z_getN (C := RX4) (T := TX4) (N := 11) (ci := 4) (v := .int (gI s2 g 10)) hx hb hts i_X8_gameOf_4 hown hK hI g (kd_G hg) (by decide) rfl 10 (by decide) (hG.1.1 ("FenceYards$Seer", 99, "FenceYards$Ground", "today", "I") (by decide +kernel)) (fun _ h9 => h9) rfl dX8_gameOf_21 ?_
  refine lv_iload_n hx hb dX8_gameOf_24 rfl (lv_at hl 0 rfl) ?_
  refine lv_iadd hx hb dX8_gameOf_25 ?_
  refine lv_iconst (v := 1) hx hb dX8_gameOf_26 (by decide) ?_
  refine lv_isub hx hb dX8_gameOf_27 ?_
  refine lv_topi (fun v1 ev1 => ?_)
  have hf := ok_n hf ev1
  refine lv_istore (lv' := [(4, .int v1), (3, .int r1), (0, .ref (G.1 + 15)), (1, .ref (G.1 + g)), (2, .int x2)]) hx hb dX8_gameOf_28 hl (by decide) rfl (fun ls hl => ?_)
  exact w_X8_gameOf_30 hg C0  _ _ _ hf _ _ hI _ (lv_sub hl [2, 3, 0] rfl)

-- ===== FenceYards$Seer.firstMove(LFenceYards$Ground;I)I
set_option maxRecDepth 100000 in
theorem i_X8_firstMove_8 : ∀ w ∈ u_ws RX8 TX8 16, w ∈ wsX8_firstMove := by decide +kernel
def f_X8_firstMove_61 (k28 : Int32 → Option (Int32)) (g : Nat) (σ : Hp) (x3 : Int32) (x4 : Int32) (x5 : Int32) (tx0 : Int32) : Option (Int32) :=
  if tx0 = 0 then (k28 (x5 + 1)) else (chk (inb ((13 * (x3 + x5)) + x4) 169) <| chk (inb ((13 * x3) + x4) 169) <| if (gI σ 21 (((13 * (x3 + x5)) + x4).toNatClampNeg)) = (gI σ 19 (((13 * x3) + x4).toNatClampNeg)) then (some x5) else (k28 (x5 + 1)))
def f_X8_firstMove_28  (g : Nat) (σ : Hp) (x3 : Int32) (x4 : Int32) : Nat → Int32 → Option (Int32)
  | 0, _ => none
  | n + 1, x5 =>
    if 1 < x5 then (some (-1000000)) else (if (x3 + x5) < (gI σ 15 10) then (f_X8_firstMove_61 (f_X8_firstMove_28 g σ x3 x4 n) g σ x3 x4 x5 0) else (if (gI σ 15 11) < (x3 + x5) then (f_X8_firstMove_61 (f_X8_firstMove_28 g σ x3 x4 n) g σ x3 x4 x5 0) else (f_X8_firstMove_61 (f_X8_firstMove_28 g σ x3 x4 n) g σ x3 x4 x5 1)))
def f_X8_firstMove (σ : Hp) (g : Nat) (x2 : Int32) : Option (Int32) :=
  bd1 (f_X4_endOn σ g 0) fun r1 => bd1 (f_X4_endOn σ g 1) fun r2 => bd1 (f_X4_daysOf σ g x2) fun r3 => if 1 ≤ r3 then (f_X8_firstMove_28 g σ r1 r2 fu (-1)) else (some (-1000000))
set_option maxRecDepth 100000 in
set_option maxHeartbeats 4000000 in
theorem w_X8_firstMove_61 {G : GT} {p : Program} {l : Launch} {e : Env} {s : State} {m : MethodId} {args : Array Value} {below : List Frame} {meth : Method} {c : Code} {g : Nat} {r : Int32} {k28 : Int32 → Option (Int32)} {σ : Hp} {x3 : Int32} {x4 : Int32} {x5 : Int32} {tx0 : Int32} (hg : isG g) (C0 : Cx G cX8_firstMove RX8 wsX8_firstMove 7 (some .int) p s m args meth c) (hk28 : ∀ (x5 : Int32), k28 x5 = some r → ∀ (H : Heap) (locs : List Loc), Inv G s σ H locs → ∀ ls : Array Slot, lv_has ls 7 [(0, .ref (G.1 + 15)), (3, .int x3), (4, .int x4), (5, .int x5)] → W p l e (rmk 2 45) s m args below meth c H locs 0 0 (MQ below (QI G σ r) args s (rmk 2 45).cells (rmk 2 45).slots (gA G)) (F0 m 28 ls [])) (hf : f_X8_firstMove_61 k28 g σ x3 x4 x5 tx0 = some r) {H : Heap} {locs : List Loc} (hI : Inv G s σ H locs) {ls : Array Slot} (hl : lv_has ls 7 [(0, .ref (G.1 + 15)), (3, .int x3), (4, .int x4), (5, .int x5)]) : W p l e (rmk 2 45) s m args below meth c H locs 0 0 (MQ below (QI G σ r) args s (rmk 2 45).cells (rmk 2 45).slots (gA G)) (F0 m 61 ls [.int tx0]) := by
  obtain ⟨hx, hb, hr, hml, hown, hts, hlk, hK, hG⟩ := id C0
  unfold f_X8_firstMove_61 at hf
  refine lv_istore (lv' := [(6, .int tx0), (0, .ref (G.1 + 15)), (3, .int x3), (4, .int x4), (5, .int x5)]) hx hb dX8_firstMove_61 hl (by decide) rfl (fun ls hl => ?_)
  refine lv_iload hx hb dX8_firstMove_63 (lv_at hl 0 rfl) ?_
  refine lv_if_eq (tgt := 101) hx hb dX8_firstMove_65 (by decide) (fun c1 => ?_) (fun c1 => ?_)
  · have hf := ok_t c1 hf
    refine lv_iinc (v := x5 + 1) (lv' := [(5, .int (x5 + 1)), (6, .int tx0), (0, .ref (G.1 + 15)), (3, .int x3), (4, .int x4)]) hx hb dX8_firstMove_101 hl (k := 4) rfl rfl (by decide) rfl (fun ls hl => ?_)
    refine lv_goto (tgt := 28) hx hb dX8_firstMove_104 (by decide) ?_
    exact hk28 _ hf _ _ hI _ (lv_sub hl [2, 3, 4, 0] rfl)
  · have hf := ok_f c1 hf
    refine lv_aload_n hx hb dX8_firstMove_68 rfl (lv_at hl 1 rfl) ?_
    refine z_get (C := RX8) (T := TX8) (N := 16) (ci := 8) (v := .ref (G.1 + 21)) hx hb hts i_X8_firstMove_8 hown hK hI 15 rfl (by decide) rfl 6 (by decide) (hts (.fieldLink RX8 28 "FenceYards$Seer" "rightChosen" "[I") (by decide +kernel)) (fun _ h9 => h9) rfl dX8_firstMove_69 ?_
    refine lv_bipush (v := 13) hx hb dX8_firstMove_72 (by decide) ?_
    refine lv_iload_n hx hb dX8_firstMove_74 rfl (lv_at hl 2 rfl) ?_
    refine lv_iload hx hb dX8_firstMove_75 (lv_at hl 4 rfl) ?_
    refine lv_iadd hx hb dX8_firstMove_77 ?_
    refine lv_imul hx hb dX8_firstMove_78 ?_
    refine lv_iload hx hb dX8_firstMove_79 (lv_at hl 3 rfl) ?_
    refine lv_iadd hx hb dX8_firstMove_81 ?_
    obtain ⟨h1, hf⟩ := ok_c hf
    refine z_iald hx hb hK hI 21 (k := ((13 * (x3 + x5)) + x4).toNatClampNeg) rfl h1 rfl dX8_firstMove_82 ?_
    refine lv_aload_n hx hb dX8_firstMove_83 rfl (lv_at hl 1 rfl) ?_
    refine z_get (C := RX8) (T := TX8) (N := 16) (ci := 8) (v := .ref (G.1 + 19)) hx hb hts i_X8_firstMove_8 hown hK hI 15 rfl (by decide) rfl 4 (by decide) (hts (.fieldLink RX8 22 "FenceYards$Seer" "afterDay" "[I") (by decide +kernel)) (fun _ h9 => h9) rfl dX8_firstMove_84 ?_
    refine lv_bipush (v := 13) hx hb dX8_firstMove_87 (by decide) ?_
    refine lv_iload_n hx hb dX8_firstMove_89 rfl (lv_at hl 2 rfl) ?_
    refine lv_imul hx hb dX8_firstMove_90 ?_
    refine lv_iload hx hb dX8_firstMove_91 (lv_at hl 3 rfl) ?_
    refine lv_iadd hx hb dX8_firstMove_93 ?_
    obtain ⟨h2, hf⟩ := ok_c hf
    refine z_iald hx hb hK hI 19 (k := ((13 * x3) + x4).toNatClampNeg) rfl h2 rfl dX8_firstMove_94 ?_
    refine lv_icmp_ne (tgt := 101) hx hb dX8_firstMove_95 (by decide) (fun c2 => ?_) (fun c2 => ?_)
    · have hf := ok_f c2 hf
      refine lv_iinc (v := x5 + 1) (lv' := [(5, .int (x5 + 1)), (6, .int tx0), (0, .ref (G.1 + 15)), (3, .int x3), (4, .int x4)]) hx hb dX8_firstMove_101 hl (k := 4) rfl rfl (by decide) rfl (fun ls hl => ?_)
      refine lv_goto (tgt := 28) hx hb dX8_firstMove_104 (by decide) ?_
      exact hk28 _ hf _ _ hI _ (lv_sub hl [2, 3, 4, 0] rfl)
    · have hf := ok_t c2 hf
      refine lv_iload hx hb dX8_firstMove_98 (lv_at hl 4 rfl) ?_
      cases hf
      exact z_iret hx hb hr hlk hK hG hI dX8_firstMove_100

set_option maxRecDepth 100000 in
set_option maxHeartbeats 4000000 in
theorem w_X8_firstMove_28 {G : GT} {p : Program} {l : Launch} {e : Env} {s : State} {m : MethodId} {args : Array Value} {below : List Frame} {meth : Method} {c : Code} {g : Nat} {r : Int32}  {σ : Hp} {x3 : Int32} {x4 : Int32} (hg : isG g) (C0 : Cx G cX8_firstMove RX8 wsX8_firstMove 7 (some .int) p s m args meth c)  :
    ∀ (n : Nat) (x5 : Int32), f_X8_firstMove_28 g σ x3 x4 n x5 = some r → ∀ (H : Heap) (locs : List Loc), Inv G s σ H locs → ∀ ls : Array Slot, lv_has ls 7 [(0, .ref (G.1 + 15)), (3, .int x3), (4, .int x4), (5, .int x5)] → W p l e (rmk 2 45) s m args below meth c H locs 0 0 (MQ below (QI G σ r) args s (rmk 2 45).cells (rmk 2 45).slots (gA G)) (F0 m 28 ls []) := by
  obtain ⟨hx, hb, hr, hml, hown, hts, hlk, hK, hG⟩ := id C0
  intro n
  induction n with
  | zero =>
    intro x5 hf
    cases hf
  | succ n ih =>
    intro x5 hf H locs hI ls hl
    rw [f_X8_firstMove_28] at hf
    refine lv_iload hx hb dX8_firstMove_28 (lv_at hl 3 rfl) ?_
    refine lv_iconst (v := 1) hx hb dX8_firstMove_30 (by decide) ?_
    refine lv_icmp_gt (tgt := 107) hx hb dX8_firstMove_31 (by decide) (fun c1 => ?_) (fun c1 => ?_)
    · have hf := ok_t c1 hf
      refine lv_ldc (v := (-1000000)) hx hb hown (hts (.constant RX8 128 (-1000000)) (by decide +kernel)) dX8_firstMove_107 ?_
      cases hf
      exact z_iret hx hb hr hlk hK hG hI dX8_firstMove_109
    · have hf := ok_f c1 hf
      refine lv_iload_n hx hb dX8_firstMove_34 rfl (lv_at hl 1 rfl) ?_
      refine lv_iload hx hb dX8_firstMove_35 (lv_at hl 3 rfl) ?_
      refine lv_iadd hx hb dX8_firstMove_37 ?_
      refine lv_aload_n hx hb dX8_firstMove_38 rfl (lv_at hl 0 rfl) ?_
      refine z_get (C := RX8) (T := TX8) (N := 16) (ci := 8) (v := .int (gI σ 15 10)) hx hb hts i_X8_firstMove_8 hown hK hI 15 rfl (by decide) rfl 10 (by decide) (hts (.fieldLink RX8 71 "FenceYards$Seer" "upperFrom" "I") (by decide +kernel)) (fun _ h9 => h9) rfl dX8_firstMove_39 ?_
      refine lv_icmp_lt (tgt := 60) hx hb dX8_firstMove_42 (by decide) (fun c2 => ?_) (fun c2 => ?_)
      · have hf := ok_t c2 hf
        refine lv_iconst (v := 0) hx hb dX8_firstMove_60 (by decide) ?_
        exact w_X8_firstMove_61 hg C0 ih hf hI (lv_sub hl [0, 1, 2, 3] rfl)
      · have hf := ok_f c2 hf
        refine lv_iload_n hx hb dX8_firstMove_45 rfl (lv_at hl 1 rfl) ?_
        refine lv_iload hx hb dX8_firstMove_46 (lv_at hl 3 rfl) ?_
        refine lv_iadd hx hb dX8_firstMove_48 ?_
        refine lv_aload_n hx hb dX8_firstMove_49 rfl (lv_at hl 0 rfl) ?_
        refine z_get (C := RX8) (T := TX8) (N := 16) (ci := 8) (v := .int (gI σ 15 11)) hx hb hts i_X8_firstMove_8 hown hK hI 15 rfl (by decide) rfl 11 (by decide) (hts (.fieldLink RX8 77 "FenceYards$Seer" "upperTo" "I") (by decide +kernel)) (fun _ h9 => h9) rfl dX8_firstMove_50 ?_
        refine lv_icmp_gt (tgt := 60) hx hb dX8_firstMove_53 (by decide) (fun c3 => ?_) (fun c3 => ?_)
        · have hf := ok_t c3 hf
          refine lv_iconst (v := 0) hx hb dX8_firstMove_60 (by decide) ?_
          exact w_X8_firstMove_61 hg C0 ih hf hI (lv_sub hl [0, 1, 2, 3] rfl)
        · have hf := ok_f c3 hf
          refine lv_iconst (v := 1) hx hb dX8_firstMove_56 (by decide) ?_
          refine lv_goto (tgt := 61) hx hb dX8_firstMove_57 (by decide) ?_
          exact w_X8_firstMove_61 hg C0 ih hf hI (lv_sub hl [0, 1, 2, 3] rfl)

set_option maxRecDepth 100000 in
set_option maxHeartbeats 4000000 in
theorem m_X8_firstMove (G : GT) (l : Launch) {σ : Hp} {g : Nat} {x2 : Int32} {r : Int32} (hg : isG g) (hf : f_X8_firstMove σ g x2 = some r) : MetG G l yX8_firstMove wsX8_firstMove (rmk 2 45) σ [.ref (G.1 + 15), .ref (G.1 + g), .int x2] (QI G σ r) := by
  refine met_of (cc := cX8_firstMove) (nL := 7) (ret := (some .int)) (by decide) rfl (Nat.le_of_ble_eq_true rfl) ?_
  intro p e s m below meth c C0 hnm hI ls hl
  obtain ⟨hx, hb, hr, hml, hown, hts, hlk, hK, hG⟩ := id C0
  have hl : lv_has ls 7 [(0, .ref (G.1 + 15)), (1, .ref (G.1 + g)), (2, .int x2)] := hl
  unfold f_X8_firstMove at hf
  refine lv_aload_n hx hb dX8_firstMove_0 rfl (lv_at hl 1 rfl) ?_
  refine lv_iconst (v := 0) hx hb dX8_firstMove_1 (by decide) ?_
  obtain ⟨r1, hc1, hf⟩ := ok_1 hf
  refine z_calli0 rfl rfl hI (va_runVN (As := [.int 0]) (rest := []) ⟨hx, hb, hml, hown, hts⟩ (m_X4_endOn G l hg hc1) ⟨va_cnB (host := "FenceYards") 1 hts gX8_firstMove_X4_endOn_n114 rfl rfl rfl (hG.1.2.1 ("FenceYards$Seer", 114, ⟨"FenceYards$Ground", "endOn", "(I)I"⟩) (by decide +kernel)) (hts (.initialized "FenceYards$Ground") (by decide +kernel)) (by decide +kernel) ⟨Nat.le_of_ble_eq_true rfl, Nat.le_of_ble_eq_true rfl⟩, hts (.instanceMethod yX4_endOn) (by decide +kernel), hts (.selects "FenceYards$Ground" yX4_endOn yX4_endOn) (by decide +kernel)⟩ (z_preV hK hG hI (z_rc (q := g) (ci := 4) (n := 0) hK hI (kd_G hg) (by decide) rfl)) rfl rfl hl.1 rfl (lv_room (Nat.le_of_ble_eq_true rfl)) dX8_firstMove_2 ⟨Nat.zero_le _, Nat.zero_le _⟩) (fun H locs hI => ?_)
  refine lv_istore_n (lv' := [(3, .int r1), (0, .ref (G.1 + 15)), (1, .ref (G.1 + g)), (2, .int x2)]) hx hb dX8_firstMove_5 rfl hl (by decide) rfl (fun ls hl => ?_)
  refine lv_aload_n hx hb dX8_firstMove_6 rfl (lv_at hl 2 rfl) ?_
  refine lv_iconst (v := 1) hx hb dX8_firstMove_7 (by decide) ?_
  obtain ⟨r2, hc2, hf⟩ := ok_1 hf
  refine z_calli0 rfl rfl hI (va_runVN (As := [.int 1]) (rest := []) ⟨hx, hb, hml, hown, hts⟩ (m_X4_endOn G l hg hc2) ⟨va_cnB (host := "FenceYards") 1 hts gX8_firstMove_X4_endOn_n114 rfl rfl rfl (hG.1.2.1 ("FenceYards$Seer", 114, ⟨"FenceYards$Ground", "endOn", "(I)I"⟩) (by decide +kernel)) (hts (.initialized "FenceYards$Ground") (by decide +kernel)) (by decide +kernel) ⟨Nat.le_of_ble_eq_true rfl, Nat.le_of_ble_eq_true rfl⟩, hts (.instanceMethod yX4_endOn) (by decide +kernel), hts (.selects "FenceYards$Ground" yX4_endOn yX4_endOn) (by decide +kernel)⟩ (z_preV hK hG hI (z_rc (q := g) (ci := 4) (n := 0) hK hI (kd_G hg) (by decide) rfl)) rfl rfl hl.1 rfl (lv_room (Nat.le_of_ble_eq_true rfl)) dX8_firstMove_8 ⟨Nat.zero_le _, Nat.zero_le _⟩) (fun H locs hI => ?_)
  refine lv_istore (lv' := [(4, .int r2), (3, .int r1), (0, .ref (G.1 + 15)), (1, .ref (G.1 + g)), (2, .int x2)]) hx hb dX8_firstMove_11 hl (by decide) rfl (fun ls hl => ?_)
  refine lv_aload_n hx hb dX8_firstMove_13 rfl (lv_at hl 3 rfl) ?_
  refine lv_iload_n hx hb dX8_firstMove_14 rfl (lv_at hl 4 rfl) ?_
  obtain ⟨r3, hc3, hf⟩ := ok_1 hf
  refine z_calli0 rfl rfl hI (va_runVN (As := [.int x2]) (rest := []) ⟨hx, hb, hml, hown, hts⟩ (m_X4_daysOf G l hg hc3) ⟨va_cnB (host := "FenceYards") 1 hts gX8_firstMove_X4_daysOf_n86 rfl rfl rfl (hG.1.2.1 ("FenceYards$Seer", 86, ⟨"FenceYards$Ground", "daysOf", "(I)I"⟩) (by decide +kernel)) (hts (.initialized "FenceYards$Ground") (by decide +kernel)) (by decide +kernel) ⟨Nat.le_of_ble_eq_true rfl, Nat.le_of_ble_eq_true rfl⟩, hts (.instanceMethod yX4_daysOf) (by decide +kernel), hts (.selects "FenceYards$Ground" yX4_daysOf yX4_daysOf) (by decide +kernel)⟩ (z_preV hK hG hI (z_rc (q := g) (ci := 4) (n := 0) hK hI (kd_G hg) (by decide) rfl)) rfl rfl hl.1 rfl (lv_room (Nat.le_of_ble_eq_true rfl)) dX8_firstMove_15 ⟨Nat.zero_le _, Nat.zero_le _⟩) (fun H locs hI => ?_)
  refine lv_iconst (v := 1) hx hb dX8_firstMove_18 (by decide) ?_
  refine lv_icmp_ge (tgt := 25) hx hb dX8_firstMove_19 (by decide) (fun c1 => ?_) (fun c1 => ?_)
  · have hf := ok_t c1 hf
    refine lv_iconst (v := (-1)) hx hb dX8_firstMove_25 (by decide) ?_
    refine lv_istore (lv' := [(5, .int (-1)), (4, .int r2), (3, .int r1), (0, .ref (G.1 + 15)), (1, .ref (G.1 + g)), (2, .int x2)]) hx hb dX8_firstMove_26 hl (by decide) rfl (fun ls hl => ?_)
    exact w_X8_firstMove_28 hg C0  _ _ hf _ _ hI _ (lv_sub hl [3, 2, 1, 0] rfl)
  · have hf := ok_f c1 hf
    refine lv_ldc (v := (-1000000)) hx hb hown (hts (.constant RX8 128 (-1000000)) (by decide +kernel)) dX8_firstMove_22 ?_
    cases hf
    exact z_iret hx hb hr hlk hK hG hI dX8_firstMove_24

-- ===== FenceYards$Seer.restingOf(LFenceYards$Ground;I)I
set_option maxRecDepth 100000 in
theorem i_X8_restingOf_4 : ∀ w ∈ u_ws RX4 TX4 11, w ∈ wsX8_restingOf := by decide +kernel
def f_X8_restingOf_12  (g : Nat)  (x4 : Int32) : Nat → Hp → Int32 → Int32 → Option (Hp × Int32)
  | 0, _, _, _ => none
  | n + 1, σ, x3, x5 =>
    if x4 ≤ x5 then (some (σ, x3)) else (bd1 (f_X8_gather σ g ((gI σ g 10) + x5)) fun s1 => bd1 (f_X4_endOn s1 g 0) fun r1 => bd1 (f_X4_endOn s1 g 1) fun r2 => bd1 (f_X8_leftReaps s1 r1 r2) fun r3 => bnd (x3 + r3) fun v1 => f_X8_restingOf_12 g x4 n s1 v1 (x5 + 1))
def f_X8_restingOf (σ : Hp) (g : Nat) (x2 : Int32) : Option (Hp × Int32) :=
  bd1 (f_X4_daysOf σ g x2) fun r1 => f_X8_restingOf_12 g r1 fu σ 0 0
set_option maxRecDepth 100000 in
set_option maxHeartbeats 4000000 in
theorem w_X8_restingOf_12 {G : GT} {p : Program} {l : Launch} {e : Env} {s : State} {m : MethodId} {args : Array Value} {below : List Frame} {meth : Method} {c : Code} {g : Nat} {σ' : Hp} {r : Int32}   {x4 : Int32} (hg : isG g) (C0 : Cx G cX8_restingOf RX8 wsX8_restingOf 6 (some .int) p s m args meth c)  :
    ∀ (n : Nat) (σ : Hp) (x3 : Int32) (x5 : Int32), f_X8_restingOf_12 g x4 n σ x3 x5 = some (σ', r) → ∀ (H : Heap) (locs : List Loc), Inv G s σ H locs → ∀ ls : Array Slot, lv_has ls 6 [(0, .ref (G.1 + 15)), (1, .ref (G.1 + g)), (3, .int x3), (4, .int x4), (5, .int x5)] → W p l e (rmk 3 74) s m args below meth c H locs 0 0 (MQ below (QI G σ' r) args s (rmk 3 74).cells (rmk 3 74).slots (gA G)) (F0 m 12 ls []) := by
  obtain ⟨hx, hb, hr, hml, hown, hts, hlk, hK, hG⟩ := id C0
  intro n
  induction n with
  | zero =>
    intro σ x3 x5 hf
    cases hf
  | succ n ih =>
    intro σ x3 x5 hf H locs hI ls hl
    rw [f_X8_restingOf_12] at hf
    refine lv_iload hx hb dX8_restingOf_12 (lv_at hl 4 rfl) ?_
    refine lv_iload hx hb dX8_restingOf_14 (lv_at hl 3 rfl) ?_
    refine lv_icmp_ge (tgt := 54) hx hb dX8_restingOf_16 (by decide) (fun c1 => ?_) (fun c1 => ?_)
    · have hf := ok_t c1 hf
      refine lv_iload_n hx hb dX8_restingOf_54 rfl (lv_at hl 2 rfl) ?_
      cases hf
      exact z_iret hx hb hr hlk hK hG hI dX8_restingOf_55
    · have hf := ok_f c1 hf
      refine lv_aload_n hx hb dX8_restingOf_19 rfl (lv_at hl 0 rfl) ?_
      refine lv_aload_n hx hb dX8_restingOf_20 rfl (lv_at hl 1 rfl) ?_
      refine lv_aload_n hx hb dX8_restingOf_21 rfl (lv_at hl 1 rfl) ?_
      refine z_getN (C := RX4) (T := TX4) (N := 11) (ci := 4) (v := .int (gI σ g 10)) hx hb hts i_X8_restingOf_4 hown hK hI g (kd_G hg) (by decide) rfl 10 (by decide) (hG.1.1 ("FenceYards$Seer", 99, "FenceYards$Ground", "today", "I") (by decide +kernel)) (fun _ h9 => h9) rfl dX8_restingOf_22 ?_
      refine lv_iload hx hb dX8_restingOf_25 (lv_at hl 4 rfl) ?_
      refine lv_iadd hx hb dX8_restingOf_27 ?_
      obtain ⟨s1, hc1, hf⟩ := ok_1 hf
      refine z_callv0 rfl rfl hI (va_runV (As := [.ref (G.1 + g), .int ((gI σ g 10) + x5)]) (rest := []) ⟨hx, hb, hml, hown, hts⟩ (m_X8_gather G l hg hc1) (cwV 2 hts gX8_restingOf_X8_gather rfl rfl rfl (by decide +kernel) ⟨Nat.le_of_ble_eq_true rfl, Nat.le_of_ble_eq_true rfl⟩) (z_preV hK hG hI (z_rc (q := 15) (ci := 8) (n := 0) hK hI rfl (by decide) rfl)) rfl rfl hl.1 rfl (lv_room (Nat.le_of_ble_eq_true rfl)) dX8_restingOf_28 ⟨Nat.zero_le _, Nat.zero_le _⟩) (fun H locs hI => ?_)
      refine lv_iload_n hx hb dX8_restingOf_31 rfl (lv_at hl 2 rfl) ?_
      refine lv_aload_n hx hb dX8_restingOf_32 rfl (lv_at hl 0 rfl) ?_
      refine lv_aload_n hx hb dX8_restingOf_33 rfl (lv_at hl 1 rfl) ?_
      refine lv_iconst (v := 0) hx hb dX8_restingOf_34 (by decide) ?_
      obtain ⟨r1, hc2, hf⟩ := ok_1 hf
      refine z_calli0 rfl rfl hI (va_runVN (As := [.int 0]) (rest := [.ref (G.1 + 15), .int x3]) ⟨hx, hb, hml, hown, hts⟩ (m_X4_endOn G l hg hc2) ⟨va_cnB (host := "FenceYards") 1 hts gX8_restingOf_X4_endOn_n114 rfl rfl rfl (hG.1.2.1 ("FenceYards$Seer", 114, ⟨"FenceYards$Ground", "endOn", "(I)I"⟩) (by decide +kernel)) (hts (.initialized "FenceYards$Ground") (by decide +kernel)) (by decide +kernel) ⟨Nat.le_of_ble_eq_true rfl, Nat.le_of_ble_eq_true rfl⟩, hts (.instanceMethod yX4_endOn) (by decide +kernel), hts (.selects "FenceYards$Ground" yX4_endOn yX4_endOn) (by decide +kernel)⟩ (z_preV hK hG hI (z_rc (q := g) (ci := 4) (n := 0) hK hI (kd_G hg) (by decide) rfl)) rfl rfl hl.1 rfl (lv_room (Nat.le_of_ble_eq_true rfl)) dX8_restingOf_35 ⟨Nat.zero_le _, Nat.zero_le _⟩) (fun H locs hI => ?_)
      refine lv_aload_n hx hb dX8_restingOf_38 rfl (lv_at hl 1 rfl) ?_
      refine lv_iconst (v := 1) hx hb dX8_restingOf_39 (by decide) ?_
      obtain ⟨r2, hc3, hf⟩ := ok_1 hf
      refine z_calli0 rfl rfl hI (va_runVN (As := [.int 1]) (rest := [.int r1, .ref (G.1 + 15), .int x3]) ⟨hx, hb, hml, hown, hts⟩ (m_X4_endOn G l hg hc3) ⟨va_cnB (host := "FenceYards") 1 hts gX8_restingOf_X4_endOn_n114 rfl rfl rfl (hG.1.2.1 ("FenceYards$Seer", 114, ⟨"FenceYards$Ground", "endOn", "(I)I"⟩) (by decide +kernel)) (hts (.initialized "FenceYards$Ground") (by decide +kernel)) (by decide +kernel) ⟨Nat.le_of_ble_eq_true rfl, Nat.le_of_ble_eq_true rfl⟩, hts (.instanceMethod yX4_endOn) (by decide +kernel), hts (.selects "FenceYards$Ground" yX4_endOn yX4_endOn) (by decide +kernel)⟩ (z_preV hK hG hI (z_rc (q := g) (ci := 4) (n := 0) hK hI (kd_G hg) (by decide) rfl)) rfl rfl hl.1 rfl (lv_room (Nat.le_of_ble_eq_true rfl)) dX8_restingOf_40 ⟨Nat.zero_le _, Nat.zero_le _⟩) (fun H locs hI => ?_)
      obtain ⟨r3, hc4, hf⟩ := ok_1 hf
      refine z_calli0 rfl rfl hI (va_runV (As := [.int r1, .int r2]) (rest := [.int x3]) ⟨hx, hb, hml, hown, hts⟩ (m_X8_leftReaps G l  hc4) (cwV 2 hts gX8_restingOf_X8_leftReaps rfl rfl rfl (by decide +kernel) ⟨Nat.le_of_ble_eq_true rfl, Nat.le_of_ble_eq_true rfl⟩) (z_preV hK hG hI (z_rc (q := 15) (ci := 8) (n := 0) hK hI rfl (by decide) rfl)) rfl rfl hl.1 rfl (lv_room (Nat.le_of_ble_eq_true rfl)) dX8_restingOf_43 ⟨Nat.zero_le _, Nat.zero_le _⟩) (fun H locs hI => ?_)
      refine lv_iadd hx hb dX8_restingOf_46 ?_
      refine lv_topi (fun v1 ev1 => ?_)
      have hf := ok_n hf ev1
      refine lv_istore_n (lv' := [(3, .int v1), (0, .ref (G.1 + 15)), (1, .ref (G.1 + g)), (4, .int x4), (5, .int x5)]) hx hb dX8_restingOf_47 rfl hl (by decide) rfl (fun ls hl => ?_)
      refine lv_iinc (v := x5 + 1) (lv' := [(5, .int (x5 + 1)), (3, .int v1), (0, .ref (G.1 + 15)), (1, .ref (G.1 + g)), (4, .int x4)]) hx hb dX8_restingOf_48 hl (k := 4) rfl rfl (by decide) rfl (fun ls hl => ?_)
      refine lv_goto (tgt := 12) hx hb dX8_restingOf_51 (by decide) ?_
      exact ih _ _ _ hf _ _ hI _ (lv_sub hl [2, 3, 1, 4, 0] rfl)

set_option maxRecDepth 100000 in
set_option maxHeartbeats 4000000 in
theorem m_X8_restingOf (G : GT) (l : Launch) {σ : Hp} {g : Nat} {x2 : Int32} {σ' : Hp} {r : Int32} (hg : isG g) (hf : f_X8_restingOf σ g x2 = some (σ', r)) : MetG G l yX8_restingOf wsX8_restingOf (rmk 3 74) σ [.ref (G.1 + 15), .ref (G.1 + g), .int x2] (QI G σ' r) := by
  refine met_of (cc := cX8_restingOf) (nL := 6) (ret := (some .int)) (by decide) rfl (Nat.le_of_ble_eq_true rfl) ?_
  intro p e s m below meth c C0 hnm hI ls hl
  obtain ⟨hx, hb, hr, hml, hown, hts, hlk, hK, hG⟩ := id C0
  have hl : lv_has ls 6 [(0, .ref (G.1 + 15)), (1, .ref (G.1 + g)), (2, .int x2)] := hl
  unfold f_X8_restingOf at hf
  refine lv_iconst (v := 0) hx hb dX8_restingOf_0 (by decide) ?_
  refine lv_istore_n (lv' := [(3, .int 0), (0, .ref (G.1 + 15)), (1, .ref (G.1 + g)), (2, .int x2)]) hx hb dX8_restingOf_1 rfl hl (by decide) rfl (fun ls hl => ?_)
  refine lv_aload_n hx hb dX8_restingOf_2 rfl (lv_at hl 2 rfl) ?_
  refine lv_iload_n hx hb dX8_restingOf_3 rfl (lv_at hl 3 rfl) ?_
  obtain ⟨r1, hc1, hf⟩ := ok_1 hf
  refine z_calli0 rfl rfl hI (va_runVN (As := [.int x2]) (rest := []) ⟨hx, hb, hml, hown, hts⟩ (m_X4_daysOf G l hg hc1) ⟨va_cnB (host := "FenceYards") 1 hts gX8_restingOf_X4_daysOf_n86 rfl rfl rfl (hG.1.2.1 ("FenceYards$Seer", 86, ⟨"FenceYards$Ground", "daysOf", "(I)I"⟩) (by decide +kernel)) (hts (.initialized "FenceYards$Ground") (by decide +kernel)) (by decide +kernel) ⟨Nat.le_of_ble_eq_true rfl, Nat.le_of_ble_eq_true rfl⟩, hts (.instanceMethod yX4_daysOf) (by decide +kernel), hts (.selects "FenceYards$Ground" yX4_daysOf yX4_daysOf) (by decide +kernel)⟩ (z_preV hK hG hI (z_rc (q := g) (ci := 4) (n := 0) hK hI (kd_G hg) (by decide) rfl)) rfl rfl hl.1 rfl (lv_room (Nat.le_of_ble_eq_true rfl)) dX8_restingOf_4 ⟨Nat.zero_le _, Nat.zero_le _⟩) (fun H locs hI => ?_)
  refine lv_istore (lv' := [(4, .int r1), (3, .int 0), (0, .ref (G.1 + 15)), (1, .ref (G.1 + g)), (2, .int x2)]) hx hb dX8_restingOf_7 hl (by decide) rfl (fun ls hl => ?_)
  refine lv_iconst (v := 0) hx hb dX8_restingOf_9 (by decide) ?_
  refine lv_istore (lv' := [(5, .int 0), (4, .int r1), (3, .int 0), (0, .ref (G.1 + 15)), (1, .ref (G.1 + g)), (2, .int x2)]) hx hb dX8_restingOf_10 hl (by decide) rfl (fun ls hl => ?_)
  exact w_X8_restingOf_12 hg C0  _ _ _ _ hf _ _ hI _ (lv_sub hl [3, 4, 2, 1, 0] rfl)

-- ===== FenceYards$Seer.addGuess(II)V
set_option maxRecDepth 100000 in
theorem i_X8_addGuess_8 : ∀ w ∈ u_ws RX8 TX8 16, w ∈ wsX8_addGuess := by decide +kernel
def f_X8_addGuess (σ : Hp) (x1 : Int32) (x2 : Int32) : Option (Hp) :=
  if (gI σ 15 14) = 0 then (bnd (sI (sI σ 15 15 (((3 * x1) + x2) + 4)) 15 14 ((gI (sI σ 15 15 (((3 * x1) + x2) + 4)) 15 14) + 1)) fun s1 => some s1) else (some (sI σ 15 14 ((gI σ 15 14) + 1)))
set_option maxRecDepth 100000 in
set_option maxHeartbeats 4000000 in
theorem m_X8_addGuess (G : GT) (l : Launch) {σ : Hp} {x1 : Int32} {x2 : Int32} {σ' : Hp}  (hf : f_X8_addGuess σ x1 x2 = some σ') : MetG G l yX8_addGuess wsX8_addGuess (rmk 0 0) σ [.ref (G.1 + 15), .int x1, .int x2] (QV G σ') := by
  refine met_of (cc := cX8_addGuess) (nL := 3) (ret := none) (by decide) rfl (Nat.le_of_ble_eq_true rfl) ?_
  intro p e s m below meth c C0 hnm hI ls hl
  obtain ⟨hx, hb, hr, hml, hown, hts, hlk, hK, hG⟩ := id C0
  have hl : lv_has ls 3 [(0, .ref (G.1 + 15)), (1, .int x1), (2, .int x2)] := hl
  unfold f_X8_addGuess at hf
  refine lv_aload_n hx hb dX8_addGuess_0 rfl (lv_at hl 0 rfl) ?_
  refine z_get (C := RX8) (T := TX8) (N := 16) (ci := 8) (v := .int (gI σ 15 14)) hx hb hts i_X8_addGuess_8 hown hK hI 15 rfl (by decide) rfl 14 (by decide) (hts (.fieldLink RX8 143 "FenceYards$Seer" "guesses" "I") (by decide +kernel)) (fun _ h9 => h9) rfl dX8_addGuess_1 ?_
  refine lv_if_ne (tgt := 18) hx hb dX8_addGuess_4 (by decide) (fun c1 => ?_) (fun c1 => ?_)
  · have hf := ok_f c1 hf
    refine lv_aload_n hx hb dX8_addGuess_18 rfl (lv_at hl 0 rfl) ?_
    refine lv_dup hx hb dX8_addGuess_19 rfl ?_
    refine z_get (C := RX8) (T := TX8) (N := 16) (ci := 8) (v := .int (gI σ 15 14)) hx hb hts i_X8_addGuess_8 hown hK hI 15 rfl (by decide) rfl 14 (by decide) (hts (.fieldLink RX8 143 "FenceYards$Seer" "guesses" "I") (by decide +kernel)) (fun _ h9 => h9) rfl dX8_addGuess_20 ?_
    refine lv_iconst (v := 1) hx hb dX8_addGuess_23 (by decide) ?_
    refine lv_iadd hx hb dX8_addGuess_24 ?_
    refine z_put (C := RX8) (T := TX8) (N := 16) (ci := 8) (ty := .int) (v := .int ((gI σ 15 14) + 1)) hx hb hts i_X8_addGuess_8 tyX8 tyX8_ok nmX8 hown hK hI 15 rfl (by decide) rfl 14 (by decide) (hts (.fieldLink RX8 143 "FenceYards$Seer" "guesses" "I") (by decide +kernel)) (fun _ h9 => h9) rfl (by decide +kernel) rfl rfl (Nat.le_of_ble_eq_true rfl) (set_I hI.2.2.2 rfl (by decide) rfl) rfl hI.2.2.2 dX8_addGuess_25 (fun H locs hI => ?_)
    cases hf
    exact z_vret hx hb hr hlk hK hG hI dX8_addGuess_28
  · have hf := ok_t c1 hf
    refine lv_aload_n hx hb dX8_addGuess_7 rfl (lv_at hl 0 rfl) ?_
    refine lv_iconst (v := 3) hx hb dX8_addGuess_8 (by decide) ?_
    refine lv_iload_n hx hb dX8_addGuess_9 rfl (lv_at hl 1 rfl) ?_
    refine lv_imul hx hb dX8_addGuess_10 ?_
    refine lv_iload_n hx hb dX8_addGuess_11 rfl (lv_at hl 2 rfl) ?_
    refine lv_iadd hx hb dX8_addGuess_12 ?_
    refine lv_iconst (v := 4) hx hb dX8_addGuess_13 (by decide) ?_
    refine lv_iadd hx hb dX8_addGuess_14 ?_
    refine z_put (C := RX8) (T := TX8) (N := 16) (ci := 8) (ty := .int) (v := .int (((3 * x1) + x2) + 4)) hx hb hts i_X8_addGuess_8 tyX8 tyX8_ok nmX8 hown hK hI 15 rfl (by decide) rfl 15 (by decide) (hts (.fieldLink RX8 146 "FenceYards$Seer" "firstGuess" "I") (by decide +kernel)) (fun _ h9 => h9) rfl (by decide +kernel) rfl rfl (Nat.le_of_ble_eq_true rfl) (set_I hI.2.2.2 rfl (by decide) rfl) rfl hI.2.2.2 dX8_addGuess_15 (fun H locs hI => ?_)
    refine lv_aload_n hx hb dX8_addGuess_18 rfl (lv_at hl 0 rfl) ?_
    refine lv_dup hx hb dX8_addGuess_19 rfl ?_
    refine z_get (C := RX8) (T := TX8) (N := 16) (ci := 8) (v := .int (gI (sI σ 15 15 (((3 * x1) + x2) + 4)) 15 14)) hx hb hts i_X8_addGuess_8 hown hK hI 15 rfl (by decide) rfl 14 (by decide) (hts (.fieldLink RX8 143 "FenceYards$Seer" "guesses" "I") (by decide +kernel)) (fun _ h9 => h9) rfl dX8_addGuess_20 ?_
    refine lv_iconst (v := 1) hx hb dX8_addGuess_23 (by decide) ?_
    refine lv_iadd hx hb dX8_addGuess_24 ?_
    refine z_put (C := RX8) (T := TX8) (N := 16) (ci := 8) (ty := .int) (v := .int ((gI (sI σ 15 15 (((3 * x1) + x2) + 4)) 15 14) + 1)) hx hb hts i_X8_addGuess_8 tyX8 tyX8_ok nmX8 hown hK hI 15 rfl (by decide) rfl 14 (by decide) (hts (.fieldLink RX8 143 "FenceYards$Seer" "guesses" "I") (by decide +kernel)) (fun _ h9 => h9) rfl (by decide +kernel) rfl rfl (Nat.le_of_ble_eq_true rfl) (set_I hI.2.2.2 rfl (by decide) rfl) rfl hI.2.2.2 dX8_addGuess_25 (fun H locs hI => ?_)
    obtain ⟨s1, es1⟩ : ∃ z, z = sI (sI σ 15 15 (((3 * x1) + x2) + 4)) 15 14 ((gI (sI σ 15 15 (((3 * x1) + x2) + 4)) 15 14) + 1) := ⟨_, rfl⟩
    have hI : Inv G s s1 H locs := by rw [es1]; exact hI
    have hf := ok_n hf es1
    cases hf
    exact z_vret hx hb hr hlk hK hG hI dX8_addGuess_28

-- ===== FenceYards$Seer.guessMoves(LFenceYards$Ground;II)V
set_option maxRecDepth 100000 in
theorem i_X8_guessMoves_4 : ∀ w ∈ u_ws RX4 TX4 11, w ∈ wsX8_guessMoves := by decide +kernel
set_option maxRecDepth 100000 in
theorem i_X8_guessMoves_8 : ∀ w ∈ u_ws RX8 TX8 16, w ∈ wsX8_guessMoves := by decide +kernel
def f_X8_guessMoves_57 (k42 : Hp → Int32 → Option (Hp)) (g : Nat)  (x2 : Int32) (x3 : Int32) (x4 : Int32) : Nat → Hp → Int32 → Option (Hp)
  | 0, _, _ => none
  | n + 1, σ, x5 =>
    if (gI σ 15 13) < x5 then (k42 σ (x4 + 1)) else (bd1 (f_X8_leftReaps σ x4 x5) fun r1 => if (lg_cmp ((r1.toInt64) * (x3.toInt64)) ((x2.toInt64) * 55440)) = 0 then (bd1 (f_X4_endOn σ g 0) fun r2 => bd1 (f_X4_endOn σ g 1) fun r3 => bd1 (f_X8_addGuess σ (x4 - r2) (x5 - r3)) fun s1 => f_X8_guessMoves_57 k42 g x2 x3 x4 n s1 (x5 + 1)) else (f_X8_guessMoves_57 k42 g x2 x3 x4 n σ (x5 + 1)))
def f_X8_guessMoves_42  (g : Nat)  (x2 : Int32) (x3 : Int32) : Nat → Hp → Int32 → Option (Hp)
  | 0, _, _ => none
  | n + 1, σ, x4 =>
    if (gI σ 15 11) < x4 then (some σ) else (bnd (gI σ 15 12) fun v1 => f_X8_guessMoves_57 (f_X8_guessMoves_42 g x2 x3 n) g x2 x3 x4 fu σ v1)
def f_X8_guessMoves (σ : Hp) (g : Nat) (x2 : Int32) (x3 : Int32) : Option (Hp) :=
  if (gI (sI (sI σ 15 14 0) 15 15 (-1000000)) g 10) < 12 then (bd1 (f_X8_gather (sI (sI σ 15 14 0) 15 15 (-1000000)) g (gI (sI (sI σ 15 14 0) 15 15 (-1000000)) g 10)) fun s1 => bd1 (f_X8_findReach s1 g 1) fun s2 => bnd (gI s2 15 10) fun v1 => f_X8_guessMoves_42 g x2 x3 fu s2 v1) else (some (sI (sI σ 15 14 0) 15 15 (-1000000)))
set_option maxRecDepth 100000 in
set_option maxHeartbeats 4000000 in
theorem w_X8_guessMoves_57 {G : GT} {p : Program} {l : Launch} {e : Env} {s : State} {m : MethodId} {args : Array Value} {below : List Frame} {meth : Method} {c : Code} {g : Nat} {σ' : Hp} {k42 : Hp → Int32 → Option (Hp)}  {x2 : Int32} {x3 : Int32} {x4 : Int32} (hg : isG g) (C0 : Cx G cX8_guessMoves RX8 wsX8_guessMoves 6 none p s m args meth c) (hk42 : ∀ (σ : Hp) (x4 : Int32), k42 σ x4 = some σ' → ∀ (H : Heap) (locs : List Loc), Inv G s σ H locs → ∀ ls : Array Slot, lv_has ls 6 [(0, .ref (G.1 + 15)), (1, .ref (G.1 + g)), (2, .int x2), (3, .int x3), (4, .int x4)] → W p l e (rmk 3 74) s m args below meth c H locs 0 0 (MQ below (QV G σ') args s (rmk 3 74).cells (rmk 3 74).slots (gA G)) (F0 m 42 ls [])) :
    ∀ (n : Nat) (σ : Hp) (x5 : Int32), f_X8_guessMoves_57 k42 g x2 x3 x4 n σ x5 = some σ' → ∀ (H : Heap) (locs : List Loc), Inv G s σ H locs → ∀ ls : Array Slot, lv_has ls 6 [(0, .ref (G.1 + 15)), (1, .ref (G.1 + g)), (2, .int x2), (3, .int x3), (4, .int x4), (5, .int x5)] → W p l e (rmk 3 74) s m args below meth c H locs 0 0 (MQ below (QV G σ') args s (rmk 3 74).cells (rmk 3 74).slots (gA G)) (F0 m 57 ls []) := by
  obtain ⟨hx, hb, hr, hml, hown, hts, hlk, hK, hG⟩ := id C0
  intro n
  induction n with
  | zero =>
    intro σ x5 hf
    cases hf
  | succ n ih =>
    intro σ x5 hf H locs hI ls hl
    rw [f_X8_guessMoves_57] at hf
    refine lv_iload hx hb dX8_guessMoves_57 (lv_at hl 5 rfl) ?_
    refine lv_aload_n hx hb dX8_guessMoves_59 rfl (lv_at hl 0 rfl) ?_
    refine z_get (C := RX8) (T := TX8) (N := 16) (ci := 8) (v := .int (gI σ 15 13)) hx hb hts i_X8_guessMoves_8 hown hK hI 15 rfl (by decide) rfl 13 (by decide) (hts (.fieldLink RX8 83 "FenceYards$Seer" "lowerTo" "I") (by decide +kernel)) (fun _ h9 => h9) rfl dX8_guessMoves_60 ?_
    refine lv_icmp_gt (tgt := 114) hx hb dX8_guessMoves_63 (by decide) (fun c1 => ?_) (fun c1 => ?_)
    · have hf := ok_t c1 hf
      refine lv_iinc (v := x4 + 1) (lv' := [(4, .int (x4 + 1)), (0, .ref (G.1 + 15)), (1, .ref (G.1 + g)), (2, .int x2), (3, .int x3), (5, .int x5)]) hx hb dX8_guessMoves_114 hl (k := 4) rfl rfl (by decide) rfl (fun ls hl => ?_)
      refine lv_goto (tgt := 42) hx hb dX8_guessMoves_117 (by decide) ?_
      exact hk42 _ _ hf _ _ hI _ (lv_sub hl [1, 2, 3, 4, 0] rfl)
    · have hf := ok_f c1 hf
      refine lv_aload_n hx hb dX8_guessMoves_66 rfl (lv_at hl 0 rfl) ?_
      refine lv_iload hx hb dX8_guessMoves_67 (lv_at hl 4 rfl) ?_
      refine lv_iload hx hb dX8_guessMoves_69 (lv_at hl 5 rfl) ?_
      obtain ⟨r1, hc1, hf⟩ := ok_1 hf
      refine z_calli0 rfl rfl hI (va_runV (As := [.int x4, .int x5]) (rest := []) ⟨hx, hb, hml, hown, hts⟩ (m_X8_leftReaps G l  hc1) (cwV 2 hts gX8_guessMoves_X8_leftReaps rfl rfl rfl (by decide +kernel) ⟨Nat.le_of_ble_eq_true rfl, Nat.le_of_ble_eq_true rfl⟩) (z_preV hK hG hI (z_rc (q := 15) (ci := 8) (n := 0) hK hI rfl (by decide) rfl)) rfl rfl hl.1 rfl (lv_room (Nat.le_of_ble_eq_true rfl)) dX8_guessMoves_71 ⟨Nat.zero_le _, Nat.zero_le _⟩) (fun H locs hI => ?_)
      refine lv_i2l hx hb dX8_guessMoves_74 rfl ?_
      refine lv_iload_n hx hb dX8_guessMoves_75 rfl (lv_at hl 3 rfl) ?_
      refine lv_i2l hx hb dX8_guessMoves_76 rfl ?_
      refine lv_lmul hx hb dX8_guessMoves_77 ?_
      refine lv_iload_n hx hb dX8_guessMoves_78 rfl (lv_at hl 2 rfl) ?_
      refine lv_i2l hx hb dX8_guessMoves_79 rfl ?_
      refine lv_ldc2 (v := 55440) hx hb hown (hts (.constantLong RX8 149 55440) (by decide +kernel)) dX8_guessMoves_80 ?_
      refine lv_lmul hx hb dX8_guessMoves_83 ?_
      refine W.lcmp hx hb dX8_guessMoves_84 ?_
      refine lv_if_ne (tgt := 108) hx hb dX8_guessMoves_85 (by decide) (fun c2 => ?_) (fun c2 => ?_)
      · have hf := ok_f c2 hf
        refine lv_iinc (v := x5 + 1) (lv' := [(5, .int (x5 + 1)), (0, .ref (G.1 + 15)), (1, .ref (G.1 + g)), (2, .int x2), (3, .int x3), (4, .int x4)]) hx hb dX8_guessMoves_108 hl (k := 5) rfl rfl (by decide) rfl (fun ls hl => ?_)
        refine lv_goto (tgt := 57) hx hb dX8_guessMoves_111 (by decide) ?_
        exact ih _ _ hf _ _ hI _ (lv_sub hl [1, 2, 3, 4, 5, 0] rfl)
      · have hf := ok_t c2 hf
        refine lv_aload_n hx hb dX8_guessMoves_88 rfl (lv_at hl 0 rfl) ?_
        refine lv_iload hx hb dX8_guessMoves_89 (lv_at hl 4 rfl) ?_
        refine lv_aload_n hx hb dX8_guessMoves_91 rfl (lv_at hl 1 rfl) ?_
        refine lv_iconst (v := 0) hx hb dX8_guessMoves_92 (by decide) ?_
        obtain ⟨r2, hc2, hf⟩ := ok_1 hf
        refine z_calli0 rfl rfl hI (va_runVN (As := [.int 0]) (rest := [.int x4, .ref (G.1 + 15)]) ⟨hx, hb, hml, hown, hts⟩ (m_X4_endOn G l hg hc2) ⟨va_cnB (host := "FenceYards") 1 hts gX8_guessMoves_X4_endOn_n114 rfl rfl rfl (hG.1.2.1 ("FenceYards$Seer", 114, ⟨"FenceYards$Ground", "endOn", "(I)I"⟩) (by decide +kernel)) (hts (.initialized "FenceYards$Ground") (by decide +kernel)) (by decide +kernel) ⟨Nat.le_of_ble_eq_true rfl, Nat.le_of_ble_eq_true rfl⟩, hts (.instanceMethod yX4_endOn) (by decide +kernel), hts (.selects "FenceYards$Ground" yX4_endOn yX4_endOn) (by decide +kernel)⟩ (z_preV hK hG hI (z_rc (q := g) (ci := 4) (n := 0) hK hI (kd_G hg) (by decide) rfl)) rfl rfl hl.1 rfl (lv_room (Nat.le_of_ble_eq_true rfl)) dX8_guessMoves_93 ⟨Nat.zero_le _, Nat.zero_le _⟩) (fun H locs hI => ?_)
        refine lv_isub hx hb dX8_guessMoves_96 ?_
        refine lv_iload hx hb dX8_guessMoves_97 (lv_at hl 5 rfl) ?_
        refine lv_aload_n hx hb dX8_guessMoves_99 rfl (lv_at hl 1 rfl) ?_
        refine lv_iconst (v := 1) hx hb dX8_guessMoves_100 (by decide) ?_
        obtain ⟨r3, hc3, hf⟩ := ok_1 hf
        refine z_calli0 rfl rfl hI (va_runVN (As := [.int 1]) (rest := [.int x5, .int (x4 - r2), .ref (G.1 + 15)]) ⟨hx, hb, hml, hown, hts⟩ (m_X4_endOn G l hg hc3) ⟨va_cnB (host := "FenceYards") 1 hts gX8_guessMoves_X4_endOn_n114 rfl rfl rfl (hG.1.2.1 ("FenceYards$Seer", 114, ⟨"FenceYards$Ground", "endOn", "(I)I"⟩) (by decide +kernel)) (hts (.initialized "FenceYards$Ground") (by decide +kernel)) (by decide +kernel) ⟨Nat.le_of_ble_eq_true rfl, Nat.le_of_ble_eq_true rfl⟩, hts (.instanceMethod yX4_endOn) (by decide +kernel), hts (.selects "FenceYards$Ground" yX4_endOn yX4_endOn) (by decide +kernel)⟩ (z_preV hK hG hI (z_rc (q := g) (ci := 4) (n := 0) hK hI (kd_G hg) (by decide) rfl)) rfl rfl hl.1 rfl (lv_room (Nat.le_of_ble_eq_true rfl)) dX8_guessMoves_101 ⟨Nat.zero_le _, Nat.zero_le _⟩) (fun H locs hI => ?_)
        refine lv_isub hx hb dX8_guessMoves_104 ?_
        obtain ⟨s1, hc4, hf⟩ := ok_1 hf
        refine z_callv0 rfl rfl hI (va_runV (As := [.int (x4 - r2), .int (x5 - r3)]) (rest := []) ⟨hx, hb, hml, hown, hts⟩ (m_X8_addGuess G l  hc4) (cwV 2 hts gX8_guessMoves_X8_addGuess rfl rfl rfl (by decide +kernel) ⟨Nat.le_of_ble_eq_true rfl, Nat.le_of_ble_eq_true rfl⟩) (z_preV hK hG hI (z_rc (q := 15) (ci := 8) (n := 0) hK hI rfl (by decide) rfl)) rfl rfl hl.1 rfl (lv_room (Nat.le_of_ble_eq_true rfl)) dX8_guessMoves_105 ⟨Nat.zero_le _, Nat.zero_le _⟩) (fun H locs hI => ?_)
        refine lv_iinc (v := x5 + 1) (lv' := [(5, .int (x5 + 1)), (0, .ref (G.1 + 15)), (1, .ref (G.1 + g)), (2, .int x2), (3, .int x3), (4, .int x4)]) hx hb dX8_guessMoves_108 hl (k := 5) rfl rfl (by decide) rfl (fun ls hl => ?_)
        refine lv_goto (tgt := 57) hx hb dX8_guessMoves_111 (by decide) ?_
        exact ih _ _ hf _ _ hI _ (lv_sub hl [1, 2, 3, 4, 5, 0] rfl)

set_option maxRecDepth 100000 in
set_option maxHeartbeats 4000000 in
theorem w_X8_guessMoves_42 {G : GT} {p : Program} {l : Launch} {e : Env} {s : State} {m : MethodId} {args : Array Value} {below : List Frame} {meth : Method} {c : Code} {g : Nat} {σ' : Hp}   {x2 : Int32} {x3 : Int32} (hg : isG g) (C0 : Cx G cX8_guessMoves RX8 wsX8_guessMoves 6 none p s m args meth c)  :
    ∀ (n : Nat) (σ : Hp) (x4 : Int32), f_X8_guessMoves_42 g x2 x3 n σ x4 = some σ' → ∀ (H : Heap) (locs : List Loc), Inv G s σ H locs → ∀ ls : Array Slot, lv_has ls 6 [(0, .ref (G.1 + 15)), (1, .ref (G.1 + g)), (2, .int x2), (3, .int x3), (4, .int x4)] → W p l e (rmk 3 74) s m args below meth c H locs 0 0 (MQ below (QV G σ') args s (rmk 3 74).cells (rmk 3 74).slots (gA G)) (F0 m 42 ls []) := by
  obtain ⟨hx, hb, hr, hml, hown, hts, hlk, hK, hG⟩ := id C0
  intro n
  induction n with
  | zero =>
    intro σ x4 hf
    cases hf
  | succ n ih =>
    intro σ x4 hf H locs hI ls hl
    rw [f_X8_guessMoves_42] at hf
    refine lv_iload hx hb dX8_guessMoves_42 (lv_at hl 4 rfl) ?_
    refine lv_aload_n hx hb dX8_guessMoves_44 rfl (lv_at hl 0 rfl) ?_
    refine z_get (C := RX8) (T := TX8) (N := 16) (ci := 8) (v := .int (gI σ 15 11)) hx hb hts i_X8_guessMoves_8 hown hK hI 15 rfl (by decide) rfl 11 (by decide) (hts (.fieldLink RX8 77 "FenceYards$Seer" "upperTo" "I") (by decide +kernel)) (fun _ h9 => h9) rfl dX8_guessMoves_45 ?_
    refine lv_icmp_gt (tgt := 120) hx hb dX8_guessMoves_48 (by decide) (fun c1 => ?_) (fun c1 => ?_)
    · have hf := ok_t c1 hf
      cases hf
      exact z_vret hx hb hr hlk hK hG hI dX8_guessMoves_120
    · have hf := ok_f c1 hf
      refine lv_aload_n hx hb dX8_guessMoves_51 rfl (lv_at hl 0 rfl) ?_
      refine z_get (C := RX8) (T := TX8) (N := 16) (ci := 8) (v := .int (gI σ 15 12)) hx hb hts i_X8_guessMoves_8 hown hK hI 15 rfl (by decide) rfl 12 (by decide) (hts (.fieldLink RX8 80 "FenceYards$Seer" "lowerFrom" "I") (by decide +kernel)) (fun _ h9 => h9) rfl dX8_guessMoves_52 ?_
      refine lv_topi (fun v1 ev1 => ?_)
      have hf := ok_n hf ev1
      refine lv_istore (lv' := [(5, .int v1), (0, .ref (G.1 + 15)), (1, .ref (G.1 + g)), (2, .int x2), (3, .int x3), (4, .int x4)]) hx hb dX8_guessMoves_55 hl (by decide) rfl (fun ls hl => ?_)
      exact w_X8_guessMoves_57 hg C0 ih _ _ _ hf _ _ hI _ (lv_sub hl [1, 2, 3, 4, 5, 0] rfl)

set_option maxRecDepth 100000 in
set_option maxHeartbeats 4000000 in
theorem m_X8_guessMoves (G : GT) (l : Launch) {σ : Hp} {g : Nat} {x2 : Int32} {x3 : Int32} {σ' : Hp} (hg : isG g) (hf : f_X8_guessMoves σ g x2 x3 = some σ') : MetG G l yX8_guessMoves wsX8_guessMoves (rmk 3 74) σ [.ref (G.1 + 15), .ref (G.1 + g), .int x2, .int x3] (QV G σ') := by
  refine met_of (cc := cX8_guessMoves) (nL := 6) (ret := none) (by decide) rfl (Nat.le_of_ble_eq_true rfl) ?_
  intro p e s m below meth c C0 hnm hI ls hl
  obtain ⟨hx, hb, hr, hml, hown, hts, hlk, hK, hG⟩ := id C0
  have hl : lv_has ls 6 [(0, .ref (G.1 + 15)), (1, .ref (G.1 + g)), (2, .int x2), (3, .int x3)] := hl
  unfold f_X8_guessMoves at hf
  refine lv_aload_n hx hb dX8_guessMoves_0 rfl (lv_at hl 0 rfl) ?_
  refine lv_iconst (v := 0) hx hb dX8_guessMoves_1 (by decide) ?_
  refine z_put (C := RX8) (T := TX8) (N := 16) (ci := 8) (ty := .int) (v := .int 0) hx hb hts i_X8_guessMoves_8 tyX8 tyX8_ok nmX8 hown hK hI 15 rfl (by decide) rfl 14 (by decide) (hts (.fieldLink RX8 143 "FenceYards$Seer" "guesses" "I") (by decide +kernel)) (fun _ h9 => h9) rfl (by decide +kernel) rfl rfl (Nat.le_of_ble_eq_true rfl) (set_I hI.2.2.2 rfl (by decide) rfl) rfl hI.2.2.2 dX8_guessMoves_2 (fun H locs hI => ?_)
  refine lv_aload_n hx hb dX8_guessMoves_5 rfl (lv_at hl 0 rfl) ?_
  refine lv_ldc (v := (-1000000)) hx hb hown (hts (.constant RX8 128 (-1000000)) (by decide +kernel)) dX8_guessMoves_6 ?_
  refine z_put (C := RX8) (T := TX8) (N := 16) (ci := 8) (ty := .int) (v := .int (-1000000)) hx hb hts i_X8_guessMoves_8 tyX8 tyX8_ok nmX8 hown hK hI 15 rfl (by decide) rfl 15 (by decide) (hts (.fieldLink RX8 146 "FenceYards$Seer" "firstGuess" "I") (by decide +kernel)) (fun _ h9 => h9) rfl (by decide +kernel) rfl rfl (Nat.le_of_ble_eq_true rfl) (set_I hI.2.2.2 rfl (by decide) rfl) rfl hI.2.2.2 dX8_guessMoves_8 (fun H locs hI => ?_)
  refine lv_aload_n hx hb dX8_guessMoves_11 rfl (lv_at hl 1 rfl) ?_
  refine z_getN (C := RX4) (T := TX4) (N := 11) (ci := 4) (v := .int (gI (sI (sI σ 15 14 0) 15 15 (-1000000)) g 10)) hx hb hts i_X8_guessMoves_4 hown hK hI g (kd_G hg) (by decide) rfl 10 (by decide) (hG.1.1 ("FenceYards$Seer", 99, "FenceYards$Ground", "today", "I") (by decide +kernel)) (fun _ h9 => h9) rfl dX8_guessMoves_12 ?_
  refine lv_bipush (v := 12) hx hb dX8_guessMoves_15 (by decide) ?_
  refine lv_icmp_lt (tgt := 21) hx hb dX8_guessMoves_17 (by decide) (fun c1 => ?_) (fun c1 => ?_)
  · have hf := ok_t c1 hf
    refine lv_aload_n hx hb dX8_guessMoves_21 rfl (lv_at hl 0 rfl) ?_
    refine lv_aload_n hx hb dX8_guessMoves_22 rfl (lv_at hl 1 rfl) ?_
    refine lv_aload_n hx hb dX8_guessMoves_23 rfl (lv_at hl 1 rfl) ?_
    refine z_getN (C := RX4) (T := TX4) (N := 11) (ci := 4) (v := .int (gI (sI (sI σ 15 14 0) 15 15 (-1000000)) g 10)) hx hb hts i_X8_guessMoves_4 hown hK hI g (kd_G hg) (by decide) rfl 10 (by decide) (hG.1.1 ("FenceYards$Seer", 99, "FenceYards$Ground", "today", "I") (by decide +kernel)) (fun _ h9 => h9) rfl dX8_guessMoves_24 ?_
    obtain ⟨s1, hc1, hf⟩ := ok_1 hf
    refine z_callv0 rfl rfl hI (va_runV (As := [.ref (G.1 + g), .int (gI (sI (sI σ 15 14 0) 15 15 (-1000000)) g 10)]) (rest := []) ⟨hx, hb, hml, hown, hts⟩ (m_X8_gather G l hg hc1) (cwV 2 hts gX8_guessMoves_X8_gather rfl rfl rfl (by decide +kernel) ⟨Nat.le_of_ble_eq_true rfl, Nat.le_of_ble_eq_true rfl⟩) (z_preV hK hG hI (z_rc (q := 15) (ci := 8) (n := 0) hK hI rfl (by decide) rfl)) rfl rfl hl.1 rfl (lv_room (Nat.le_of_ble_eq_true rfl)) dX8_guessMoves_27 ⟨Nat.zero_le _, Nat.zero_le _⟩) (fun H locs hI => ?_)
    refine lv_aload_n hx hb dX8_guessMoves_30 rfl (lv_at hl 0 rfl) ?_
    refine lv_aload_n hx hb dX8_guessMoves_31 rfl (lv_at hl 1 rfl) ?_
    refine lv_iconst (v := 1) hx hb dX8_guessMoves_32 (by decide) ?_
    obtain ⟨s2, hc2, hf⟩ := ok_1 hf
    refine z_callv0 rfl rfl hI (va_runV (As := [.ref (G.1 + g), .int 1]) (rest := []) ⟨hx, hb, hml, hown, hts⟩ (m_X8_findReach G l hg hc2) (cwV 2 hts gX8_guessMoves_X8_findReach rfl rfl rfl (by decide +kernel) ⟨Nat.le_of_ble_eq_true rfl, Nat.le_of_ble_eq_true rfl⟩) (z_preV hK hG hI (z_rc (q := 15) (ci := 8) (n := 0) hK hI rfl (by decide) rfl)) rfl rfl hl.1 rfl (lv_room (Nat.le_of_ble_eq_true rfl)) dX8_guessMoves_33 ⟨Nat.zero_le _, Nat.zero_le _⟩) (fun H locs hI => ?_)
    refine lv_aload_n hx hb dX8_guessMoves_36 rfl (lv_at hl 0 rfl) ?_
    refine z_get (C := RX8) (T := TX8) (N := 16) (ci := 8) (v := .int (gI s2 15 10)) hx hb hts i_X8_guessMoves_8 hown hK hI 15 rfl (by decide) rfl 10 (by decide) (hts (.fieldLink RX8 71 "FenceYards$Seer" "upperFrom" "I") (by decide +kernel)) (fun _ h9 => h9) rfl dX8_guessMoves_37 ?_
    refine lv_topi (fun v1 ev1 => ?_)
    have hf := ok_n hf ev1
    refine lv_istore (lv' := [(4, .int v1), (0, .ref (G.1 + 15)), (1, .ref (G.1 + g)), (2, .int x2), (3, .int x3)]) hx hb dX8_guessMoves_40 hl (by decide) rfl (fun ls hl => ?_)
    exact w_X8_guessMoves_42 hg C0  _ _ _ hf _ _ hI _ (lv_sub hl [1, 2, 3, 4, 0] rfl)
  · have hf := ok_f c1 hf
    cases hf
    exact z_vret hx hb hr hlk hK hG hI dX8_guessMoves_20

