-- ===== FenceYards$Reader.readsInto(LFenceYards$Ground;)Z
set_option maxRecDepth 100000 in
theorem i_X5_readsInto_4 : ∀ w ∈ u_ws RX4 TX4 11, w ∈ wsX5_readsInto := by decide +kernel
set_option maxRecDepth 100000 in
theorem i_X5_readsInto_5 : ∀ w ∈ u_ws RX5 TX5 8, w ∈ wsX5_readsInto := by decide +kernel
def f_X5_readsInto_17  (g : Nat)   : Nat → Hp → Int32 → Int32 → Option (Hp × Int32)
  | 0, _, _, _ => none
  | n + 1, σ, x2, x3 =>
    if 400 ≤ x3 then (chk ((gI (sI σ 13 1 0) g 5) = 0 ∨ (gI (sI σ 13 1 0) g 5) = 1) <| some (sI σ 13 1 0, gI (sI σ 13 1 0) g 5)) else (if x2 = 0 then (chk ((gI (sI σ 13 1 0) g 5) = 0 ∨ (gI (sI σ 13 1 0) g 5) = 1) <| some (sI σ 13 1 0, gI (sI σ 13 1 0) g 5)) else (if (gI σ g 5) = 0 then (bd1 (f_X5_nextToken σ) fun s1 => if (gI s1 13 3) = 0 then (f_X5_readsInto_17 g n (sI s1 g 5 1) x2 (x3 + 1)) else (bd1 (f_X5_isWord s1 1) fun r1 => if r1 = 0 then (bd1 (f_X5_isWord s1 2) fun r2 => if r2 = 0 then (bd2 (f_X5_fail s1 1) fun s2 r3 => f_X5_readsInto_17 g n s2 r3 (x3 + 1)) else (bd2 (f_X5_readStrip s1 g) fun s3 r4 => f_X5_readsInto_17 g n s3 r4 (x3 + 1))) else (if (gI s1 g 6) = 0 then (bd2 (f_X5_readPond s1 g) fun s6 r8 => f_X5_readsInto_17 g n s6 r8 (x3 + 1)) else (bd1 (f_X5_isWord s1 2) fun r5 => if r5 = 0 then (bd2 (f_X5_fail s1 1) fun s4 r6 => f_X5_readsInto_17 g n s4 r6 (x3 + 1)) else (bd2 (f_X5_readStrip s1 g) fun s5 r7 => f_X5_readsInto_17 g n s5 r7 (x3 + 1)))))) else (chk ((gI (sI σ 13 1 0) g 5) = 0 ∨ (gI (sI σ 13 1 0) g 5) = 1) <| some (sI σ 13 1 0, gI (sI σ 13 1 0) g 5))))
def f_X5_readsInto (σ : Hp) (g : Nat) : Option (Hp × Int32) :=
  bd1 (f_X4_begin (sI σ 13 2 0) g) fun s1 => bd2 (f_X5_readFence s1 g) fun s2 r1 => f_X5_readsInto_17 g fu s2 r1 0
set_option maxRecDepth 100000 in
set_option maxHeartbeats 4000000 in
theorem w_X5_readsInto_17 {G : GT} {p : Program} {l : Launch} {e : Env} {s : State} {m : MethodId} {args : Array Value} {below : List Frame} {meth : Method} {c : Code} {g : Nat} {σ' : Hp} {r : Int32}    (hg : isG g) (C0 : Cx G cX5_readsInto RX5 wsX5_readsInto 4 (some .boolean) p s m args meth c)  :
    ∀ (n : Nat) (σ : Hp) (x2 : Int32) (x3 : Int32), f_X5_readsInto_17 g n σ x2 x3 = some (σ', r) → ∀ kc ks : Nat, kc + n ≤ 520 → ks + 3 * n ≤ 1560 → ∀ (H : Heap) (locs : List Loc), Inv G s σ H locs → ∀ ls : Array Slot, lv_has ls 4 [(0, .ref (G.1 + 13)), (1, .ref (G.1 + g)), (2, .int x2), (3, .int x3)] → W p l e (rmc 8 520 1560 216) s m args below meth c H locs kc ks (MQ below (QI G σ' r) args s (rmc 8 520 1560 216).cells (rmc 8 520 1560 216).slots (gA G)) (F0 m 17 ls []) := by
  obtain ⟨hx, hb, hr, hml, hown, hts, hlk, hK, hG⟩ := id C0
  intro n
  induction n with
  | zero =>
    intro σ x2 x3 hf
    cases hf
  | succ n ih =>
    intro σ x2 x3 hf kc ks hkc hks H locs hI ls hl
    rw [f_X5_readsInto_17] at hf
    refine lv_iload_n hx hb dX5_readsInto_17 rfl (lv_at hl 3 rfl) ?_
    refine lv_sipush (v := 400) hx hb dX5_readsInto_18 (by decide) ?_
    refine lv_icmp_ge (tgt := 108) hx hb dX5_readsInto_21 (by decide) (fun c1 => ?_) (fun c1 => ?_)
    · have hf := ok_t c1 hf
      refine lv_aload_n hx hb dX5_readsInto_108 rfl (lv_at hl 0 rfl) ?_
      refine lv_iconst (v := 0) hx hb dX5_readsInto_109 (by decide) ?_
      refine z_put (C := RX5) (T := TX5) (N := 8) (ci := 5) (ty := .int) (v := .int 0) hx hb hts i_X5_readsInto_5 tyX5 tyX5_ok nmX5 hown hK hI 13 rfl (by decide) rfl 1 (by decide) (hts (.fieldLink RX5 15 "FenceYards$Reader" "size" "I") (by decide +kernel)) (fun _ h9 => h9) rfl (by decide +kernel) rfl rfl (Nat.le_of_ble_eq_true rfl) (set_I hI.2.2.2 rfl (by decide) rfl) rfl hI.2.2.2 dX5_readsInto_110 (fun H locs hI => ?_)
      refine lv_aload_n hx hb dX5_readsInto_113 rfl (lv_at hl 1 rfl) ?_
      refine z_getN (C := RX4) (T := TX4) (N := 11) (ci := 4) (v := .int (gI (sI σ 13 1 0) g 5)) hx hb hts i_X5_readsInto_4 hown hK hI g (kd_G hg) (by decide) rfl 5 (by decide) (hG.1.1 ("FenceYards$Reader", 31, "FenceYards$Ground", "stands", "Z") (by decide +kernel)) (fun _ h9 => h9) rfl dX5_readsInto_114 ?_
      obtain ⟨h1, hf⟩ := ok_c hf
      cases hf
      refine W.widen (k := 520) (n := 1560) (show kc ≤ 520 by omega) (show ks ≤ 1560 by omega) ?_
      exact z_zret hx hb hr hlk hK hG hI h1 dX5_readsInto_117
    · have hf := ok_f c1 hf
      refine lv_iload_n hx hb dX5_readsInto_24 rfl (lv_at hl 2 rfl) ?_
      refine lv_if_eq (tgt := 108) hx hb dX5_readsInto_25 (by decide) (fun c2 => ?_) (fun c2 => ?_)
      · have hf := ok_t c2 hf
        refine lv_aload_n hx hb dX5_readsInto_108 rfl (lv_at hl 0 rfl) ?_
        refine lv_iconst (v := 0) hx hb dX5_readsInto_109 (by decide) ?_
        refine z_put (C := RX5) (T := TX5) (N := 8) (ci := 5) (ty := .int) (v := .int 0) hx hb hts i_X5_readsInto_5 tyX5 tyX5_ok nmX5 hown hK hI 13 rfl (by decide) rfl 1 (by decide) (hts (.fieldLink RX5 15 "FenceYards$Reader" "size" "I") (by decide +kernel)) (fun _ h9 => h9) rfl (by decide +kernel) rfl rfl (Nat.le_of_ble_eq_true rfl) (set_I hI.2.2.2 rfl (by decide) rfl) rfl hI.2.2.2 dX5_readsInto_110 (fun H locs hI => ?_)
        refine lv_aload_n hx hb dX5_readsInto_113 rfl (lv_at hl 1 rfl) ?_
        refine z_getN (C := RX4) (T := TX4) (N := 11) (ci := 4) (v := .int (gI (sI σ 13 1 0) g 5)) hx hb hts i_X5_readsInto_4 hown hK hI g (kd_G hg) (by decide) rfl 5 (by decide) (hG.1.1 ("FenceYards$Reader", 31, "FenceYards$Ground", "stands", "Z") (by decide +kernel)) (fun _ h9 => h9) rfl dX5_readsInto_114 ?_
        obtain ⟨h2, hf⟩ := ok_c hf
        cases hf
        refine W.widen (k := 520) (n := 1560) (show kc ≤ 520 by omega) (show ks ≤ 1560 by omega) ?_
        exact z_zret hx hb hr hlk hK hG hI h2 dX5_readsInto_117
      · have hf := ok_f c2 hf
        refine lv_aload_n hx hb dX5_readsInto_28 rfl (lv_at hl 1 rfl) ?_
        refine z_getN (C := RX4) (T := TX4) (N := 11) (ci := 4) (v := .int (gI σ g 5)) hx hb hts i_X5_readsInto_4 hown hK hI g (kd_G hg) (by decide) rfl 5 (by decide) (hG.1.1 ("FenceYards$Reader", 31, "FenceYards$Ground", "stands", "Z") (by decide +kernel)) (fun _ h9 => h9) rfl dX5_readsInto_29 ?_
        refine lv_if_ne (tgt := 108) hx hb dX5_readsInto_32 (by decide) (fun c3 => ?_) (fun c3 => ?_)
        · have hf := ok_f c3 hf
          refine lv_aload_n hx hb dX5_readsInto_108 rfl (lv_at hl 0 rfl) ?_
          refine lv_iconst (v := 0) hx hb dX5_readsInto_109 (by decide) ?_
          refine z_put (C := RX5) (T := TX5) (N := 8) (ci := 5) (ty := .int) (v := .int 0) hx hb hts i_X5_readsInto_5 tyX5 tyX5_ok nmX5 hown hK hI 13 rfl (by decide) rfl 1 (by decide) (hts (.fieldLink RX5 15 "FenceYards$Reader" "size" "I") (by decide +kernel)) (fun _ h9 => h9) rfl (by decide +kernel) rfl rfl (Nat.le_of_ble_eq_true rfl) (set_I hI.2.2.2 rfl (by decide) rfl) rfl hI.2.2.2 dX5_readsInto_110 (fun H locs hI => ?_)
          refine lv_aload_n hx hb dX5_readsInto_113 rfl (lv_at hl 1 rfl) ?_
          refine z_getN (C := RX4) (T := TX4) (N := 11) (ci := 4) (v := .int (gI (sI σ 13 1 0) g 5)) hx hb hts i_X5_readsInto_4 hown hK hI g (kd_G hg) (by decide) rfl 5 (by decide) (hG.1.1 ("FenceYards$Reader", 31, "FenceYards$Ground", "stands", "Z") (by decide +kernel)) (fun _ h9 => h9) rfl dX5_readsInto_114 ?_
          obtain ⟨h3, hf⟩ := ok_c hf
          cases hf
          refine W.widen (k := 520) (n := 1560) (show kc ≤ 520 by omega) (show ks ≤ 1560 by omega) ?_
          exact z_zret hx hb hr hlk hK hG hI h3 dX5_readsInto_117
        · have hf := ok_t c3 hf
          refine lv_aload_n hx hb dX5_readsInto_35 rfl (lv_at hl 0 rfl) ?_
          obtain ⟨s1, hc1, hf⟩ := ok_1 hf
          refine z_callv0 rfl rfl hI (va_runV (As := []) (rest := []) ⟨hx, hb, hml, hown, hts⟩ (m_X5_nextToken G l  hc1) (cwV 0 hts gX5_readsInto_X5_nextToken rfl rfl rfl (by decide +kernel) ⟨Nat.le_of_ble_eq_true rfl, Nat.le_of_ble_eq_true rfl⟩) (z_preV hK hG hI (z_rc (q := 13) (ci := 5) (n := 0) hK hI rfl (by decide) rfl)) rfl rfl hl.1 rfl (lv_room (Nat.le_of_ble_eq_true rfl)) dX5_readsInto_36 ⟨show kc + 0 ≤ 520 by omega, show ks + 0 ≤ 1560 by omega⟩) (fun H locs hI => ?_)
          refine lv_aload_n hx hb dX5_readsInto_39 rfl (lv_at hl 0 rfl) ?_
          refine z_get (C := RX5) (T := TX5) (N := 8) (ci := 5) (v := .int (gI s1 13 3)) hx hb hts i_X5_readsInto_5 hown hK hI 13 rfl (by decide) rfl 3 (by decide) (hts (.fieldLink RX5 38 "FenceYards$Reader" "token" "I") (by decide +kernel)) (fun _ h9 => h9) rfl dX5_readsInto_40 ?_
          refine lv_if_ne (tgt := 54) hx hb dX5_readsInto_43 (by decide) (fun c4 => ?_) (fun c4 => ?_)
          · have hf := ok_f c4 hf
            refine lv_aload_n hx hb dX5_readsInto_54 rfl (lv_at hl 0 rfl) ?_
            refine va_ldcS hx hb hown (hG.2.1 1 (by decide)) dX5_readsInto_55 ?_
            obtain ⟨r1, hc2, hf⟩ := ok_1 hf
            refine z_calli0 rfl rfl hI (va_runV (As := [.ref (G.2.2.2.1 1)]) (rest := []) ⟨hx, hb, hml, hown, hts⟩ (m_X5_isWord G l (by decide) hc2) (cwV 1 hts gX5_readsInto_X5_isWord rfl rfl rfl (by decide +kernel) ⟨Nat.le_of_ble_eq_true rfl, Nat.le_of_ble_eq_true rfl⟩) (z_preV hK hG hI (z_rc (q := 13) (ci := 5) (n := 0) hK hI rfl (by decide) rfl)) rfl rfl hl.1 rfl (lv_room (Nat.le_of_ble_eq_true rfl)) dX5_readsInto_57 ⟨show kc + 0 ≤ 520 by omega, show ks + 0 ≤ 1560 by omega⟩) (fun H locs hI => ?_)
            refine lv_if_eq (tgt := 79) hx hb dX5_readsInto_60 (by decide) (fun c5 => ?_) (fun c5 => ?_)
            · have hf := ok_t c5 hf
              refine lv_aload_n hx hb dX5_readsInto_79 rfl (lv_at hl 0 rfl) ?_
              refine va_ldcS hx hb hown (hG.2.1 2 (by decide)) dX5_readsInto_80 ?_
              obtain ⟨r2, hc3, hf⟩ := ok_1 hf
              refine z_calli0 rfl rfl hI (va_runV (As := [.ref (G.2.2.2.1 2)]) (rest := []) ⟨hx, hb, hml, hown, hts⟩ (m_X5_isWord G l (by decide) hc3) (cwV 1 hts gX5_readsInto_X5_isWord rfl rfl rfl (by decide +kernel) ⟨Nat.le_of_ble_eq_true rfl, Nat.le_of_ble_eq_true rfl⟩) (z_preV hK hG hI (z_rc (q := 13) (ci := 5) (n := 0) hK hI rfl (by decide) rfl)) rfl rfl hl.1 rfl (lv_room (Nat.le_of_ble_eq_true rfl)) dX5_readsInto_82 ⟨show kc + 0 ≤ 520 by omega, show ks + 0 ≤ 1560 by omega⟩) (fun H locs hI => ?_)
              refine lv_if_eq (tgt := 96) hx hb dX5_readsInto_85 (by decide) (fun c6 => ?_) (fun c6 => ?_)
              · have hf := ok_t c6 hf
                refine lv_aload_n hx hb dX5_readsInto_96 rfl (lv_at hl 0 rfl) ?_
                refine lv_iconst (v := 1) hx hb dX5_readsInto_97 (by decide) ?_
                obtain ⟨s2, r3, hc4, hf⟩ := ok_2 hf
                refine z_calli0 rfl rfl hI (va_runV (As := [.int 1]) (rest := []) ⟨hx, hb, hml, hown, hts⟩ (m_X5_fail G l  hc4) (cwV 1 hts gX5_readsInto_X5_fail rfl rfl rfl (by decide +kernel) ⟨Nat.le_of_ble_eq_true rfl, Nat.le_of_ble_eq_true rfl⟩) (z_preV hK hG hI (z_rc (q := 13) (ci := 5) (n := 0) hK hI rfl (by decide) rfl)) rfl rfl hl.1 rfl (lv_room (Nat.le_of_ble_eq_true rfl)) dX5_readsInto_98 ⟨show kc + 0 ≤ 520 by omega, show ks + 0 ≤ 1560 by omega⟩) (fun H locs hI => ?_)
                refine lv_istore_n (lv' := [(2, .int r3), (0, .ref (G.1 + 13)), (1, .ref (G.1 + g)), (3, .int x3)]) hx hb dX5_readsInto_101 rfl hl (by decide) rfl (fun ls hl => ?_)
                refine lv_iinc (v := x3 + 1) (lv' := [(3, .int (x3 + 1)), (2, .int r3), (0, .ref (G.1 + 13)), (1, .ref (G.1 + g))]) hx hb dX5_readsInto_102 hl (k := 3) rfl rfl (by decide) rfl (fun ls hl => ?_)
                refine lv_goto (tgt := 17) hx hb dX5_readsInto_105 (by decide) ?_
                exact ih _ _ _ hf _ _ (by omega) (by omega) _ _ hI _ (lv_sub hl [2, 3, 1, 0] rfl)
              · have hf := ok_f c6 hf
                refine lv_aload_n hx hb dX5_readsInto_88 rfl (lv_at hl 0 rfl) ?_
                refine lv_aload_n hx hb dX5_readsInto_89 rfl (lv_at hl 1 rfl) ?_
                obtain ⟨s3, r4, hc5, hf⟩ := ok_2 hf
                refine z_calli hI (va_runV (As := [.ref (G.1 + g)]) (rest := []) ⟨hx, hb, hml, hown, hts⟩ (m_X5_readStrip G l hg hc5) (cwV 1 hts gX5_readsInto_X5_readStrip rfl rfl rfl (by decide +kernel) ⟨Nat.le_of_ble_eq_true rfl, Nat.le_of_ble_eq_true rfl⟩) (z_preV hK hG hI (z_rc (q := 13) (ci := 5) (n := 0) hK hI rfl (by decide) rfl)) rfl rfl hl.1 rfl (lv_room (Nat.le_of_ble_eq_true rfl)) dX5_readsInto_90 ⟨show kc + 1 ≤ 520 by omega, show ks + 3 ≤ 1560 by omega⟩) (fun H locs hI => ?_)
                refine W.widen (k := kc + 1) (n := ks + 3) (Nat.le_refl _) (Nat.le_refl _) ?_
                refine lv_goto (tgt := 101) hx hb dX5_readsInto_93 (by decide) ?_
                refine lv_istore_n (lv' := [(2, .int r4), (0, .ref (G.1 + 13)), (1, .ref (G.1 + g)), (3, .int x3)]) hx hb dX5_readsInto_101 rfl hl (by decide) rfl (fun ls hl => ?_)
                refine lv_iinc (v := x3 + 1) (lv' := [(3, .int (x3 + 1)), (2, .int r4), (0, .ref (G.1 + 13)), (1, .ref (G.1 + g))]) hx hb dX5_readsInto_102 hl (k := 3) rfl rfl (by decide) rfl (fun ls hl => ?_)
                refine lv_goto (tgt := 17) hx hb dX5_readsInto_105 (by decide) ?_
                exact ih _ _ _ hf _ _ (by omega) (by omega) _ _ hI _ (lv_sub hl [2, 3, 1, 0] rfl)
            · have hf := ok_f c5 hf
              refine lv_aload_n hx hb dX5_readsInto_63 rfl (lv_at hl 1 rfl) ?_
              refine z_getN (C := RX4) (T := TX4) (N := 11) (ci := 4) (v := .int (gI s1 g 6)) hx hb hts i_X5_readsInto_4 hown hK hI g (kd_G hg) (by decide) rfl 6 (by decide) (hG.1.1 ("FenceYards$Reader", 47, "FenceYards$Ground", "told", "I") (by decide +kernel)) (fun _ h9 => h9) rfl dX5_readsInto_64 ?_
              refine lv_if_ne (tgt := 79) hx hb dX5_readsInto_67 (by decide) (fun c7 => ?_) (fun c7 => ?_)
              · have hf := ok_f c7 hf
                refine lv_aload_n hx hb dX5_readsInto_79 rfl (lv_at hl 0 rfl) ?_
                refine va_ldcS hx hb hown (hG.2.1 2 (by decide)) dX5_readsInto_80 ?_
                obtain ⟨r5, hc6, hf⟩ := ok_1 hf
                refine z_calli0 rfl rfl hI (va_runV (As := [.ref (G.2.2.2.1 2)]) (rest := []) ⟨hx, hb, hml, hown, hts⟩ (m_X5_isWord G l (by decide) hc6) (cwV 1 hts gX5_readsInto_X5_isWord rfl rfl rfl (by decide +kernel) ⟨Nat.le_of_ble_eq_true rfl, Nat.le_of_ble_eq_true rfl⟩) (z_preV hK hG hI (z_rc (q := 13) (ci := 5) (n := 0) hK hI rfl (by decide) rfl)) rfl rfl hl.1 rfl (lv_room (Nat.le_of_ble_eq_true rfl)) dX5_readsInto_82 ⟨show kc + 0 ≤ 520 by omega, show ks + 0 ≤ 1560 by omega⟩) (fun H locs hI => ?_)
                refine lv_if_eq (tgt := 96) hx hb dX5_readsInto_85 (by decide) (fun c8 => ?_) (fun c8 => ?_)
                · have hf := ok_t c8 hf
                  refine lv_aload_n hx hb dX5_readsInto_96 rfl (lv_at hl 0 rfl) ?_
                  refine lv_iconst (v := 1) hx hb dX5_readsInto_97 (by decide) ?_
                  obtain ⟨s4, r6, hc7, hf⟩ := ok_2 hf
                  refine z_calli0 rfl rfl hI (va_runV (As := [.int 1]) (rest := []) ⟨hx, hb, hml, hown, hts⟩ (m_X5_fail G l  hc7) (cwV 1 hts gX5_readsInto_X5_fail rfl rfl rfl (by decide +kernel) ⟨Nat.le_of_ble_eq_true rfl, Nat.le_of_ble_eq_true rfl⟩) (z_preV hK hG hI (z_rc (q := 13) (ci := 5) (n := 0) hK hI rfl (by decide) rfl)) rfl rfl hl.1 rfl (lv_room (Nat.le_of_ble_eq_true rfl)) dX5_readsInto_98 ⟨show kc + 0 ≤ 520 by omega, show ks + 0 ≤ 1560 by omega⟩) (fun H locs hI => ?_)
                  refine lv_istore_n (lv' := [(2, .int r6), (0, .ref (G.1 + 13)), (1, .ref (G.1 + g)), (3, .int x3)]) hx hb dX5_readsInto_101 rfl hl (by decide) rfl (fun ls hl => ?_)
                  refine lv_iinc (v := x3 + 1) (lv' := [(3, .int (x3 + 1)), (2, .int r6), (0, .ref (G.1 + 13)), (1, .ref (G.1 + g))]) hx hb dX5_readsInto_102 hl (k := 3) rfl rfl (by decide) rfl (fun ls hl => ?_)
                  refine lv_goto (tgt := 17) hx hb dX5_readsInto_105 (by decide) ?_
                  exact ih _ _ _ hf _ _ (by omega) (by omega) _ _ hI _ (lv_sub hl [2, 3, 1, 0] rfl)
                · have hf := ok_f c8 hf
                  refine lv_aload_n hx hb dX5_readsInto_88 rfl (lv_at hl 0 rfl) ?_
                  refine lv_aload_n hx hb dX5_readsInto_89 rfl (lv_at hl 1 rfl) ?_
                  obtain ⟨s5, r7, hc8, hf⟩ := ok_2 hf
                  refine z_calli hI (va_runV (As := [.ref (G.1 + g)]) (rest := []) ⟨hx, hb, hml, hown, hts⟩ (m_X5_readStrip G l hg hc8) (cwV 1 hts gX5_readsInto_X5_readStrip rfl rfl rfl (by decide +kernel) ⟨Nat.le_of_ble_eq_true rfl, Nat.le_of_ble_eq_true rfl⟩) (z_preV hK hG hI (z_rc (q := 13) (ci := 5) (n := 0) hK hI rfl (by decide) rfl)) rfl rfl hl.1 rfl (lv_room (Nat.le_of_ble_eq_true rfl)) dX5_readsInto_90 ⟨show kc + 1 ≤ 520 by omega, show ks + 3 ≤ 1560 by omega⟩) (fun H locs hI => ?_)
                  refine W.widen (k := kc + 1) (n := ks + 3) (Nat.le_refl _) (Nat.le_refl _) ?_
                  refine lv_goto (tgt := 101) hx hb dX5_readsInto_93 (by decide) ?_
                  refine lv_istore_n (lv' := [(2, .int r7), (0, .ref (G.1 + 13)), (1, .ref (G.1 + g)), (3, .int x3)]) hx hb dX5_readsInto_101 rfl hl (by decide) rfl (fun ls hl => ?_)
                  refine lv_iinc (v := x3 + 1) (lv' := [(3, .int (x3 + 1)), (2, .int r7), (0, .ref (G.1 + 13)), (1, .ref (G.1 + g))]) hx hb dX5_readsInto_102 hl (k := 3) rfl rfl (by decide) rfl (fun ls hl => ?_)
                  refine lv_goto (tgt := 17) hx hb dX5_readsInto_105 (by decide) ?_
                  exact ih _ _ _ hf _ _ (by omega) (by omega) _ _ hI _ (lv_sub hl [2, 3, 1, 0] rfl)
              · have hf := ok_t c7 hf
                refine lv_aload_n hx hb dX5_readsInto_70 rfl (lv_at hl 0 rfl) ?_
                refine lv_aload_n hx hb dX5_readsInto_71 rfl (lv_at hl 1 rfl) ?_
                obtain ⟨s6, r8, hc9, hf⟩ := ok_2 hf
                refine z_calli0 rfl rfl hI (va_runV (As := [.ref (G.1 + g)]) (rest := []) ⟨hx, hb, hml, hown, hts⟩ (m_X5_readPond G l hg hc9) (cwV 1 hts gX5_readsInto_X5_readPond rfl rfl rfl (by decide +kernel) ⟨Nat.le_of_ble_eq_true rfl, Nat.le_of_ble_eq_true rfl⟩) (z_preV hK hG hI (z_rc (q := 13) (ci := 5) (n := 0) hK hI rfl (by decide) rfl)) rfl rfl hl.1 rfl (lv_room (Nat.le_of_ble_eq_true rfl)) dX5_readsInto_72 ⟨show kc + 0 ≤ 520 by omega, show ks + 0 ≤ 1560 by omega⟩) (fun H locs hI => ?_)
                refine lv_istore_n (lv' := [(2, .int r8), (0, .ref (G.1 + 13)), (1, .ref (G.1 + g)), (3, .int x3)]) hx hb dX5_readsInto_75 rfl hl (by decide) rfl (fun ls hl => ?_)
                refine lv_goto (tgt := 102) hx hb dX5_readsInto_76 (by decide) ?_
                refine lv_iinc (v := x3 + 1) (lv' := [(3, .int (x3 + 1)), (2, .int r8), (0, .ref (G.1 + 13)), (1, .ref (G.1 + g))]) hx hb dX5_readsInto_102 hl (k := 3) rfl rfl (by decide) rfl (fun ls hl => ?_)
                refine lv_goto (tgt := 17) hx hb dX5_readsInto_105 (by decide) ?_
                exact ih _ _ _ hf _ _ (by omega) (by omega) _ _ hI _ (lv_sub hl [2, 3, 1, 0] rfl)
          · have hf := ok_t c4 hf
            refine lv_aload_n hx hb dX5_readsInto_46 rfl (lv_at hl 1 rfl) ?_
            refine lv_iconst (v := 1) hx hb dX5_readsInto_47 (by decide) ?_
            refine z_putN (C := RX4) (T := TX4) (N := 11) (ci := 4) (ty := .boolean) (v := .int 1) hx hb hts i_X5_readsInto_4 tyX4 tyX4_ok nmX4 hown hK hI g (kd_G hg) (by decide) rfl 5 (by decide) (hG.1.1 ("FenceYards$Reader", 31, "FenceYards$Ground", "stands", "Z") (by decide +kernel)) (fun _ h9 => h9) rfl (by decide +kernel) rfl rfl (Nat.le_of_ble_eq_true rfl) (set_I hI.2.2.2 (kd_G hg) (by decide) rfl) rfl hI.2.2.2 dX5_readsInto_48 (fun H locs hI => ?_)
            refine lv_goto (tgt := 102) hx hb dX5_readsInto_51 (by decide) ?_
            refine lv_iinc (v := x3 + 1) (lv' := [(3, .int (x3 + 1)), (0, .ref (G.1 + 13)), (1, .ref (G.1 + g)), (2, .int x2)]) hx hb dX5_readsInto_102 hl (k := 3) rfl rfl (by decide) rfl (fun ls hl => ?_)
            refine lv_goto (tgt := 17) hx hb dX5_readsInto_105 (by decide) ?_
            exact ih _ _ _ hf _ _ (by omega) (by omega) _ _ hI _ (lv_sub hl [1, 2, 3, 0] rfl)

set_option maxRecDepth 100000 in
set_option maxHeartbeats 4000000 in
theorem m_X5_readsInto (G : GT) (l : Launch) {σ : Hp} {g : Nat} {σ' : Hp} {r : Int32} (hg : isG g) (hf : f_X5_readsInto σ g = some (σ', r)) : MetG G l yX5_readsInto wsX5_readsInto (rmc 8 520 1560 216) σ [.ref (G.1 + 13), .ref (G.1 + g)] (QI G σ' r) := by
  refine met_of (cc := cX5_readsInto) (nL := 4) (ret := (some .boolean)) (by decide) rfl (Nat.le_of_ble_eq_true rfl) ?_
  intro p e s m below meth c C0 hnm hI ls hl
  obtain ⟨hx, hb, hr, hml, hown, hts, hlk, hK, hG⟩ := id C0
  have hl : lv_has ls 4 [(0, .ref (G.1 + 13)), (1, .ref (G.1 + g))] := hl
  unfold f_X5_readsInto at hf
  refine lv_aload_n hx hb dX5_readsInto_0 rfl (lv_at hl 0 rfl) ?_
  refine lv_iconst (v := 0) hx hb dX5_readsInto_1 (by decide) ?_
  refine z_put (C := RX5) (T := TX5) (N := 8) (ci := 5) (ty := .int) (v := .int 0) hx hb hts i_X5_readsInto_5 tyX5 tyX5_ok nmX5 hown hK hI 13 rfl (by decide) rfl 2 (by decide) (hts (.fieldLink RX5 19 "FenceYards$Reader" "at" "I") (by decide +kernel)) (fun _ h9 => h9) rfl (by decide +kernel) rfl rfl (Nat.le_of_ble_eq_true rfl) (set_I hI.2.2.2 rfl (by decide) rfl) rfl hI.2.2.2 dX5_readsInto_2 (fun H locs hI => ?_)
  refine lv_aload_n hx hb dX5_readsInto_5 rfl (lv_at hl 1 rfl) ?_
  obtain ⟨s1, hc1, hf⟩ := ok_1 hf
  refine z_callv0 rfl rfl hI (va_runVN (As := []) (rest := []) ⟨hx, hb, hml, hown, hts⟩ (m_X4_begin G l hg hc1) ⟨va_cnB (host := "FenceYards") 0 hts gX5_readsInto_X4_begin_n22 rfl rfl rfl (hG.1.2.1 ("FenceYards$Reader", 22, ⟨"FenceYards$Ground", "begin", "()V"⟩) (by decide +kernel)) (hts (.initialized "FenceYards$Ground") (by decide +kernel)) (by decide +kernel) ⟨Nat.le_of_ble_eq_true rfl, Nat.le_of_ble_eq_true rfl⟩, hts (.instanceMethod yX4_begin) (by decide +kernel), hts (.selects "FenceYards$Ground" yX4_begin yX4_begin) (by decide +kernel)⟩ (z_preV hK hG hI (z_rc (q := g) (ci := 4) (n := 0) hK hI (kd_G hg) (by decide) rfl)) rfl rfl hl.1 rfl (lv_room (Nat.le_of_ble_eq_true rfl)) dX5_readsInto_6 ⟨Nat.le_of_ble_eq_true rfl, Nat.le_of_ble_eq_true rfl⟩) (fun H locs hI => ?_)
  refine lv_aload_n hx hb dX5_readsInto_9 rfl (lv_at hl 0 rfl) ?_
  refine lv_aload_n hx hb dX5_readsInto_10 rfl (lv_at hl 1 rfl) ?_
  obtain ⟨s2, r1, hc2, hf⟩ := ok_2 hf
  refine z_calli0 rfl rfl hI (va_runV (As := [.ref (G.1 + g)]) (rest := []) ⟨hx, hb, hml, hown, hts⟩ (m_X5_readFence G l hg hc2) (cwV 1 hts gX5_readsInto_X5_readFence rfl rfl rfl (by decide +kernel) ⟨Nat.le_of_ble_eq_true rfl, Nat.le_of_ble_eq_true rfl⟩) (z_preV hK hG hI (z_rc (q := 13) (ci := 5) (n := 0) hK hI rfl (by decide) rfl)) rfl rfl hl.1 rfl (lv_room (Nat.le_of_ble_eq_true rfl)) dX5_readsInto_11 ⟨Nat.le_of_ble_eq_true rfl, Nat.le_of_ble_eq_true rfl⟩) (fun H locs hI => ?_)
  refine lv_istore_n (lv' := [(2, .int r1), (0, .ref (G.1 + 13)), (1, .ref (G.1 + g))]) hx hb dX5_readsInto_14 rfl hl (by decide) rfl (fun ls hl => ?_)
  refine lv_iconst (v := 0) hx hb dX5_readsInto_15 (by decide) ?_
  refine lv_istore_n (lv' := [(3, .int 0), (2, .int r1), (0, .ref (G.1 + 13)), (1, .ref (G.1 + g))]) hx hb dX5_readsInto_16 rfl hl (by decide) rfl (fun ls hl => ?_)
  exact w_X5_readsInto_17 hg C0  _ _ _ _ hf _ _ (Nat.le_of_ble_eq_true rfl) (Nat.le_of_ble_eq_true rfl) _ _ hI _ (lv_sub hl [2, 3, 1, 0] rfl)

-- ===== FenceYards.ground()I
set_option maxRecDepth 100000 in
theorem i_X11_ground_4 : ∀ w ∈ u_ws RX4 TX4 11, w ∈ wsX11_ground := by decide +kernel
set_option maxRecDepth 100000 in
theorem i_X11_ground_5 : ∀ w ∈ u_ws RX5 TX5 8, w ∈ wsX11_ground := by decide +kernel
set_option maxRecDepth 100000 in
theorem i_X11_ground_10 : ∀ w ∈ u_ws RX11 TX11 9, w ∈ wsX11_ground := by decide +kernel
def f_X11_ground (σ : Hp)  : Option (Hp × Int32) :=
  bd2 (f_X5_readsInto σ (spr σ)) fun s1 r1 => if r1 = 0 then (some (s1, (-1000100) - (gI s1 13 7))) else (some (sR (sR s1 0 6 (some (spr s1))) 0 7 (some (lnd s1)), gI (sR (sR s1 0 6 (some (spr s1))) 0 7 (some (lnd s1))) (lnd (sR (sR s1 0 6 (some (spr s1))) 0 7 (some (lnd s1)))) 6))
set_option maxRecDepth 100000 in
set_option maxHeartbeats 4000000 in
theorem m_X11_ground (G : GT) (l : Launch) {σ : Hp}  {σ' : Hp} {r : Int32}  (hf : f_X11_ground σ = some (σ', r)) : MetG G l yX11_ground wsX11_ground (rmc 9 520 1560 239) σ [.ref (G.1 + 0)] (QI G σ' r) := by
  refine met_of (cc := cX11_ground) (nL := 2) (ret := (some .int)) (by decide) rfl (Nat.le_of_ble_eq_true rfl) ?_
  intro p e s m below meth c C0 hnm hI ls hl
  obtain ⟨hx, hb, hr, hml, hown, hts, hlk, hK, hG⟩ := id C0
  have hl : lv_has ls 2 [(0, .ref (G.1 + 0))] := hl
  unfold f_X11_ground at hf
  refine lv_aload_n hx hb dX11_ground_0 rfl (lv_at hl 0 rfl) ?_
  refine z_get (C := RX11) (T := TX11) (N := 9) (ci := 10) (v := .ref (G.1 + 13)) hx hb hts i_X11_ground_10 hown hK hI 0 rfl (by decide) rfl 1 (by decide) (hts (.fieldLink RX11 19 "FenceYards" "reader" "LFenceYards$Reader;") (by decide +kernel)) (fun _ h9 => h9) rfl dX11_ground_1 ?_
  refine lv_aload_n hx hb dX11_ground_4 rfl (lv_at hl 0 rfl) ?_
  have hg1 : isG (spr σ) := hI.2.2.2.2.2.1
  refine z_get (C := RX11) (T := TX11) (N := 9) (ci := 10) (v := .ref (G.1 + (spr σ))) hx hb hts i_X11_ground_10 hown hK hI 0 rfl (by decide) rfl 7 (by decide) (hts (.fieldLink RX11 50 "FenceYards" "spare" "LFenceYards$Ground;") (by decide +kernel)) (fun _ h9 => h9) rfl dX11_ground_5 ?_
  obtain ⟨s1, r1, hc1, hf⟩ := ok_2 hf
  refine z_calli hI (va_runVN (As := [.ref (G.1 + (spr σ))]) (rest := []) ⟨hx, hb, hml, hown, hts⟩ (m_X5_readsInto G l hg1 hc1) ⟨va_cnB (host := "FenceYards") 1 hts gX11_ground_X5_readsInto_n103 rfl rfl rfl (hG.1.2.1 ("FenceYards", 103, ⟨"FenceYards$Reader", "readsInto", "(LFenceYards$Ground;)Z"⟩) (by decide +kernel)) (hts (.initialized "FenceYards$Reader") (by decide +kernel)) (by decide +kernel) ⟨Nat.le_of_ble_eq_true rfl, Nat.le_of_ble_eq_true rfl⟩, hts (.instanceMethod yX5_readsInto) (by decide +kernel), hts (.selects "FenceYards$Reader" yX5_readsInto yX5_readsInto) (by decide +kernel)⟩ (z_preV hK hG hI (z_rc (q := 13) (ci := 5) (n := 0) hK hI rfl (by decide) rfl)) rfl rfl hl.1 rfl (lv_room (Nat.le_of_ble_eq_true rfl)) dX11_ground_8 ⟨Nat.le_of_ble_eq_true rfl, Nat.le_of_ble_eq_true rfl⟩) (fun H locs hI => ?_)
  refine lv_if_ne (tgt := 25) hx hb dX11_ground_11 (by decide) (fun c1 => ?_) (fun c1 => ?_)
  · have hf := ok_f c1 hf
    refine lv_aload_n hx hb dX11_ground_25 rfl (lv_at hl 0 rfl) ?_
    have hg2 : isG (lnd s1) := hI.2.2.2.2.1
    refine z_get (C := RX11) (T := TX11) (N := 9) (ci := 10) (v := .ref (G.1 + (lnd s1))) hx hb hts i_X11_ground_10 hown hK hI 0 rfl (by decide) rfl 6 (by decide) (hts (.fieldLink RX11 47 "FenceYards" "land" "LFenceYards$Ground;") (by decide +kernel)) (fun _ h9 => h9) rfl dX11_ground_26 ?_
    refine lv_astore_n (lv' := [(1, .ref (G.1 + (lnd s1))), (0, .ref (G.1 + 0))]) hx hb dX11_ground_29 rfl hl (by decide) rfl (fun ls hl => ?_)
    refine lv_aload_n hx hb dX11_ground_30 rfl (lv_at hl 1 rfl) ?_
    refine lv_aload_n hx hb dX11_ground_31 rfl (lv_at hl 1 rfl) ?_
    have hg3 : isG (spr s1) := hI.2.2.2.2.2.1
    refine z_get (C := RX11) (T := TX11) (N := 9) (ci := 10) (v := .ref (G.1 + (spr s1))) hx hb hts i_X11_ground_10 hown hK hI 0 rfl (by decide) rfl 7 (by decide) (hts (.fieldLink RX11 50 "FenceYards" "spare" "LFenceYards$Ground;") (by decide +kernel)) (fun _ h9 => h9) rfl dX11_ground_32 ?_
    refine z_put (C := RX11) (T := TX11) (N := 9) (ci := 10) (ty := (.object "FenceYards$Ground")) (v := .ref (G.1 + (spr s1))) hx hb hts i_X11_ground_10 tyX11 tyX11_ok nmX11 hown hK hI 0 rfl (by decide) rfl 6 (by decide) (hts (.fieldLink RX11 47 "FenceYards" "land" "LFenceYards$Ground;") (by decide +kernel)) (fun _ h9 => h9) rfl (by decide +kernel) (by rfl) (by rfl) (Nat.le_of_ble_eq_true rfl) (set_R hI.2.2.2 rfl (by decide) rfl) rfl (WF_R6 hg3 hI.2.2.2) dX11_ground_35 (fun H locs hI => ?_)
    refine lv_aload_n hx hb dX11_ground_38 rfl (lv_at hl 1 rfl) ?_
    refine lv_aload_n hx hb dX11_ground_39 rfl (lv_at hl 0 rfl) ?_
    refine z_put (C := RX11) (T := TX11) (N := 9) (ci := 10) (ty := (.object "FenceYards$Ground")) (v := .ref (G.1 + (lnd s1))) hx hb hts i_X11_ground_10 tyX11 tyX11_ok nmX11 hown hK hI 0 rfl (by decide) rfl 7 (by decide) (hts (.fieldLink RX11 50 "FenceYards" "spare" "LFenceYards$Ground;") (by decide +kernel)) (fun _ h9 => h9) rfl (by decide +kernel) (by rfl) (by rfl) (Nat.le_of_ble_eq_true rfl) (set_R hI.2.2.2 rfl (by decide) rfl) rfl (WF_R7 hg2 hI.2.2.2) dX11_ground_40 (fun H locs hI => ?_)
    refine lv_aload_n hx hb dX11_ground_43 rfl (lv_at hl 1 rfl) ?_
    have hg4 : isG (lnd (sR (sR s1 0 6 (some (spr s1))) 0 7 (some (lnd s1)))) := hI.2.2.2.2.1
    refine z_get (C := RX11) (T := TX11) (N := 9) (ci := 10) (v := .ref (G.1 + (lnd (sR (sR s1 0 6 (some (spr s1))) 0 7 (some (lnd s1)))))) hx hb hts i_X11_ground_10 hown hK hI 0 rfl (by decide) rfl 6 (by decide) (hts (.fieldLink RX11 47 "FenceYards" "land" "LFenceYards$Ground;") (by decide +kernel)) (fun _ h9 => h9) rfl dX11_ground_44 ?_
    refine z_getN (C := RX4) (T := TX4) (N := 11) (ci := 4) (v := .int (gI (sR (sR s1 0 6 (some (spr s1))) 0 7 (some (lnd s1))) (lnd (sR (sR s1 0 6 (some (spr s1))) 0 7 (some (lnd s1)))) 6)) hx hb hts i_X11_ground_4 hown hK hI (lnd (sR (sR s1 0 6 (some (spr s1))) 0 7 (some (lnd s1)))) (kd_G hg4) (by decide) rfl 6 (by decide) (hG.1.1 ("FenceYards", 111, "FenceYards$Ground", "told", "I") (by decide +kernel)) (fun _ h9 => h9) rfl dX11_ground_47 ?_
    cases hf
    refine W.widen (k := 520) (n := 1560) (Nat.le_of_ble_eq_true rfl) (Nat.le_of_ble_eq_true rfl) ?_
    exact z_iret hx hb hr hlk hK hG hI dX11_ground_50
  · have hf := ok_t c1 hf
    refine lv_ldc (v := (-1000100)) hx hb hown (hts (.constant RX11 107 (-1000100)) (by decide +kernel)) dX11_ground_14 ?_
    refine lv_aload_n hx hb dX11_ground_16 rfl (lv_at hl 0 rfl) ?_
    refine z_get (C := RX11) (T := TX11) (N := 9) (ci := 10) (v := .ref (G.1 + 13)) hx hb hts i_X11_ground_10 hown hK hI 0 rfl (by decide) rfl 1 (by decide) (hts (.fieldLink RX11 19 "FenceYards" "reader" "LFenceYards$Reader;") (by decide +kernel)) (fun _ h9 => h9) rfl dX11_ground_17 ?_
    refine z_getN (C := RX5) (T := TX5) (N := 8) (ci := 5) (v := .int (gI s1 13 7)) hx hb hts i_X11_ground_5 hown hK hI 13 rfl (by decide) rfl 7 (by decide) (hG.1.1 ("FenceYards", 108, "FenceYards$Reader", "faultPlace", "I") (by decide +kernel)) (fun _ h9 => h9) rfl dX11_ground_20 ?_
    refine lv_isub hx hb dX11_ground_23 ?_
    cases hf
    refine W.widen (k := 520) (n := 1560) (Nat.le_of_ble_eq_true rfl) (Nat.le_of_ble_eq_true rfl) ?_
    exact z_iret hx hb hr hlk hK hG hI dX11_ground_24

