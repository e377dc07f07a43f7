-- ===== FenceYardsModel.shareOf(III)I
def f_X12_shareOf_46   (σ : Hp) (x0 : Int32) (x3 : Int32) (x4 : Int32) : Nat → Int32 → Int32 → Option (Int32)
  | 0, _, _ => none
  | n + 1, x5, x6 =>
    if x4 ≤ x6 then (chk (¬ (2 * (x4 - x3)) = 0) <| some (x5 * (55440 / (2 * (x4 - x3))))) else (if x6 ≤ x0 then (if x6 = x0 then (bnd (x5 + 1) fun v2 => f_X12_shareOf_46 σ x0 x3 x4 n v2 (x6 + 1)) else (bnd (x5 + 0) fun v1 => f_X12_shareOf_46 σ x0 x3 x4 n v1 (x6 + 1))) else (bnd (x5 + 2) fun v3 => f_X12_shareOf_46 σ x0 x3 x4 n v3 (x6 + 1)))
def f_X12_shareOf_27   (σ : Hp) (x0 : Int32) (x1 : Int32) (x2 : Int32) (tx0 : Int32) : Option (Int32) :=
  if x2 ≤ x1 then (f_X12_shareOf_46 σ x0 tx0 x1 fu 0 tx0) else (f_X12_shareOf_46 σ x0 tx0 x2 fu 0 tx0)
def f_X12_shareOf (σ : Hp) (x0 : Int32) (x1 : Int32) (x2 : Int32) : Option (Int32) :=
  if x1 = x2 then (if x1 ≤ x0 then (some 0) else (some 55440)) else (if x2 ≤ x1 then (f_X12_shareOf_27 σ x0 x1 x2 x2) else (f_X12_shareOf_27 σ x0 x1 x2 x1))
set_option maxRecDepth 100000 in
set_option maxHeartbeats 4000000 in
theorem w_X12_shareOf_46 {G : GT} {p : Program} {l : Launch} {e : Env} {s : State} {m : MethodId} {args : Array Value} {below : List Frame} {meth : Method} {c : Code}  {r : Int32}  {σ : Hp} {x0 : Int32} {x3 : Int32} {x4 : Int32}  (C0 : Cx G cX12_shareOf RX12 wsX12_shareOf 7 (some .int) p s m args meth c)  :
    ∀ (n : Nat) (x5 : Int32) (x6 : Int32), f_X12_shareOf_46 σ x0 x3 x4 n x5 x6 = some r → ∀ (H : Heap) (locs : List Loc), Inv G s σ H locs → ∀ ls : Array Slot, lv_has ls 7 [(0, .int x0), (3, .int x3), (4, .int x4), (5, .int x5), (6, .int x6)] → W p l e (rmk 0 0) s m args below meth c H locs 0 0 (MQ below (QI G σ r) args s (rmk 0 0).cells (rmk 0 0).slots (gA G)) (F0 m 46 ls []) := by
  obtain ⟨hx, hb, hr, hml, hown, hts, hlk, hK, hG⟩ := id C0
  intro n
  induction n with
  | zero =>
    intro x5 x6 hf
    cases hf
  | succ n ih =>
    intro x5 x6 hf H locs hI ls hl
    rw [f_X12_shareOf_46] at hf
    refine lv_iload hx hb dX12_shareOf_46 (lv_at hl 4 rfl) ?_
    refine lv_iload hx hb dX12_shareOf_48 (lv_at hl 2 rfl) ?_
    refine lv_icmp_ge (tgt := 85) hx hb dX12_shareOf_50 (by decide) (fun c1 => ?_) (fun c1 => ?_)
    · have hf := ok_t c1 hf
      refine lv_iload hx hb dX12_shareOf_85 (lv_at hl 3 rfl) ?_
      refine lv_ldc (v := 55440) hx hb hown (hts (.constant RX12 164 55440) (by decide +kernel)) dX12_shareOf_87 ?_
      refine lv_iconst (v := 2) hx hb dX12_shareOf_89 (by decide) ?_
      refine lv_iload hx hb dX12_shareOf_90 (lv_at hl 2 rfl) ?_
      refine lv_iload_n hx hb dX12_shareOf_92 rfl (lv_at hl 1 rfl) ?_
      refine lv_isub hx hb dX12_shareOf_93 ?_
      refine lv_imul hx hb dX12_shareOf_94 ?_
      obtain ⟨h1, hf⟩ := ok_c hf
      refine lv_idiv hx hb dX12_shareOf_95 h1 ?_
      refine lv_imul hx hb dX12_shareOf_96 ?_
      cases hf
      exact z_iret hx hb hr hlk hK hG hI dX12_shareOf_97
    · have hf := ok_f c1 hf
      refine lv_iload hx hb dX12_shareOf_53 (lv_at hl 3 rfl) ?_
      refine lv_iload hx hb dX12_shareOf_55 (lv_at hl 4 rfl) ?_
      refine lv_iload_n hx hb dX12_shareOf_57 rfl (lv_at hl 0 rfl) ?_
      refine lv_icmp_le (tgt := 65) hx hb dX12_shareOf_58 (by decide) (fun c2 => ?_) (fun c2 => ?_)
      · have hf := ok_t c2 hf
        refine lv_iload hx hb dX12_shareOf_65 (lv_at hl 4 rfl) ?_
        refine lv_iload_n hx hb dX12_shareOf_67 rfl (lv_at hl 0 rfl) ?_
        refine lv_icmp_ne (tgt := 75) hx hb dX12_shareOf_68 (by decide) (fun c3 => ?_) (fun c3 => ?_)
        · have hf := ok_f c3 hf
          refine lv_iconst (v := 0) hx hb dX12_shareOf_75 (by decide) ?_
          refine lv_iadd hx hb dX12_shareOf_76 ?_
          refine lv_topi (fun v1 ev1 => ?_)
          have hf := ok_n hf ev1
          refine lv_istore (lv' := [(5, .int v1), (0, .int x0), (3, .int x3), (4, .int x4), (6, .int x6)]) hx hb dX12_shareOf_77 hl (by decide) rfl (fun ls hl => ?_)
          refine lv_iinc (v := x6 + 1) (lv' := [(6, .int (x6 + 1)), (5, .int v1), (0, .int x0), (3, .int x3), (4, .int x4)]) hx hb dX12_shareOf_79 hl (k := 4) rfl rfl (by decide) rfl (fun ls hl => ?_)
          refine lv_goto (tgt := 46) hx hb dX12_shareOf_82 (by decide) ?_
          exact ih _ _ hf _ _ hI _ (lv_sub hl [2, 3, 4, 1, 0] rfl)
        · have hf := ok_t c3 hf
          refine lv_iconst (v := 1) hx hb dX12_shareOf_71 (by decide) ?_
          refine lv_goto (tgt := 76) hx hb dX12_shareOf_72 (by decide) ?_
          refine lv_iadd hx hb dX12_shareOf_76 ?_
          refine lv_topi (fun v2 ev2 => ?_)
          have hf := ok_n hf ev2
          refine lv_istore (lv' := [(5, .int v2), (0, .int x0), (3, .int x3), (4, .int x4), (6, .int x6)]) hx hb dX12_shareOf_77 hl (by decide) rfl (fun ls hl => ?_)
          refine lv_iinc (v := x6 + 1) (lv' := [(6, .int (x6 + 1)), (5, .int v2), (0, .int x0), (3, .int x3), (4, .int x4)]) hx hb dX12_shareOf_79 hl (k := 4) rfl rfl (by decide) rfl (fun ls hl => ?_)
          refine lv_goto (tgt := 46) hx hb dX12_shareOf_82 (by decide) ?_
          exact ih _ _ hf _ _ hI _ (lv_sub hl [2, 3, 4, 1, 0] rfl)
      · have hf := ok_f c2 hf
        refine lv_iconst (v := 2) hx hb dX12_shareOf_61 (by decide) ?_
        refine lv_goto (tgt := 76) hx hb dX12_shareOf_62 (by decide) ?_
        refine lv_iadd hx hb dX12_shareOf_76 ?_
        refine lv_topi (fun v3 ev3 => ?_)
        have hf := ok_n hf ev3
        refine lv_istore (lv' := [(5, .int v3), (0, .int x0), (3, .int x3), (4, .int x4), (6, .int x6)]) hx hb dX12_shareOf_77 hl (by decide) rfl (fun ls hl => ?_)
        refine lv_iinc (v := x6 + 1) (lv' := [(6, .int (x6 + 1)), (5, .int v3), (0, .int x0), (3, .int x3), (4, .int x4)]) hx hb dX12_shareOf_79 hl (k := 4) rfl rfl (by decide) rfl (fun ls hl => ?_)
        refine lv_goto (tgt := 46) hx hb dX12_shareOf_82 (by decide) ?_
        exact ih _ _ hf _ _ hI _ (lv_sub hl [2, 3, 4, 1, 0] rfl)

set_option maxRecDepth 100000 in
set_option maxHeartbeats 4000000 in
theorem w_X12_shareOf_27 {G : GT} {p : Program} {l : Launch} {e : Env} {s : State} {m : MethodId} {args : Array Value} {below : List Frame} {meth : Method} {c : Code}  {r : Int32}  {σ : Hp} {x0 : Int32} {x1 : Int32} {x2 : Int32} {tx0 : Int32}  (C0 : Cx G cX12_shareOf RX12 wsX12_shareOf 7 (some .int) p s m args meth c)  (hf : f_X12_shareOf_27 σ x0 x1 x2 tx0 = some r) {H : Heap} {locs : List Loc} (hI : Inv G s σ H locs) {ls : Array Slot} (hl : lv_has ls 7 [(0, .int x0), (1, .int x1), (2, .int x2)]) : W p l e (rmk 0 0) s m args below meth c H locs 0 0 (MQ below (QI G σ r) args s (rmk 0 0).cells (rmk 0 0).slots (gA G)) (F0 m 27 ls [.int tx0]) := by
  obtain ⟨hx, hb, hr, hml, hown, hts, hlk, hK, hG⟩ := id C0
  unfold f_X12_shareOf_27 at hf
  refine lv_istore_n (lv' := [(3, .int tx0), (0, .int x0), (1, .int x1), (2, .int x2)]) hx hb dX12_shareOf_27 rfl hl (by decide) rfl (fun ls hl => ?_)
  refine lv_iload_n hx hb dX12_shareOf_28 rfl (lv_at hl 2 rfl) ?_
  refine lv_iload_n hx hb dX12_shareOf_29 rfl (lv_at hl 3 rfl) ?_
  refine lv_icmp_ge (tgt := 37) hx hb dX12_shareOf_30 (by decide) (fun c1 => ?_) (fun c1 => ?_)
  · have hf := ok_t c1 hf
    refine lv_iload_n hx hb dX12_shareOf_37 rfl (lv_at hl 2 rfl) ?_
    refine lv_istore (lv' := [(4, .int x1), (3, .int tx0), (0, .int x0), (1, .int x1), (2, .int x2)]) hx hb dX12_shareOf_38 hl (by decide) rfl (fun ls hl => ?_)
    refine lv_iconst (v := 0) hx hb dX12_shareOf_40 (by decide) ?_
    refine lv_istore (lv' := [(5, .int 0), (4, .int x1), (3, .int tx0), (0, .int x0), (1, .int x1), (2, .int x2)]) hx hb dX12_shareOf_41 hl (by decide) rfl (fun ls hl => ?_)
    refine lv_iload_n hx hb dX12_shareOf_43 rfl (lv_at hl 2 rfl) ?_
    refine lv_istore (lv' := [(6, .int tx0), (5, .int 0), (4, .int x1), (3, .int tx0), (0, .int x0), (1, .int x1), (2, .int x2)]) hx hb dX12_shareOf_44 hl (by decide) rfl (fun ls hl => ?_)
    exact w_X12_shareOf_46  C0  _ _ _ hf _ _ hI _ (lv_sub hl [4, 3, 2, 1, 0] rfl)
  · have hf := ok_f c1 hf
    refine lv_iload_n hx hb dX12_shareOf_33 rfl (lv_at hl 3 rfl) ?_
    refine lv_goto (tgt := 38) hx hb dX12_shareOf_34 (by decide) ?_
    refine lv_istore (lv' := [(4, .int x2), (3, .int tx0), (0, .int x0), (1, .int x1), (2, .int x2)]) hx hb dX12_shareOf_38 hl (by decide) rfl (fun ls hl => ?_)
    refine lv_iconst (v := 0) hx hb dX12_shareOf_40 (by decide) ?_
    refine lv_istore (lv' := [(5, .int 0), (4, .int x2), (3, .int tx0), (0, .int x0), (1, .int x1), (2, .int x2)]) hx hb dX12_shareOf_41 hl (by decide) rfl (fun ls hl => ?_)
    refine lv_iload_n hx hb dX12_shareOf_43 rfl (lv_at hl 2 rfl) ?_
    refine lv_istore (lv' := [(6, .int tx0), (5, .int 0), (4, .int x2), (3, .int tx0), (0, .int x0), (1, .int x1), (2, .int x2)]) hx hb dX12_shareOf_44 hl (by decide) rfl (fun ls hl => ?_)
    exact w_X12_shareOf_46  C0  _ _ _ hf _ _ hI _ (lv_sub hl [4, 3, 2, 1, 0] rfl)

set_option maxRecDepth 100000 in
set_option maxHeartbeats 4000000 in
theorem m_X12_shareOf (G : GT) (l : Launch) {σ : Hp} {x0 : Int32} {x1 : Int32} {x2 : Int32} {r : Int32}  (hf : f_X12_shareOf σ x0 x1 x2 = some r) : MetG G l yX12_shareOf wsX12_shareOf (rmk 0 0) σ [.int x0, .int x1, .int x2] (QI G σ r) := by
  refine met_of (cc := cX12_shareOf) (nL := 7) (ret := (some .int)) (by decide) rfl (Nat.le_of_ble_eq_true rfl) ?_
  intro p e s m below meth c C0 hnm hI ls hl
  obtain ⟨hx, hb, hr, hml, hown, hts, hlk, hK, hG⟩ := id C0
  have hl : lv_has ls 7 [(0, .int x0), (1, .int x1), (2, .int x2)] := hl
  unfold f_X12_shareOf at hf
  refine lv_iload_n hx hb dX12_shareOf_0 rfl (lv_at hl 1 rfl) ?_
  refine lv_iload_n hx hb dX12_shareOf_1 rfl (lv_at hl 2 rfl) ?_
  refine lv_icmp_ne (tgt := 17) hx hb dX12_shareOf_2 (by decide) (fun c1 => ?_) (fun c1 => ?_)
  · have hf := ok_f c1 hf
    refine lv_iload_n hx hb dX12_shareOf_17 rfl (lv_at hl 1 rfl) ?_
    refine lv_iload_n hx hb dX12_shareOf_18 rfl (lv_at hl 2 rfl) ?_
    refine lv_icmp_ge (tgt := 26) hx hb dX12_shareOf_19 (by decide) (fun c2 => ?_) (fun c2 => ?_)
    · have hf := ok_t c2 hf
      refine lv_iload_n hx hb dX12_shareOf_26 rfl (lv_at hl 2 rfl) ?_
      exact w_X12_shareOf_27  C0  hf hI (lv_sub hl [0, 1, 2] rfl)
    · have hf := ok_f c2 hf
      refine lv_iload_n hx hb dX12_shareOf_22 rfl (lv_at hl 1 rfl) ?_
      refine lv_goto (tgt := 27) hx hb dX12_shareOf_23 (by decide) ?_
      exact w_X12_shareOf_27  C0  hf hI (lv_sub hl [0, 1, 2] rfl)
  · have hf := ok_t c1 hf
    refine lv_iload_n hx hb dX12_shareOf_5 rfl (lv_at hl 1 rfl) ?_
    refine lv_iload_n hx hb dX12_shareOf_6 rfl (lv_at hl 0 rfl) ?_
    refine lv_icmp_le (tgt := 15) hx hb dX12_shareOf_7 (by decide) (fun c3 => ?_) (fun c3 => ?_)
    · have hf := ok_t c3 hf
      refine lv_iconst (v := 0) hx hb dX12_shareOf_15 (by decide) ?_
      cases hf
      exact z_iret hx hb hr hlk hK hG hI dX12_shareOf_16
    · have hf := ok_f c3 hf
      refine lv_ldc (v := 55440) hx hb hown (hts (.constant RX12 164 55440) (by decide +kernel)) dX12_shareOf_10 ?_
      refine lv_goto (tgt := 16) hx hb dX12_shareOf_12 (by decide) ?_
      cases hf
      exact z_iret hx hb hr hlk hK hG hI dX12_shareOf_16

-- ===== FenceYardsModel.cropOf(IIII)I
def f_X12_cropOf (σ : Hp) (x0 : Int32) (x1 : Int32) (x2 : Int32) (x3 : Int32) : Option (Int32) :=
  bnd (x3 - x2) fun v1 => if 0 ≤ v1 then (if x0 = 3 then (if 0 ≤ (x1 - (10 * v1)) then (some (x1 - (10 * v1))) else (some 0)) else (if x0 = 4 then (if (v1 - v1 / 3 * 3) = 0 then (some (x1 / 2)) else (some 0)) else (if v1 = 0 then (some x1) else (if v1 = 1 then (if x0 = 5 then (some x1) else (some 0)) else (some 0))))) else (some 0)
set_option maxRecDepth 100000 in
set_option maxHeartbeats 4000000 in
theorem m_X12_cropOf (G : GT) (l : Launch) {σ : Hp} {x0 : Int32} {x1 : Int32} {x2 : Int32} {x3 : Int32} {r : Int32}  (hf : f_X12_cropOf σ x0 x1 x2 x3 = some r) : MetG G l yX12_cropOf wsX12_cropOf (rmk 0 0) σ [.int x0, .int x1, .int x2, .int x3] (QI G σ r) := by
  refine met_of (cc := cX12_cropOf) (nL := 5) (ret := (some .int)) (by decide) rfl (Nat.le_of_ble_eq_true rfl) ?_
  intro p e s m below meth c C0 hnm hI ls hl
  obtain ⟨hx, hb, hr, hml, hown, hts, hlk, hK, hG⟩ := id C0
  have hl : lv_has ls 5 [(0, .int x0), (1, .int x1), (2, .int x2), (3, .int x3)] := hl
  unfold f_X12_cropOf at hf
  refine lv_iload_n hx hb dX12_cropOf_0 rfl (lv_at hl 3 rfl) ?_
  refine lv_iload_n hx hb dX12_cropOf_1 rfl (lv_at hl 2 rfl) ?_
  refine lv_isub hx hb dX12_cropOf_2 ?_
  refine lv_topi (fun v1 ev1 => ?_)
  have hf := ok_n hf ev1
  refine lv_istore (lv' := [(4, .int v1), (0, .int x0), (1, .int x1), (2, .int x2), (3, .int x3)]) hx hb dX12_cropOf_3 hl (by decide) rfl (fun ls hl => ?_)
  refine lv_iload hx hb dX12_cropOf_5 (lv_at hl 0 rfl) ?_
  refine lv_if_ge (tgt := 12) hx hb dX12_cropOf_7 (by decide) (fun c1 => ?_) (fun c1 => ?_)
  · have hf := ok_t c1 hf
    refine lv_iload_n hx hb dX12_cropOf_12 rfl (lv_at hl 1 rfl) ?_
    refine lv_iconst (v := 3) hx hb dX12_cropOf_13 (by decide) ?_
    refine lv_icmp_ne (tgt := 39) hx hb dX12_cropOf_14 (by decide) (fun c2 => ?_) (fun c2 => ?_)
    · have hf := ok_f c2 hf
      refine lv_iload_n hx hb dX12_cropOf_39 rfl (lv_at hl 1 rfl) ?_
      refine lv_iconst (v := 4) hx hb dX12_cropOf_40 (by decide) ?_
      refine lv_icmp_ne (tgt := 59) hx hb dX12_cropOf_41 (by decide) (fun c3 => ?_) (fun c3 => ?_)
      · have hf := ok_f c3 hf
        refine lv_iload hx hb dX12_cropOf_59 (lv_at hl 0 rfl) ?_
        refine lv_if_eq (tgt := 75) hx hb dX12_cropOf_61 (by decide) (fun c4 => ?_) (fun c4 => ?_)
        · have hf := ok_t c4 hf
          refine lv_iload_n hx hb dX12_cropOf_75 rfl (lv_at hl 2 rfl) ?_
          refine lv_goto (tgt := 80) hx hb dX12_cropOf_76 (by decide) ?_
          cases hf
          exact z_iret hx hb hr hlk hK hG hI dX12_cropOf_80
        · have hf := ok_f c4 hf
          refine lv_iload hx hb dX12_cropOf_64 (lv_at hl 0 rfl) ?_
          refine lv_iconst (v := 1) hx hb dX12_cropOf_66 (by decide) ?_
          refine lv_icmp_ne (tgt := 79) hx hb dX12_cropOf_67 (by decide) (fun c5 => ?_) (fun c5 => ?_)
          · have hf := ok_f c5 hf
            refine lv_iconst (v := 0) hx hb dX12_cropOf_79 (by decide) ?_
            cases hf
            exact z_iret hx hb hr hlk hK hG hI dX12_cropOf_80
          · have hf := ok_t c5 hf
            refine lv_iload_n hx hb dX12_cropOf_70 rfl (lv_at hl 1 rfl) ?_
            refine lv_iconst (v := 5) hx hb dX12_cropOf_71 (by decide) ?_
            refine lv_icmp_ne (tgt := 79) hx hb dX12_cropOf_72 (by decide) (fun c6 => ?_) (fun c6 => ?_)
            · have hf := ok_f c6 hf
              refine lv_iconst (v := 0) hx hb dX12_cropOf_79 (by decide) ?_
              cases hf
              exact z_iret hx hb hr hlk hK hG hI dX12_cropOf_80
            · have hf := ok_t c6 hf
              refine lv_iload_n hx hb dX12_cropOf_75 rfl (lv_at hl 2 rfl) ?_
              refine lv_goto (tgt := 80) hx hb dX12_cropOf_76 (by decide) ?_
              cases hf
              exact z_iret hx hb hr hlk hK hG hI dX12_cropOf_80
      · have hf := ok_t c3 hf
        refine lv_iload hx hb dX12_cropOf_44 (lv_at hl 0 rfl) ?_
        refine lv_iconst (v := 3) hx hb dX12_cropOf_46 (by decide) ?_
        refine lv_irem hx hb dX12_cropOf_47 (by decide) ?_
        refine lv_if_ne (tgt := 57) hx hb dX12_cropOf_48 (by decide) (fun c7 => ?_) (fun c7 => ?_)
        · have hf := ok_f c7 hf
          refine lv_iconst (v := 0) hx hb dX12_cropOf_57 (by decide) ?_
          cases hf
          exact z_iret hx hb hr hlk hK hG hI dX12_cropOf_58
        · have hf := ok_t c7 hf
          refine lv_iload_n hx hb dX12_cropOf_51 rfl (lv_at hl 2 rfl) ?_
          refine lv_iconst (v := 2) hx hb dX12_cropOf_52 (by decide) ?_
          refine lv_idiv hx hb dX12_cropOf_53 (by decide) ?_
          refine lv_goto (tgt := 58) hx hb dX12_cropOf_54 (by decide) ?_
          cases hf
          exact z_iret hx hb hr hlk hK hG hI dX12_cropOf_58
    · have hf := ok_t c2 hf
      refine lv_iload_n hx hb dX12_cropOf_17 rfl (lv_at hl 2 rfl) ?_
      refine lv_bipush (v := 10) hx hb dX12_cropOf_18 (by decide) ?_
      refine lv_iload hx hb dX12_cropOf_20 (lv_at hl 0 rfl) ?_
      refine lv_imul hx hb dX12_cropOf_22 ?_
      refine lv_isub hx hb dX12_cropOf_23 ?_
      refine lv_if_ge (tgt := 31) hx hb dX12_cropOf_24 (by decide) (fun c8 => ?_) (fun c8 => ?_)
      · have hf := ok_t c8 hf
        refine lv_iload_n hx hb dX12_cropOf_31 rfl (lv_at hl 2 rfl) ?_
        refine lv_bipush (v := 10) hx hb dX12_cropOf_32 (by decide) ?_
        refine lv_iload hx hb dX12_cropOf_34 (lv_at hl 0 rfl) ?_
        refine lv_imul hx hb dX12_cropOf_36 ?_
        refine lv_isub hx hb dX12_cropOf_37 ?_
        cases hf
        exact z_iret hx hb hr hlk hK hG hI dX12_cropOf_38
      · have hf := ok_f c8 hf
        refine lv_iconst (v := 0) hx hb dX12_cropOf_27 (by decide) ?_
        refine lv_goto (tgt := 38) hx hb dX12_cropOf_28 (by decide) ?_
        cases hf
        exact z_iret hx hb hr hlk hK hG hI dX12_cropOf_38
  · have hf := ok_f c1 hf
    refine lv_iconst (v := 0) hx hb dX12_cropOf_10 (by decide) ?_
    cases hf
    exact z_iret hx hb hr hlk hK hG hI dX12_cropOf_11

-- ===== FenceYardsModel.sown(II)I
set_option maxRecDepth 100000 in
theorem i_X12_sown_11 : ∀ w ∈ u_ws RX12 TX12 26, w ∈ wsX12_sown := by decide +kernel
def f_X12_sown (σ : Hp) (x1 : Int32) (x2 : Int32) : Option (Int32) :=
  chk (inb ((6 + (3 * x1)) + x2) 78) <| some (gI σ 52 (((6 + (3 * x1)) + x2).toNatClampNeg))
set_option maxRecDepth 100000 in
set_option maxHeartbeats 4000000 in
theorem m_X12_sown (G : GT) (l : Launch) {σ : Hp} {x1 : Int32} {x2 : Int32} {r : Int32}  (hf : f_X12_sown σ x1 x2 = some r) : MetG G l yX12_sown wsX12_sown (rmk 0 0) σ [.ref (G.1 + 51), .int x1, .int x2] (QI G σ r) := by
  refine met_of (cc := cX12_sown) (nL := 3) (ret := (some .int)) (by decide) rfl (Nat.le_of_ble_eq_true rfl) ?_
  intro p e s m below meth c C0 hnm hI ls hl
  obtain ⟨hx, hb, hr, hml, hown, hts, hlk, hK, hG⟩ := id C0
  have hl : lv_has ls 3 [(0, .ref (G.1 + 51)), (1, .int x1), (2, .int x2)] := hl
  unfold f_X12_sown at hf
  refine lv_aload_n hx hb dX12_sown_0 rfl (lv_at hl 0 rfl) ?_
  refine z_get (C := RX12) (T := TX12) (N := 26) (ci := 11) (v := .ref (G.1 + 52)) hx hb hts i_X12_sown_11 hown hK hI 51 rfl (by decide) rfl 0 (by decide) (hts (.fieldLink RX12 7 "FenceYardsModel" "st" "[I") (by decide +kernel)) (fun _ h9 => h9) rfl dX12_sown_1 ?_
  refine lv_bipush (v := 6) hx hb dX12_sown_4 (by decide) ?_
  refine lv_iconst (v := 3) hx hb dX12_sown_6 (by decide) ?_
  refine lv_iload_n hx hb dX12_sown_7 rfl (lv_at hl 1 rfl) ?_
  refine lv_imul hx hb dX12_sown_8 ?_
  refine lv_iadd hx hb dX12_sown_9 ?_
  refine lv_iload_n hx hb dX12_sown_10 rfl (lv_at hl 2 rfl) ?_
  refine lv_iadd hx hb dX12_sown_11 ?_
  obtain ⟨h1, hf⟩ := ok_c hf
  refine z_iald hx hb hK hI 52 (k := ((6 + (3 * x1)) + x2).toNatClampNeg) rfl h1 rfl dX12_sown_12 ?_
  cases hf
  exact z_iret hx hb hr hlk hK hG hI dX12_sown_13

-- ===== FenceYardsModel.cropOn(II)I
def f_X12_cropOn (σ : Hp) (x1 : Int32) (x2 : Int32) : Option (Int32) :=
  bd1 (f_X12_sown σ x1 0) fun r1 => bd1 (f_X12_sown σ x1 1) fun r2 => bd1 (f_X12_sown σ x1 2) fun r3 => bd1 (f_X12_cropOf σ r1 r2 r3 x2) fun r4 => some r4
set_option maxRecDepth 100000 in
set_option maxHeartbeats 4000000 in
theorem m_X12_cropOn (G : GT) (l : Launch) {σ : Hp} {x1 : Int32} {x2 : Int32} {r : Int32}  (hf : f_X12_cropOn σ x1 x2 = some r) : MetG G l yX12_cropOn wsX12_cropOn (rmk 1 24) σ [.ref (G.1 + 51), .int x1, .int x2] (QI G σ r) := by
  refine met_of (cc := cX12_cropOn) (nL := 3) (ret := (some .int)) (by decide) rfl (Nat.le_of_ble_eq_true rfl) ?_
  intro p e s m below meth c C0 hnm hI ls hl
  obtain ⟨hx, hb, hr, hml, hown, hts, hlk, hK, hG⟩ := id C0
  have hl : lv_has ls 3 [(0, .ref (G.1 + 51)), (1, .int x1), (2, .int x2)] := hl
  unfold f_X12_cropOn at hf
  refine lv_aload_n hx hb dX12_cropOn_0 rfl (lv_at hl 0 rfl) ?_
  refine lv_iload_n hx hb dX12_cropOn_1 rfl (lv_at hl 1 rfl) ?_
  refine lv_iconst (v := 0) hx hb dX12_cropOn_2 (by decide) ?_
  obtain ⟨r1, hc1, hf⟩ := ok_1 hf
  refine z_calli0 rfl rfl hI (va_runV (As := [.int x1, .int 0]) (rest := []) ⟨hx, hb, hml, hown, hts⟩ (m_X12_sown G l  hc1) (cwV 2 hts gX12_cropOn_X12_sown rfl rfl rfl (by decide +kernel) ⟨Nat.le_of_ble_eq_true rfl, Nat.le_of_ble_eq_true rfl⟩) (z_preV hK hG hI (z_rc (q := 51) (ci := 11) (n := 0) hK hI rfl (by decide) rfl)) rfl rfl hl.1 rfl (lv_room (Nat.le_of_ble_eq_true rfl)) dX12_cropOn_3 ⟨Nat.zero_le _, Nat.zero_le _⟩) (fun H locs hI => ?_)
  refine lv_aload_n hx hb dX12_cropOn_6 rfl (lv_at hl 0 rfl) ?_
  refine lv_iload_n hx hb dX12_cropOn_7 rfl (lv_at hl 1 rfl) ?_
  refine lv_iconst (v := 1) hx hb dX12_cropOn_8 (by decide) ?_
  obtain ⟨r2, hc2, hf⟩ := ok_1 hf
  refine z_calli0 rfl rfl hI (va_runV (As := [.int x1, .int 1]) (rest := [.int r1]) ⟨hx, hb, hml, hown, hts⟩ (m_X12_sown G l  hc2) (cwV 2 hts gX12_cropOn_X12_sown rfl rfl rfl (by decide +kernel) ⟨Nat.le_of_ble_eq_true rfl, Nat.le_of_ble_eq_true rfl⟩) (z_preV hK hG hI (z_rc (q := 51) (ci := 11) (n := 0) hK hI rfl (by decide) rfl)) rfl rfl hl.1 rfl (lv_room (Nat.le_of_ble_eq_true rfl)) dX12_cropOn_9 ⟨Nat.zero_le _, Nat.zero_le _⟩) (fun H locs hI => ?_)
  refine lv_aload_n hx hb dX12_cropOn_12 rfl (lv_at hl 0 rfl) ?_
  refine lv_iload_n hx hb dX12_cropOn_13 rfl (lv_at hl 1 rfl) ?_
  refine lv_iconst (v := 2) hx hb dX12_cropOn_14 (by decide) ?_
  obtain ⟨r3, hc3, hf⟩ := ok_1 hf
  refine z_calli0 rfl rfl hI (va_runV (As := [.int x1, .int 2]) (rest := [.int r2, .int r1]) ⟨hx, hb, hml, hown, hts⟩ (m_X12_sown G l  hc3) (cwV 2 hts gX12_cropOn_X12_sown rfl rfl rfl (by decide +kernel) ⟨Nat.le_of_ble_eq_true rfl, Nat.le_of_ble_eq_true rfl⟩) (z_preV hK hG hI (z_rc (q := 51) (ci := 11) (n := 0) hK hI rfl (by decide) rfl)) rfl rfl hl.1 rfl (lv_room (Nat.le_of_ble_eq_true rfl)) dX12_cropOn_15 ⟨Nat.zero_le _, Nat.zero_le _⟩) (fun H locs hI => ?_)
  refine lv_iload_n hx hb dX12_cropOn_18 rfl (lv_at hl 2 rfl) ?_
  obtain ⟨r4, hc4, hf⟩ := ok_1 hf
  refine z_calli0 rfl rfl hI (va_runS (As := [.int r1, .int r2, .int r3, .int x2]) (rest := []) ⟨hx, hb, hml, hown, hts⟩ (m_X12_cropOf G l  hc4) (va_cwS 4 hts gX12_cropOn_X12_cropOf rfl rfl rfl (by decide +kernel) ⟨Nat.le_of_ble_eq_true rfl, Nat.le_of_ble_eq_true rfl⟩) (z_pre hK hG hI) rfl rfl hl.1 rfl (lv_room (Nat.le_of_ble_eq_true rfl)) dX12_cropOn_19 ⟨Nat.zero_le _, Nat.zero_le _⟩) (fun H locs hI => ?_)
  cases hf
  exact z_iret hx hb hr hlk hK hG hI dX12_cropOn_22

-- ===== FenceYardsModel.gets(III)J
set_option maxRecDepth 100000 in
theorem i_X12_gets_11 : ∀ w ∈ u_ws RX12 TX12 26, w ∈ wsX12_gets := by decide +kernel
def f_X12_gets_52 (k6 : Int64 → Int32 → Option (Int64))  (σ : Hp) (x1 : Int32) (x2 : Int32) (x3 : Int32) (y4 : Int64) (x6 : Int32) (tx0 : Int32) : Option (Int64) :=
  bd1 (f_X12_cropOn σ x6 x1) fun r1 => bnd (y4 + ((r1.toInt64) * (tx0.toInt64))) fun v1 => k6 v1 (x6 + 1)
def f_X12_gets_6   (σ : Hp) (x1 : Int32) (x2 : Int32) (x3 : Int32) : Nat → Int64 → Int32 → Option (Int64)
  | 0, _, _ => none
  | n + 1, y4, x6 =>
    if (gI σ 52 4) ≤ x6 then (some y4) else (bd1 (f_X12_shareOf σ x6 x2 x3) fun r1 => bd1 (f_X12_sown σ x6 0) fun r2 => if r2 = 2 then (if (2 * r1) ≤ 55440 then (f_X12_gets_52 (f_X12_gets_6 σ x1 x2 x3 n) σ x1 x2 x3 y4 x6 0) else (f_X12_gets_52 (f_X12_gets_6 σ x1 x2 x3 n) σ x1 x2 x3 y4 x6 55440)) else (bd1 (f_X12_cropOn σ x6 x1) fun r3 => bnd (y4 + ((r3.toInt64) * (r1.toInt64))) fun v1 => f_X12_gets_6 σ x1 x2 x3 n v1 (x6 + 1)))
def f_X12_gets (σ : Hp) (x1 : Int32) (x2 : Int32) (x3 : Int32) : Option (Int64) :=
  f_X12_gets_6 σ x1 x2 x3 fu 0 0
set_option maxRecDepth 100000 in
set_option maxHeartbeats 4000000 in
theorem w_X12_gets_52 {G : GT} {p : Program} {l : Launch} {e : Env} {s : State} {m : MethodId} {args : Array Value} {below : List Frame} {meth : Method} {c : Code}  {r : Int64} {k6 : Int64 → Int32 → Option (Int64)} {σ : Hp} {x1 : Int32} {x2 : Int32} {x3 : Int32} {y4 : Int64} {x6 : Int32} {tx0 : Int32}  (C0 : Cx G cX12_gets RX12 wsX12_gets 8 (some .long) p s m args meth c) (hk6 : ∀ (y4 : Int64) (x6 : Int32), k6 y4 x6 = some r → ∀ (H : Heap) (locs : List Loc), Inv G s σ H locs → ∀ ls : Array Slot, lv_has ls 8 [(0, .ref (G.1 + 51)), (1, .int x1), (2, .int x2), (3, .int x3), (4, .long y4), (6, .int x6)] → W p l e (rmk 2 46) s m args below meth c H locs 0 0 (MQ below (QL G σ r) args s (rmk 2 46).cells (rmk 2 46).slots (gA G)) (F0 m 6 ls [])) (hf : f_X12_gets_52 k6 σ x1 x2 x3 y4 x6 tx0 = some r) {H : Heap} {locs : List Loc} (hI : Inv G s σ H locs) {ls : Array Slot} (hl : lv_has ls 8 [(0, .ref (G.1 + 51)), (1, .int x1), (2, .int x2), (3, .int x3), (4, .long y4), (6, .int x6)]) : W p l e (rmk 2 46) s m args below meth c H locs 0 0 (MQ below (QL G σ r) args s (rmk 2 46).cells (rmk 2 46).slots (gA G)) (F0 m 52 ls [.int tx0]) := by
  obtain ⟨hx, hb, hr, hml, hown, hts, hlk, hK, hG⟩ := id C0
  unfold f_X12_gets_52 at hf
  refine lv_istore (lv' := [(7, .int tx0), (0, .ref (G.1 + 51)), (1, .int x1), (2, .int x2), (3, .int x3), (4, .long y4), (6, .int x6)]) hx hb dX12_gets_52 hl (by decide) rfl (fun ls hl => ?_)
  refine lv_lload hx hb dX12_gets_54 (lv_at hl 5 rfl) ?_
  refine lv_aload_n hx hb dX12_gets_56 rfl (lv_at hl 1 rfl) ?_
  refine lv_iload hx hb dX12_gets_57 (lv_at hl 6 rfl) ?_
  refine lv_iload_n hx hb dX12_gets_59 rfl (lv_at hl 2 rfl) ?_
  obtain ⟨r1, hc1, hf⟩ := ok_1 hf
  refine z_calli0 rfl rfl hI (va_runV (As := [.int x6, .int x1]) (rest := [.long y4]) ⟨hx, hb, hml, hown, hts⟩ (m_X12_cropOn G l  hc1) (cwV 2 hts gX12_gets_X12_cropOn rfl rfl rfl (by decide +kernel) ⟨Nat.le_of_ble_eq_true rfl, Nat.le_of_ble_eq_true rfl⟩) (z_preV hK hG hI (z_rc (q := 51) (ci := 11) (n := 0) hK hI rfl (by decide) rfl)) rfl rfl hl.1 rfl (lv_room (Nat.le_of_ble_eq_true rfl)) dX12_gets_60 ⟨Nat.zero_le _, Nat.zero_le _⟩) (fun H locs hI => ?_)
  refine lv_i2l hx hb dX12_gets_63 rfl ?_
  refine lv_iload hx hb dX12_gets_64 (lv_at hl 0 rfl) ?_
  refine lv_i2l hx hb dX12_gets_66 rfl ?_
  refine lv_lmul hx hb dX12_gets_67 ?_
  refine lv_ladd hx hb dX12_gets_68 ?_
  refine lv_topl (fun v1 ev1 => ?_)
  have hf := ok_n hf ev1
  refine lv_lstore (lv' := [(4, .long v1), (7, .int tx0), (0, .ref (G.1 + 51)), (1, .int x1), (2, .int x2), (3, .int x3), (6, .int x6)]) hx hb dX12_gets_69 hl (by decide) rfl (fun ls hl => ?_)
  refine lv_iinc (v := x6 + 1) (lv' := [(6, .int (x6 + 1)), (4, .long v1), (7, .int tx0), (0, .ref (G.1 + 51)), (1, .int x1), (2, .int x2), (3, .int x3)]) hx hb dX12_gets_71 hl (k := 6) rfl rfl (by decide) rfl (fun ls hl => ?_)
  refine lv_goto (tgt := 6) hx hb dX12_gets_74 (by decide) ?_
  exact hk6 _ _ hf _ _ hI _ (lv_sub hl [3, 4, 5, 6, 1, 0] rfl)

set_option maxRecDepth 100000 in
set_option maxHeartbeats 4000000 in
theorem w_X12_gets_6 {G : GT} {p : Program} {l : Launch} {e : Env} {s : State} {m : MethodId} {args : Array Value} {below : List Frame} {meth : Method} {c : Code}  {r : Int64}  {σ : Hp} {x1 : Int32} {x2 : Int32} {x3 : Int32}  (C0 : Cx G cX12_gets RX12 wsX12_gets 8 (some .long) p s m args meth c)  :
    ∀ (n : Nat) (y4 : Int64) (x6 : Int32), f_X12_gets_6 σ x1 x2 x3 n y4 x6 = some r → ∀ (H : Heap) (locs : List Loc), Inv G s σ H locs → ∀ ls : Array Slot, lv_has ls 8 [(0, .ref (G.1 + 51)), (1, .int x1), (2, .int x2), (3, .int x3), (4, .long y4), (6, .int x6)] → W p l e (rmk 2 46) s m args below meth c H locs 0 0 (MQ below (QL G σ r) args s (rmk 2 46).cells (rmk 2 46).slots (gA G)) (F0 m 6 ls []) := by
  obtain ⟨hx, hb, hr, hml, hown, hts, hlk, hK, hG⟩ := id C0
  intro n
  induction n with
  | zero =>
    intro y4 x6 hf
    cases hf
  | succ n ih =>
    intro y4 x6 hf H locs hI ls hl
    rw [f_X12_gets_6] at hf
    refine lv_iload hx hb dX12_gets_6 (lv_at hl 5 rfl) ?_
    refine lv_aload_n hx hb dX12_gets_8 rfl (lv_at hl 0 rfl) ?_
    refine z_get (C := RX12) (T := TX12) (N := 26) (ci := 11) (v := .ref (G.1 + 52)) hx hb hts i_X12_gets_11 hown hK hI 51 rfl (by decide) rfl 0 (by decide) (hts (.fieldLink RX12 7 "FenceYardsModel" "st" "[I") (by decide +kernel)) (fun _ h9 => h9) rfl dX12_gets_9 ?_
    refine lv_iconst (v := 4) hx hb dX12_gets_12 (by decide) ?_
    refine z_iald hx hb hK hI 52 (k := 4) rfl (by decide) (by decide) dX12_gets_13 ?_
    refine lv_icmp_ge (tgt := 77) hx hb dX12_gets_14 (by decide) (fun c1 => ?_) (fun c1 => ?_)
    · have hf := ok_t c1 hf
      refine lv_lload hx hb dX12_gets_77 (lv_at hl 4 rfl) ?_
      cases hf
      exact z_lret hx hb hr hlk hK hG hI dX12_gets_79
    · have hf := ok_f c1 hf
      refine lv_iload hx hb dX12_gets_17 (lv_at hl 5 rfl) ?_
      refine lv_iload_n hx hb dX12_gets_19 rfl (lv_at hl 2 rfl) ?_
      refine lv_iload_n hx hb dX12_gets_20 rfl (lv_at hl 3 rfl) ?_
      obtain ⟨r1, hc1, hf⟩ := ok_1 hf
      refine z_calli0 rfl rfl hI (va_runS (As := [.int x6, .int x2, .int x3]) (rest := []) ⟨hx, hb, hml, hown, hts⟩ (m_X12_shareOf G l  hc1) (va_cwS 3 hts gX12_gets_X12_shareOf rfl rfl rfl (by decide +kernel) ⟨Nat.le_of_ble_eq_true rfl, Nat.le_of_ble_eq_true rfl⟩) (z_pre hK hG hI) rfl rfl hl.1 rfl (lv_room (Nat.le_of_ble_eq_true rfl)) dX12_gets_21 ⟨Nat.zero_le _, Nat.zero_le _⟩) (fun H locs hI => ?_)
      refine lv_istore (lv' := [(7, .int r1), (0, .ref (G.1 + 51)), (1, .int x1), (2, .int x2), (3, .int x3), (4, .long y4), (6, .int x6)]) hx hb dX12_gets_24 hl (by decide) rfl (fun ls hl => ?_)
      refine lv_aload_n hx hb dX12_gets_26 rfl (lv_at hl 1 rfl) ?_
      refine lv_iload hx hb dX12_gets_27 (lv_at hl 6 rfl) ?_
      refine lv_iconst (v := 0) hx hb dX12_gets_29 (by decide) ?_
      obtain ⟨r2, hc2, hf⟩ := ok_1 hf
      refine z_calli0 rfl rfl hI (va_runV (As := [.int x6, .int 0]) (rest := []) ⟨hx, hb, hml, hown, hts⟩ (m_X12_sown G l  hc2) (cwV 2 hts gX12_gets_X12_sown rfl rfl rfl (by decide +kernel) ⟨Nat.le_of_ble_eq_true rfl, Nat.le_of_ble_eq_true rfl⟩) (z_preV hK hG hI (z_rc (q := 51) (ci := 11) (n := 0) hK hI rfl (by decide) rfl)) rfl rfl hl.1 rfl (lv_room (Nat.le_of_ble_eq_true rfl)) dX12_gets_30 ⟨Nat.zero_le _, Nat.zero_le _⟩) (fun H locs hI => ?_)
      refine lv_iconst (v := 2) hx hb dX12_gets_33 (by decide) ?_
      refine lv_icmp_ne (tgt := 54) hx hb dX12_gets_34 (by decide) (fun c2 => ?_) (fun c2 => ?_)
      · have hf := ok_f c2 hf
        refine lv_lload hx hb dX12_gets_54 (lv_at hl 5 rfl) ?_
        refine lv_aload_n hx hb dX12_gets_56 rfl (lv_at hl 1 rfl) ?_
        refine lv_iload hx hb dX12_gets_57 (lv_at hl 6 rfl) ?_
        refine lv_iload_n hx hb dX12_gets_59 rfl (lv_at hl 2 rfl) ?_
        obtain ⟨r3, hc3, hf⟩ := ok_1 hf
        refine z_calli0 rfl rfl hI (va_runV (As := [.int x6, .int x1]) (rest := [.long y4]) ⟨hx, hb, hml, hown, hts⟩ (m_X12_cropOn G l  hc3) (cwV 2 hts gX12_gets_X12_cropOn rfl rfl rfl (by decide +kernel) ⟨Nat.le_of_ble_eq_true rfl, Nat.le_of_ble_eq_true rfl⟩) (z_preV hK hG hI (z_rc (q := 51) (ci := 11) (n := 0) hK hI rfl (by decide) rfl)) rfl rfl hl.1 rfl (lv_room (Nat.le_of_ble_eq_true rfl)) dX12_gets_60 ⟨Nat.zero_le _, Nat.zero_le _⟩) (fun H locs hI => ?_)
        refine lv_i2l hx hb dX12_gets_63 rfl ?_
        refine lv_iload hx hb dX12_gets_64 (lv_at hl 0 rfl) ?_
        refine lv_i2l hx hb dX12_gets_66 rfl ?_
        refine lv_lmul hx hb dX12_gets_67 ?_
        refine lv_ladd hx hb dX12_gets_68 ?_
        refine lv_topl (fun v1 ev1 => ?_)
        have hf := ok_n hf ev1
        refine lv_lstore (lv' := [(4, .long v1), (7, .int r1), (0, .ref (G.1 + 51)), (1, .int x1), (2, .int x2), (3, .int x3), (6, .int x6)]) hx hb dX12_gets_69 hl (by decide) rfl (fun ls hl => ?_)
        refine lv_iinc (v := x6 + 1) (lv' := [(6, .int (x6 + 1)), (4, .long v1), (7, .int r1), (0, .ref (G.1 + 51)), (1, .int x1), (2, .int x2), (3, .int x3)]) hx hb dX12_gets_71 hl (k := 6) rfl rfl (by decide) rfl (fun ls hl => ?_)
        refine lv_goto (tgt := 6) hx hb dX12_gets_74 (by decide) ?_
        exact ih _ _ hf _ _ hI _ (lv_sub hl [3, 4, 5, 6, 1, 0] rfl)
      · have hf := ok_t c2 hf
        refine lv_iconst (v := 2) hx hb dX12_gets_37 (by decide) ?_
        refine lv_iload hx hb dX12_gets_38 (lv_at hl 0 rfl) ?_
        refine lv_imul hx hb dX12_gets_40 ?_
        refine lv_ldc (v := 55440) hx hb hown (hts (.constant RX12 164 55440) (by decide +kernel)) dX12_gets_41 ?_
        refine lv_icmp_le (tgt := 51) hx hb dX12_gets_43 (by decide) (fun c3 => ?_) (fun c3 => ?_)
        · have hf := ok_t c3 hf
          refine lv_iconst (v := 0) hx hb dX12_gets_51 (by decide) ?_
          exact w_X12_gets_52  C0 ih hf hI (lv_sub hl [1, 2, 3, 4, 5, 6] rfl)
        · have hf := ok_f c3 hf
          refine lv_ldc (v := 55440) hx hb hown (hts (.constant RX12 164 55440) (by decide +kernel)) dX12_gets_46 ?_
          refine lv_goto (tgt := 52) hx hb dX12_gets_48 (by decide) ?_
          exact w_X12_gets_52  C0 ih hf hI (lv_sub hl [1, 2, 3, 4, 5, 6] rfl)

set_option maxRecDepth 100000 in
set_option maxHeartbeats 4000000 in
theorem m_X12_gets (G : GT) (l : Launch) {σ : Hp} {x1 : Int32} {x2 : Int32} {x3 : Int32} {r : Int64}  (hf : f_X12_gets σ x1 x2 x3 = some r) : MetG G l yX12_gets wsX12_gets (rmk 2 46) σ [.ref (G.1 + 51), .int x1, .int x2, .int x3] (QL G σ r) := by
  refine met_of (cc := cX12_gets) (nL := 8) (ret := (some .long)) (by decide) rfl (Nat.le_of_ble_eq_true rfl) ?_
  intro p e s m below meth c C0 hnm hI ls hl
  obtain ⟨hx, hb, hr, hml, hown, hts, hlk, hK, hG⟩ := id C0
  have hl : lv_has ls 8 [(0, .ref (G.1 + 51)), (1, .int x1), (2, .int x2), (3, .int x3)] := hl
  unfold f_X12_gets at hf
  refine lv_lconst (v := 0) hx hb dX12_gets_0 (by decide) ?_
  refine lv_lstore (lv' := [(4, .long 0), (0, .ref (G.1 + 51)), (1, .int x1), (2, .int x2), (3, .int x3)]) hx hb dX12_gets_1 hl (by decide) rfl (fun ls hl => ?_)
  refine lv_iconst (v := 0) hx hb dX12_gets_3 (by decide) ?_
  refine lv_istore (lv' := [(6, .int 0), (4, .long 0), (0, .ref (G.1 + 51)), (1, .int x1), (2, .int x2), (3, .int x3)]) hx hb dX12_gets_4 hl (by decide) rfl (fun ls hl => ?_)
  exact w_X12_gets_6  C0  _ _ _ hf _ _ hI _ (lv_sub hl [2, 3, 4, 5, 1, 0] rfl)

-- ===== FenceYardsModel.part(JJI)J
def f_X12_part_17   (σ : Hp) (y0 : Int64) (y2 : Int64) (x4 : Int32) : Nat → Int64 → Int64 → Option (Int64)
  | 0, _, _ => none
  | n + 1, y5, y7 =>
    if (lg_cmp y7 (0 : Int64)) = 0 then (if x4 = 0 then (chk (¬ y5 = 0) <| some (y0 / y5)) else (chk (¬ y5 = 0) <| some (y2 / y5))) else (chk (¬ y7 = 0) <| bnd (y5 - y5 / y7 * y7) fun v1 => f_X12_part_17 σ y0 y2 x4 n y7 v1)
def f_X12_part (σ : Hp) (y0 : Int64) (y2 : Int64) (x4 : Int32) : Option (Int64) :=
  if 0 ≤ (lg_cmp y0 (0 : Int64)) then (f_X12_part_17 σ y0 y2 x4 fu y0 y2) else (bnd (-y0) fun v1 => f_X12_part_17 σ y0 y2 x4 fu v1 y2)
set_option maxRecDepth 100000 in
set_option maxHeartbeats 4000000 in
theorem w_X12_part_17 {G : GT} {p : Program} {l : Launch} {e : Env} {s : State} {m : MethodId} {args : Array Value} {below : List Frame} {meth : Method} {c : Code}  {r : Int64}  {σ : Hp} {y0 : Int64} {y2 : Int64} {x4 : Int32}  (C0 : Cx G cX12_part RX12 wsX12_part 11 (some .long) p s m args meth c)  :
    ∀ (n : Nat) (y5 : Int64) (y7 : Int64), f_X12_part_17 σ y0 y2 x4 n y5 y7 = some r → ∀ (H : Heap) (locs : List Loc), Inv G s σ H locs → ∀ ls : Array Slot, lv_has ls 11 [(0, .long y0), (2, .long y2), (4, .int x4), (5, .long y5), (7, .long y7)] → W p l e (rmk 0 0) s m args below meth c H locs 0 0 (MQ below (QL G σ r) args s (rmk 0 0).cells (rmk 0 0).slots (gA G)) (F0 m 17 ls []) := by
  obtain ⟨hx, hb, hr, hml, hown, hts, hlk, hK, hG⟩ := id C0
  intro n
  induction n with
  | zero =>
    intro y5 y7 hf
    cases hf
  | succ n ih =>
    intro y5 y7 hf H locs hI ls hl
    rw [f_X12_part_17] at hf
    refine lv_lload hx hb dX12_part_17 (lv_at hl 4 rfl) ?_
    refine lv_lconst (v := 0) hx hb dX12_part_19 (by decide) ?_
    refine W.lcmp hx hb dX12_part_20 ?_
    refine lv_if_eq (tgt := 42) hx hb dX12_part_21 (by decide) (fun c1 => ?_) (fun c1 => ?_)
    · have hf := ok_t c1 hf
      refine lv_iload hx hb dX12_part_42 (lv_at hl 2 rfl) ?_
      refine lv_if_ne (tgt := 54) hx hb dX12_part_44 (by decide) (fun c2 => ?_) (fun c2 => ?_)
      · have hf := ok_f c2 hf
        refine lv_lload_n hx hb dX12_part_54 rfl (lv_at hl 1 rfl) ?_
        refine lv_lload hx hb dX12_part_55 (lv_at hl 3 rfl) ?_
        obtain ⟨h1, hf⟩ := ok_c hf
        refine lv_ldiv hx hb dX12_part_57 h1 ?_
        cases hf
        exact z_lret hx hb hr hlk hK hG hI dX12_part_58
      · have hf := ok_t c2 hf
        refine lv_lload_n hx hb dX12_part_47 rfl (lv_at hl 0 rfl) ?_
        refine lv_lload hx hb dX12_part_48 (lv_at hl 3 rfl) ?_
        obtain ⟨h2, hf⟩ := ok_c hf
        refine lv_ldiv hx hb dX12_part_50 h2 ?_
        refine lv_goto (tgt := 58) hx hb dX12_part_51 (by decide) ?_
        cases hf
        exact z_lret hx hb hr hlk hK hG hI dX12_part_58
    · have hf := ok_f c1 hf
      refine lv_lload hx hb dX12_part_24 (lv_at hl 3 rfl) ?_
      refine lv_lload hx hb dX12_part_26 (lv_at hl 4 rfl) ?_
      obtain ⟨h3, hf⟩ := ok_c hf
      refine lv_lrem hx hb dX12_part_28 h3 ?_
      refine lv_topl (fun v1 ev1 => ?_)
      have hf := ok_n hf ev1
      refine lv_lstore (lv' := [(9, .long v1), (0, .long y0), (2, .long y2), (4, .int x4), (5, .long y5), (7, .long y7)]) hx hb dX12_part_29 hl (by decide) rfl (fun ls hl => ?_)
      refine lv_lload hx hb dX12_part_31 (lv_at hl 5 rfl) ?_
      refine lv_lstore (lv' := [(5, .long y7), (9, .long v1), (0, .long y0), (2, .long y2), (4, .int x4), (7, .long y7)]) hx hb dX12_part_33 hl (by decide) rfl (fun ls hl => ?_)
      refine lv_lload hx hb dX12_part_35 (lv_at hl 1 rfl) ?_
      refine lv_lstore (lv' := [(7, .long v1), (5, .long y7), (9, .long v1), (0, .long y0), (2, .long y2), (4, .int x4)]) hx hb dX12_part_37 hl (by decide) rfl (fun ls hl => ?_)
      refine lv_goto (tgt := 17) hx hb dX12_part_39 (by decide) ?_
      exact ih _ _ hf _ _ hI _ (lv_sub hl [3, 4, 5, 1, 0] rfl)

set_option maxRecDepth 100000 in
set_option maxHeartbeats 4000000 in
theorem m_X12_part (G : GT) (l : Launch) {σ : Hp} {y0 : Int64} {y2 : Int64} {x4 : Int32} {r : Int64}  (hf : f_X12_part σ y0 y2 x4 = some r) : MetG G l yX12_part wsX12_part (rmk 0 0) σ [.long y0, .long y2, .int x4] (QL G σ r) := by
  refine met_of (cc := cX12_part) (nL := 11) (ret := (some .long)) (by decide) rfl (Nat.le_of_ble_eq_true rfl) ?_
  intro p e s m below meth c C0 hnm hI ls hl
  obtain ⟨hx, hb, hr, hml, hown, hts, hlk, hK, hG⟩ := id C0
  have hl : lv_has ls 11 [(0, .long y0), (2, .long y2), (4, .int x4)] := hl
  unfold f_X12_part at hf
  refine lv_lload_n hx hb dX12_part_0 rfl (lv_at hl 0 rfl) ?_
  refine lv_lconst (v := 0) hx hb dX12_part_1 (by decide) ?_
  refine W.lcmp hx hb dX12_part_2 ?_
  refine lv_if_ge (tgt := 11) hx hb dX12_part_3 (by decide) (fun c1 => ?_) (fun c1 => ?_)
  · have hf := ok_t c1 hf
    refine lv_lload_n hx hb dX12_part_11 rfl (lv_at hl 0 rfl) ?_
    refine lv_lstore (lv' := [(5, .long y0), (0, .long y0), (2, .long y2), (4, .int x4)]) hx hb dX12_part_12 hl (by decide) rfl (fun ls hl => ?_)
    refine lv_lload_n hx hb dX12_part_14 rfl (lv_at hl 2 rfl) ?_
    refine lv_lstore (lv' := [(7, .long y2), (5, .long y0), (0, .long y0), (2, .long y2), (4, .int x4)]) hx hb dX12_part_15 hl (by decide) rfl (fun ls hl => ?_)
    exact w_X12_part_17  C0  _ _ _ hf _ _ hI _ (lv_sub hl [2, 3, 4, 1, 0] rfl)
  · have hf := ok_f c1 hf
    refine lv_lload_n hx hb dX12_part_6 rfl (lv_at hl 0 rfl) ?_
    refine lv_lneg hx hb dX12_part_7 ?_
    refine lv_goto (tgt := 12) hx hb dX12_part_8 (by decide) ?_
    refine lv_topl (fun v1 ev1 => ?_)
    have hf := ok_n hf ev1
    refine lv_lstore (lv' := [(5, .long v1), (0, .long y0), (2, .long y2), (4, .int x4)]) hx hb dX12_part_12 hl (by decide) rfl (fun ls hl => ?_)
    refine lv_lload_n hx hb dX12_part_14 rfl (lv_at hl 2 rfl) ?_
    refine lv_lstore (lv' := [(7, .long y2), (5, .long v1), (0, .long y0), (2, .long y2), (4, .int x4)]) hx hb dX12_part_15 hl (by decide) rfl (fun ls hl => ?_)
    exact w_X12_part_17  C0  _ _ _ hf _ _ hI _ (lv_sub hl [2, 3, 4, 1, 0] rfl)

-- ===== FenceYardsModel.told(JI)I
def f_X12_told (σ : Hp) (y0 : Int64) (x2 : Int32) : Option (Int32) :=
  bd1 (f_X12_part σ y0 55440 x2) fun r1 => some (r1.toInt32)
set_option maxRecDepth 100000 in
set_option maxHeartbeats 4000000 in
theorem m_X12_told (G : GT) (l : Launch) {σ : Hp} {y0 : Int64} {x2 : Int32} {r : Int32}  (hf : f_X12_told σ y0 x2 = some r) : MetG G l yX12_told wsX12_told (rmk 1 30) σ [.long y0, .int x2] (QI G σ r) := by
  refine met_of (cc := cX12_told) (nL := 3) (ret := (some .int)) (by decide) rfl (Nat.le_of_ble_eq_true rfl) ?_
  intro p e s m below meth c C0 hnm hI ls hl
  obtain ⟨hx, hb, hr, hml, hown, hts, hlk, hK, hG⟩ := id C0
  have hl : lv_has ls 3 [(0, .long y0), (2, .int x2)] := hl
  unfold f_X12_told at hf
  refine lv_lload_n hx hb dX12_told_0 rfl (lv_at hl 0 rfl) ?_
  refine lv_ldc2 (v := 55440) hx hb hown (hts (.constantLong RX12 179 55440) (by decide +kernel)) dX12_told_1 ?_
  refine lv_iload_n hx hb dX12_told_4 rfl (lv_at hl 1 rfl) ?_
  obtain ⟨r1, hc1, hf⟩ := ok_1 hf
  refine z_calll0 rfl rfl hI (va_runS (As := [.long y0, .long 55440, .int x2]) (rest := []) ⟨hx, hb, hml, hown, hts⟩ (m_X12_part G l  hc1) (va_cwS 3 hts gX12_told_X12_part rfl rfl rfl (by decide +kernel) ⟨Nat.le_of_ble_eq_true rfl, Nat.le_of_ble_eq_true rfl⟩) (z_pre hK hG hI) rfl rfl hl.1 rfl (lv_room (Nat.le_of_ble_eq_true rfl)) dX12_told_5 ⟨Nat.zero_le _, Nat.zero_le _⟩) (fun H locs hI => ?_)
  refine lv_l2i hx hb dX12_told_8 rfl ?_
  cases hf
  exact z_iret hx hb hr hlk hK hG hI dX12_told_9

-- ===== FenceYardsModel.strip(II)I
set_option maxRecDepth 100000 in
theorem i_X12_strip_11 : ∀ w ∈ u_ws RX12 TX12 26, w ∈ wsX12_strip := by decide +kernel
def f_X12_strip (σ : Hp) (x1 : Int32) (x2 : Int32) : Option (Int32) :=
  bd1 (f_X12_isStrip σ x1) fun r1 => if r1 = 0 then (some (-1000001)) else (bd1 (f_X12_in σ x2 0 3) fun r2 => if r2 = 0 then (some (-1000001)) else (if 2 ≤ x2 then (bd1 (f_X12_shareOf σ x1 (gI σ 52 1) (gI σ 52 2)) fun r3 => bd1 (f_X12_told σ (r3.toInt64) (x2 - 2)) fun r4 => some r4) else (bd1 (f_X12_sown σ x1 (1 + x2)) fun r5 => some r5)))
set_option maxRecDepth 100000 in
set_option maxHeartbeats 4000000 in
theorem m_X12_strip (G : GT) (l : Launch) {σ : Hp} {x1 : Int32} {x2 : Int32} {r : Int32}  (hf : f_X12_strip σ x1 x2 = some r) : MetG G l yX12_strip wsX12_strip (rmk 2 52) σ [.ref (G.1 + 51), .int x1, .int x2] (QI G σ r) := by
  refine met_of (cc := cX12_strip) (nL := 3) (ret := (some .int)) (by decide) rfl (Nat.le_of_ble_eq_true rfl) ?_
  intro p e s m below meth c C0 hnm hI ls hl
  obtain ⟨hx, hb, hr, hml, hown, hts, hlk, hK, hG⟩ := id C0
  have hl : lv_has ls 3 [(0, .ref (G.1 + 51)), (1, .int x1), (2, .int x2)] := hl
  unfold f_X12_strip at hf
  refine lv_aload_n hx hb dX12_strip_0 rfl (lv_at hl 0 rfl) ?_
  refine lv_iload_n hx hb dX12_strip_1 rfl (lv_at hl 1 rfl) ?_
  obtain ⟨r1, hc1, hf⟩ := ok_1 hf
  refine z_calli0 rfl rfl hI (va_runV (As := [.int x1]) (rest := []) ⟨hx, hb, hml, hown, hts⟩ (m_X12_isStrip G l  hc1) (cwV 1 hts gX12_strip_X12_isStrip rfl rfl rfl (by decide +kernel) ⟨Nat.le_of_ble_eq_true rfl, Nat.le_of_ble_eq_true rfl⟩) (z_preV hK hG hI (z_rc (q := 51) (ci := 11) (n := 0) hK hI rfl (by decide) rfl)) rfl rfl hl.1 rfl (lv_room (Nat.le_of_ble_eq_true rfl)) dX12_strip_2 ⟨Nat.zero_le _, Nat.zero_le _⟩) (fun H locs hI => ?_)
  refine lv_if_eq (tgt := 17) hx hb dX12_strip_5 (by decide) (fun c1 => ?_) (fun c1 => ?_)
  · have hf := ok_t c1 hf
    refine lv_ldc (v := (-1000001)) hx hb hown (hts (.constant RX12 71 (-1000001)) (by decide +kernel)) dX12_strip_17 ?_
    cases hf
    exact z_iret hx hb hr hlk hK hG hI dX12_strip_19
  · have hf := ok_f c1 hf
    refine lv_iload_n hx hb dX12_strip_8 rfl (lv_at hl 2 rfl) ?_
    refine lv_iconst (v := 0) hx hb dX12_strip_9 (by decide) ?_
    refine lv_iconst (v := 3) hx hb dX12_strip_10 (by decide) ?_
    obtain ⟨r2, hc2, hf⟩ := ok_1 hf
    refine z_calli0 rfl rfl hI (va_runS (As := [.int x2, .int 0, .int 3]) (rest := []) ⟨hx, hb, hml, hown, hts⟩ (m_X12_in G l  hc2) (va_cwS 3 hts gX12_strip_X12_in rfl rfl rfl (by decide +kernel) ⟨Nat.le_of_ble_eq_true rfl, Nat.le_of_ble_eq_true rfl⟩) (z_pre hK hG hI) rfl rfl hl.1 rfl (lv_room (Nat.le_of_ble_eq_true rfl)) dX12_strip_11 ⟨Nat.zero_le _, Nat.zero_le _⟩) (fun H locs hI => ?_)
    refine lv_if_ne (tgt := 20) hx hb dX12_strip_14 (by decide) (fun c2 => ?_) (fun c2 => ?_)
    · have hf := ok_f c2 hf
      refine lv_iload_n hx hb dX12_strip_20 rfl (lv_at hl 2 rfl) ?_
      refine lv_iconst (v := 2) hx hb dX12_strip_21 (by decide) ?_
      refine lv_icmp_ge (tgt := 36) hx hb dX12_strip_22 (by decide) (fun c3 => ?_) (fun c3 => ?_)
      · have hf := ok_t c3 hf
        refine lv_iload_n hx hb dX12_strip_36 rfl (lv_at hl 1 rfl) ?_
        refine lv_aload_n hx hb dX12_strip_37 rfl (lv_at hl 0 rfl) ?_
        refine z_get (C := RX12) (T := TX12) (N := 26) (ci := 11) (v := .ref (G.1 + 52)) hx hb hts i_X12_strip_11 hown hK hI 51 rfl (by decide) rfl 0 (by decide) (hts (.fieldLink RX12 7 "FenceYardsModel" "st" "[I") (by decide +kernel)) (fun _ h9 => h9) rfl dX12_strip_38 ?_
        refine lv_iconst (v := 1) hx hb dX12_strip_41 (by decide) ?_
        refine z_iald hx hb hK hI 52 (k := 1) rfl (by decide) (by decide) dX12_strip_42 ?_
        refine lv_aload_n hx hb dX12_strip_43 rfl (lv_at hl 0 rfl) ?_
        refine z_get (C := RX12) (T := TX12) (N := 26) (ci := 11) (v := .ref (G.1 + 52)) hx hb hts i_X12_strip_11 hown hK hI 51 rfl (by decide) rfl 0 (by decide) (hts (.fieldLink RX12 7 "FenceYardsModel" "st" "[I") (by decide +kernel)) (fun _ h9 => h9) rfl dX12_strip_44 ?_
        refine lv_iconst (v := 2) hx hb dX12_strip_47 (by decide) ?_
        refine z_iald hx hb hK hI 52 (k := 2) rfl (by decide) (by decide) dX12_strip_48 ?_
        obtain ⟨r3, hc3, hf⟩ := ok_1 hf
        refine z_calli0 rfl rfl hI (va_runS (As := [.int x1, .int (gI σ 52 1), .int (gI σ 52 2)]) (rest := []) ⟨hx, hb, hml, hown, hts⟩ (m_X12_shareOf G l  hc3) (va_cwS 3 hts gX12_strip_X12_shareOf rfl rfl rfl (by decide +kernel) ⟨Nat.le_of_ble_eq_true rfl, Nat.le_of_ble_eq_true rfl⟩) (z_pre hK hG hI) rfl rfl hl.1 rfl (lv_room (Nat.le_of_ble_eq_true rfl)) dX12_strip_49 ⟨Nat.zero_le _, Nat.zero_le _⟩) (fun H locs hI => ?_)
        refine lv_i2l hx hb dX12_strip_52 rfl ?_
        refine lv_iload_n hx hb dX12_strip_53 rfl (lv_at hl 2 rfl) ?_
        refine lv_iconst (v := 2) hx hb dX12_strip_54 (by decide) ?_
        refine lv_isub hx hb dX12_strip_55 ?_
        obtain ⟨r4, hc4, hf⟩ := ok_1 hf
        refine z_calli0 rfl rfl hI (va_runS (As := [.long (r3.toInt64), .int (x2 - 2)]) (rest := []) ⟨hx, hb, hml, hown, hts⟩ (m_X12_told G l  hc4) (va_cwS 2 hts gX12_strip_X12_told rfl rfl rfl (by decide +kernel) ⟨Nat.le_of_ble_eq_true rfl, Nat.le_of_ble_eq_true rfl⟩) (z_pre hK hG hI) rfl rfl hl.1 rfl (lv_room (Nat.le_of_ble_eq_true rfl)) dX12_strip_56 ⟨Nat.zero_le _, Nat.zero_le _⟩) (fun H locs hI => ?_)
        cases hf
        exact z_iret hx hb hr hlk hK hG hI dX12_strip_59
      · have hf := ok_f c3 hf
        refine lv_aload_n hx hb dX12_strip_25 rfl (lv_at hl 0 rfl) ?_
        refine lv_iload_n hx hb dX12_strip_26 rfl (lv_at hl 1 rfl) ?_
        refine lv_iconst (v := 1) hx hb dX12_strip_27 (by decide) ?_
        refine lv_iload_n hx hb dX12_strip_28 rfl (lv_at hl 2 rfl) ?_
        refine lv_iadd hx hb dX12_strip_29 ?_
        obtain ⟨r5, hc5, hf⟩ := ok_1 hf
        refine z_calli0 rfl rfl hI (va_runV (As := [.int x1, .int (1 + x2)]) (rest := []) ⟨hx, hb, hml, hown, hts⟩ (m_X12_sown G l  hc5) (cwV 2 hts gX12_strip_X12_sown rfl rfl rfl (by decide +kernel) ⟨Nat.le_of_ble_eq_true rfl, Nat.le_of_ble_eq_true rfl⟩) (z_preV hK hG hI (z_rc (q := 51) (ci := 11) (n := 0) hK hI rfl (by decide) rfl)) rfl rfl hl.1 rfl (lv_room (Nat.le_of_ble_eq_true rfl)) dX12_strip_30 ⟨Nat.zero_le _, Nat.zero_le _⟩) (fun H locs hI => ?_)
        refine lv_goto (tgt := 59) hx hb dX12_strip_33 (by decide) ?_
        cases hf
        exact z_iret hx hb hr hlk hK hG hI dX12_strip_59
    · have hf := ok_t c2 hf
      refine lv_ldc (v := (-1000001)) hx hb hown (hts (.constant RX12 71 (-1000001)) (by decide +kernel)) dX12_strip_17 ?_
      cases hf
      exact z_iret hx hb hr hlk hK hG hI dX12_strip_19

-- ===== FenceYardsModel.crop(II)I
def f_X12_crop (σ : Hp) (x1 : Int32) (x2 : Int32) : Option (Int32) :=
  bd1 (f_X12_isStrip σ x1) fun r1 => if r1 = 0 then (some (-1000001)) else (bd1 (f_X12_in σ x2 0 11) fun r2 => if r2 = 0 then (some (-1000001)) else (bd1 (f_X12_cropOn σ x1 x2) fun r3 => some r3))
set_option maxRecDepth 100000 in
set_option maxHeartbeats 4000000 in
theorem m_X12_crop (G : GT) (l : Launch) {σ : Hp} {x1 : Int32} {x2 : Int32} {r : Int32}  (hf : f_X12_crop σ x1 x2 = some r) : MetG G l yX12_crop wsX12_crop (rmk 2 46) σ [.ref (G.1 + 51), .int x1, .int x2] (QI G σ r) := by
  refine met_of (cc := cX12_crop) (nL := 3) (ret := (some .int)) (by decide) rfl (Nat.le_of_ble_eq_true rfl) ?_
  intro p e s m below meth c C0 hnm hI ls hl
  obtain ⟨hx, hb, hr, hml, hown, hts, hlk, hK, hG⟩ := id C0
  have hl : lv_has ls 3 [(0, .ref (G.1 + 51)), (1, .int x1), (2, .int x2)] := hl
  unfold f_X12_crop at hf
  refine lv_aload_n hx hb dX12_crop_0 rfl (lv_at hl 0 rfl) ?_
  refine lv_iload_n hx hb dX12_crop_1 rfl (lv_at hl 1 rfl) ?_
  obtain ⟨r1, hc1, hf⟩ := ok_1 hf
  refine z_calli0 rfl rfl hI (va_runV (As := [.int x1]) (rest := []) ⟨hx, hb, hml, hown, hts⟩ (m_X12_isStrip G l  hc1) (cwV 1 hts gX12_crop_X12_isStrip rfl rfl rfl (by decide +kernel) ⟨Nat.le_of_ble_eq_true rfl, Nat.le_of_ble_eq_true rfl⟩) (z_preV hK hG hI (z_rc (q := 51) (ci := 11) (n := 0) hK hI rfl (by decide) rfl)) rfl rfl hl.1 rfl (lv_room (Nat.le_of_ble_eq_true rfl)) dX12_crop_2 ⟨Nat.zero_le _, Nat.zero_le _⟩) (fun H locs hI => ?_)
  refine lv_if_eq (tgt := 27) hx hb dX12_crop_5 (by decide) (fun c1 => ?_) (fun c1 => ?_)
  · have hf := ok_t c1 hf
    refine lv_ldc (v := (-1000001)) hx hb hown (hts (.constant RX12 71 (-1000001)) (by decide +kernel)) dX12_crop_27 ?_
    cases hf
    exact z_iret hx hb hr hlk hK hG hI dX12_crop_29
  · have hf := ok_f c1 hf
    refine lv_iload_n hx hb dX12_crop_8 rfl (lv_at hl 2 rfl) ?_
    refine lv_iconst (v := 0) hx hb dX12_crop_9 (by decide) ?_
    refine lv_bipush (v := 11) hx hb dX12_crop_10 (by decide) ?_
    obtain ⟨r2, hc2, hf⟩ := ok_1 hf
    refine z_calli0 rfl rfl hI (va_runS (As := [.int x2, .int 0, .int 11]) (rest := []) ⟨hx, hb, hml, hown, hts⟩ (m_X12_in G l  hc2) (va_cwS 3 hts gX12_crop_X12_in rfl rfl rfl (by decide +kernel) ⟨Nat.le_of_ble_eq_true rfl, Nat.le_of_ble_eq_true rfl⟩) (z_pre hK hG hI) rfl rfl hl.1 rfl (lv_room (Nat.le_of_ble_eq_true rfl)) dX12_crop_12 ⟨Nat.zero_le _, Nat.zero_le _⟩) (fun H locs hI => ?_)
    refine lv_if_eq (tgt := 27) hx hb dX12_crop_15 (by decide) (fun c2 => ?_) (fun c2 => ?_)
    · have hf := ok_t c2 hf
      refine lv_ldc (v := (-1000001)) hx hb hown (hts (.constant RX12 71 (-1000001)) (by decide +kernel)) dX12_crop_27 ?_
      cases hf
      exact z_iret hx hb hr hlk hK hG hI dX12_crop_29
    · have hf := ok_f c2 hf
      refine lv_aload_n hx hb dX12_crop_18 rfl (lv_at hl 0 rfl) ?_
      refine lv_iload_n hx hb dX12_crop_19 rfl (lv_at hl 1 rfl) ?_
      refine lv_iload_n hx hb dX12_crop_20 rfl (lv_at hl 2 rfl) ?_
      obtain ⟨r3, hc3, hf⟩ := ok_1 hf
      refine z_calli0 rfl rfl hI (va_runV (As := [.int x1, .int x2]) (rest := []) ⟨hx, hb, hml, hown, hts⟩ (m_X12_cropOn G l  hc3) (cwV 2 hts gX12_crop_X12_cropOn rfl rfl rfl (by decide +kernel) ⟨Nat.le_of_ble_eq_true rfl, Nat.le_of_ble_eq_true rfl⟩) (z_preV hK hG hI (z_rc (q := 51) (ci := 11) (n := 0) hK hI rfl (by decide) rfl)) rfl rfl hl.1 rfl (lv_room (Nat.le_of_ble_eq_true rfl)) dX12_crop_21 ⟨Nat.zero_le _, Nat.zero_le _⟩) (fun H locs hI => ?_)
      refine lv_goto (tgt := 29) hx hb dX12_crop_24 (by decide) ?_
      cases hf
      exact z_iret hx hb hr hlk hK hG hI dX12_crop_29

-- ===== FenceYardsModel.isPond(II)Z
set_option maxRecDepth 100000 in
theorem i_X12_isPond_11 : ∀ w ∈ u_ws RX12 TX12 26, w ∈ wsX12_isPond := by decide +kernel
def f_X12_isPond_5   (σ : Hp) (x1 : Int32) (x2 : Int32) : Nat → Int32 → Int32 → Option (Int32)
  | 0, _, _ => none
  | n + 1, x3, x4 =>
    if (gI σ 52 5) ≤ x4 then (chk (x3 = 0 ∨ x3 = 1) <| some x3) else (if x3 = 0 then (chk (inb (42 + (2 * x4)) 78) <| if (gI σ 52 ((42 + (2 * x4)).toNatClampNeg)) = x1 then (chk (inb ((42 + (2 * x4)) + 1) 78) <| if (gI σ 52 (((42 + (2 * x4)) + 1).toNatClampNeg)) = x2 then (f_X12_isPond_5 σ x1 x2 n 1 (x4 + 1)) else (f_X12_isPond_5 σ x1 x2 n 0 (x4 + 1))) else (f_X12_isPond_5 σ x1 x2 n 0 (x4 + 1))) else (f_X12_isPond_5 σ x1 x2 n 1 (x4 + 1)))
def f_X12_isPond (σ : Hp) (x1 : Int32) (x2 : Int32) : Option (Int32) :=
  f_X12_isPond_5 σ x1 x2 fu 0 0
set_option maxRecDepth 100000 in
set_option maxHeartbeats 4000000 in
theorem w_X12_isPond_5 {G : GT} {p : Program} {l : Launch} {e : Env} {s : State} {m : MethodId} {args : Array Value} {below : List Frame} {meth : Method} {c : Code}  {r : Int32}  {σ : Hp} {x1 : Int32} {x2 : Int32}  (C0 : Cx G cX12_isPond RX12 wsX12_isPond 5 (some .boolean) p s m args meth c)  :
    ∀ (n : Nat) (x3 : Int32) (x4 : Int32), f_X12_isPond_5 σ x1 x2 n x3 x4 = some r → ∀ (H : Heap) (locs : List Loc), Inv G s σ H locs → ∀ ls : Array Slot, lv_has ls 5 [(0, .ref (G.1 + 51)), (1, .int x1), (2, .int x2), (3, .int x3), (4, .int x4)] → W p l e (rmk 0 0) s m args below meth c H locs 0 0 (MQ below (QI G σ r) args s (rmk 0 0).cells (rmk 0 0).slots (gA G)) (F0 m 5 ls []) := by
  obtain ⟨hx, hb, hr, hml, hown, hts, hlk, hK, hG⟩ := id C0
  intro n
  induction n with
  | zero =>
    intro x3 x4 hf
    cases hf
  | succ n ih =>
    intro x3 x4 hf H locs hI ls hl
    rw [f_X12_isPond_5] at hf
    refine lv_iload hx hb dX12_isPond_5 (lv_at hl 4 rfl) ?_
    refine lv_aload_n hx hb dX12_isPond_7 rfl (lv_at hl 0 rfl) ?_
    refine z_get (C := RX12) (T := TX12) (N := 26) (ci := 11) (v := .ref (G.1 + 52)) hx hb hts i_X12_isPond_11 hown hK hI 51 rfl (by decide) rfl 0 (by decide) (hts (.fieldLink RX12 7 "FenceYardsModel" "st" "[I") (by decide +kernel)) (fun _ h9 => h9) rfl dX12_isPond_8 ?_
    refine lv_iconst (v := 5) hx hb dX12_isPond_11 (by decide) ?_
    refine z_iald hx hb hK hI 52 (k := 5) rfl (by decide) (by decide) dX12_isPond_12 ?_
    refine lv_icmp_ge (tgt := 66) hx hb dX12_isPond_13 (by decide) (fun c1 => ?_) (fun c1 => ?_)
    · have hf := ok_t c1 hf
      refine lv_iload_n hx hb dX12_isPond_66 rfl (lv_at hl 3 rfl) ?_
      obtain ⟨h1, hf⟩ := ok_c hf
      cases hf
      exact z_zret hx hb hr hlk hK hG hI h1 dX12_isPond_67
    · have hf := ok_f c1 hf
      refine lv_iload_n hx hb dX12_isPond_16 rfl (lv_at hl 3 rfl) ?_
      refine lv_if_ne (tgt := 54) hx hb dX12_isPond_17 (by decide) (fun c2 => ?_) (fun c2 => ?_)
      · have hf := ok_f c2 hf
        refine lv_iconst (v := 1) hx hb dX12_isPond_54 (by decide) ?_
        refine lv_goto (tgt := 59) hx hb dX12_isPond_55 (by decide) ?_
        refine lv_istore_n (lv' := [(3, .int 1), (0, .ref (G.1 + 51)), (1, .int x1), (2, .int x2), (4, .int x4)]) hx hb dX12_isPond_59 rfl hl (by decide) rfl (fun ls hl => ?_)
        refine lv_iinc (v := x4 + 1) (lv' := [(4, .int (x4 + 1)), (3, .int 1), (0, .ref (G.1 + 51)), (1, .int x1), (2, .int x2)]) hx hb dX12_isPond_60 hl (k := 4) rfl rfl (by decide) rfl (fun ls hl => ?_)
        refine lv_goto (tgt := 5) hx hb dX12_isPond_63 (by decide) ?_
        exact ih _ _ hf _ _ hI _ (lv_sub hl [2, 3, 4, 1, 0] rfl)
      · have hf := ok_t c2 hf
        refine lv_aload_n hx hb dX12_isPond_20 rfl (lv_at hl 0 rfl) ?_
        refine z_get (C := RX12) (T := TX12) (N := 26) (ci := 11) (v := .ref (G.1 + 52)) hx hb hts i_X12_isPond_11 hown hK hI 51 rfl (by decide) rfl 0 (by decide) (hts (.fieldLink RX12 7 "FenceYardsModel" "st" "[I") (by decide +kernel)) (fun _ h9 => h9) rfl dX12_isPond_21 ?_
        refine lv_bipush (v := 42) hx hb dX12_isPond_24 (by decide) ?_
        refine lv_iconst (v := 2) hx hb dX12_isPond_26 (by decide) ?_
        refine lv_iload hx hb dX12_isPond_27 (lv_at hl 4 rfl) ?_
        refine lv_imul hx hb dX12_isPond_29 ?_
        refine lv_iadd hx hb dX12_isPond_30 ?_
        obtain ⟨h2, hf⟩ := ok_c hf
        refine z_iald hx hb hK hI 52 (k := (42 + (2 * x4)).toNatClampNeg) rfl h2 rfl dX12_isPond_31 ?_
        refine lv_iload_n hx hb dX12_isPond_32 rfl (lv_at hl 1 rfl) ?_
        refine lv_icmp_ne (tgt := 58) hx hb dX12_isPond_33 (by decide) (fun c3 => ?_) (fun c3 => ?_)
        · have hf := ok_f c3 hf
          refine lv_iconst (v := 0) hx hb dX12_isPond_58 (by decide) ?_
          refine lv_istore_n (lv' := [(3, .int 0), (0, .ref (G.1 + 51)), (1, .int x1), (2, .int x2), (4, .int x4)]) hx hb dX12_isPond_59 rfl hl (by decide) rfl (fun ls hl => ?_)
          refine lv_iinc (v := x4 + 1) (lv' := [(4, .int (x4 + 1)), (3, .int 0), (0, .ref (G.1 + 51)), (1, .int x1), (2, .int x2)]) hx hb dX12_isPond_60 hl (k := 4) rfl rfl (by decide) rfl (fun ls hl => ?_)
          refine lv_goto (tgt := 5) hx hb dX12_isPond_63 (by decide) ?_
          exact ih _ _ hf _ _ hI _ (lv_sub hl [2, 3, 4, 1, 0] rfl)
        · have hf := ok_t c3 hf
          refine lv_aload_n hx hb dX12_isPond_36 rfl (lv_at hl 0 rfl) ?_
          refine z_get (C := RX12) (T := TX12) (N := 26) (ci := 11) (v := .ref (G.1 + 52)) hx hb hts i_X12_isPond_11 hown hK hI 51 rfl (by decide) rfl 0 (by decide) (hts (.fieldLink RX12 7 "FenceYardsModel" "st" "[I") (by decide +kernel)) (fun _ h9 => h9) rfl dX12_isPond_37 ?_
          refine lv_bipush (v := 42) hx hb dX12_isPond_40 (by decide) ?_
          refine lv_iconst (v := 2) hx hb dX12_isPond_42 (by decide) ?_
          refine lv_iload hx hb dX12_isPond_43 (lv_at hl 4 rfl) ?_
          refine lv_imul hx hb dX12_isPond_45 ?_
          refine lv_iadd hx hb dX12_isPond_46 ?_
          refine lv_iconst (v := 1) hx hb dX12_isPond_47 (by decide) ?_
          refine lv_iadd hx hb dX12_isPond_48 ?_
          obtain ⟨h3, hf⟩ := ok_c hf
          refine z_iald hx hb hK hI 52 (k := ((42 + (2 * x4)) + 1).toNatClampNeg) rfl h3 rfl dX12_isPond_49 ?_
          refine lv_iload_n hx hb dX12_isPond_50 rfl (lv_at hl 2 rfl) ?_
          refine lv_icmp_ne (tgt := 58) hx hb dX12_isPond_51 (by decide) (fun c4 => ?_) (fun c4 => ?_)
          · have hf := ok_f c4 hf
            refine lv_iconst (v := 0) hx hb dX12_isPond_58 (by decide) ?_
            refine lv_istore_n (lv' := [(3, .int 0), (0, .ref (G.1 + 51)), (1, .int x1), (2, .int x2), (4, .int x4)]) hx hb dX12_isPond_59 rfl hl (by decide) rfl (fun ls hl => ?_)
            refine lv_iinc (v := x4 + 1) (lv' := [(4, .int (x4 + 1)), (3, .int 0), (0, .ref (G.1 + 51)), (1, .int x1), (2, .int x2)]) hx hb dX12_isPond_60 hl (k := 4) rfl rfl (by decide) rfl (fun ls hl => ?_)
            refine lv_goto (tgt := 5) hx hb dX12_isPond_63 (by decide) ?_
            exact ih _ _ hf _ _ hI _ (lv_sub hl [2, 3, 4, 1, 0] rfl)
          · have hf := ok_t c4 hf
            refine lv_iconst (v := 1) hx hb dX12_isPond_54 (by decide) ?_
            refine lv_goto (tgt := 59) hx hb dX12_isPond_55 (by decide) ?_
            refine lv_istore_n (lv' := [(3, .int 1), (0, .ref (G.1 + 51)), (1, .int x1), (2, .int x2), (4, .int x4)]) hx hb dX12_isPond_59 rfl hl (by decide) rfl (fun ls hl => ?_)
            refine lv_iinc (v := x4 + 1) (lv' := [(4, .int (x4 + 1)), (3, .int 1), (0, .ref (G.1 + 51)), (1, .int x1), (2, .int x2)]) hx hb dX12_isPond_60 hl (k := 4) rfl rfl (by decide) rfl (fun ls hl => ?_)
            refine lv_goto (tgt := 5) hx hb dX12_isPond_63 (by decide) ?_
            exact ih _ _ hf _ _ hI _ (lv_sub hl [2, 3, 4, 1, 0] rfl)

set_option maxRecDepth 100000 in
set_option maxHeartbeats 4000000 in
theorem m_X12_isPond (G : GT) (l : Launch) {σ : Hp} {x1 : Int32} {x2 : Int32} {r : Int32}  (hf : f_X12_isPond σ x1 x2 = some r) : MetG G l yX12_isPond wsX12_isPond (rmk 0 0) σ [.ref (G.1 + 51), .int x1, .int x2] (QI G σ r) := by
  refine met_of (cc := cX12_isPond) (nL := 5) (ret := (some .boolean)) (by decide) rfl (Nat.le_of_ble_eq_true rfl) ?_
  intro p e s m below meth c C0 hnm hI ls hl
  obtain ⟨hx, hb, hr, hml, hown, hts, hlk, hK, hG⟩ := id C0
  have hl : lv_has ls 5 [(0, .ref (G.1 + 51)), (1, .int x1), (2, .int x2)] := hl
  unfold f_X12_isPond at hf
  refine lv_iconst (v := 0) hx hb dX12_isPond_0 (by decide) ?_
  refine lv_istore_n (lv' := [(3, .int 0), (0, .ref (G.1 + 51)), (1, .int x1), (2, .int x2)]) hx hb dX12_isPond_1 rfl hl (by decide) rfl (fun ls hl => ?_)
  refine lv_iconst (v := 0) hx hb dX12_isPond_2 (by decide) ?_
  refine lv_istore (lv' := [(4, .int 0), (3, .int 0), (0, .ref (G.1 + 51)), (1, .int x1), (2, .int x2)]) hx hb dX12_isPond_3 hl (by decide) rfl (fun ls hl => ?_)
  exact w_X12_isPond_5  C0  _ _ _ hf _ _ hI _ (lv_sub hl [2, 3, 4, 1, 0] rfl)

-- ===== FenceYardsModel.mayBe(II)Z
def f_X12_mayBe (σ : Hp) (x1 : Int32) (x2 : Int32) : Option (Int32) :=
  bd1 (f_X12_in σ x2 0 12) fun r1 => if r1 = 0 then (some 0) else (bd1 (f_X12_isPond σ x1 x2) fun r2 => if r2 = 0 then (some 1) else (some 0))
set_option maxRecDepth 100000 in
set_option maxHeartbeats 4000000 in
theorem m_X12_mayBe (G : GT) (l : Launch) {σ : Hp} {x1 : Int32} {x2 : Int32} {r : Int32}  (hf : f_X12_mayBe σ x1 x2 = some r) : MetG G l yX12_mayBe wsX12_mayBe (rmk 1 24) σ [.ref (G.1 + 51), .int x1, .int x2] (QI G σ r) := by
  refine met_of (cc := cX12_mayBe) (nL := 3) (ret := (some .boolean)) (by decide) rfl (Nat.le_of_ble_eq_true rfl) ?_
  intro p e s m below meth c C0 hnm hI ls hl
  obtain ⟨hx, hb, hr, hml, hown, hts, hlk, hK, hG⟩ := id C0
  have hl : lv_has ls 3 [(0, .ref (G.1 + 51)), (1, .int x1), (2, .int x2)] := hl
  unfold f_X12_mayBe at hf
  refine lv_iload_n hx hb dX12_mayBe_0 rfl (lv_at hl 2 rfl) ?_
  refine lv_iconst (v := 0) hx hb dX12_mayBe_1 (by decide) ?_
  refine lv_bipush (v := 12) hx hb dX12_mayBe_2 (by decide) ?_
  obtain ⟨r1, hc1, hf⟩ := ok_1 hf
  refine z_calli0 rfl rfl hI (va_runS (As := [.int x2, .int 0, .int 12]) (rest := []) ⟨hx, hb, hml, hown, hts⟩ (m_X12_in G l  hc1) (va_cwS 3 hts gX12_mayBe_X12_in rfl rfl rfl (by decide +kernel) ⟨Nat.le_of_ble_eq_true rfl, Nat.le_of_ble_eq_true rfl⟩) (z_pre hK hG hI) rfl rfl hl.1 rfl (lv_room (Nat.le_of_ble_eq_true rfl)) dX12_mayBe_4 ⟨Nat.zero_le _, Nat.zero_le _⟩) (fun H locs hI => ?_)
  refine lv_if_eq (tgt := 23) hx hb dX12_mayBe_7 (by decide) (fun c1 => ?_) (fun c1 => ?_)
  · have hf := ok_t c1 hf
    refine lv_iconst (v := 0) hx hb dX12_mayBe_23 (by decide) ?_
    cases hf
    exact z_zret hx hb hr hlk hK hG hI (Or.inl rfl) dX12_mayBe_24
  · have hf := ok_f c1 hf
    refine lv_aload_n hx hb dX12_mayBe_10 rfl (lv_at hl 0 rfl) ?_
    refine lv_iload_n hx hb dX12_mayBe_11 rfl (lv_at hl 1 rfl) ?_
    refine lv_iload_n hx hb dX12_mayBe_12 rfl (lv_at hl 2 rfl) ?_
    obtain ⟨r2, hc2, hf⟩ := ok_1 hf
    refine z_calli0 rfl rfl hI (va_runV (As := [.int x1, .int x2]) (rest := []) ⟨hx, hb, hml, hown, hts⟩ (m_X12_isPond G l  hc2) (cwV 2 hts gX12_mayBe_X12_isPond rfl rfl rfl (by decide +kernel) ⟨Nat.le_of_ble_eq_true rfl, Nat.le_of_ble_eq_true rfl⟩) (z_preV hK hG hI (z_rc (q := 51) (ci := 11) (n := 0) hK hI rfl (by decide) rfl)) rfl rfl hl.1 rfl (lv_room (Nat.le_of_ble_eq_true rfl)) dX12_mayBe_13 ⟨Nat.zero_le _, Nat.zero_le _⟩) (fun H locs hI => ?_)
    refine lv_if_ne (tgt := 23) hx hb dX12_mayBe_16 (by decide) (fun c2 => ?_) (fun c2 => ?_)
    · have hf := ok_f c2 hf
      refine lv_iconst (v := 0) hx hb dX12_mayBe_23 (by decide) ?_
      cases hf
      exact z_zret hx hb hr hlk hK hG hI (Or.inl rfl) dX12_mayBe_24
    · have hf := ok_t c2 hf
      refine lv_iconst (v := 1) hx hb dX12_mayBe_19 (by decide) ?_
      refine lv_goto (tgt := 24) hx hb dX12_mayBe_20 (by decide) ?_
      cases hf
      exact z_zret hx hb hr hlk hK hG hI (Or.inr rfl) dX12_mayBe_24

-- ===== FenceYardsModel.day(II)I
set_option maxRecDepth 100000 in
theorem i_X12_day_11 : ∀ w ∈ u_ws RX12 TX12 26, w ∈ wsX12_day := by decide +kernel
def f_X12_day (σ : Hp) (x1 : Int32) (x2 : Int32) : Option (Hp × Int32) :=
  bd1 (f_X12_isGround σ) fun r1 => if r1 = 0 then (some (σ, (-1000002))) else (bd1 (f_X12_in σ x1 (-1) 1) fun r2 => if r2 = 0 then (some (σ, (-1000001))) else (bd1 (f_X12_in σ x2 (-1) 1) fun r3 => if r3 = 0 then (some (σ, (-1000001))) else (if (gI σ 52 3) = 12 then (some (σ, (-1000002))) else (bd1 (f_X12_mayBe σ 0 ((gI σ 52 1) + x1)) fun r4 => if r4 = 0 then (some (σ, (-1000002))) else (bd1 (f_X12_mayBe σ 1 ((gI σ 52 2) + x2)) fun r5 => if r5 = 0 then (some (σ, (-1000002))) else (chk (inb (54 + (2 * (gI σ 52 3))) 78) <| chk (inb ((54 + (2 * (gI (sI σ 52 ((54 + (2 * (gI σ 52 3))).toNatClampNeg) (gI σ 52 1)) 52 3))) + 1) 78) <| bnd (sI (sI σ 52 ((54 + (2 * (gI σ 52 3))).toNatClampNeg) (gI σ 52 1)) 52 (((54 + (2 * (gI (sI σ 52 ((54 + (2 * (gI σ 52 3))).toNatClampNeg) (gI σ 52 1)) 52 3))) + 1).toNatClampNeg) (gI (sI σ 52 ((54 + (2 * (gI σ 52 3))).toNatClampNeg) (gI σ 52 1)) 52 2)) fun s1 => bnd (sI (sI s1 52 1 ((gI s1 52 1) + x1)) 52 2 ((gI (sI s1 52 1 ((gI s1 52 1) + x1)) 52 2) + x2)) fun s2 => some (sI s2 52 3 ((gI s2 52 3) + 1), (13 * (gI (sI s2 52 3 ((gI s2 52 3) + 1)) 52 1)) + (gI (sI s2 52 3 ((gI s2 52 3) + 1)) 52 2))))))))
set_option maxRecDepth 100000 in
set_option maxHeartbeats 4000000 in
theorem m_X12_day (G : GT) (l : Launch) {σ : Hp} {x1 : Int32} {x2 : Int32} {σ' : Hp} {r : Int32}  (hf : f_X12_day σ x1 x2 = some (σ', r)) : MetG G l yX12_day wsX12_day (rmk 2 46) σ [.ref (G.1 + 51), .int x1, .int x2] (QI G σ' r) := by
  refine met_of (cc := cX12_day) (nL := 3) (ret := (some .int)) (by decide) rfl (Nat.le_of_ble_eq_true rfl) ?_
  intro p e s m below meth c C0 hnm hI ls hl
  obtain ⟨hx, hb, hr, hml, hown, hts, hlk, hK, hG⟩ := id C0
  have hl : lv_has ls 3 [(0, .ref (G.1 + 51)), (1, .int x1), (2, .int x2)] := hl
  unfold f_X12_day at hf
  refine lv_aload_n hx hb dX12_day_0 rfl (lv_at hl 0 rfl) ?_
  obtain ⟨r1, hc1, hf⟩ := ok_1 hf
  refine z_calli0 rfl rfl hI (va_runV (As := []) (rest := []) ⟨hx, hb, hml, hown, hts⟩ (m_X12_isGround G l  hc1) (cwV 0 hts gX12_day_X12_isGround rfl rfl rfl (by decide +kernel) ⟨Nat.le_of_ble_eq_true rfl, Nat.le_of_ble_eq_true rfl⟩) (z_preV hK hG hI (z_rc (q := 51) (ci := 11) (n := 0) hK hI rfl (by decide) rfl)) rfl rfl hl.1 rfl (lv_room (Nat.le_of_ble_eq_true rfl)) dX12_day_1 ⟨Nat.zero_le _, Nat.zero_le _⟩) (fun H locs hI => ?_)
  refine lv_if_ne (tgt := 10) hx hb dX12_day_4 (by decide) (fun c1 => ?_) (fun c1 => ?_)
  · have hf := ok_f c1 hf
    refine lv_iload_n hx hb dX12_day_10 rfl (lv_at hl 1 rfl) ?_
    refine lv_iconst (v := (-1)) hx hb dX12_day_11 (by decide) ?_
    refine lv_iconst (v := 1) hx hb dX12_day_12 (by decide) ?_
    obtain ⟨r2, hc2, hf⟩ := ok_1 hf
    refine z_calli0 rfl rfl hI (va_runS (As := [.int x1, .int (-1), .int 1]) (rest := []) ⟨hx, hb, hml, hown, hts⟩ (m_X12_in G l  hc2) (va_cwS 3 hts gX12_day_X12_in rfl rfl rfl (by decide +kernel) ⟨Nat.le_of_ble_eq_true rfl, Nat.le_of_ble_eq_true rfl⟩) (z_pre hK hG hI) rfl rfl hl.1 rfl (lv_room (Nat.le_of_ble_eq_true rfl)) dX12_day_13 ⟨Nat.zero_le _, Nat.zero_le _⟩) (fun H locs hI => ?_)
    refine lv_if_eq (tgt := 28) hx hb dX12_day_16 (by decide) (fun c2 => ?_) (fun c2 => ?_)
    · have hf := ok_t c2 hf
      refine lv_ldc (v := (-1000001)) hx hb hown (hts (.constant RX12 71 (-1000001)) (by decide +kernel)) dX12_day_28 ?_
      cases hf
      exact z_iret hx hb hr hlk hK hG hI dX12_day_30
    · have hf := ok_f c2 hf
      refine lv_iload_n hx hb dX12_day_19 rfl (lv_at hl 2 rfl) ?_
      refine lv_iconst (v := (-1)) hx hb dX12_day_20 (by decide) ?_
      refine lv_iconst (v := 1) hx hb dX12_day_21 (by decide) ?_
      obtain ⟨r3, hc3, hf⟩ := ok_1 hf
      refine z_calli0 rfl rfl hI (va_runS (As := [.int x2, .int (-1), .int 1]) (rest := []) ⟨hx, hb, hml, hown, hts⟩ (m_X12_in G l  hc3) (va_cwS 3 hts gX12_day_X12_in rfl rfl rfl (by decide +kernel) ⟨Nat.le_of_ble_eq_true rfl, Nat.le_of_ble_eq_true rfl⟩) (z_pre hK hG hI) rfl rfl hl.1 rfl (lv_room (Nat.le_of_ble_eq_true rfl)) dX12_day_22 ⟨Nat.zero_le _, Nat.zero_le _⟩) (fun H locs hI => ?_)
      refine lv_if_ne (tgt := 31) hx hb dX12_day_25 (by decide) (fun c3 => ?_) (fun c3 => ?_)
      · have hf := ok_f c3 hf
        refine lv_aload_n hx hb dX12_day_31 rfl (lv_at hl 0 rfl) ?_
        refine z_get (C := RX12) (T := TX12) (N := 26) (ci := 11) (v := .ref (G.1 + 52)) hx hb hts i_X12_day_11 hown hK hI 51 rfl (by decide) rfl 0 (by decide) (hts (.fieldLink RX12 7 "FenceYardsModel" "st" "[I") (by decide +kernel)) (fun _ h9 => h9) rfl dX12_day_32 ?_
        refine lv_iconst (v := 3) hx hb dX12_day_35 (by decide) ?_
        refine z_iald hx hb hK hI 52 (k := 3) rfl (by decide) (by decide) dX12_day_36 ?_
        refine lv_bipush (v := 12) hx hb dX12_day_37 (by decide) ?_
        refine lv_icmp_eq (tgt := 74) hx hb dX12_day_39 (by decide) (fun c4 => ?_) (fun c4 => ?_)
        · have hf := ok_t c4 hf
          refine lv_ldc (v := (-1000002)) hx hb hown (hts (.constant RX12 200 (-1000002)) (by decide +kernel)) dX12_day_74 ?_
          cases hf
          exact z_iret hx hb hr hlk hK hG hI dX12_day_76
        · have hf := ok_f c4 hf
          refine lv_aload_n hx hb dX12_day_42 rfl (lv_at hl 0 rfl) ?_
          refine lv_iconst (v := 0) hx hb dX12_day_43 (by decide) ?_
          refine lv_aload_n hx hb dX12_day_44 rfl (lv_at hl 0 rfl) ?_
          refine z_get (C := RX12) (T := TX12) (N := 26) (ci := 11) (v := .ref (G.1 + 52)) hx hb hts i_X12_day_11 hown hK hI 51 rfl (by decide) rfl 0 (by decide) (hts (.fieldLink RX12 7 "FenceYardsModel" "st" "[I") (by decide +kernel)) (fun _ h9 => h9) rfl dX12_day_45 ?_
          refine lv_iconst (v := 1) hx hb dX12_day_48 (by decide) ?_
          refine z_iald hx hb hK hI 52 (k := 1) rfl (by decide) (by decide) dX12_day_49 ?_
          refine lv_iload_n hx hb dX12_day_50 rfl (lv_at hl 1 rfl) ?_
          refine lv_iadd hx hb dX12_day_51 ?_
          obtain ⟨r4, hc4, hf⟩ := ok_1 hf
          refine z_calli0 rfl rfl hI (va_runV (As := [.int 0, .int ((gI σ 52 1) + x1)]) (rest := []) ⟨hx, hb, hml, hown, hts⟩ (m_X12_mayBe G l  hc4) (cwV 2 hts gX12_day_X12_mayBe rfl rfl rfl (by decide +kernel) ⟨Nat.le_of_ble_eq_true rfl, Nat.le_of_ble_eq_true rfl⟩) (z_preV hK hG hI (z_rc (q := 51) (ci := 11) (n := 0) hK hI rfl (by decide) rfl)) rfl rfl hl.1 rfl (lv_room (Nat.le_of_ble_eq_true rfl)) dX12_day_52 ⟨Nat.zero_le _, Nat.zero_le _⟩) (fun H locs hI => ?_)
          refine lv_if_eq (tgt := 74) hx hb dX12_day_55 (by decide) (fun c5 => ?_) (fun c5 => ?_)
          · have hf := ok_t c5 hf
            refine lv_ldc (v := (-1000002)) hx hb hown (hts (.constant RX12 200 (-1000002)) (by decide +kernel)) dX12_day_74 ?_
            cases hf
            exact z_iret hx hb hr hlk hK hG hI dX12_day_76
          · have hf := ok_f c5 hf
            refine lv_aload_n hx hb dX12_day_58 rfl (lv_at hl 0 rfl) ?_
            refine lv_iconst (v := 1) hx hb dX12_day_59 (by decide) ?_
            refine lv_aload_n hx hb dX12_day_60 rfl (lv_at hl 0 rfl) ?_
            refine z_get (C := RX12) (T := TX12) (N := 26) (ci := 11) (v := .ref (G.1 + 52)) hx hb hts i_X12_day_11 hown hK hI 51 rfl (by decide) rfl 0 (by decide) (hts (.fieldLink RX12 7 "FenceYardsModel" "st" "[I") (by decide +kernel)) (fun _ h9 => h9) rfl dX12_day_61 ?_
            refine lv_iconst (v := 2) hx hb dX12_day_64 (by decide) ?_
            refine z_iald hx hb hK hI 52 (k := 2) rfl (by decide) (by decide) dX12_day_65 ?_
            refine lv_iload_n hx hb dX12_day_66 rfl (lv_at hl 2 rfl) ?_
            refine lv_iadd hx hb dX12_day_67 ?_
            obtain ⟨r5, hc5, hf⟩ := ok_1 hf
            refine z_calli0 rfl rfl hI (va_runV (As := [.int 1, .int ((gI σ 52 2) + x2)]) (rest := []) ⟨hx, hb, hml, hown, hts⟩ (m_X12_mayBe G l  hc5) (cwV 2 hts gX12_day_X12_mayBe rfl rfl rfl (by decide +kernel) ⟨Nat.le_of_ble_eq_true rfl, Nat.le_of_ble_eq_true rfl⟩) (z_preV hK hG hI (z_rc (q := 51) (ci := 11) (n := 0) hK hI rfl (by decide) rfl)) rfl rfl hl.1 rfl (lv_room (Nat.le_of_ble_eq_true rfl)) dX12_day_68 ⟨Nat.zero_le _, Nat.zero_le _⟩) (fun H locs hI => ?_)
            refine lv_if_ne (tgt := 77) hx hb dX12_day_71 (by decide) (fun c6 => ?_) (fun c6 => ?_)
            · have hf := ok_f c6 hf
              refine lv_aload_n hx hb dX12_day_77 rfl (lv_at hl 0 rfl) ?_
              refine z_get (C := RX12) (T := TX12) (N := 26) (ci := 11) (v := .ref (G.1 + 52)) hx hb hts i_X12_day_11 hown hK hI 51 rfl (by decide) rfl 0 (by decide) (hts (.fieldLink RX12 7 "FenceYardsModel" "st" "[I") (by decide +kernel)) (fun _ h9 => h9) rfl dX12_day_78 ?_
              refine lv_bipush (v := 54) hx hb dX12_day_81 (by decide) ?_
              refine lv_iconst (v := 2) hx hb dX12_day_83 (by decide) ?_
              refine lv_aload_n hx hb dX12_day_84 rfl (lv_at hl 0 rfl) ?_
              refine z_get (C := RX12) (T := TX12) (N := 26) (ci := 11) (v := .ref (G.1 + 52)) hx hb hts i_X12_day_11 hown hK hI 51 rfl (by decide) rfl 0 (by decide) (hts (.fieldLink RX12 7 "FenceYardsModel" "st" "[I") (by decide +kernel)) (fun _ h9 => h9) rfl dX12_day_85 ?_
              refine lv_iconst (v := 3) hx hb dX12_day_88 (by decide) ?_
              refine z_iald hx hb hK hI 52 (k := 3) rfl (by decide) (by decide) dX12_day_89 ?_
              refine lv_imul hx hb dX12_day_90 ?_
              refine lv_iadd hx hb dX12_day_91 ?_
              refine lv_aload_n hx hb dX12_day_92 rfl (lv_at hl 0 rfl) ?_
              refine z_get (C := RX12) (T := TX12) (N := 26) (ci := 11) (v := .ref (G.1 + 52)) hx hb hts i_X12_day_11 hown hK hI 51 rfl (by decide) rfl 0 (by decide) (hts (.fieldLink RX12 7 "FenceYardsModel" "st" "[I") (by decide +kernel)) (fun _ h9 => h9) rfl dX12_day_93 ?_
              refine lv_iconst (v := 1) hx hb dX12_day_96 (by decide) ?_
              refine z_iald hx hb hK hI 52 (k := 1) rfl (by decide) (by decide) dX12_day_97 ?_
              obtain ⟨h1, hf⟩ := ok_c hf
              refine z_iast hx hb hK hI 52 (k := (54 + (2 * (gI σ 52 3))).toNatClampNeg) rfl h1 rfl dX12_day_98 (fun H locs hI => ?_)
              refine lv_aload_n hx hb dX12_day_99 rfl (lv_at hl 0 rfl) ?_
              refine z_get (C := RX12) (T := TX12) (N := 26) (ci := 11) (v := .ref (G.1 + 52)) hx hb hts i_X12_day_11 hown hK hI 51 rfl (by decide) rfl 0 (by decide) (hts (.fieldLink RX12 7 "FenceYardsModel" "st" "[I") (by decide +kernel)) (fun _ h9 => h9) rfl dX12_day_100 ?_
              refine lv_bipush (v := 54) hx hb dX12_day_103 (by decide) ?_
              refine lv_iconst (v := 2) hx hb dX12_day_105 (by decide) ?_
              refine lv_aload_n hx hb dX12_day_106 rfl (lv_at hl 0 rfl) ?_
              refine z_get (C := RX12) (T := TX12) (N := 26) (ci := 11) (v := .ref (G.1 + 52)) hx hb hts i_X12_day_11 hown hK hI 51 rfl (by decide) rfl 0 (by decide) (hts (.fieldLink RX12 7 "FenceYardsModel" "st" "[I") (by decide +kernel)) (fun _ h9 => h9) rfl dX12_day_107 ?_
              refine lv_iconst (v := 3) hx hb dX12_day_110 (by decide) ?_
              refine z_iald hx hb hK hI 52 (k := 3) rfl (by decide) (by decide) dX12_day_111 ?_
              refine lv_imul hx hb dX12_day_112 ?_
              refine lv_iadd hx hb dX12_day_113 ?_
              refine lv_iconst (v := 1) hx hb dX12_day_114 (by decide) ?_
              refine lv_iadd hx hb dX12_day_115 ?_
              refine lv_aload_n hx hb dX12_day_116 rfl (lv_at hl 0 rfl) ?_
              refine z_get (C := RX12) (T := TX12) (N := 26) (ci := 11) (v := .ref (G.1 + 52)) hx hb hts i_X12_day_11 hown hK hI 51 rfl (by decide) rfl 0 (by decide) (hts (.fieldLink RX12 7 "FenceYardsModel" "st" "[I") (by decide +kernel)) (fun _ h9 => h9) rfl dX12_day_117 ?_
              refine lv_iconst (v := 2) hx hb dX12_day_120 (by decide) ?_
              refine z_iald hx hb hK hI 52 (k := 2) rfl (by decide) (by decide) dX12_day_121 ?_
              obtain ⟨h2, hf⟩ := ok_c hf
              refine z_iast hx hb hK hI 52 (k := ((54 + (2 * (gI (sI σ 52 ((54 + (2 * (gI σ 52 3))).toNatClampNeg) (gI σ 52 1)) 52 3))) + 1).toNatClampNeg) rfl h2 rfl dX12_day_122 (fun H locs hI => ?_)
              obtain ⟨s1, es1⟩ : ∃ z, z = sI (sI σ 52 ((54 + (2 * (gI σ 52 3))).toNatClampNeg) (gI σ 52 1)) 52 (((54 + (2 * (gI (sI σ 52 ((54 + (2 * (gI σ 52 3))).toNatClampNeg) (gI σ 52 1)) 52 3))) + 1).toNatClampNeg) (gI (sI σ 52 ((54 + (2 * (gI σ 52 3))).toNatClampNeg) (gI σ 52 1)) 52 2) := ⟨_, rfl⟩
              have hI : Inv G s s1 H locs := by rw [es1]; exact hI
              have hf := ok_n hf es1
              refine lv_aload_n hx hb dX12_day_123 rfl (lv_at hl 0 rfl) ?_
              refine z_get (C := RX12) (T := TX12) (N := 26) (ci := 11) (v := .ref (G.1 + 52)) hx hb hts i_X12_day_11 hown hK hI 51 rfl (by decide) rfl 0 (by decide) (hts (.fieldLink RX12 7 "FenceYardsModel" "st" "[I") (by decide +kernel)) (fun _ h9 => h9) rfl dX12_day_124 ?_
              refine lv_iconst (v := 1) hx hb dX12_day_127 (by decide) ?_
              refine lv_dup2_11 hx hb dX12_day_128 rfl rfl ?_
              refine z_iald hx hb hK hI 52 (k := 1) rfl (by decide) (by decide) dX12_day_129 ?_
              refine lv_iload_n hx hb dX12_day_130 rfl (lv_at hl 1 rfl) ?_
              refine lv_iadd hx hb dX12_day_131 ?_
              refine z_iast hx hb hK hI 52 (k := 1) rfl (by decide) (by decide) dX12_day_132 (fun H locs hI => ?_)
              refine lv_aload_n hx hb dX12_day_133 rfl (lv_at hl 0 rfl) ?_
              refine z_get (C := RX12) (T := TX12) (N := 26) (ci := 11) (v := .ref (G.1 + 52)) hx hb hts i_X12_day_11 hown hK hI 51 rfl (by decide) rfl 0 (by decide) (hts (.fieldLink RX12 7 "FenceYardsModel" "st" "[I") (by decide +kernel)) (fun _ h9 => h9) rfl dX12_day_134 ?_
              refine lv_iconst (v := 2) hx hb dX12_day_137 (by decide) ?_
              refine lv_dup2_11 hx hb dX12_day_138 rfl rfl ?_
              refine z_iald hx hb hK hI 52 (k := 2) rfl (by decide) (by decide) dX12_day_139 ?_
              refine lv_iload_n hx hb dX12_day_140 rfl (lv_at hl 2 rfl) ?_
              refine lv_iadd hx hb dX12_day_141 ?_
              refine z_iast hx hb hK hI 52 (k := 2) rfl (by decide) (by decide) dX12_day_142 (fun H locs hI => ?_)
              obtain ⟨s2, es2⟩ : ∃ z, z = sI (sI s1 52 1 ((gI s1 52 1) + x1)) 52 2 ((gI (sI s1 52 1 ((gI s1 52 1) + x1)) 52 2) + x2) := ⟨_, rfl⟩
              have hI : Inv G s s2 H locs := by rw [es2]; exact hI
              have hf := ok_n hf es2
              refine lv_aload_n hx hb dX12_day_143 rfl (lv_at hl 0 rfl) ?_
              refine z_get (C := RX12) (T := TX12) (N := 26) (ci := 11) (v := .ref (G.1 + 52)) hx hb hts i_X12_day_11 hown hK hI 51 rfl (by decide) rfl 0 (by decide) (hts (.fieldLink RX12 7 "FenceYardsModel" "st" "[I") (by decide +kernel)) (fun _ h9 => h9) rfl dX12_day_144 ?_
              refine lv_iconst (v := 3) hx hb dX12_day_147 (by decide) ?_
              refine lv_dup2_11 hx hb dX12_day_148 rfl rfl ?_
              refine z_iald hx hb hK hI 52 (k := 3) rfl (by decide) (by decide) dX12_day_149 ?_
              refine lv_iconst (v := 1) hx hb dX12_day_150 (by decide) ?_
              refine lv_iadd hx hb dX12_day_151 ?_
              refine z_iast hx hb hK hI 52 (k := 3) rfl (by decide) (by decide) dX12_day_152 (fun H locs hI => ?_)
              refine lv_bipush (v := 13) hx hb dX12_day_153 (by decide) ?_
              refine lv_aload_n hx hb dX12_day_155 rfl (lv_at hl 0 rfl) ?_
              refine z_get (C := RX12) (T := TX12) (N := 26) (ci := 11) (v := .ref (G.1 + 52)) hx hb hts i_X12_day_11 hown hK hI 51 rfl (by decide) rfl 0 (by decide) (hts (.fieldLink RX12 7 "FenceYardsModel" "st" "[I") (by decide +kernel)) (fun _ h9 => h9) rfl dX12_day_156 ?_
              refine lv_iconst (v := 1) hx hb dX12_day_159 (by decide) ?_
              refine z_iald hx hb hK hI 52 (k := 1) rfl (by decide) (by decide) dX12_day_160 ?_
              refine lv_imul hx hb dX12_day_161 ?_
              refine lv_aload_n hx hb dX12_day_162 rfl (lv_at hl 0 rfl) ?_
              refine z_get (C := RX12) (T := TX12) (N := 26) (ci := 11) (v := .ref (G.1 + 52)) hx hb hts i_X12_day_11 hown hK hI 51 rfl (by decide) rfl 0 (by decide) (hts (.fieldLink RX12 7 "FenceYardsModel" "st" "[I") (by decide +kernel)) (fun _ h9 => h9) rfl dX12_day_163 ?_
              refine lv_iconst (v := 2) hx hb dX12_day_166 (by decide) ?_
              refine z_iald hx hb hK hI 52 (k := 2) rfl (by decide) (by decide) dX12_day_167 ?_
              refine lv_iadd hx hb dX12_day_168 ?_
              cases hf
              exact z_iret hx hb hr hlk hK hG hI dX12_day_169
            · have hf := ok_t c6 hf
              refine lv_ldc (v := (-1000002)) hx hb hown (hts (.constant RX12 200 (-1000002)) (by decide +kernel)) dX12_day_74 ?_
              cases hf
              exact z_iret hx hb hr hlk hK hG hI dX12_day_76
      · have hf := ok_t c3 hf
        refine lv_ldc (v := (-1000001)) hx hb hown (hts (.constant RX12 71 (-1000001)) (by decide +kernel)) dX12_day_28 ?_
        cases hf
        exact z_iret hx hb hr hlk hK hG hI dX12_day_30
  · have hf := ok_t c1 hf
    refine lv_ldc (v := (-1000002)) hx hb hown (hts (.constant RX12 200 (-1000002)) (by decide +kernel)) dX12_day_7 ?_
    cases hf
    exact z_iret hx hb hr hlk hK hG hI dX12_day_9

-- ===== FenceYardsModel.undo()I
set_option maxRecDepth 100000 in
theorem i_X12_undo_11 : ∀ w ∈ u_ws RX12 TX12 26, w ∈ wsX12_undo := by decide +kernel
def f_X12_undo (σ : Hp)  : Option (Hp × Int32) :=
  bd1 (f_X12_isGround σ) fun r1 => if r1 = 0 then (some (σ, (-1000002))) else (if (gI σ 52 3) = 0 then (some (σ, (-1000002))) else (chk (inb (54 + (2 * (gI (sI σ 52 3 ((gI σ 52 3) - 1)) 52 3))) 78) <| bnd (sI (sI σ 52 3 ((gI σ 52 3) - 1)) 52 1 (gI (sI σ 52 3 ((gI σ 52 3) - 1)) 52 ((54 + (2 * (gI (sI σ 52 3 ((gI σ 52 3) - 1)) 52 3))).toNatClampNeg))) fun s1 => chk (inb ((54 + (2 * (gI s1 52 3))) + 1) 78) <| bnd (sI s1 52 2 (gI s1 52 (((54 + (2 * (gI s1 52 3))) + 1).toNatClampNeg))) fun s2 => some (s2, gI s2 52 3)))
set_option maxRecDepth 100000 in
set_option maxHeartbeats 4000000 in
theorem m_X12_undo (G : GT) (l : Launch) {σ : Hp}  {σ' : Hp} {r : Int32}  (hf : f_X12_undo σ = some (σ', r)) : MetG G l yX12_undo wsX12_undo (rmk 1 20) σ [.ref (G.1 + 51)] (QI G σ' r) := by
  refine met_of (cc := cX12_undo) (nL := 1) (ret := (some .int)) (by decide) rfl (Nat.le_of_ble_eq_true rfl) ?_
  intro p e s m below meth c C0 hnm hI ls hl
  obtain ⟨hx, hb, hr, hml, hown, hts, hlk, hK, hG⟩ := id C0
  have hl : lv_has ls 1 [(0, .ref (G.1 + 51))] := hl
  unfold f_X12_undo at hf
  refine lv_aload_n hx hb dX12_undo_0 rfl (lv_at hl 0 rfl) ?_
  obtain ⟨r1, hc1, hf⟩ := ok_1 hf
  refine z_calli0 rfl rfl hI (va_runV (As := []) (rest := []) ⟨hx, hb, hml, hown, hts⟩ (m_X12_isGround G l  hc1) (cwV 0 hts gX12_undo_X12_isGround rfl rfl rfl (by decide +kernel) ⟨Nat.le_of_ble_eq_true rfl, Nat.le_of_ble_eq_true rfl⟩) (z_preV hK hG hI (z_rc (q := 51) (ci := 11) (n := 0) hK hI rfl (by decide) rfl)) rfl rfl hl.1 rfl (lv_room (Nat.le_of_ble_eq_true rfl)) dX12_undo_1 ⟨Nat.zero_le _, Nat.zero_le _⟩) (fun H locs hI => ?_)
  refine lv_if_eq (tgt := 16) hx hb dX12_undo_4 (by decide) (fun c1 => ?_) (fun c1 => ?_)
  · have hf := ok_t c1 hf
    refine lv_ldc (v := (-1000002)) hx hb hown (hts (.constant RX12 200 (-1000002)) (by decide +kernel)) dX12_undo_16 ?_
    cases hf
    exact z_iret hx hb hr hlk hK hG hI dX12_undo_18
  · have hf := ok_f c1 hf
    refine lv_aload_n hx hb dX12_undo_7 rfl (lv_at hl 0 rfl) ?_
    refine z_get (C := RX12) (T := TX12) (N := 26) (ci := 11) (v := .ref (G.1 + 52)) hx hb hts i_X12_undo_11 hown hK hI 51 rfl (by decide) rfl 0 (by decide) (hts (.fieldLink RX12 7 "FenceYardsModel" "st" "[I") (by decide +kernel)) (fun _ h9 => h9) rfl dX12_undo_8 ?_
    refine lv_iconst (v := 3) hx hb dX12_undo_11 (by decide) ?_
    refine z_iald hx hb hK hI 52 (k := 3) rfl (by decide) (by decide) dX12_undo_12 ?_
    refine lv_if_ne (tgt := 19) hx hb dX12_undo_13 (by decide) (fun c2 => ?_) (fun c2 => ?_)
    · have hf := ok_f c2 hf
      refine lv_aload_n hx hb dX12_undo_19 rfl (lv_at hl 0 rfl) ?_
      refine z_get (C := RX12) (T := TX12) (N := 26) (ci := 11) (v := .ref (G.1 + 52)) hx hb hts i_X12_undo_11 hown hK hI 51 rfl (by decide) rfl 0 (by decide) (hts (.fieldLink RX12 7 "FenceYardsModel" "st" "[I") (by decide +kernel)) (fun _ h9 => h9) rfl dX12_undo_20 ?_
      refine lv_iconst (v := 3) hx hb dX12_undo_23 (by decide) ?_
      refine lv_dup2_11 hx hb dX12_undo_24 rfl rfl ?_
      refine z_iald hx hb hK hI 52 (k := 3) rfl (by decide) (by decide) dX12_undo_25 ?_
      refine lv_iconst (v := 1) hx hb dX12_undo_26 (by decide) ?_
      refine lv_isub hx hb dX12_undo_27 ?_
      refine z_iast hx hb hK hI 52 (k := 3) rfl (by decide) (by decide) dX12_undo_28 (fun H locs hI => ?_)
      refine lv_aload_n hx hb dX12_undo_29 rfl (lv_at hl 0 rfl) ?_
      refine z_get (C := RX12) (T := TX12) (N := 26) (ci := 11) (v := .ref (G.1 + 52)) hx hb hts i_X12_undo_11 hown hK hI 51 rfl (by decide) rfl 0 (by decide) (hts (.fieldLink RX12 7 "FenceYardsModel" "st" "[I") (by decide +kernel)) (fun _ h9 => h9) rfl dX12_undo_30 ?_
      refine lv_iconst (v := 1) hx hb dX12_undo_33 (by decide) ?_
      refine lv_aload_n hx hb dX12_undo_34 rfl (lv_at hl 0 rfl) ?_
      refine z_get (C := RX12) (T := TX12) (N := 26) (ci := 11) (v := .ref (G.1 + 52)) hx hb hts i_X12_undo_11 hown hK hI 51 rfl (by decide) rfl 0 (by decide) (hts (.fieldLink RX12 7 "FenceYardsModel" "st" "[I") (by decide +kernel)) (fun _ h9 => h9) rfl dX12_undo_35 ?_
      refine lv_bipush (v := 54) hx hb dX12_undo_38 (by decide) ?_
      refine lv_iconst (v := 2) hx hb dX12_undo_40 (by decide) ?_
      refine lv_aload_n hx hb dX12_undo_41 rfl (lv_at hl 0 rfl) ?_
      refine z_get (C := RX12) (T := TX12) (N := 26) (ci := 11) (v := .ref (G.1 + 52)) hx hb hts i_X12_undo_11 hown hK hI 51 rfl (by decide) rfl 0 (by decide) (hts (.fieldLink RX12 7 "FenceYardsModel" "st" "[I") (by decide +kernel)) (fun _ h9 => h9) rfl dX12_undo_42 ?_
      refine lv_iconst (v := 3) hx hb dX12_undo_45 (by decide) ?_
      refine z_iald hx hb hK hI 52 (k := 3) rfl (by decide) (by decide) dX12_undo_46 ?_
      refine lv_imul hx hb dX12_undo_47 ?_
      refine lv_iadd hx hb dX12_undo_48 ?_
      obtain ⟨h1, hf⟩ := ok_c hf
      refine z_iald hx hb hK hI 52 (k := (54 + (2 * (gI (sI σ 52 3 ((gI σ 52 3) - 1)) 52 3))).toNatClampNeg) rfl h1 rfl dX12_undo_49 ?_
      refine z_iast hx hb hK hI 52 (k := 1) rfl (by decide) (by decide) dX12_undo_50 (fun H locs hI => ?_)
      obtain ⟨s1, es1⟩ : ∃ z, z = sI (sI σ 52 3 ((gI σ 52 3) - 1)) 52 1 (gI (sI σ 52 3 ((gI σ 52 3) - 1)) 52 ((54 + (2 * (gI (sI σ 52 3 ((gI σ 52 3) - 1)) 52 3))).toNatClampNeg)) := ⟨_, rfl⟩
      have hI : Inv G s s1 H locs := by rw [es1]; exact hI
      have hf := ok_n hf es1
      refine lv_aload_n hx hb dX12_undo_51 rfl (lv_at hl 0 rfl) ?_
      refine z_get (C := RX12) (T := TX12) (N := 26) (ci := 11) (v := .ref (G.1 + 52)) hx hb hts i_X12_undo_11 hown hK hI 51 rfl (by decide) rfl 0 (by decide) (hts (.fieldLink RX12 7 "FenceYardsModel" "st" "[I") (by decide +kernel)) (fun _ h9 => h9) rfl dX12_undo_52 ?_
      refine lv_iconst (v := 2) hx hb dX12_undo_55 (by decide) ?_
      refine lv_aload_n hx hb dX12_undo_56 rfl (lv_at hl 0 rfl) ?_
      refine z_get (C := RX12) (T := TX12) (N := 26) (ci := 11) (v := .ref (G.1 + 52)) hx hb hts i_X12_undo_11 hown hK hI 51 rfl (by decide) rfl 0 (by decide) (hts (.fieldLink RX12 7 "FenceYardsModel" "st" "[I") (by decide +kernel)) (fun _ h9 => h9) rfl dX12_undo_57 ?_
      refine lv_bipush (v := 54) hx hb dX12_undo_60 (by decide) ?_
      refine lv_iconst (v := 2) hx hb dX12_undo_62 (by decide) ?_
      refine lv_aload_n hx hb dX12_undo_63 rfl (lv_at hl 0 rfl) ?_
      refine z_get (C := RX12) (T := TX12) (N := 26) (ci := 11) (v := .ref (G.1 + 52)) hx hb hts i_X12_undo_11 hown hK hI 51 rfl (by decide) rfl 0 (by decide) (hts (.fieldLink RX12 7 "FenceYardsModel" "st" "[I") (by decide +kernel)) (fun _ h9 => h9) rfl dX12_undo_64 ?_
      refine lv_iconst (v := 3) hx hb dX12_undo_67 (by decide) ?_
      refine z_iald hx hb hK hI 52 (k := 3) rfl (by decide) (by decide) dX12_undo_68 ?_
      refine lv_imul hx hb dX12_undo_69 ?_
      refine lv_iadd hx hb dX12_undo_70 ?_
      refine lv_iconst (v := 1) hx hb dX12_undo_71 (by decide) ?_
      refine lv_iadd hx hb dX12_undo_72 ?_
      obtain ⟨h2, hf⟩ := ok_c hf
      refine z_iald hx hb hK hI 52 (k := ((54 + (2 * (gI s1 52 3))) + 1).toNatClampNeg) rfl h2 rfl dX12_undo_73 ?_
      refine z_iast hx hb hK hI 52 (k := 2) rfl (by decide) (by decide) dX12_undo_74 (fun H locs hI => ?_)
      obtain ⟨s2, es2⟩ : ∃ z, z = sI s1 52 2 (gI s1 52 (((54 + (2 * (gI s1 52 3))) + 1).toNatClampNeg)) := ⟨_, rfl⟩
      have hI : Inv G s s2 H locs := by rw [es2]; exact hI
      have hf := ok_n hf es2
      refine lv_aload_n hx hb dX12_undo_75 rfl (lv_at hl 0 rfl) ?_
      refine z_get (C := RX12) (T := TX12) (N := 26) (ci := 11) (v := .ref (G.1 + 52)) hx hb hts i_X12_undo_11 hown hK hI 51 rfl (by decide) rfl 0 (by decide) (hts (.fieldLink RX12 7 "FenceYardsModel" "st" "[I") (by decide +kernel)) (fun _ h9 => h9) rfl dX12_undo_76 ?_
      refine lv_iconst (v := 3) hx hb dX12_undo_79 (by decide) ?_
      refine z_iald hx hb hK hI 52 (k := 3) rfl (by decide) (by decide) dX12_undo_80 ?_
      cases hf
      exact z_iret hx hb hr hlk hK hG hI dX12_undo_81
    · have hf := ok_t c2 hf
      refine lv_ldc (v := (-1000002)) hx hb hown (hts (.constant RX12 200 (-1000002)) (by decide +kernel)) dX12_undo_16 ?_
      cases hf
      exact z_iret hx hb hr hlk hK hG hI dX12_undo_18

-- ===== FenceYardsModel.reapedBy(I)J
set_option maxRecDepth 100000 in
theorem i_X12_reapedBy_11 : ∀ w ∈ u_ws RX12 TX12 26, w ∈ wsX12_reapedBy := by decide +kernel
def f_X12_reapedBy_107 (k8 : Int64 → Int64 → Int32 → Option (Int64))  (σ : Hp) (x1 : Int32) (y2 : Int64) (x6 : Int32) : Nat → Int64 → Int32 → Option (Int64)
  | 0, _, _ => none
  | n + 1, y4, x8 =>
    if (gI σ 52 4) ≤ x8 then (k8 y2 y4 (x6 + 1)) else (bd1 (f_X12_cropOn σ x8 x6) fun r1 => bnd (y4 + ((r1.toInt64) * 55440)) fun v1 => f_X12_reapedBy_107 k8 σ x1 y2 x6 n v1 (x8 + 1))
def f_X12_reapedBy_71 (k8 : Int64 → Int64 → Int32 → Option (Int64))  (σ : Hp) (x1 : Int32) (y4 : Int64) (x6 : Int32) (x7 : Int32) (tx0 : Int32) (tx1 : Int32) (ty3 : Int64) : Option (Int64) :=
  if x7 = 0 then (chk (inb ((54 + (2 * x6)) + 3) 78) <| bd1 (f_X12_gets σ tx1 tx0 (gI σ 52 (((54 + (2 * x6)) + 3).toNatClampNeg))) fun r1 => bnd (ty3 + r1) fun v1 => f_X12_reapedBy_107 k8 σ x1 v1 x6 fu y4 0) else (bd1 (f_X12_gets σ tx1 tx0 (gI σ 52 2)) fun r2 => bnd (ty3 + r2) fun v2 => f_X12_reapedBy_107 k8 σ x1 v2 x6 fu y4 0)
def f_X12_reapedBy_37 (k8 : Int64 → Int64 → Int32 → Option (Int64))  (σ : Hp) (x1 : Int32) (y2 : Int64) (y4 : Int64) (x6 : Int32) (tx0 : Int32) : Option (Int64) :=
  if tx0 = 0 then (chk (inb ((54 + (2 * x6)) + 2) 78) <| f_X12_reapedBy_71 k8 σ x1 y4 x6 tx0 (gI σ 52 (((54 + (2 * x6)) + 2).toNatClampNeg)) x6 y2) else (f_X12_reapedBy_71 k8 σ x1 y4 x6 tx0 (gI σ 52 1) x6 y2)
def f_X12_reapedBy_8   (σ : Hp) (x1 : Int32) : Nat → Int64 → Int64 → Int32 → Option (Int64)
  | 0, _, _, _ => none
  | n + 1, y2, y4, x6 =>
    if (gI σ 52 3) ≤ x6 then (if x1 = 0 then (some y2) else (some (y4 - y2))) else (if (x6 + 1) = (gI σ 52 3) then (f_X12_reapedBy_37 (f_X12_reapedBy_8 σ x1 n) σ x1 y2 y4 x6 1) else (f_X12_reapedBy_37 (f_X12_reapedBy_8 σ x1 n) σ x1 y2 y4 x6 0))
def f_X12_reapedBy (σ : Hp) (x1 : Int32) : Option (Int64) :=
  f_X12_reapedBy_8 σ x1 fu 0 0 0
set_option maxRecDepth 100000 in
set_option maxHeartbeats 4000000 in
theorem w_X12_reapedBy_107 {G : GT} {p : Program} {l : Launch} {e : Env} {s : State} {m : MethodId} {args : Array Value} {below : List Frame} {meth : Method} {c : Code}  {r : Int64} {k8 : Int64 → Int64 → Int32 → Option (Int64)} {σ : Hp} {x1 : Int32} {y2 : Int64} {x6 : Int32}  (C0 : Cx G cX12_reapedBy RX12 wsX12_reapedBy 9 (some .long) p s m args meth c) (hk8 : ∀ (y2 : Int64) (y4 : Int64) (x6 : Int32), k8 y2 y4 x6 = some r → ∀ (H : Heap) (locs : List Loc), Inv G s σ H locs → ∀ ls : Array Slot, lv_has ls 9 [(0, .ref (G.1 + 51)), (1, .int x1), (2, .long y2), (4, .long y4), (6, .int x6)] → W p l e (rmk 3 73) s m args below meth c H locs 0 0 (MQ below (QL G σ r) args s (rmk 3 73).cells (rmk 3 73).slots (gA G)) (F0 m 8 ls [])) :
    ∀ (n : Nat) (y4 : Int64) (x8 : Int32), f_X12_reapedBy_107 k8 σ x1 y2 x6 n y4 x8 = some r → ∀ (H : Heap) (locs : List Loc), Inv G s σ H locs → ∀ ls : Array Slot, lv_has ls 9 [(0, .ref (G.1 + 51)), (1, .int x1), (2, .long y2), (4, .long y4), (6, .int x6), (8, .int x8)] → W p l e (rmk 3 73) s m args below meth c H locs 0 0 (MQ below (QL G σ r) args s (rmk 3 73).cells (rmk 3 73).slots (gA G)) (F0 m 107 ls []) := by
  obtain ⟨hx, hb, hr, hml, hown, hts, hlk, hK, hG⟩ := id C0
  intro n
  induction n with
  | zero =>
    intro y4 x8 hf
    cases hf
  | succ n ih =>
    intro y4 x8 hf H locs hI ls hl
    rw [f_X12_reapedBy_107] at hf
    refine lv_iload hx hb dX12_reapedBy_107 (lv_at hl 5 rfl) ?_
    refine lv_aload_n hx hb dX12_reapedBy_109 rfl (lv_at hl 0 rfl) ?_
    refine z_get (C := RX12) (T := TX12) (N := 26) (ci := 11) (v := .ref (G.1 + 52)) hx hb hts i_X12_reapedBy_11 hown hK hI 51 rfl (by decide) rfl 0 (by decide) (hts (.fieldLink RX12 7 "FenceYardsModel" "st" "[I") (by decide +kernel)) (fun _ h9 => h9) rfl dX12_reapedBy_110 ?_
    refine lv_iconst (v := 4) hx hb dX12_reapedBy_113 (by decide) ?_
    refine z_iald hx hb hK hI 52 (k := 4) rfl (by decide) (by decide) dX12_reapedBy_114 ?_
    refine lv_icmp_ge (tgt := 142) hx hb dX12_reapedBy_115 (by decide) (fun c1 => ?_) (fun c1 => ?_)
    · have hf := ok_t c1 hf
      refine lv_iinc (v := x6 + 1) (lv' := [(6, .int (x6 + 1)), (0, .ref (G.1 + 51)), (1, .int x1), (2, .long y2), (4, .long y4), (8, .int x8)]) hx hb dX12_reapedBy_142 hl (k := 4) rfl rfl (by decide) rfl (fun ls hl => ?_)
      refine lv_goto (tgt := 8) hx hb dX12_reapedBy_145 (by decide) ?_
      exact hk8 _ _ _ hf _ _ hI _ (lv_sub hl [1, 2, 3, 4, 0] rfl)
    · have hf := ok_f c1 hf
      refine lv_lload hx hb dX12_reapedBy_118 (lv_at hl 3 rfl) ?_
      refine lv_aload_n hx hb dX12_reapedBy_120 rfl (lv_at hl 0 rfl) ?_
      refine lv_iload hx hb dX12_reapedBy_121 (lv_at hl 5 rfl) ?_
      refine lv_iload hx hb dX12_reapedBy_123 (lv_at hl 4 rfl) ?_
      obtain ⟨r1, hc1, hf⟩ := ok_1 hf
      refine z_calli0 rfl rfl hI (va_runV (As := [.int x8, .int x6]) (rest := [.long y4]) ⟨hx, hb, hml, hown, hts⟩ (m_X12_cropOn G l  hc1) (cwV 2 hts gX12_reapedBy_X12_cropOn rfl rfl rfl (by decide +kernel) ⟨Nat.le_of_ble_eq_true rfl, Nat.le_of_ble_eq_true rfl⟩) (z_preV hK hG hI (z_rc (q := 51) (ci := 11) (n := 0) hK hI rfl (by decide) rfl)) rfl rfl hl.1 rfl (lv_room (Nat.le_of_ble_eq_true rfl)) dX12_reapedBy_125 ⟨Nat.zero_le _, Nat.zero_le _⟩) (fun H locs hI => ?_)
      refine lv_i2l hx hb dX12_reapedBy_128 rfl ?_
      refine lv_ldc2 (v := 55440) hx hb hown (hts (.constantLong RX12 179 55440) (by decide +kernel)) dX12_reapedBy_129 ?_
      refine lv_lmul hx hb dX12_reapedBy_132 ?_
      refine lv_ladd hx hb dX12_reapedBy_133 ?_
      refine lv_topl (fun v1 ev1 => ?_)
      have hf := ok_n hf ev1
      refine lv_lstore (lv' := [(4, .long v1), (0, .ref (G.1 + 51)), (1, .int x1), (2, .long y2), (6, .int x6), (8, .int x8)]) hx hb dX12_reapedBy_134 hl (by decide) rfl (fun ls hl => ?_)
      refine lv_iinc (v := x8 + 1) (lv' := [(8, .int (x8 + 1)), (4, .long v1), (0, .ref (G.1 + 51)), (1, .int x1), (2, .long y2), (6, .int x6)]) hx hb dX12_reapedBy_136 hl (k := 5) rfl rfl (by decide) rfl (fun ls hl => ?_)
      refine lv_goto (tgt := 107) hx hb dX12_reapedBy_139 (by decide) ?_
      exact ih _ _ hf _ _ hI _ (lv_sub hl [2, 3, 4, 1, 5, 0] rfl)

set_option maxRecDepth 100000 in
set_option maxHeartbeats 4000000 in
theorem w_X12_reapedBy_71 {G : GT} {p : Program} {l : Launch} {e : Env} {s : State} {m : MethodId} {args : Array Value} {below : List Frame} {meth : Method} {c : Code}  {r : Int64} {k8 : Int64 → Int64 → Int32 → Option (Int64)} {σ : Hp} {x1 : Int32} {y4 : Int64} {x6 : Int32} {x7 : Int32} {tx0 : Int32} {tx1 : Int32} {ty3 : Int64}  (C0 : Cx G cX12_reapedBy RX12 wsX12_reapedBy 9 (some .long) p s m args meth c) (hk8 : ∀ (y2 : Int64) (y4 : Int64) (x6 : Int32), k8 y2 y4 x6 = some r → ∀ (H : Heap) (locs : List Loc), Inv G s σ H locs → ∀ ls : Array Slot, lv_has ls 9 [(0, .ref (G.1 + 51)), (1, .int x1), (2, .long y2), (4, .long y4), (6, .int x6)] → W p l e (rmk 3 73) s m args below meth c H locs 0 0 (MQ below (QL G σ r) args s (rmk 3 73).cells (rmk 3 73).slots (gA G)) (F0 m 8 ls [])) (hf : f_X12_reapedBy_71 k8 σ x1 y4 x6 x7 tx0 tx1 ty3 = some r) {H : Heap} {locs : List Loc} (hI : Inv G s σ H locs) {ls : Array Slot} (hl : lv_has ls 9 [(0, .ref (G.1 + 51)), (1, .int x1), (4, .long y4), (6, .int x6), (7, .int x7)]) : W p l e (rmk 3 73) s m args below meth c H locs 0 0 (MQ below (QL G σ r) args s (rmk 3 73).cells (rmk 3 73).slots (gA G)) (F0 m 71 ls [.int tx0, .int tx1, .ref (G.1 + 51), .long ty3]) := by
  obtain ⟨hx, hb, hr, hml, hown, hts, hlk, hK, hG⟩ := id C0
  unfold f_X12_reapedBy_71 at hf
  refine lv_iload hx hb dX12_reapedBy_71 (lv_at hl 4 rfl) ?_
  refine lv_if_eq (tgt := 85) hx hb dX12_reapedBy_73 (by decide) (fun c1 => ?_) (fun c1 => ?_)
  · have hf := ok_t c1 hf
    refine lv_aload_n hx hb dX12_reapedBy_85 rfl (lv_at hl 0 rfl) ?_
    refine z_get (C := RX12) (T := TX12) (N := 26) (ci := 11) (v := .ref (G.1 + 52)) hx hb hts i_X12_reapedBy_11 hown hK hI 51 rfl (by decide) rfl 0 (by decide) (hts (.fieldLink RX12 7 "FenceYardsModel" "st" "[I") (by decide +kernel)) (fun _ h9 => h9) rfl dX12_reapedBy_86 ?_
    refine lv_bipush (v := 54) hx hb dX12_reapedBy_89 (by decide) ?_
    refine lv_iconst (v := 2) hx hb dX12_reapedBy_91 (by decide) ?_
    refine lv_iload hx hb dX12_reapedBy_92 (lv_at hl 3 rfl) ?_
    refine lv_imul hx hb dX12_reapedBy_94 ?_
    refine lv_iadd hx hb dX12_reapedBy_95 ?_
    refine lv_iconst (v := 3) hx hb dX12_reapedBy_96 (by decide) ?_
    refine lv_iadd hx hb dX12_reapedBy_97 ?_
    obtain ⟨h1, hf⟩ := ok_c hf
    refine z_iald hx hb hK hI 52 (k := ((54 + (2 * x6)) + 3).toNatClampNeg) rfl h1 rfl dX12_reapedBy_98 ?_
    obtain ⟨r1, hc1, hf⟩ := ok_1 hf
    refine z_calll0 rfl rfl hI (va_runV (As := [.int tx1, .int tx0, .int (gI σ 52 (((54 + (2 * x6)) + 3).toNatClampNeg))]) (rest := [.long ty3]) ⟨hx, hb, hml, hown, hts⟩ (m_X12_gets G l  hc1) (cwV 3 hts gX12_reapedBy_X12_gets rfl rfl rfl (by decide +kernel) ⟨Nat.le_of_ble_eq_true rfl, Nat.le_of_ble_eq_true rfl⟩) (z_preV hK hG hI (z_rc (q := 51) (ci := 11) (n := 0) hK hI rfl (by decide) rfl)) rfl rfl hl.1 rfl (lv_room (Nat.le_of_ble_eq_true rfl)) dX12_reapedBy_99 ⟨Nat.zero_le _, Nat.zero_le _⟩) (fun H locs hI => ?_)
    refine lv_ladd hx hb dX12_reapedBy_102 ?_
    refine lv_topl (fun v1 ev1 => ?_)
    have hf := ok_n hf ev1
    refine lv_lstore_n (lv' := [(2, .long v1), (0, .ref (G.1 + 51)), (1, .int x1), (4, .long y4), (6, .int x6), (7, .int x7)]) hx hb dX12_reapedBy_103 rfl hl (by decide) rfl (fun ls hl => ?_)
    refine lv_iconst (v := 0) hx hb dX12_reapedBy_104 (by decide) ?_
    refine lv_istore (lv' := [(8, .int 0), (2, .long v1), (0, .ref (G.1 + 51)), (1, .int x1), (4, .long y4), (6, .int x6), (7, .int x7)]) hx hb dX12_reapedBy_105 hl (by decide) rfl (fun ls hl => ?_)
    exact w_X12_reapedBy_107  C0 hk8 _ _ _ hf _ _ hI _ (lv_sub hl [2, 3, 1, 4, 5, 0] rfl)
  · have hf := ok_f c1 hf
    refine lv_aload_n hx hb dX12_reapedBy_76 rfl (lv_at hl 0 rfl) ?_
    refine z_get (C := RX12) (T := TX12) (N := 26) (ci := 11) (v := .ref (G.1 + 52)) hx hb hts i_X12_reapedBy_11 hown hK hI 51 rfl (by decide) rfl 0 (by decide) (hts (.fieldLink RX12 7 "FenceYardsModel" "st" "[I") (by decide +kernel)) (fun _ h9 => h9) rfl dX12_reapedBy_77 ?_
    refine lv_iconst (v := 2) hx hb dX12_reapedBy_80 (by decide) ?_
    refine z_iald hx hb hK hI 52 (k := 2) rfl (by decide) (by decide) dX12_reapedBy_81 ?_
    refine lv_goto (tgt := 99) hx hb dX12_reapedBy_82 (by decide) ?_
    obtain ⟨r2, hc2, hf⟩ := ok_1 hf
    refine z_calll0 rfl rfl hI (va_runV (As := [.int tx1, .int tx0, .int (gI σ 52 2)]) (rest := [.long ty3]) ⟨hx, hb, hml, hown, hts⟩ (m_X12_gets G l  hc2) (cwV 3 hts gX12_reapedBy_X12_gets rfl rfl rfl (by decide +kernel) ⟨Nat.le_of_ble_eq_true rfl, Nat.le_of_ble_eq_true rfl⟩) (z_preV hK hG hI (z_rc (q := 51) (ci := 11) (n := 0) hK hI rfl (by decide) rfl)) rfl rfl hl.1 rfl (lv_room (Nat.le_of_ble_eq_true rfl)) dX12_reapedBy_99 ⟨Nat.zero_le _, Nat.zero_le _⟩) (fun H locs hI => ?_)
    refine lv_ladd hx hb dX12_reapedBy_102 ?_
    refine lv_topl (fun v2 ev2 => ?_)
    have hf := ok_n hf ev2
    refine lv_lstore_n (lv' := [(2, .long v2), (0, .ref (G.1 + 51)), (1, .int x1), (4, .long y4), (6, .int x6), (7, .int x7)]) hx hb dX12_reapedBy_103 rfl hl (by decide) rfl (fun ls hl => ?_)
    refine lv_iconst (v := 0) hx hb dX12_reapedBy_104 (by decide) ?_
    refine lv_istore (lv' := [(8, .int 0), (2, .long v2), (0, .ref (G.1 + 51)), (1, .int x1), (4, .long y4), (6, .int x6), (7, .int x7)]) hx hb dX12_reapedBy_105 hl (by decide) rfl (fun ls hl => ?_)
    exact w_X12_reapedBy_107  C0 hk8 _ _ _ hf _ _ hI _ (lv_sub hl [2, 3, 1, 4, 5, 0] rfl)

set_option maxRecDepth 100000 in
set_option maxHeartbeats 4000000 in
theorem w_X12_reapedBy_37 {G : GT} {p : Program} {l : Launch} {e : Env} {s : State} {m : MethodId} {args : Array Value} {below : List Frame} {meth : Method} {c : Code}  {r : Int64} {k8 : Int64 → Int64 → Int32 → Option (Int64)} {σ : Hp} {x1 : Int32} {y2 : Int64} {y4 : Int64} {x6 : Int32} {tx0 : Int32}  (C0 : Cx G cX12_reapedBy RX12 wsX12_reapedBy 9 (some .long) p s m args meth c) (hk8 : ∀ (y2 : Int64) (y4 : Int64) (x6 : Int32), k8 y2 y4 x6 = some r → ∀ (H : Heap) (locs : List Loc), Inv G s σ H locs → ∀ ls : Array Slot, lv_has ls 9 [(0, .ref (G.1 + 51)), (1, .int x1), (2, .long y2), (4, .long y4), (6, .int x6)] → W p l e (rmk 3 73) s m args below meth c H locs 0 0 (MQ below (QL G σ r) args s (rmk 3 73).cells (rmk 3 73).slots (gA G)) (F0 m 8 ls [])) (hf : f_X12_reapedBy_37 k8 σ x1 y2 y4 x6 tx0 = some r) {H : Heap} {locs : List Loc} (hI : Inv G s σ H locs) {ls : Array Slot} (hl : lv_has ls 9 [(0, .ref (G.1 + 51)), (1, .int x1), (2, .long y2), (4, .long y4), (6, .int x6)]) : W p l e (rmk 3 73) s m args below meth c H locs 0 0 (MQ below (QL G σ r) args s (rmk 3 73).cells (rmk 3 73).slots (gA G)) (F0 m 37 ls [.int tx0]) := by
  obtain ⟨hx, hb, hr, hml, hown, hts, hlk, hK, hG⟩ := id C0
  unfold f_X12_reapedBy_37 at hf
  refine lv_istore (lv' := [(7, .int tx0), (0, .ref (G.1 + 51)), (1, .int x1), (2, .long y2), (4, .long y4), (6, .int x6)]) hx hb dX12_reapedBy_37 hl (by decide) rfl (fun ls hl => ?_)
  refine lv_lload_n hx hb dX12_reapedBy_39 rfl (lv_at hl 3 rfl) ?_
  refine lv_aload_n hx hb dX12_reapedBy_40 rfl (lv_at hl 1 rfl) ?_
  refine lv_iload hx hb dX12_reapedBy_41 (lv_at hl 5 rfl) ?_
  refine lv_iload hx hb dX12_reapedBy_43 (lv_at hl 0 rfl) ?_
  refine lv_if_eq (tgt := 57) hx hb dX12_reapedBy_45 (by decide) (fun c1 => ?_) (fun c1 => ?_)
  · have hf := ok_t c1 hf
    refine lv_aload_n hx hb dX12_reapedBy_57 rfl (lv_at hl 1 rfl) ?_
    refine z_get (C := RX12) (T := TX12) (N := 26) (ci := 11) (v := .ref (G.1 + 52)) hx hb hts i_X12_reapedBy_11 hown hK hI 51 rfl (by decide) rfl 0 (by decide) (hts (.fieldLink RX12 7 "FenceYardsModel" "st" "[I") (by decide +kernel)) (fun _ h9 => h9) rfl dX12_reapedBy_58 ?_
    refine lv_bipush (v := 54) hx hb dX12_reapedBy_61 (by decide) ?_
    refine lv_iconst (v := 2) hx hb dX12_reapedBy_63 (by decide) ?_
    refine lv_iload hx hb dX12_reapedBy_64 (lv_at hl 5 rfl) ?_
    refine lv_imul hx hb dX12_reapedBy_66 ?_
    refine lv_iadd hx hb dX12_reapedBy_67 ?_
    refine lv_iconst (v := 2) hx hb dX12_reapedBy_68 (by decide) ?_
    refine lv_iadd hx hb dX12_reapedBy_69 ?_
    obtain ⟨h1, hf⟩ := ok_c hf
    refine z_iald hx hb hK hI 52 (k := ((54 + (2 * x6)) + 2).toNatClampNeg) rfl h1 rfl dX12_reapedBy_70 ?_
    exact w_X12_reapedBy_71  C0 hk8 hf hI (lv_sub hl [1, 2, 4, 5, 0] rfl)
  · have hf := ok_f c1 hf
    refine lv_aload_n hx hb dX12_reapedBy_48 rfl (lv_at hl 1 rfl) ?_
    refine z_get (C := RX12) (T := TX12) (N := 26) (ci := 11) (v := .ref (G.1 + 52)) hx hb hts i_X12_reapedBy_11 hown hK hI 51 rfl (by decide) rfl 0 (by decide) (hts (.fieldLink RX12 7 "FenceYardsModel" "st" "[I") (by decide +kernel)) (fun _ h9 => h9) rfl dX12_reapedBy_49 ?_
    refine lv_iconst (v := 1) hx hb dX12_reapedBy_52 (by decide) ?_
    refine z_iald hx hb hK hI 52 (k := 1) rfl (by decide) (by decide) dX12_reapedBy_53 ?_
    refine lv_goto (tgt := 71) hx hb dX12_reapedBy_54 (by decide) ?_
    exact w_X12_reapedBy_71  C0 hk8 hf hI (lv_sub hl [1, 2, 4, 5, 0] rfl)

set_option maxRecDepth 100000 in
set_option maxHeartbeats 4000000 in
theorem w_X12_reapedBy_8 {G : GT} {p : Program} {l : Launch} {e : Env} {s : State} {m : MethodId} {args : Array Value} {below : List Frame} {meth : Method} {c : Code}  {r : Int64}  {σ : Hp} {x1 : Int32}  (C0 : Cx G cX12_reapedBy RX12 wsX12_reapedBy 9 (some .long) p s m args meth c)  :
    ∀ (n : Nat) (y2 : Int64) (y4 : Int64) (x6 : Int32), f_X12_reapedBy_8 σ x1 n y2 y4 x6 = some r → ∀ (H : Heap) (locs : List Loc), Inv G s σ H locs → ∀ ls : Array Slot, lv_has ls 9 [(0, .ref (G.1 + 51)), (1, .int x1), (2, .long y2), (4, .long y4), (6, .int x6)] → W p l e (rmk 3 73) s m args below meth c H locs 0 0 (MQ below (QL G σ r) args s (rmk 3 73).cells (rmk 3 73).slots (gA G)) (F0 m 8 ls []) := by
  obtain ⟨hx, hb, hr, hml, hown, hts, hlk, hK, hG⟩ := id C0
  intro n
  induction n with
  | zero =>
    intro y2 y4 x6 hf
    cases hf
  | succ n ih =>
    intro y2 y4 x6 hf H locs hI ls hl
    rw [f_X12_reapedBy_8] at hf
    refine lv_iload hx hb dX12_reapedBy_8 (lv_at hl 4 rfl) ?_
    refine lv_aload_n hx hb dX12_reapedBy_10 rfl (lv_at hl 0 rfl) ?_
    refine z_get (C := RX12) (T := TX12) (N := 26) (ci := 11) (v := .ref (G.1 + 52)) hx hb hts i_X12_reapedBy_11 hown hK hI 51 rfl (by decide) rfl 0 (by decide) (hts (.fieldLink RX12 7 "FenceYardsModel" "st" "[I") (by decide +kernel)) (fun _ h9 => h9) rfl dX12_reapedBy_11 ?_
    refine lv_iconst (v := 3) hx hb dX12_reapedBy_14 (by decide) ?_
    refine z_iald hx hb hK hI 52 (k := 3) rfl (by decide) (by decide) dX12_reapedBy_15 ?_
    refine lv_icmp_ge (tgt := 148) hx hb dX12_reapedBy_16 (by decide) (fun c1 => ?_) (fun c1 => ?_)
    · have hf := ok_t c1 hf
      refine lv_iload_n hx hb dX12_reapedBy_148 rfl (lv_at hl 1 rfl) ?_
      refine lv_if_ne (tgt := 156) hx hb dX12_reapedBy_149 (by decide) (fun c2 => ?_) (fun c2 => ?_)
      · have hf := ok_f c2 hf
        refine lv_lload hx hb dX12_reapedBy_156 (lv_at hl 3 rfl) ?_
        refine lv_lload_n hx hb dX12_reapedBy_158 rfl (lv_at hl 2 rfl) ?_
        refine lv_lsub hx hb dX12_reapedBy_159 ?_
        cases hf
        exact z_lret hx hb hr hlk hK hG hI dX12_reapedBy_160
      · have hf := ok_t c2 hf
        refine lv_lload_n hx hb dX12_reapedBy_152 rfl (lv_at hl 2 rfl) ?_
        refine lv_goto (tgt := 160) hx hb dX12_reapedBy_153 (by decide) ?_
        cases hf
        exact z_lret hx hb hr hlk hK hG hI dX12_reapedBy_160
    · have hf := ok_f c1 hf
      refine lv_iload hx hb dX12_reapedBy_19 (lv_at hl 4 rfl) ?_
      refine lv_iconst (v := 1) hx hb dX12_reapedBy_21 (by decide) ?_
      refine lv_iadd hx hb dX12_reapedBy_22 ?_
      refine lv_aload_n hx hb dX12_reapedBy_23 rfl (lv_at hl 0 rfl) ?_
      refine z_get (C := RX12) (T := TX12) (N := 26) (ci := 11) (v := .ref (G.1 + 52)) hx hb hts i_X12_reapedBy_11 hown hK hI 51 rfl (by decide) rfl 0 (by decide) (hts (.fieldLink RX12 7 "FenceYardsModel" "st" "[I") (by decide +kernel)) (fun _ h9 => h9) rfl dX12_reapedBy_24 ?_
      refine lv_iconst (v := 3) hx hb dX12_reapedBy_27 (by decide) ?_
      refine z_iald hx hb hK hI 52 (k := 3) rfl (by decide) (by decide) dX12_reapedBy_28 ?_
      refine lv_icmp_ne (tgt := 36) hx hb dX12_reapedBy_29 (by decide) (fun c3 => ?_) (fun c3 => ?_)
      · have hf := ok_f c3 hf
        refine lv_iconst (v := 0) hx hb dX12_reapedBy_36 (by decide) ?_
        exact w_X12_reapedBy_37  C0 ih hf hI (lv_sub hl [0, 1, 2, 3, 4] rfl)
      · have hf := ok_t c3 hf
        refine lv_iconst (v := 1) hx hb dX12_reapedBy_32 (by decide) ?_
        refine lv_goto (tgt := 37) hx hb dX12_reapedBy_33 (by decide) ?_
        exact w_X12_reapedBy_37  C0 ih hf hI (lv_sub hl [0, 1, 2, 3, 4] rfl)

set_option maxRecDepth 100000 in
set_option maxHeartbeats 4000000 in
theorem m_X12_reapedBy (G : GT) (l : Launch) {σ : Hp} {x1 : Int32} {r : Int64}  (hf : f_X12_reapedBy σ x1 = some r) : MetG G l yX12_reapedBy wsX12_reapedBy (rmk 3 73) σ [.ref (G.1 + 51), .int x1] (QL G σ r) := by
  refine met_of (cc := cX12_reapedBy) (nL := 9) (ret := (some .long)) (by decide) rfl (Nat.le_of_ble_eq_true rfl) ?_
  intro p e s m below meth c C0 hnm hI ls hl
  obtain ⟨hx, hb, hr, hml, hown, hts, hlk, hK, hG⟩ := id C0
  have hl : lv_has ls 9 [(0, .ref (G.1 + 51)), (1, .int x1)] := hl
  unfold f_X12_reapedBy at hf
  refine lv_lconst (v := 0) hx hb dX12_reapedBy_0 (by decide) ?_
  refine lv_lstore_n (lv' := [(2, .long 0), (0, .ref (G.1 + 51)), (1, .int x1)]) hx hb dX12_reapedBy_1 rfl hl (by decide) rfl (fun ls hl => ?_)
  refine lv_lconst (v := 0) hx hb dX12_reapedBy_2 (by decide) ?_
  refine lv_lstore (lv' := [(4, .long 0), (2, .long 0), (0, .ref (G.1 + 51)), (1, .int x1)]) hx hb dX12_reapedBy_3 hl (by decide) rfl (fun ls hl => ?_)
  refine lv_iconst (v := 0) hx hb dX12_reapedBy_5 (by decide) ?_
  refine lv_istore (lv' := [(6, .int 0), (4, .long 0), (2, .long 0), (0, .ref (G.1 + 51)), (1, .int x1)]) hx hb dX12_reapedBy_6 hl (by decide) rfl (fun ls hl => ?_)
  exact w_X12_reapedBy_8  C0  _ _ _ _ hf _ _ hI _ (lv_sub hl [3, 4, 2, 1, 0] rfl)

-- ===== FenceYardsModel.reaped(II)I
def f_X12_reaped (σ : Hp) (x1 : Int32) (x2 : Int32) : Option (Int32) :=
  bd1 (f_X12_isGround σ) fun r1 => if r1 = 0 then (some (-1000002)) else (bd1 (f_X12_in σ x1 0 1) fun r2 => if r2 = 0 then (some (-1000001)) else (bd1 (f_X12_in σ x2 0 1) fun r3 => if r3 = 0 then (some (-1000001)) else (bd1 (f_X12_reapedBy σ x1) fun r4 => bd1 (f_X12_told σ r4 x2) fun r5 => some r5)))
set_option maxRecDepth 100000 in
set_option maxHeartbeats 4000000 in
theorem m_X12_reaped (G : GT) (l : Launch) {σ : Hp} {x1 : Int32} {x2 : Int32} {r : Int32}  (hf : f_X12_reaped σ x1 x2 = some r) : MetG G l yX12_reaped wsX12_reaped (rmk 4 101) σ [.ref (G.1 + 51), .int x1, .int x2] (QI G σ r) := by
  refine met_of (cc := cX12_reaped) (nL := 3) (ret := (some .int)) (by decide) rfl (Nat.le_of_ble_eq_true rfl) ?_
  intro p e s m below meth c C0 hnm hI ls hl
  obtain ⟨hx, hb, hr, hml, hown, hts, hlk, hK, hG⟩ := id C0
  have hl : lv_has ls 3 [(0, .ref (G.1 + 51)), (1, .int x1), (2, .int x2)] := hl
  unfold f_X12_reaped at hf
  refine lv_aload_n hx hb dX12_reaped_0 rfl (lv_at hl 0 rfl) ?_
  obtain ⟨r1, hc1, hf⟩ := ok_1 hf
  refine z_calli0 rfl rfl hI (va_runV (As := []) (rest := []) ⟨hx, hb, hml, hown, hts⟩ (m_X12_isGround G l  hc1) (cwV 0 hts gX12_reaped_X12_isGround rfl rfl rfl (by decide +kernel) ⟨Nat.le_of_ble_eq_true rfl, Nat.le_of_ble_eq_true rfl⟩) (z_preV hK hG hI (z_rc (q := 51) (ci := 11) (n := 0) hK hI rfl (by decide) rfl)) rfl rfl hl.1 rfl (lv_room (Nat.le_of_ble_eq_true rfl)) dX12_reaped_1 ⟨Nat.zero_le _, Nat.zero_le _⟩) (fun H locs hI => ?_)
  refine lv_if_ne (tgt := 10) hx hb dX12_reaped_4 (by decide) (fun c1 => ?_) (fun c1 => ?_)
  · have hf := ok_f c1 hf
    refine lv_iload_n hx hb dX12_reaped_10 rfl (lv_at hl 1 rfl) ?_
    refine lv_iconst (v := 0) hx hb dX12_reaped_11 (by decide) ?_
    refine lv_iconst (v := 1) hx hb dX12_reaped_12 (by decide) ?_
    obtain ⟨r2, hc2, hf⟩ := ok_1 hf
    refine z_calli0 rfl rfl hI (va_runS (As := [.int x1, .int 0, .int 1]) (rest := []) ⟨hx, hb, hml, hown, hts⟩ (m_X12_in G l  hc2) (va_cwS 3 hts gX12_reaped_X12_in rfl rfl rfl (by decide +kernel) ⟨Nat.le_of_ble_eq_true rfl, Nat.le_of_ble_eq_true rfl⟩) (z_pre hK hG hI) rfl rfl hl.1 rfl (lv_room (Nat.le_of_ble_eq_true rfl)) dX12_reaped_13 ⟨Nat.zero_le _, Nat.zero_le _⟩) (fun H locs hI => ?_)
    refine lv_if_eq (tgt := 40) hx hb dX12_reaped_16 (by decide) (fun c2 => ?_) (fun c2 => ?_)
    · have hf := ok_t c2 hf
      refine lv_ldc (v := (-1000001)) hx hb hown (hts (.constant RX12 71 (-1000001)) (by decide +kernel)) dX12_reaped_40 ?_
      cases hf
      exact z_iret hx hb hr hlk hK hG hI dX12_reaped_42
    · have hf := ok_f c2 hf
      refine lv_iload_n hx hb dX12_reaped_19 rfl (lv_at hl 2 rfl) ?_
      refine lv_iconst (v := 0) hx hb dX12_reaped_20 (by decide) ?_
      refine lv_iconst (v := 1) hx hb dX12_reaped_21 (by decide) ?_
      obtain ⟨r3, hc3, hf⟩ := ok_1 hf
      refine z_calli0 rfl rfl hI (va_runS (As := [.int x2, .int 0, .int 1]) (rest := []) ⟨hx, hb, hml, hown, hts⟩ (m_X12_in G l  hc3) (va_cwS 3 hts gX12_reaped_X12_in rfl rfl rfl (by decide +kernel) ⟨Nat.le_of_ble_eq_true rfl, Nat.le_of_ble_eq_true rfl⟩) (z_pre hK hG hI) rfl rfl hl.1 rfl (lv_room (Nat.le_of_ble_eq_true rfl)) dX12_reaped_22 ⟨Nat.zero_le _, Nat.zero_le _⟩) (fun H locs hI => ?_)
      refine lv_if_eq (tgt := 40) hx hb dX12_reaped_25 (by decide) (fun c3 => ?_) (fun c3 => ?_)
      · have hf := ok_t c3 hf
        refine lv_ldc (v := (-1000001)) hx hb hown (hts (.constant RX12 71 (-1000001)) (by decide +kernel)) dX12_reaped_40 ?_
        cases hf
        exact z_iret hx hb hr hlk hK hG hI dX12_reaped_42
      · have hf := ok_f c3 hf
        refine lv_aload_n hx hb dX12_reaped_28 rfl (lv_at hl 0 rfl) ?_
        refine lv_iload_n hx hb dX12_reaped_29 rfl (lv_at hl 1 rfl) ?_
        obtain ⟨r4, hc4, hf⟩ := ok_1 hf
        refine z_calll0 rfl rfl hI (va_runV (As := [.int x1]) (rest := []) ⟨hx, hb, hml, hown, hts⟩ (m_X12_reapedBy G l  hc4) (cwV 1 hts gX12_reaped_X12_reapedBy rfl rfl rfl (by decide +kernel) ⟨Nat.le_of_ble_eq_true rfl, Nat.le_of_ble_eq_true rfl⟩) (z_preV hK hG hI (z_rc (q := 51) (ci := 11) (n := 0) hK hI rfl (by decide) rfl)) rfl rfl hl.1 rfl (lv_room (Nat.le_of_ble_eq_true rfl)) dX12_reaped_30 ⟨Nat.zero_le _, Nat.zero_le _⟩) (fun H locs hI => ?_)
        refine lv_iload_n hx hb dX12_reaped_33 rfl (lv_at hl 2 rfl) ?_
        obtain ⟨r5, hc5, hf⟩ := ok_1 hf
        refine z_calli0 rfl rfl hI (va_runS (As := [.long r4, .int x2]) (rest := []) ⟨hx, hb, hml, hown, hts⟩ (m_X12_told G l  hc5) (va_cwS 2 hts gX12_reaped_X12_told rfl rfl rfl (by decide +kernel) ⟨Nat.le_of_ble_eq_true rfl, Nat.le_of_ble_eq_true rfl⟩) (z_pre hK hG hI) rfl rfl hl.1 rfl (lv_room (Nat.le_of_ble_eq_true rfl)) dX12_reaped_34 ⟨Nat.zero_le _, Nat.zero_le _⟩) (fun H locs hI => ?_)
        refine lv_goto (tgt := 42) hx hb dX12_reaped_37 (by decide) ?_
        cases hf
        exact z_iret hx hb hr hlk hK hG hI dX12_reaped_42
  · have hf := ok_t c1 hf
    refine lv_ldc (v := (-1000002)) hx hb hown (hts (.constant RX12 200 (-1000002)) (by decide +kernel)) dX12_reaped_7 ?_
    cases hf
    exact z_iret hx hb hr hlk hK hG hI dX12_reaped_9

-- ===== FenceYardsModel.findGains(I)V
set_option maxRecDepth 100000 in
theorem i_X12_findGains_11 : ∀ w ∈ u_ws RX12 TX12 26, w ∈ wsX12_findGains := by decide +kernel
def f_X12_findGains_2    (x1 : Int32) : Nat → Hp → Int32 → Option (Hp)
  | 0, _, _ => none
  | n + 1, σ, x2 =>
    if 169 ≤ x2 then (some σ) else (bd1 (f_X12_gets σ x1 (x2 / 13) (x2 - x2 / 13 * 13)) fun r1 => chk (inb x2 169) <| f_X12_findGains_2 x1 n (sJ σ 60 (x2.toNatClampNeg) r1) (x2 + 1))
def f_X12_findGains (σ : Hp) (x1 : Int32) : Option (Hp) :=
  f_X12_findGains_2 x1 fu σ 0
set_option maxRecDepth 100000 in
set_option maxHeartbeats 4000000 in
theorem w_X12_findGains_2 {G : GT} {p : Program} {l : Launch} {e : Env} {s : State} {m : MethodId} {args : Array Value} {below : List Frame} {meth : Method} {c : Code}  {σ' : Hp}   {x1 : Int32}  (C0 : Cx G cX12_findGains RX12 wsX12_findGains 3 none p s m args meth c)  :
    ∀ (n : Nat) (σ : Hp) (x2 : Int32), f_X12_findGains_2 x1 n σ x2 = some σ' → ∀ (H : Heap) (locs : List Loc), Inv G s σ H locs → ∀ ls : Array Slot, lv_has ls 3 [(0, .ref (G.1 + 51)), (1, .int x1), (2, .int x2)] → W p l e (rmk 3 73) s m args below meth c H locs 0 0 (MQ below (QV G σ') args s (rmk 3 73).cells (rmk 3 73).slots (gA G)) (F0 m 2 ls []) := by
  obtain ⟨hx, hb, hr, hml, hown, hts, hlk, hK, hG⟩ := id C0
  intro n
  induction n with
  | zero =>
    intro σ x2 hf
    cases hf
  | succ n ih =>
    intro σ x2 hf H locs hI ls hl
    rw [f_X12_findGains_2] at hf
    refine lv_iload_n hx hb dX12_findGains_2 rfl (lv_at hl 2 rfl) ?_
    refine lv_sipush (v := 169) hx hb dX12_findGains_3 (by decide) ?_
    refine lv_icmp_ge (tgt := 34) hx hb dX12_findGains_6 (by decide) (fun c1 => ?_) (fun c1 => ?_)
    · have hf := ok_t c1 hf
      cases hf
      exact z_vret hx hb hr hlk hK hG hI dX12_findGains_34
    · have hf := ok_f c1 hf
      refine lv_aload_n hx hb dX12_findGains_9 rfl (lv_at hl 0 rfl) ?_
      refine z_get (C := RX12) (T := TX12) (N := 26) (ci := 11) (v := .ref (G.1 + 60)) hx hb hts i_X12_findGains_11 hown hK hI 51 rfl (by decide) rfl 17 (by decide) (hts (.fieldLink RX12 35 "FenceYardsModel" "gains" "[J") (by decide +kernel)) (fun _ h9 => h9) rfl dX12_findGains_10 ?_
      refine lv_iload_n hx hb dX12_findGains_13 rfl (lv_at hl 2 rfl) ?_
      refine lv_aload_n hx hb dX12_findGains_14 rfl (lv_at hl 0 rfl) ?_
      refine lv_iload_n hx hb dX12_findGains_15 rfl (lv_at hl 1 rfl) ?_
      refine lv_iload_n hx hb dX12_findGains_16 rfl (lv_at hl 2 rfl) ?_
      refine lv_bipush (v := 13) hx hb dX12_findGains_17 (by decide) ?_
      refine lv_idiv hx hb dX12_findGains_19 (by decide) ?_
      refine lv_iload_n hx hb dX12_findGains_20 rfl (lv_at hl 2 rfl) ?_
      refine lv_bipush (v := 13) hx hb dX12_findGains_21 (by decide) ?_
      refine lv_irem hx hb dX12_findGains_23 (by decide) ?_
      obtain ⟨r1, hc1, hf⟩ := ok_1 hf
      refine z_calll0 rfl rfl hI (va_runV (As := [.int x1, .int (x2 / 13), .int (x2 - x2 / 13 * 13)]) (rest := [.int x2, .ref (G.1 + 60)]) ⟨hx, hb, hml, hown, hts⟩ (m_X12_gets G l  hc1) (cwV 3 hts gX12_findGains_X12_gets rfl rfl rfl (by decide +kernel) ⟨Nat.le_of_ble_eq_true rfl, Nat.le_of_ble_eq_true rfl⟩) (z_preV hK hG hI (z_rc (q := 51) (ci := 11) (n := 0) hK hI rfl (by decide) rfl)) rfl rfl hl.1 rfl (lv_room (Nat.le_of_ble_eq_true rfl)) dX12_findGains_24 ⟨Nat.zero_le _, Nat.zero_le _⟩) (fun H locs hI => ?_)
      obtain ⟨h1, hf⟩ := ok_c hf
      refine z_last hx hb hK hI 60 (k := x2.toNatClampNeg) rfl h1 rfl dX12_findGains_27 (fun H locs hI => ?_)
      refine lv_iinc (v := x2 + 1) (lv' := [(2, .int (x2 + 1)), (0, .ref (G.1 + 51)), (1, .int x1)]) hx hb dX12_findGains_28 hl (k := 2) rfl rfl (by decide) rfl (fun ls hl => ?_)
      refine lv_goto (tgt := 2) hx hb dX12_findGains_31 (by decide) ?_
      exact ih _ _ hf _ _ hI _ (lv_sub hl [1, 2, 0] rfl)

set_option maxRecDepth 100000 in
set_option maxHeartbeats 4000000 in
theorem m_X12_findGains (G : GT) (l : Launch) {σ : Hp} {x1 : Int32} {σ' : Hp}  (hf : f_X12_findGains σ x1 = some σ') : MetG G l yX12_findGains wsX12_findGains (rmk 3 73) σ [.ref (G.1 + 51), .int x1] (QV G σ') := by
  refine met_of (cc := cX12_findGains) (nL := 3) (ret := none) (by decide) rfl (Nat.le_of_ble_eq_true rfl) ?_
  intro p e s m below meth c C0 hnm hI ls hl
  obtain ⟨hx, hb, hr, hml, hown, hts, hlk, hK, hG⟩ := id C0
  have hl : lv_has ls 3 [(0, .ref (G.1 + 51)), (1, .int x1)] := hl
  unfold f_X12_findGains at hf
  refine lv_iconst (v := 0) hx hb dX12_findGains_0 (by decide) ?_
  refine lv_istore_n (lv' := [(2, .int 0), (0, .ref (G.1 + 51)), (1, .int x1)]) hx hb dX12_findGains_1 rfl hl (by decide) rfl (fun ls hl => ?_)
  exact w_X12_findGains_2  C0  _ _ _ hf _ _ hI _ (lv_sub hl [1, 2, 0] rfl)

-- ===== FenceYardsModel.daysOf(I)I
set_option maxRecDepth 100000 in
theorem i_X12_daysOf_11 : ∀ w ∈ u_ws RX12 TX12 26, w ∈ wsX12_daysOf := by decide +kernel
def f_X12_daysOf (σ : Hp) (x1 : Int32) : Option (Int32) :=
  if ((gI σ 52 3) + x1) ≤ 12 then (some x1) else (some (12 - (gI σ 52 3)))
set_option maxRecDepth 100000 in
set_option maxHeartbeats 4000000 in
theorem m_X12_daysOf (G : GT) (l : Launch) {σ : Hp} {x1 : Int32} {r : Int32}  (hf : f_X12_daysOf σ x1 = some r) : MetG G l yX12_daysOf wsX12_daysOf (rmk 0 0) σ [.ref (G.1 + 51), .int x1] (QI G σ r) := by
  refine met_of (cc := cX12_daysOf) (nL := 2) (ret := (some .int)) (by decide) rfl (Nat.le_of_ble_eq_true rfl) ?_
  intro p e s m below meth c C0 hnm hI ls hl
  obtain ⟨hx, hb, hr, hml, hown, hts, hlk, hK, hG⟩ := id C0
  have hl : lv_has ls 2 [(0, .ref (G.1 + 51)), (1, .int x1)] := hl
  unfold f_X12_daysOf at hf
  refine lv_aload_n hx hb dX12_daysOf_0 rfl (lv_at hl 0 rfl) ?_
  refine z_get (C := RX12) (T := TX12) (N := 26) (ci := 11) (v := .ref (G.1 + 52)) hx hb hts i_X12_daysOf_11 hown hK hI 51 rfl (by decide) rfl 0 (by decide) (hts (.fieldLink RX12 7 "FenceYardsModel" "st" "[I") (by decide +kernel)) (fun _ h9 => h9) rfl dX12_daysOf_1 ?_
  refine lv_iconst (v := 3) hx hb dX12_daysOf_4 (by decide) ?_
  refine z_iald hx hb hK hI 52 (k := 3) rfl (by decide) (by decide) dX12_daysOf_5 ?_
  refine lv_iload_n hx hb dX12_daysOf_6 rfl (lv_at hl 1 rfl) ?_
  refine lv_iadd hx hb dX12_daysOf_7 ?_
  refine lv_bipush (v := 12) hx hb dX12_daysOf_8 (by decide) ?_
  refine lv_icmp_le (tgt := 25) hx hb dX12_daysOf_10 (by decide) (fun c1 => ?_) (fun c1 => ?_)
  · have hf := ok_t c1 hf
    refine lv_iload_n hx hb dX12_daysOf_25 rfl (lv_at hl 1 rfl) ?_
    cases hf
    exact z_iret hx hb hr hlk hK hG hI dX12_daysOf_26
  · have hf := ok_f c1 hf
    refine lv_bipush (v := 12) hx hb dX12_daysOf_13 (by decide) ?_
    refine lv_aload_n hx hb dX12_daysOf_15 rfl (lv_at hl 0 rfl) ?_
    refine z_get (C := RX12) (T := TX12) (N := 26) (ci := 11) (v := .ref (G.1 + 52)) hx hb hts i_X12_daysOf_11 hown hK hI 51 rfl (by decide) rfl 0 (by decide) (hts (.fieldLink RX12 7 "FenceYardsModel" "st" "[I") (by decide +kernel)) (fun _ h9 => h9) rfl dX12_daysOf_16 ?_
    refine lv_iconst (v := 3) hx hb dX12_daysOf_19 (by decide) ?_
    refine z_iald hx hb hK hI 52 (k := 3) rfl (by decide) (by decide) dX12_daysOf_20 ?_
    refine lv_isub hx hb dX12_daysOf_21 ?_
    refine lv_goto (tgt := 26) hx hb dX12_daysOf_22 (by decide) ?_
    cases hf
    exact z_iret hx hb hr hlk hK hG hI dX12_daysOf_26

-- ===== FenceYardsModel.findEnds(II)V
set_option maxRecDepth 100000 in
theorem i_X12_findEnds_11 : ∀ w ∈ u_ws RX12 TX12 26, w ∈ wsX12_findEnds := by decide +kernel
def f_X12_findEnds_10    (x1 : Int32) (x2 : Int32) : Nat → Hp → Int32 → Int32 → Option (Hp)
  | 0, _, _, _ => none
  | n + 1, σ, x3, x4 =>
    if x2 ≤ x4 then (some σ) else (chk (inb ((40 * x1) + x4) 320) <| bnd (x3 + (gI σ 57 (((40 * x1) + x4).toNatClampNeg))) fun v1 => bd1 (f_X12_mayBe σ 1 v1) fun r1 => if r1 = 0 then (chk (inb x4 12) <| f_X12_findEnds_10 x1 x2 n (sI σ 63 (x4.toNatClampNeg) x3) x3 (x4 + 1)) else (chk (inb x4 12) <| f_X12_findEnds_10 x1 x2 n (sI σ 63 (x4.toNatClampNeg) v1) v1 (x4 + 1)))
def f_X12_findEnds (σ : Hp) (x1 : Int32) (x2 : Int32) : Option (Hp) :=
  bnd (gI σ 52 2) fun v1 => f_X12_findEnds_10 x1 x2 fu σ v1 0
set_option maxRecDepth 100000 in
set_option maxHeartbeats 4000000 in
theorem w_X12_findEnds_10 {G : GT} {p : Program} {l : Launch} {e : Env} {s : State} {m : MethodId} {args : Array Value} {below : List Frame} {meth : Method} {c : Code}  {σ' : Hp}   {x1 : Int32} {x2 : Int32}  (C0 : Cx G cX12_findEnds RX12 wsX12_findEnds 6 none p s m args meth c)  :
    ∀ (n : Nat) (σ : Hp) (x3 : Int32) (x4 : Int32), f_X12_findEnds_10 x1 x2 n σ x3 x4 = some σ' → ∀ (H : Heap) (locs : List Loc), Inv G s σ H locs → ∀ ls : Array Slot, lv_has ls 6 [(0, .ref (G.1 + 51)), (1, .int x1), (2, .int x2), (3, .int x3), (4, .int x4)] → W p l e (rmk 2 46) s m args below meth c H locs 0 0 (MQ below (QV G σ') args s (rmk 2 46).cells (rmk 2 46).slots (gA G)) (F0 m 10 ls []) := by
  obtain ⟨hx, hb, hr, hml, hown, hts, hlk, hK, hG⟩ := id C0
  intro n
  induction n with
  | zero =>
    intro σ x3 x4 hf
    cases hf
  | succ n ih =>
    intro σ x3 x4 hf H locs hI ls hl
    rw [f_X12_findEnds_10] at hf
    refine lv_iload hx hb dX12_findEnds_10 (lv_at hl 4 rfl) ?_
    refine lv_iload_n hx hb dX12_findEnds_12 rfl (lv_at hl 2 rfl) ?_
    refine lv_icmp_ge (tgt := 63) hx hb dX12_findEnds_13 (by decide) (fun c1 => ?_) (fun c1 => ?_)
    · have hf := ok_t c1 hf
      cases hf
      exact z_vret hx hb hr hlk hK hG hI dX12_findEnds_63
    · have hf := ok_f c1 hf
      refine lv_iload_n hx hb dX12_findEnds_16 rfl (lv_at hl 3 rfl) ?_
      refine lv_aload_n hx hb dX12_findEnds_17 rfl (lv_at hl 0 rfl) ?_
      refine z_get (C := RX12) (T := TX12) (N := 26) (ci := 11) (v := .ref (G.1 + 57)) hx hb hts i_X12_findEnds_11 hown hK hI 51 rfl (by decide) rfl 5 (by decide) (hts (.fieldLink RX12 26 "FenceYardsModel" "items" "[I") (by decide +kernel)) (fun _ h9 => h9) rfl dX12_findEnds_18 ?_
      refine lv_bipush (v := 40) hx hb dX12_findEnds_21 (by decide) ?_
      refine lv_iload_n hx hb dX12_findEnds_23 rfl (lv_at hl 1 rfl) ?_
      refine lv_imul hx hb dX12_findEnds_24 ?_
      refine lv_iload hx hb dX12_findEnds_25 (lv_at hl 4 rfl) ?_
      refine lv_iadd hx hb dX12_findEnds_27 ?_
      obtain ⟨h1, hf⟩ := ok_c hf
      refine z_iald hx hb hK hI 57 (k := ((40 * x1) + x4).toNatClampNeg) rfl h1 rfl dX12_findEnds_28 ?_
      refine lv_iadd hx hb dX12_findEnds_29 ?_
      refine lv_topi (fun v1 ev1 => ?_)
      have hf := ok_n hf ev1
      refine lv_istore (lv' := [(5, .int v1), (0, .ref (G.1 + 51)), (1, .int x1), (2, .int x2), (3, .int x3), (4, .int x4)]) hx hb dX12_findEnds_30 hl (by decide) rfl (fun ls hl => ?_)
      refine lv_aload_n hx hb dX12_findEnds_32 rfl (lv_at hl 1 rfl) ?_
      refine lv_iconst (v := 1) hx hb dX12_findEnds_33 (by decide) ?_
      refine lv_iload hx hb dX12_findEnds_34 (lv_at hl 0 rfl) ?_
      obtain ⟨r1, hc1, hf⟩ := ok_1 hf
      refine z_calli0 rfl rfl hI (va_runV (As := [.int 1, .int v1]) (rest := []) ⟨hx, hb, hml, hown, hts⟩ (m_X12_mayBe G l  hc1) (cwV 2 hts gX12_findEnds_X12_mayBe rfl rfl rfl (by decide +kernel) ⟨Nat.le_of_ble_eq_true rfl, Nat.le_of_ble_eq_true rfl⟩) (z_preV hK hG hI (z_rc (q := 51) (ci := 11) (n := 0) hK hI rfl (by decide) rfl)) rfl rfl hl.1 rfl (lv_room (Nat.le_of_ble_eq_true rfl)) dX12_findEnds_36 ⟨Nat.zero_le _, Nat.zero_le _⟩) (fun H locs hI => ?_)
      refine lv_if_eq (tgt := 47) hx hb dX12_findEnds_39 (by decide) (fun c2 => ?_) (fun c2 => ?_)
      · have hf := ok_t c2 hf
        refine lv_iload_n hx hb dX12_findEnds_47 rfl (lv_at hl 4 rfl) ?_
        refine lv_istore_n (lv' := [(3, .int x3), (5, .int v1), (0, .ref (G.1 + 51)), (1, .int x1), (2, .int x2), (4, .int x4)]) hx hb dX12_findEnds_48 rfl hl (by decide) rfl (fun ls hl => ?_)
        refine lv_aload_n hx hb dX12_findEnds_49 rfl (lv_at hl 2 rfl) ?_
        refine z_get (C := RX12) (T := TX12) (N := 26) (ci := 11) (v := .ref (G.1 + 63)) hx hb hts i_X12_findEnds_11 hown hK hI 51 rfl (by decide) rfl 20 (by decide) (hts (.fieldLink RX12 45 "FenceYardsModel" "ends" "[I") (by decide +kernel)) (fun _ h9 => h9) rfl dX12_findEnds_50 ?_
        refine lv_iload hx hb dX12_findEnds_53 (lv_at hl 5 rfl) ?_
        refine lv_iload_n hx hb dX12_findEnds_55 rfl (lv_at hl 0 rfl) ?_
        obtain ⟨h2, hf⟩ := ok_c hf
        refine z_iast hx hb hK hI 63 (k := x4.toNatClampNeg) rfl h2 rfl dX12_findEnds_56 (fun H locs hI => ?_)
        refine lv_iinc (v := x4 + 1) (lv' := [(4, .int (x4 + 1)), (3, .int x3), (5, .int v1), (0, .ref (G.1 + 51)), (1, .int x1), (2, .int x2)]) hx hb dX12_findEnds_57 hl (k := 5) rfl rfl (by decide) rfl (fun ls hl => ?_)
        refine lv_goto (tgt := 10) hx hb dX12_findEnds_60 (by decide) ?_
        exact ih _ _ _ hf _ _ hI _ (lv_sub hl [3, 4, 5, 1, 0] rfl)
      · have hf := ok_f c2 hf
        refine lv_iload hx hb dX12_findEnds_42 (lv_at hl 0 rfl) ?_
        refine lv_goto (tgt := 48) hx hb dX12_findEnds_44 (by decide) ?_
        refine lv_istore_n (lv' := [(3, .int v1), (5, .int v1), (0, .ref (G.1 + 51)), (1, .int x1), (2, .int x2), (4, .int x4)]) hx hb dX12_findEnds_48 rfl hl (by decide) rfl (fun ls hl => ?_)
        refine lv_aload_n hx hb dX12_findEnds_49 rfl (lv_at hl 2 rfl) ?_
        refine z_get (C := RX12) (T := TX12) (N := 26) (ci := 11) (v := .ref (G.1 + 63)) hx hb hts i_X12_findEnds_11 hown hK hI 51 rfl (by decide) rfl 20 (by decide) (hts (.fieldLink RX12 45 "FenceYardsModel" "ends" "[I") (by decide +kernel)) (fun _ h9 => h9) rfl dX12_findEnds_50 ?_
        refine lv_iload hx hb dX12_findEnds_53 (lv_at hl 5 rfl) ?_
        refine lv_iload_n hx hb dX12_findEnds_55 rfl (lv_at hl 0 rfl) ?_
        obtain ⟨h3, hf⟩ := ok_c hf
        refine z_iast hx hb hK hI 63 (k := x4.toNatClampNeg) rfl h3 rfl dX12_findEnds_56 (fun H locs hI => ?_)
        refine lv_iinc (v := x4 + 1) (lv' := [(4, .int (x4 + 1)), (3, .int v1), (5, .int v1), (0, .ref (G.1 + 51)), (1, .int x1), (2, .int x2)]) hx hb dX12_findEnds_57 hl (k := 5) rfl rfl (by decide) rfl (fun ls hl => ?_)
        refine lv_goto (tgt := 10) hx hb dX12_findEnds_60 (by decide) ?_
        exact ih _ _ _ hf _ _ hI _ (lv_sub hl [3, 4, 5, 1, 0] rfl)

set_option maxRecDepth 100000 in
set_option maxHeartbeats 4000000 in
theorem m_X12_findEnds (G : GT) (l : Launch) {σ : Hp} {x1 : Int32} {x2 : Int32} {σ' : Hp}  (hf : f_X12_findEnds σ x1 x2 = some σ') : MetG G l yX12_findEnds wsX12_findEnds (rmk 2 46) σ [.ref (G.1 + 51), .int x1, .int x2] (QV G σ') := by
  refine met_of (cc := cX12_findEnds) (nL := 6) (ret := none) (by decide) rfl (Nat.le_of_ble_eq_true rfl) ?_
  intro p e s m below meth c C0 hnm hI ls hl
  obtain ⟨hx, hb, hr, hml, hown, hts, hlk, hK, hG⟩ := id C0
  have hl : lv_has ls 6 [(0, .ref (G.1 + 51)), (1, .int x1), (2, .int x2)] := hl
  unfold f_X12_findEnds at hf
  refine lv_aload_n hx hb dX12_findEnds_0 rfl (lv_at hl 0 rfl) ?_
  refine z_get (C := RX12) (T := TX12) (N := 26) (ci := 11) (v := .ref (G.1 + 52)) hx hb hts i_X12_findEnds_11 hown hK hI 51 rfl (by decide) rfl 0 (by decide) (hts (.fieldLink RX12 7 "FenceYardsModel" "st" "[I") (by decide +kernel)) (fun _ h9 => h9) rfl dX12_findEnds_1 ?_
  refine lv_iconst (v := 2) hx hb dX12_findEnds_4 (by decide) ?_
  refine z_iald hx hb hK hI 52 (k := 2) rfl (by decide) (by decide) dX12_findEnds_5 ?_
  refine lv_topi (fun v1 ev1 => ?_)
  have hf := ok_n hf ev1
  refine lv_istore_n (lv' := [(3, .int v1), (0, .ref (G.1 + 51)), (1, .int x1), (2, .int x2)]) hx hb dX12_findEnds_6 rfl hl (by decide) rfl (fun ls hl => ?_)
  refine lv_iconst (v := 0) hx hb dX12_findEnds_7 (by decide) ?_
  refine lv_istore (lv' := [(4, .int 0), (3, .int v1), (0, .ref (G.1 + 51)), (1, .int x1), (2, .int x2)]) hx hb dX12_findEnds_8 hl (by decide) rfl (fun ls hl => ?_)
  exact w_X12_findEnds_10  C0  _ _ _ _ hf _ _ hI _ (lv_sub hl [2, 3, 4, 1, 0] rfl)

-- ===== FenceYardsModel.findMost(I)V
set_option maxRecDepth 100000 in
theorem i_X12_findMost_11 : ∀ w ∈ u_ws RX12 TX12 26, w ∈ wsX12_findMost := by decide +kernel
def f_X12_findMost_111 (k30 : Hp → Int32 → Option (Hp)) (k36 : Hp → Int32 → Option (Hp)) (k52 : Int64 → Int32 → Option (Hp))  (σ : Hp) (x2 : Int32) (x3 : Int32) (y4 : Int64) (x6 : Int32) (ty0 : Int64) : Option (Hp) :=
  if (lg_cmp ty0 y4) ≤ 0 then (k52 y4 (x6 + 1)) else (k52 ty0 (x6 + 1))
def f_X12_findMost_52 (k30 : Hp → Int32 → Option (Hp)) (k36 : Hp → Int32 → Option (Hp))  (σ : Hp) (x2 : Int32) (x3 : Int32) : Nat → Int64 → Int32 → Option (Hp)
  | 0, _, _ => none
  | n + 1, y4, x6 =>
    if (x3 + 1) < x6 then (chk (inb ((13 * x2) + x3) 169) <| k36 (sJ σ 64 (((13 * x2) + x3).toNatClampNeg) y4) (x3 + 1)) else (bd1 (f_X12_mayBe σ 0 x6) fun r1 => if r1 = 0 then (f_X12_findMost_111 k30 k36 (f_X12_findMost_52 k30 k36 σ x2 x3 n) σ x2 x3 y4 x6 (-1)) else (chk (inb x2 12) <| bd1 (f_X12_gets σ ((gI σ 52 3) + x2) x6 (gI σ 63 (x2.toNatClampNeg))) fun r2 => chk (inb ((13 * (x2 + 1)) + x6) 169) <| f_X12_findMost_111 k30 k36 (f_X12_findMost_52 k30 k36 σ x2 x3 n) σ x2 x3 y4 x6 (r2 + (gJ σ 64 (((13 * (x2 + 1)) + x6).toNatClampNeg)))))
def f_X12_findMost_36 (k30 : Hp → Int32 → Option (Hp))   (x2 : Int32) : Nat → Hp → Int32 → Option (Hp)
  | 0, _, _ => none
  | n + 1, σ, x3 =>
    if 13 ≤ x3 then (k30 σ (x2 + (-1))) else (bnd (x3 - 1) fun v1 => f_X12_findMost_52 k30 (f_X12_findMost_36 k30 x2 n) σ x2 x3 fu (-1) v1)
def f_X12_findMost_30     : Nat → Hp → Int32 → Option (Hp)
  | 0, _, _ => none
  | n + 1, σ, x2 =>
    if x2 < 0 then (some σ) else (f_X12_findMost_36 (f_X12_findMost_30 n) x2 fu σ 0)
def f_X12_findMost_2    (x1 : Int32) : Nat → Hp → Int32 → Option (Hp)
  | 0, _, _ => none
  | n + 1, σ, x2 =>
    if 13 ≤ x2 then (bnd (x1 - 1) fun v1 => f_X12_findMost_30 fu σ v1) else (chk (inb ((13 * x1) + x2) 169) <| f_X12_findMost_2 x1 n (sJ σ 64 (((13 * x1) + x2).toNatClampNeg) 0) (x2 + 1))
def f_X12_findMost (σ : Hp) (x1 : Int32) : Option (Hp) :=
  f_X12_findMost_2 x1 fu σ 0
set_option maxRecDepth 100000 in
set_option maxHeartbeats 4000000 in
theorem w_X12_findMost_111 {G : GT} {p : Program} {l : Launch} {e : Env} {s : State} {m : MethodId} {args : Array Value} {below : List Frame} {meth : Method} {c : Code}  {σ' : Hp} {k30 : Hp → Int32 → Option (Hp)} {k36 : Hp → Int32 → Option (Hp)} {k52 : Int64 → Int32 → Option (Hp)} {σ : Hp} {x2 : Int32} {x3 : Int32} {y4 : Int64} {x6 : Int32} {ty0 : Int64}  (C0 : Cx G cX12_findMost RX12 wsX12_findMost 9 none p s m args meth c) (hk30 : ∀ (σ : Hp) (x2 : Int32), k30 σ x2 = some σ' → ∀ (H : Heap) (locs : List Loc), Inv G s σ H locs → ∀ ls : Array Slot, lv_has ls 9 [(0, .ref (G.1 + 51)), (2, .int x2)] → W p l e (rmk 3 73) s m args below meth c H locs 0 0 (MQ below (QV G σ') args s (rmk 3 73).cells (rmk 3 73).slots (gA G)) (F0 m 30 ls [])) (hk36 : ∀ (σ : Hp) (x3 : Int32), k36 σ x3 = some σ' → ∀ (H : Heap) (locs : List Loc), Inv G s σ H locs → ∀ ls : Array Slot, lv_has ls 9 [(0, .ref (G.1 + 51)), (2, .int x2), (3, .int x3)] → W p l e (rmk 3 73) s m args below meth c H locs 0 0 (MQ below (QV G σ') args s (rmk 3 73).cells (rmk 3 73).slots (gA G)) (F0 m 36 ls [])) (hk52 : ∀ (y4 : Int64) (x6 : Int32), k52 y4 x6 = some σ' → ∀ (H : Heap) (locs : List Loc), Inv G s σ H locs → ∀ ls : Array Slot, lv_has ls 9 [(0, .ref (G.1 + 51)), (2, .int x2), (3, .int x3), (4, .long y4), (6, .int x6)] → W p l e (rmk 3 73) s m args below meth c H locs 0 0 (MQ below (QV G σ') args s (rmk 3 73).cells (rmk 3 73).slots (gA G)) (F0 m 52 ls [])) (hf : f_X12_findMost_111 k30 k36 k52 σ x2 x3 y4 x6 ty0 = some σ') {H : Heap} {locs : List Loc} (hI : Inv G s σ H locs) {ls : Array Slot} (hl : lv_has ls 9 [(0, .ref (G.1 + 51)), (2, .int x2), (3, .int x3), (4, .long y4), (6, .int x6)]) : W p l e (rmk 3 73) s m args below meth c H locs 0 0 (MQ below (QV G σ') args s (rmk 3 73).cells (rmk 3 73).slots (gA G)) (F0 m 111 ls [.long ty0]) := by
  obtain ⟨hx, hb, hr, hml, hown, hts, hlk, hK, hG⟩ := id C0
  unfold f_X12_findMost_111 at hf
  refine lv_lstore (lv' := [(7, .long ty0), (0, .ref (G.1 + 51)), (2, .int x2), (3, .int x3), (4, .long y4), (6, .int x6)]) hx hb dX12_findMost_111 hl (by decide) rfl (fun ls hl => ?_)
  refine lv_lload hx hb dX12_findMost_113 (lv_at hl 0 rfl) ?_
  refine lv_lload hx hb dX12_findMost_115 (lv_at hl 4 rfl) ?_
  refine W.lcmp hx hb dX12_findMost_117 ?_
  refine lv_if_le (tgt := 126) hx hb dX12_findMost_118 (by decide) (fun c1 => ?_) (fun c1 => ?_)
  · have hf := ok_t c1 hf
    refine lv_lload hx hb dX12_findMost_126 (lv_at hl 4 rfl) ?_
    refine lv_lstore (lv' := [(4, .long y4), (7, .long ty0), (0, .ref (G.1 + 51)), (2, .int x2), (3, .int x3), (6, .int x6)]) hx hb dX12_findMost_128 hl (by decide) rfl (fun ls hl => ?_)
    refine lv_iinc (v := x6 + 1) (lv' := [(6, .int (x6 + 1)), (4, .long y4), (7, .long ty0), (0, .ref (G.1 + 51)), (2, .int x2), (3, .int x3)]) hx hb dX12_findMost_130 hl (k := 5) rfl rfl (by decide) rfl (fun ls hl => ?_)
    refine lv_goto (tgt := 52) hx hb dX12_findMost_133 (by decide) ?_
    exact hk52 _ _ hf _ _ hI _ (lv_sub hl [3, 4, 5, 1, 0] rfl)
  · have hf := ok_f c1 hf
    refine lv_lload hx hb dX12_findMost_121 (lv_at hl 0 rfl) ?_
    refine lv_goto (tgt := 128) hx hb dX12_findMost_123 (by decide) ?_
    refine lv_lstore (lv' := [(4, .long ty0), (7, .long ty0), (0, .ref (G.1 + 51)), (2, .int x2), (3, .int x3), (6, .int x6)]) hx hb dX12_findMost_128 hl (by decide) rfl (fun ls hl => ?_)
    refine lv_iinc (v := x6 + 1) (lv' := [(6, .int (x6 + 1)), (4, .long ty0), (7, .long ty0), (0, .ref (G.1 + 51)), (2, .int x2), (3, .int x3)]) hx hb dX12_findMost_130 hl (k := 5) rfl rfl (by decide) rfl (fun ls hl => ?_)
    refine lv_goto (tgt := 52) hx hb dX12_findMost_133 (by decide) ?_
    exact hk52 _ _ hf _ _ hI _ (lv_sub hl [3, 4, 5, 1, 0] rfl)

set_option maxRecDepth 100000 in
set_option maxHeartbeats 4000000 in
theorem w_X12_findMost_52 {G : GT} {p : Program} {l : Launch} {e : Env} {s : State} {m : MethodId} {args : Array Value} {below : List Frame} {meth : Method} {c : Code}  {σ' : Hp} {k30 : Hp → Int32 → Option (Hp)} {k36 : Hp → Int32 → Option (Hp)} {σ : Hp} {x2 : Int32} {x3 : Int32}  (C0 : Cx G cX12_findMost RX12 wsX12_findMost 9 none p s m args meth c) (hk30 : ∀ (σ : Hp) (x2 : Int32), k30 σ x2 = some σ' → ∀ (H : Heap) (locs : List Loc), Inv G s σ H locs → ∀ ls : Array Slot, lv_has ls 9 [(0, .ref (G.1 + 51)), (2, .int x2)] → W p l e (rmk 3 73) s m args below meth c H locs 0 0 (MQ below (QV G σ') args s (rmk 3 73).cells (rmk 3 73).slots (gA G)) (F0 m 30 ls [])) (hk36 : ∀ (σ : Hp) (x3 : Int32), k36 σ x3 = some σ' → ∀ (H : Heap) (locs : List Loc), Inv G s σ H locs → ∀ ls : Array Slot, lv_has ls 9 [(0, .ref (G.1 + 51)), (2, .int x2), (3, .int x3)] → W p l e (rmk 3 73) s m args below meth c H locs 0 0 (MQ below (QV G σ') args s (rmk 3 73).cells (rmk 3 73).slots (gA G)) (F0 m 36 ls [])) :
    ∀ (n : Nat) (y4 : Int64) (x6 : Int32), f_X12_findMost_52 k30 k36 σ x2 x3 n y4 x6 = some σ' → ∀ (H : Heap) (locs : List Loc), Inv G s σ H locs → ∀ ls : Array Slot, lv_has ls 9 [(0, .ref (G.1 + 51)), (2, .int x2), (3, .int x3), (4, .long y4), (6, .int x6)] → W p l e (rmk 3 73) s m args below meth c H locs 0 0 (MQ below (QV G σ') args s (rmk 3 73).cells (rmk 3 73).slots (gA G)) (F0 m 52 ls []) := by
  obtain ⟨hx, hb, hr, hml, hown, hts, hlk, hK, hG⟩ := id C0
  intro n
  induction n with
  | zero =>
    intro y4 x6 hf
    cases hf
  | succ n ih =>
    intro y4 x6 hf H locs hI ls hl
    rw [f_X12_findMost_52] at hf
    refine lv_iload hx hb dX12_findMost_52 (lv_at hl 4 rfl) ?_
    refine lv_iload_n hx hb dX12_findMost_54 rfl (lv_at hl 2 rfl) ?_
    refine lv_iconst (v := 1) hx hb dX12_findMost_55 (by decide) ?_
    refine lv_iadd hx hb dX12_findMost_56 ?_
    refine lv_icmp_gt (tgt := 136) hx hb dX12_findMost_57 (by decide) (fun c1 => ?_) (fun c1 => ?_)
    · have hf := ok_t c1 hf
      refine lv_aload_n hx hb dX12_findMost_136 rfl (lv_at hl 0 rfl) ?_
      refine z_get (C := RX12) (T := TX12) (N := 26) (ci := 11) (v := .ref (G.1 + 64)) hx hb hts i_X12_findMost_11 hown hK hI 51 rfl (by decide) rfl 21 (by decide) (hts (.fieldLink RX12 48 "FenceYardsModel" "most" "[J") (by decide +kernel)) (fun _ h9 => h9) rfl dX12_findMost_137 ?_
      refine lv_bipush (v := 13) hx hb dX12_findMost_140 (by decide) ?_
      refine lv_iload_n hx hb dX12_findMost_142 rfl (lv_at hl 1 rfl) ?_
      refine lv_imul hx hb dX12_findMost_143 ?_
      refine lv_iload_n hx hb dX12_findMost_144 rfl (lv_at hl 2 rfl) ?_
      refine lv_iadd hx hb dX12_findMost_145 ?_
      refine lv_lload hx hb dX12_findMost_146 (lv_at hl 3 rfl) ?_
      obtain ⟨h1, hf⟩ := ok_c hf
      refine z_last hx hb hK hI 64 (k := ((13 * x2) + x3).toNatClampNeg) rfl h1 rfl dX12_findMost_148 (fun H locs hI => ?_)
      refine lv_iinc (v := x3 + 1) (lv' := [(3, .int (x3 + 1)), (0, .ref (G.1 + 51)), (2, .int x2), (4, .long y4), (6, .int x6)]) hx hb dX12_findMost_149 hl (k := 2) rfl rfl (by decide) rfl (fun ls hl => ?_)
      refine lv_goto (tgt := 36) hx hb dX12_findMost_152 (by decide) ?_
      exact hk36 _ _ hf _ _ hI _ (lv_sub hl [1, 2, 0] rfl)
    · have hf := ok_f c1 hf
      refine lv_aload_n hx hb dX12_findMost_60 rfl (lv_at hl 0 rfl) ?_
      refine lv_iconst (v := 0) hx hb dX12_findMost_61 (by decide) ?_
      refine lv_iload hx hb dX12_findMost_62 (lv_at hl 4 rfl) ?_
      obtain ⟨r1, hc1, hf⟩ := ok_1 hf
      refine z_calli0 rfl rfl hI (va_runV (As := [.int 0, .int x6]) (rest := []) ⟨hx, hb, hml, hown, hts⟩ (m_X12_mayBe G l  hc1) (cwV 2 hts gX12_findMost_X12_mayBe rfl rfl rfl (by decide +kernel) ⟨Nat.le_of_ble_eq_true rfl, Nat.le_of_ble_eq_true rfl⟩) (z_preV hK hG hI (z_rc (q := 51) (ci := 11) (n := 0) hK hI rfl (by decide) rfl)) rfl rfl hl.1 rfl (lv_room (Nat.le_of_ble_eq_true rfl)) dX12_findMost_64 ⟨Nat.zero_le _, Nat.zero_le _⟩) (fun H locs hI => ?_)
      refine lv_if_eq (tgt := 108) hx hb dX12_findMost_67 (by decide) (fun c2 => ?_) (fun c2 => ?_)
      · have hf := ok_t c2 hf
        refine lv_ldc2 (v := (-1)) hx hb hown (hts (.constantLong RX12 212 (-1)) (by decide +kernel)) dX12_findMost_108 ?_
        exact w_X12_findMost_111  C0 hk30 hk36 ih hf hI (lv_sub hl [0, 1, 2, 3, 4] rfl)
      · have hf := ok_f c2 hf
        refine lv_aload_n hx hb dX12_findMost_70 rfl (lv_at hl 0 rfl) ?_
        refine lv_aload_n hx hb dX12_findMost_71 rfl (lv_at hl 0 rfl) ?_
        refine z_get (C := RX12) (T := TX12) (N := 26) (ci := 11) (v := .ref (G.1 + 52)) hx hb hts i_X12_findMost_11 hown hK hI 51 rfl (by decide) rfl 0 (by decide) (hts (.fieldLink RX12 7 "FenceYardsModel" "st" "[I") (by decide +kernel)) (fun _ h9 => h9) rfl dX12_findMost_72 ?_
        refine lv_iconst (v := 3) hx hb dX12_findMost_75 (by decide) ?_
        refine z_iald hx hb hK hI 52 (k := 3) rfl (by decide) (by decide) dX12_findMost_76 ?_
        refine lv_iload_n hx hb dX12_findMost_77 rfl (lv_at hl 1 rfl) ?_
        refine lv_iadd hx hb dX12_findMost_78 ?_
        refine lv_iload hx hb dX12_findMost_79 (lv_at hl 4 rfl) ?_
        refine lv_aload_n hx hb dX12_findMost_81 rfl (lv_at hl 0 rfl) ?_
        refine z_get (C := RX12) (T := TX12) (N := 26) (ci := 11) (v := .ref (G.1 + 63)) hx hb hts i_X12_findMost_11 hown hK hI 51 rfl (by decide) rfl 20 (by decide) (hts (.fieldLink RX12 45 "FenceYardsModel" "ends" "[I") (by decide +kernel)) (fun _ h9 => h9) rfl dX12_findMost_82 ?_
        refine lv_iload_n hx hb dX12_findMost_85 rfl (lv_at hl 1 rfl) ?_
        obtain ⟨h2, hf⟩ := ok_c hf
        refine z_iald hx hb hK hI 63 (k := x2.toNatClampNeg) rfl h2 rfl dX12_findMost_86 ?_
        obtain ⟨r2, hc2, hf⟩ := ok_1 hf
        refine z_calll0 rfl rfl hI (va_runV (As := [.int ((gI σ 52 3) + x2), .int x6, .int (gI σ 63 (x2.toNatClampNeg))]) (rest := []) ⟨hx, hb, hml, hown, hts⟩ (m_X12_gets G l  hc2) (cwV 3 hts gX12_findMost_X12_gets rfl rfl rfl (by decide +kernel) ⟨Nat.le_of_ble_eq_true rfl, Nat.le_of_ble_eq_true rfl⟩) (z_preV hK hG hI (z_rc (q := 51) (ci := 11) (n := 0) hK hI rfl (by decide) rfl)) rfl rfl hl.1 rfl (lv_room (Nat.le_of_ble_eq_true rfl)) dX12_findMost_87 ⟨Nat.zero_le _, Nat.zero_le _⟩) (fun H locs hI => ?_)
        refine lv_aload_n hx hb dX12_findMost_90 rfl (lv_at hl 0 rfl) ?_
        refine z_get (C := RX12) (T := TX12) (N := 26) (ci := 11) (v := .ref (G.1 + 64)) hx hb hts i_X12_findMost_11 hown hK hI 51 rfl (by decide) rfl 21 (by decide) (hts (.fieldLink RX12 48 "FenceYardsModel" "most" "[J") (by decide +kernel)) (fun _ h9 => h9) rfl dX12_findMost_91 ?_
        refine lv_bipush (v := 13) hx hb dX12_findMost_94 (by decide) ?_
        refine lv_iload_n hx hb dX12_findMost_96 rfl (lv_at hl 1 rfl) ?_
        refine lv_iconst (v := 1) hx hb dX12_findMost_97 (by decide) ?_
        refine lv_iadd hx hb dX12_findMost_98 ?_
        refine lv_imul hx hb dX12_findMost_99 ?_
        refine lv_iload hx hb dX12_findMost_100 (lv_at hl 4 rfl) ?_
        refine lv_iadd hx hb dX12_findMost_102 ?_
        obtain ⟨h3, hf⟩ := ok_c hf
        refine z_lald hx hb hK hI 64 (k := ((13 * (x2 + 1)) + x6).toNatClampNeg) rfl h3 rfl dX12_findMost_103 ?_
        refine lv_ladd hx hb dX12_findMost_104 ?_
        refine lv_goto (tgt := 111) hx hb dX12_findMost_105 (by decide) ?_
        exact w_X12_findMost_111  C0 hk30 hk36 ih hf hI (lv_sub hl [0, 1, 2, 3, 4] rfl)

set_option maxRecDepth 100000 in
set_option maxHeartbeats 4000000 in
theorem w_X12_findMost_36 {G : GT} {p : Program} {l : Launch} {e : Env} {s : State} {m : MethodId} {args : Array Value} {below : List Frame} {meth : Method} {c : Code}  {σ' : Hp} {k30 : Hp → Int32 → Option (Hp)}  {x2 : Int32}  (C0 : Cx G cX12_findMost RX12 wsX12_findMost 9 none p s m args meth c) (hk30 : ∀ (σ : Hp) (x2 : Int32), k30 σ x2 = some σ' → ∀ (H : Heap) (locs : List Loc), Inv G s σ H locs → ∀ ls : Array Slot, lv_has ls 9 [(0, .ref (G.1 + 51)), (2, .int x2)] → W p l e (rmk 3 73) s m args below meth c H locs 0 0 (MQ below (QV G σ') args s (rmk 3 73).cells (rmk 3 73).slots (gA G)) (F0 m 30 ls [])) :
    ∀ (n : Nat) (σ : Hp) (x3 : Int32), f_X12_findMost_36 k30 x2 n σ x3 = some σ' → ∀ (H : Heap) (locs : List Loc), Inv G s σ H locs → ∀ ls : Array Slot, lv_has ls 9 [(0, .ref (G.1 + 51)), (2, .int x2), (3, .int x3)] → W p l e (rmk 3 73) s m args below meth c H locs 0 0 (MQ below (QV G σ') args s (rmk 3 73).cells (rmk 3 73).slots (gA G)) (F0 m 36 ls []) := by
  obtain ⟨hx, hb, hr, hml, hown, hts, hlk, hK, hG⟩ := id C0
  intro n
  induction n with
  | zero =>
    intro σ x3 hf
    cases hf
  | succ n ih =>
    intro σ x3 hf H locs hI ls hl
    rw [f_X12_findMost_36] at hf
    refine lv_iload_n hx hb dX12_findMost_36 rfl (lv_at hl 2 rfl) ?_
    refine lv_bipush (v := 13) hx hb dX12_findMost_37 (by decide) ?_
    refine lv_icmp_ge (tgt := 155) hx hb dX12_findMost_39 (by decide) (fun c1 => ?_) (fun c1 => ?_)
    · have hf := ok_t c1 hf
      refine lv_iinc (v := x2 + (-1)) (lv' := [(2, .int (x2 + (-1))), (0, .ref (G.1 + 51)), (3, .int x3)]) hx hb dX12_findMost_155 hl (k := 1) rfl rfl (by decide) rfl (fun ls hl => ?_)
      refine lv_goto (tgt := 30) hx hb dX12_findMost_158 (by decide) ?_
      exact hk30 _ _ hf _ _ hI _ (lv_sub hl [1, 0] rfl)
    · have hf := ok_f c1 hf
      refine lv_ldc2 (v := (-1)) hx hb hown (hts (.constantLong RX12 212 (-1)) (by decide +kernel)) dX12_findMost_42 ?_
      refine lv_lstore (lv' := [(4, .long (-1)), (0, .ref (G.1 + 51)), (2, .int x2), (3, .int x3)]) hx hb dX12_findMost_45 hl (by decide) rfl (fun ls hl => ?_)
      refine lv_iload_n hx hb dX12_findMost_47 rfl (lv_at hl 3 rfl) ?_
      refine lv_iconst (v := 1) hx hb dX12_findMost_48 (by decide) ?_
      refine lv_isub hx hb dX12_findMost_49 ?_
      refine lv_topi (fun v1 ev1 => ?_)
      have hf := ok_n hf ev1
      refine lv_istore (lv' := [(6, .int v1), (4, .long (-1)), (0, .ref (G.1 + 51)), (2, .int x2), (3, .int x3)]) hx hb dX12_findMost_50 hl (by decide) rfl (fun ls hl => ?_)
      exact w_X12_findMost_52  C0 hk30 ih _ _ _ hf _ _ hI _ (lv_sub hl [2, 3, 4, 1, 0] rfl)

set_option maxRecDepth 100000 in
set_option maxHeartbeats 4000000 in
theorem w_X12_findMost_30 {G : GT} {p : Program} {l : Launch} {e : Env} {s : State} {m : MethodId} {args : Array Value} {below : List Frame} {meth : Method} {c : Code}  {σ' : Hp}     (C0 : Cx G cX12_findMost RX12 wsX12_findMost 9 none p s m args meth c)  :
    ∀ (n : Nat) (σ : Hp) (x2 : Int32), f_X12_findMost_30 n σ x2 = some σ' → ∀ (H : Heap) (locs : List Loc), Inv G s σ H locs → ∀ ls : Array Slot, lv_has ls 9 [(0, .ref (G.1 + 51)), (2, .int x2)] → W p l e (rmk 3 73) s m args below meth c H locs 0 0 (MQ below (QV G σ') args s (rmk 3 73).cells (rmk 3 73).slots (gA G)) (F0 m 30 ls []) := by
  obtain ⟨hx, hb, hr, hml, hown, hts, hlk, hK, hG⟩ := id C0
  intro n
  induction n with
  | zero =>
    intro σ x2 hf
    cases hf
  | succ n ih =>
    intro σ x2 hf H locs hI ls hl
    rw [f_X12_findMost_30] at hf
    refine lv_iload_n hx hb dX12_findMost_30 rfl (lv_at hl 1 rfl) ?_
    refine lv_if_lt (tgt := 161) hx hb dX12_findMost_31 (by decide) (fun c1 => ?_) (fun c1 => ?_)
    · have hf := ok_t c1 hf
      cases hf
      exact z_vret hx hb hr hlk hK hG hI dX12_findMost_161
    · have hf := ok_f c1 hf
      refine lv_iconst (v := 0) hx hb dX12_findMost_34 (by decide) ?_
      refine lv_istore_n (lv' := [(3, .int 0), (0, .ref (G.1 + 51)), (2, .int x2)]) hx hb dX12_findMost_35 rfl hl (by decide) rfl (fun ls hl => ?_)
      exact w_X12_findMost_36  C0 ih _ _ _ hf _ _ hI _ (lv_sub hl [1, 2, 0] rfl)

set_option maxRecDepth 100000 in
set_option maxHeartbeats 4000000 in
theorem w_X12_findMost_2 {G : GT} {p : Program} {l : Launch} {e : Env} {s : State} {m : MethodId} {args : Array Value} {below : List Frame} {meth : Method} {c : Code}  {σ' : Hp}   {x1 : Int32}  (C0 : Cx G cX12_findMost RX12 wsX12_findMost 9 none p s m args meth c)  :
    ∀ (n : Nat) (σ : Hp) (x2 : Int32), f_X12_findMost_2 x1 n σ x2 = some σ' → ∀ (H : Heap) (locs : List Loc), Inv G s σ H locs → ∀ ls : Array Slot, lv_has ls 9 [(0, .ref (G.1 + 51)), (1, .int x1), (2, .int x2)] → W p l e (rmk 3 73) s m args below meth c H locs 0 0 (MQ below (QV G σ') args s (rmk 3 73).cells (rmk 3 73).slots (gA G)) (F0 m 2 ls []) := by
  obtain ⟨hx, hb, hr, hml, hown, hts, hlk, hK, hG⟩ := id C0
  intro n
  induction n with
  | zero =>
    intro σ x2 hf
    cases hf
  | succ n ih =>
    intro σ x2 hf H locs hI ls hl
    rw [f_X12_findMost_2] at hf
    refine lv_iload_n hx hb dX12_findMost_2 rfl (lv_at hl 2 rfl) ?_
    refine lv_bipush (v := 13) hx hb dX12_findMost_3 (by decide) ?_
    refine lv_icmp_ge (tgt := 26) hx hb dX12_findMost_5 (by decide) (fun c1 => ?_) (fun c1 => ?_)
    · have hf := ok_t c1 hf
      refine lv_iload_n hx hb dX12_findMost_26 rfl (lv_at hl 1 rfl) ?_
      refine lv_iconst (v := 1) hx hb dX12_findMost_27 (by decide) ?_
      refine lv_isub hx hb dX12_findMost_28 ?_
      refine lv_topi (fun v1 ev1 => ?_)
      have hf := ok_n hf ev1
      refine lv_istore_n (lv' := [(2, .int v1), (0, .ref (G.1 + 51)), (1, .int x1)]) hx hb dX12_findMost_29 rfl hl (by decide) rfl (fun ls hl => ?_)
      exact w_X12_findMost_30  C0  _ _ _ hf _ _ hI _ (lv_sub hl [1, 0] rfl)
    · have hf := ok_f c1 hf
      refine lv_aload_n hx hb dX12_findMost_8 rfl (lv_at hl 0 rfl) ?_
      refine z_get (C := RX12) (T := TX12) (N := 26) (ci := 11) (v := .ref (G.1 + 64)) hx hb hts i_X12_findMost_11 hown hK hI 51 rfl (by decide) rfl 21 (by decide) (hts (.fieldLink RX12 48 "FenceYardsModel" "most" "[J") (by decide +kernel)) (fun _ h9 => h9) rfl dX12_findMost_9 ?_
      refine lv_bipush (v := 13) hx hb dX12_findMost_12 (by decide) ?_
      refine lv_iload_n hx hb dX12_findMost_14 rfl (lv_at hl 1 rfl) ?_
      refine lv_imul hx hb dX12_findMost_15 ?_
      refine lv_iload_n hx hb dX12_findMost_16 rfl (lv_at hl 2 rfl) ?_
      refine lv_iadd hx hb dX12_findMost_17 ?_
      refine lv_lconst (v := 0) hx hb dX12_findMost_18 (by decide) ?_
      obtain ⟨h1, hf⟩ := ok_c hf
      refine z_last hx hb hK hI 64 (k := ((13 * x1) + x2).toNatClampNeg) rfl h1 rfl dX12_findMost_19 (fun H locs hI => ?_)
      refine lv_iinc (v := x2 + 1) (lv' := [(2, .int (x2 + 1)), (0, .ref (G.1 + 51)), (1, .int x1)]) hx hb dX12_findMost_20 hl (k := 2) rfl rfl (by decide) rfl (fun ls hl => ?_)
      refine lv_goto (tgt := 2) hx hb dX12_findMost_23 (by decide) ?_
      exact ih _ _ hf _ _ hI _ (lv_sub hl [1, 2, 0] rfl)

set_option maxRecDepth 100000 in
set_option maxHeartbeats 4000000 in
theorem m_X12_findMost (G : GT) (l : Launch) {σ : Hp} {x1 : Int32} {σ' : Hp}  (hf : f_X12_findMost σ x1 = some σ') : MetG G l yX12_findMost wsX12_findMost (rmk 3 73) σ [.ref (G.1 + 51), .int x1] (QV G σ') := by
  refine met_of (cc := cX12_findMost) (nL := 9) (ret := none) (by decide) rfl (Nat.le_of_ble_eq_true rfl) ?_
  intro p e s m below meth c C0 hnm hI ls hl
  obtain ⟨hx, hb, hr, hml, hown, hts, hlk, hK, hG⟩ := id C0
  have hl : lv_has ls 9 [(0, .ref (G.1 + 51)), (1, .int x1)] := hl
  unfold f_X12_findMost at hf
  refine lv_iconst (v := 0) hx hb dX12_findMost_0 (by decide) ?_
  refine lv_istore_n (lv' := [(2, .int 0), (0, .ref (G.1 + 51)), (1, .int x1)]) hx hb dX12_findMost_1 rfl hl (by decide) rfl (fun ls hl => ?_)
  exact w_X12_findMost_2  C0  _ _ _ hf _ _ hI _ (lv_sub hl [1, 2, 0] rfl)

-- ===== FenceYardsModel.findMoves(I)V
set_option maxRecDepth 100000 in
theorem i_X12_findMoves_11 : ∀ w ∈ u_ws RX12 TX12 26, w ∈ wsX12_findMoves := by decide +kernel
def f_X12_findMoves_96 (k9 : Hp → Int32 → Int32 → Option (Hp)) (k20 : Int32 → Int32 → Option (Hp))  (σ : Hp) (x1 : Int32) (x2 : Int32) (x3 : Int32) (x4 : Int32) (x5 : Int32) : Option (Hp) :=
  if (0 : Int32) = 0 then (k20 x4 (x5 + (-1))) else (k20 x5 (x5 + (-1)))
def f_X12_findMoves_20 (k9 : Hp → Int32 → Int32 → Option (Hp))  (σ : Hp) (x1 : Int32) (x2 : Int32) (x3 : Int32) : Nat → Int32 → Int32 → Option (Hp)
  | 0, _, _ => none
  | n + 1, x4, x5 =>
    if x5 < (-1) then (chk (inb x3 12) <| bnd (x2 + x4) fun v1 => k9 (sI σ 65 (x3.toNatClampNeg) x4) v1 (x3 + 1)) else (bd1 (f_X12_mayBe σ 0 (x2 + x5)) fun r1 => if r1 = 0 then (f_X12_findMoves_96 k9 (f_X12_findMoves_20 k9 σ x1 x2 x3 n) σ x1 x2 x3 x4 x5) else (chk (inb x3 12) <| bd1 (f_X12_gets σ ((gI σ 52 3) + x3) (x2 + x5) (gI σ 63 (x3.toNatClampNeg))) fun r2 => chk (inb (((13 * (x3 + 1)) + x2) + x5) 169) <| chk (inb ((13 * x3) + x2) 169) <| if (lg_cmp (r2 + (gJ σ 64 ((((13 * (x3 + 1)) + x2) + x5).toNatClampNeg))) (gJ σ 64 (((13 * x3) + x2).toNatClampNeg))) = 0 then (if (1 : Int32) = 0 then (f_X12_findMoves_20 k9 σ x1 x2 x3 n x4 (x5 + (-1))) else (f_X12_findMoves_20 k9 σ x1 x2 x3 n x5 (x5 + (-1)))) else (f_X12_findMoves_96 k9 (f_X12_findMoves_20 k9 σ x1 x2 x3 n) σ x1 x2 x3 x4 x5)))
def f_X12_findMoves_9    (x1 : Int32) : Nat → Hp → Int32 → Int32 → Option (Hp)
  | 0, _, _, _ => none
  | n + 1, σ, x2, x3 =>
    if x1 ≤ x3 then (some σ) else (f_X12_findMoves_20 (f_X12_findMoves_9 x1 n) σ x1 x2 x3 fu 2 1)
def f_X12_findMoves (σ : Hp) (x1 : Int32) : Option (Hp) :=
  bnd (gI σ 52 1) fun v1 => f_X12_findMoves_9 x1 fu σ v1 0
set_option maxRecDepth 100000 in
set_option maxHeartbeats 4000000 in
theorem w_X12_findMoves_96 {G : GT} {p : Program} {l : Launch} {e : Env} {s : State} {m : MethodId} {args : Array Value} {below : List Frame} {meth : Method} {c : Code}  {σ' : Hp} {k9 : Hp → Int32 → Int32 → Option (Hp)} {k20 : Int32 → Int32 → Option (Hp)} {σ : Hp} {x1 : Int32} {x2 : Int32} {x3 : Int32} {x4 : Int32} {x5 : Int32}  (C0 : Cx G cX12_findMoves RX12 wsX12_findMoves 7 none p s m args meth c) (hk9 : ∀ (σ : Hp) (x2 : Int32) (x3 : Int32), k9 σ x2 x3 = some σ' → ∀ (H : Heap) (locs : List Loc), Inv G s σ H locs → ∀ ls : Array Slot, lv_has ls 7 [(0, .ref (G.1 + 51)), (1, .int x1), (2, .int x2), (3, .int x3)] → W p l e (rmk 3 73) s m args below meth c H locs 0 0 (MQ below (QV G σ') args s (rmk 3 73).cells (rmk 3 73).slots (gA G)) (F0 m 9 ls [])) (hk20 : ∀ (x4 : Int32) (x5 : Int32), k20 x4 x5 = some σ' → ∀ (H : Heap) (locs : List Loc), Inv G s σ H locs → ∀ ls : Array Slot, lv_has ls 7 [(0, .ref (G.1 + 51)), (1, .int x1), (2, .int x2), (3, .int x3), (4, .int x4), (5, .int x5)] → W p l e (rmk 3 73) s m args below meth c H locs 0 0 (MQ below (QV G σ') args s (rmk 3 73).cells (rmk 3 73).slots (gA G)) (F0 m 20 ls [])) (hf : f_X12_findMoves_96 k9 k20 σ x1 x2 x3 x4 x5 = some σ') {H : Heap} {locs : List Loc} (hI : Inv G s σ H locs) {ls : Array Slot} (hl : lv_has ls 7 [(0, .ref (G.1 + 51)), (1, .int x1), (2, .int x2), (3, .int x3), (4, .int x4), (5, .int x5)]) : W p l e (rmk 3 73) s m args below meth c H locs 0 0 (MQ below (QV G σ') args s (rmk 3 73).cells (rmk 3 73).slots (gA G)) (F0 m 96 ls []) := by
  obtain ⟨hx, hb, hr, hml, hown, hts, hlk, hK, hG⟩ := id C0
  unfold f_X12_findMoves_96 at hf
  refine lv_iconst (v := 0) hx hb dX12_findMoves_96 (by decide) ?_
  refine lv_istore (lv' := [(6, .int 0), (0, .ref (G.1 + 51)), (1, .int x1), (2, .int x2), (3, .int x3), (4, .int x4), (5, .int x5)]) hx hb dX12_findMoves_97 hl (by decide) rfl (fun ls hl => ?_)
  refine lv_iload hx hb dX12_findMoves_99 (lv_at hl 0 rfl) ?_
  refine lv_if_eq (tgt := 109) hx hb dX12_findMoves_101 (by decide) (fun c1 => ?_) (fun c1 => ?_)
  · have hf := ok_t c1 hf
    refine lv_iload hx hb dX12_findMoves_109 (lv_at hl 5 rfl) ?_
    refine lv_istore (lv' := [(4, .int x4), (6, .int 0), (0, .ref (G.1 + 51)), (1, .int x1), (2, .int x2), (3, .int x3), (5, .int x5)]) hx hb dX12_findMoves_111 hl (by decide) rfl (fun ls hl => ?_)
    refine lv_iinc (v := x5 + (-1)) (lv' := [(5, .int (x5 + (-1))), (4, .int x4), (6, .int 0), (0, .ref (G.1 + 51)), (1, .int x1), (2, .int x2), (3, .int x3)]) hx hb dX12_findMoves_113 hl (k := 6) rfl rfl (by decide) rfl (fun ls hl => ?_)
    refine lv_goto (tgt := 20) hx hb dX12_findMoves_116 (by decide) ?_
    exact hk20 _ _ hf _ _ hI _ (lv_sub hl [3, 4, 5, 6, 1, 0] rfl)
  · have hf := ok_f c1 hf
    refine lv_iload hx hb dX12_findMoves_104 (lv_at hl 6 rfl) ?_
    refine lv_goto (tgt := 111) hx hb dX12_findMoves_106 (by decide) ?_
    refine lv_istore (lv' := [(4, .int x5), (6, .int 0), (0, .ref (G.1 + 51)), (1, .int x1), (2, .int x2), (3, .int x3), (5, .int x5)]) hx hb dX12_findMoves_111 hl (by decide) rfl (fun ls hl => ?_)
    refine lv_iinc (v := x5 + (-1)) (lv' := [(5, .int (x5 + (-1))), (4, .int x5), (6, .int 0), (0, .ref (G.1 + 51)), (1, .int x1), (2, .int x2), (3, .int x3)]) hx hb dX12_findMoves_113 hl (k := 6) rfl rfl (by decide) rfl (fun ls hl => ?_)
    refine lv_goto (tgt := 20) hx hb dX12_findMoves_116 (by decide) ?_
    exact hk20 _ _ hf _ _ hI _ (lv_sub hl [3, 4, 5, 6, 1, 0] rfl)

set_option maxRecDepth 100000 in
set_option maxHeartbeats 4000000 in
theorem w_X12_findMoves_20 {G : GT} {p : Program} {l : Launch} {e : Env} {s : State} {m : MethodId} {args : Array Value} {below : List Frame} {meth : Method} {c : Code}  {σ' : Hp} {k9 : Hp → Int32 → Int32 → Option (Hp)} {σ : Hp} {x1 : Int32} {x2 : Int32} {x3 : Int32}  (C0 : Cx G cX12_findMoves RX12 wsX12_findMoves 7 none p s m args meth c) (hk9 : ∀ (σ : Hp) (x2 : Int32) (x3 : Int32), k9 σ x2 x3 = some σ' → ∀ (H : Heap) (locs : List Loc), Inv G s σ H locs → ∀ ls : Array Slot, lv_has ls 7 [(0, .ref (G.1 + 51)), (1, .int x1), (2, .int x2), (3, .int x3)] → W p l e (rmk 3 73) s m args below meth c H locs 0 0 (MQ below (QV G σ') args s (rmk 3 73).cells (rmk 3 73).slots (gA G)) (F0 m 9 ls [])) :
    ∀ (n : Nat) (x4 : Int32) (x5 : Int32), f_X12_findMoves_20 k9 σ x1 x2 x3 n x4 x5 = some σ' → ∀ (H : Heap) (locs : List Loc), Inv G s σ H locs → ∀ ls : Array Slot, lv_has ls 7 [(0, .ref (G.1 + 51)), (1, .int x1), (2, .int x2), (3, .int x3), (4, .int x4), (5, .int x5)] → W p l e (rmk 3 73) s m args below meth c H locs 0 0 (MQ below (QV G σ') args s (rmk 3 73).cells (rmk 3 73).slots (gA G)) (F0 m 20 ls []) := by
  obtain ⟨hx, hb, hr, hml, hown, hts, hlk, hK, hG⟩ := id C0
  intro n
  induction n with
  | zero =>
    intro x4 x5 hf
    cases hf
  | succ n ih =>
    intro x4 x5 hf H locs hI ls hl
    rw [f_X12_findMoves_20] at hf
    refine lv_iload hx hb dX12_findMoves_20 (lv_at hl 5 rfl) ?_
    refine lv_iconst (v := (-1)) hx hb dX12_findMoves_22 (by decide) ?_
    refine lv_icmp_lt (tgt := 119) hx hb dX12_findMoves_23 (by decide) (fun c1 => ?_) (fun c1 => ?_)
    · have hf := ok_t c1 hf
      refine lv_aload_n hx hb dX12_findMoves_119 rfl (lv_at hl 0 rfl) ?_
      refine z_get (C := RX12) (T := TX12) (N := 26) (ci := 11) (v := .ref (G.1 + 65)) hx hb hts i_X12_findMoves_11 hown hK hI 51 rfl (by decide) rfl 22 (by decide) (hts (.fieldLink RX12 51 "FenceYardsModel" "moves" "[I") (by decide +kernel)) (fun _ h9 => h9) rfl dX12_findMoves_120 ?_
      refine lv_iload_n hx hb dX12_findMoves_123 rfl (lv_at hl 3 rfl) ?_
      refine lv_iload hx hb dX12_findMoves_124 (lv_at hl 4 rfl) ?_
      obtain ⟨h1, hf⟩ := ok_c hf
      refine z_iast hx hb hK hI 65 (k := x3.toNatClampNeg) rfl h1 rfl dX12_findMoves_126 (fun H locs hI => ?_)
      refine lv_iload_n hx hb dX12_findMoves_127 rfl (lv_at hl 2 rfl) ?_
      refine lv_iload hx hb dX12_findMoves_128 (lv_at hl 4 rfl) ?_
      refine lv_iadd hx hb dX12_findMoves_130 ?_
      refine lv_topi (fun v1 ev1 => ?_)
      have hf := ok_n hf ev1
      refine lv_istore_n (lv' := [(2, .int v1), (0, .ref (G.1 + 51)), (1, .int x1), (3, .int x3), (4, .int x4), (5, .int x5)]) hx hb dX12_findMoves_131 rfl hl (by decide) rfl (fun ls hl => ?_)
      refine lv_iinc (v := x3 + 1) (lv' := [(3, .int (x3 + 1)), (2, .int v1), (0, .ref (G.1 + 51)), (1, .int x1), (4, .int x4), (5, .int x5)]) hx hb dX12_findMoves_132 hl (k := 3) rfl rfl (by decide) rfl (fun ls hl => ?_)
      refine lv_goto (tgt := 9) hx hb dX12_findMoves_135 (by decide) ?_
      exact hk9 _ _ _ hf _ _ hI _ (lv_sub hl [2, 3, 1, 0] rfl)
    · have hf := ok_f c1 hf
      refine lv_aload_n hx hb dX12_findMoves_26 rfl (lv_at hl 0 rfl) ?_
      refine lv_iconst (v := 0) hx hb dX12_findMoves_27 (by decide) ?_
      refine lv_iload_n hx hb dX12_findMoves_28 rfl (lv_at hl 2 rfl) ?_
      refine lv_iload hx hb dX12_findMoves_29 (lv_at hl 5 rfl) ?_
      refine lv_iadd hx hb dX12_findMoves_31 ?_
      obtain ⟨r1, hc1, hf⟩ := ok_1 hf
      refine z_calli0 rfl rfl hI (va_runV (As := [.int 0, .int (x2 + x5)]) (rest := []) ⟨hx, hb, hml, hown, hts⟩ (m_X12_mayBe G l  hc1) (cwV 2 hts gX12_findMoves_X12_mayBe rfl rfl rfl (by decide +kernel) ⟨Nat.le_of_ble_eq_true rfl, Nat.le_of_ble_eq_true rfl⟩) (z_preV hK hG hI (z_rc (q := 51) (ci := 11) (n := 0) hK hI rfl (by decide) rfl)) rfl rfl hl.1 rfl (lv_room (Nat.le_of_ble_eq_true rfl)) dX12_findMoves_32 ⟨Nat.zero_le _, Nat.zero_le _⟩) (fun H locs hI => ?_)
      refine lv_if_eq (tgt := 96) hx hb dX12_findMoves_35 (by decide) (fun c2 => ?_) (fun c2 => ?_)
      · have hf := ok_t c2 hf
        exact w_X12_findMoves_96  C0 hk9 ih hf hI (lv_sub hl [0, 1, 2, 3, 4, 5] rfl)
      · have hf := ok_f c2 hf
        refine lv_aload_n hx hb dX12_findMoves_38 rfl (lv_at hl 0 rfl) ?_
        refine lv_aload_n hx hb dX12_findMoves_39 rfl (lv_at hl 0 rfl) ?_
        refine z_get (C := RX12) (T := TX12) (N := 26) (ci := 11) (v := .ref (G.1 + 52)) hx hb hts i_X12_findMoves_11 hown hK hI 51 rfl (by decide) rfl 0 (by decide) (hts (.fieldLink RX12 7 "FenceYardsModel" "st" "[I") (by decide +kernel)) (fun _ h9 => h9) rfl dX12_findMoves_40 ?_
        refine lv_iconst (v := 3) hx hb dX12_findMoves_43 (by decide) ?_
        refine z_iald hx hb hK hI 52 (k := 3) rfl (by decide) (by decide) dX12_findMoves_44 ?_
        refine lv_iload_n hx hb dX12_findMoves_45 rfl (lv_at hl 3 rfl) ?_
        refine lv_iadd hx hb dX12_findMoves_46 ?_
        refine lv_iload_n hx hb dX12_findMoves_47 rfl (lv_at hl 2 rfl) ?_
        refine lv_iload hx hb dX12_findMoves_48 (lv_at hl 5 rfl) ?_
        refine lv_iadd hx hb dX12_findMoves_50 ?_
        refine lv_aload_n hx hb dX12_findMoves_51 rfl (lv_at hl 0 rfl) ?_
        refine z_get (C := RX12) (T := TX12) (N := 26) (ci := 11) (v := .ref (G.1 + 63)) hx hb hts i_X12_findMoves_11 hown hK hI 51 rfl (by decide) rfl 20 (by decide) (hts (.fieldLink RX12 45 "FenceYardsModel" "ends" "[I") (by decide +kernel)) (fun _ h9 => h9) rfl dX12_findMoves_52 ?_
        refine lv_iload_n hx hb dX12_findMoves_55 rfl (lv_at hl 3 rfl) ?_
        obtain ⟨h2, hf⟩ := ok_c hf
        refine z_iald hx hb hK hI 63 (k := x3.toNatClampNeg) rfl h2 rfl dX12_findMoves_56 ?_
        obtain ⟨r2, hc2, hf⟩ := ok_1 hf
        refine z_calll0 rfl rfl hI (va_runV (As := [.int ((gI σ 52 3) + x3), .int (x2 + x5), .int (gI σ 63 (x3.toNatClampNeg))]) (rest := []) ⟨hx, hb, hml, hown, hts⟩ (m_X12_gets G l  hc2) (cwV 3 hts gX12_findMoves_X12_gets rfl rfl rfl (by decide +kernel) ⟨Nat.le_of_ble_eq_true rfl, Nat.le_of_ble_eq_true rfl⟩) (z_preV hK hG hI (z_rc (q := 51) (ci := 11) (n := 0) hK hI rfl (by decide) rfl)) rfl rfl hl.1 rfl (lv_room (Nat.le_of_ble_eq_true rfl)) dX12_findMoves_57 ⟨Nat.zero_le _, Nat.zero_le _⟩) (fun H locs hI => ?_)
        refine lv_aload_n hx hb dX12_findMoves_60 rfl (lv_at hl 0 rfl) ?_
        refine z_get (C := RX12) (T := TX12) (N := 26) (ci := 11) (v := .ref (G.1 + 64)) hx hb hts i_X12_findMoves_11 hown hK hI 51 rfl (by decide) rfl 21 (by decide) (hts (.fieldLink RX12 48 "FenceYardsModel" "most" "[J") (by decide +kernel)) (fun _ h9 => h9) rfl dX12_findMoves_61 ?_
        refine lv_bipush (v := 13) hx hb dX12_findMoves_64 (by decide) ?_
        refine lv_iload_n hx hb dX12_findMoves_66 rfl (lv_at hl 3 rfl) ?_
        refine lv_iconst (v := 1) hx hb dX12_findMoves_67 (by decide) ?_
        refine lv_iadd hx hb dX12_findMoves_68 ?_
        refine lv_imul hx hb dX12_findMoves_69 ?_
        refine lv_iload_n hx hb dX12_findMoves_70 rfl (lv_at hl 2 rfl) ?_
        refine lv_iadd hx hb dX12_findMoves_71 ?_
        refine lv_iload hx hb dX12_findMoves_72 (lv_at hl 5 rfl) ?_
        refine lv_iadd hx hb dX12_findMoves_74 ?_
        obtain ⟨h3, hf⟩ := ok_c hf
        refine z_lald hx hb hK hI 64 (k := (((13 * (x3 + 1)) + x2) + x5).toNatClampNeg) rfl h3 rfl dX12_findMoves_75 ?_
        refine lv_ladd hx hb dX12_findMoves_76 ?_
        refine lv_aload_n hx hb dX12_findMoves_77 rfl (lv_at hl 0 rfl) ?_
        refine z_get (C := RX12) (T := TX12) (N := 26) (ci := 11) (v := .ref (G.1 + 64)) hx hb hts i_X12_findMoves_11 hown hK hI 51 rfl (by decide) rfl 21 (by decide) (hts (.fieldLink RX12 48 "FenceYardsModel" "most" "[J") (by decide +kernel)) (fun _ h9 => h9) rfl dX12_findMoves_78 ?_
        refine lv_bipush (v := 13) hx hb dX12_findMoves_81 (by decide) ?_
        refine lv_iload_n hx hb dX12_findMoves_83 rfl (lv_at hl 3 rfl) ?_
        refine lv_imul hx hb dX12_findMoves_84 ?_
        refine lv_iload_n hx hb dX12_findMoves_85 rfl (lv_at hl 2 rfl) ?_
        refine lv_iadd hx hb dX12_findMoves_86 ?_
        obtain ⟨h4, hf⟩ := ok_c hf
        refine z_lald hx hb hK hI 64 (k := ((13 * x3) + x2).toNatClampNeg) rfl h4 rfl dX12_findMoves_87 ?_
        refine W.lcmp hx hb dX12_findMoves_88 ?_
        refine lv_if_ne (tgt := 96) hx hb dX12_findMoves_89 (by decide) (fun c3 => ?_) (fun c3 => ?_)
        · have hf := ok_f c3 hf
          exact w_X12_findMoves_96  C0 hk9 ih hf hI (lv_sub hl [0, 1, 2, 3, 4, 5] rfl)
        · have hf := ok_t c3 hf
          refine lv_iconst (v := 1) hx hb dX12_findMoves_92 (by decide) ?_
          refine lv_goto (tgt := 97) hx hb dX12_findMoves_93 (by decide) ?_
          refine lv_istore (lv' := [(6, .int 1), (0, .ref (G.1 + 51)), (1, .int x1), (2, .int x2), (3, .int x3), (4, .int x4), (5, .int x5)]) hx hb dX12_findMoves_97 hl (by decide) rfl (fun ls hl => ?_)
          refine lv_iload hx hb dX12_findMoves_99 (lv_at hl 0 rfl) ?_
          refine lv_if_eq (tgt := 109) hx hb dX12_findMoves_101 (by decide) (fun c4 => ?_) (fun c4 => ?_)
          · have hf := ok_t c4 hf
            refine lv_iload hx hb dX12_findMoves_109 (lv_at hl 5 rfl) ?_
            refine lv_istore (lv' := [(4, .int x4), (6, .int 1), (0, .ref (G.1 + 51)), (1, .int x1), (2, .int x2), (3, .int x3), (5, .int x5)]) hx hb dX12_findMoves_111 hl (by decide) rfl (fun ls hl => ?_)
            refine lv_iinc (v := x5 + (-1)) (lv' := [(5, .int (x5 + (-1))), (4, .int x4), (6, .int 1), (0, .ref (G.1 + 51)), (1, .int x1), (2, .int x2), (3, .int x3)]) hx hb dX12_findMoves_113 hl (k := 6) rfl rfl (by decide) rfl (fun ls hl => ?_)
            refine lv_goto (tgt := 20) hx hb dX12_findMoves_116 (by decide) ?_
            exact ih _ _ hf _ _ hI _ (lv_sub hl [3, 4, 5, 6, 1, 0] rfl)
          · have hf := ok_f c4 hf
            refine lv_iload hx hb dX12_findMoves_104 (lv_at hl 6 rfl) ?_
            refine lv_goto (tgt := 111) hx hb dX12_findMoves_106 (by decide) ?_
            refine lv_istore (lv' := [(4, .int x5), (6, .int 1), (0, .ref (G.1 + 51)), (1, .int x1), (2, .int x2), (3, .int x3), (5, .int x5)]) hx hb dX12_findMoves_111 hl (by decide) rfl (fun ls hl => ?_)
            refine lv_iinc (v := x5 + (-1)) (lv' := [(5, .int (x5 + (-1))), (4, .int x5), (6, .int 1), (0, .ref (G.1 + 51)), (1, .int x1), (2, .int x2), (3, .int x3)]) hx hb dX12_findMoves_113 hl (k := 6) rfl rfl (by decide) rfl (fun ls hl => ?_)
            refine lv_goto (tgt := 20) hx hb dX12_findMoves_116 (by decide) ?_
            exact ih _ _ hf _ _ hI _ (lv_sub hl [3, 4, 5, 6, 1, 0] rfl)

set_option maxRecDepth 100000 in
set_option maxHeartbeats 4000000 in
theorem w_X12_findMoves_9 {G : GT} {p : Program} {l : Launch} {e : Env} {s : State} {m : MethodId} {args : Array Value} {below : List Frame} {meth : Method} {c : Code}  {σ' : Hp}   {x1 : Int32}  (C0 : Cx G cX12_findMoves RX12 wsX12_findMoves 7 none p s m args meth c)  :
    ∀ (n : Nat) (σ : Hp) (x2 : Int32) (x3 : Int32), f_X12_findMoves_9 x1 n σ x2 x3 = some σ' → ∀ (H : Heap) (locs : List Loc), Inv G s σ H locs → ∀ ls : Array Slot, lv_has ls 7 [(0, .ref (G.1 + 51)), (1, .int x1), (2, .int x2), (3, .int x3)] → W p l e (rmk 3 73) s m args below meth c H locs 0 0 (MQ below (QV G σ') args s (rmk 3 73).cells (rmk 3 73).slots (gA G)) (F0 m 9 ls []) := by
  obtain ⟨hx, hb, hr, hml, hown, hts, hlk, hK, hG⟩ := id C0
  intro n
  induction n with
  | zero =>
    intro σ x2 x3 hf
    cases hf
  | succ n ih =>
    intro σ x2 x3 hf H locs hI ls hl
    rw [f_X12_findMoves_9] at hf
    refine lv_iload_n hx hb dX12_findMoves_9 rfl (lv_at hl 3 rfl) ?_
    refine lv_iload_n hx hb dX12_findMoves_10 rfl (lv_at hl 1 rfl) ?_
    refine lv_icmp_ge (tgt := 138) hx hb dX12_findMoves_11 (by decide) (fun c1 => ?_) (fun c1 => ?_)
    · have hf := ok_t c1 hf
      cases hf
      exact z_vret hx hb hr hlk hK hG hI dX12_findMoves_138
    · have hf := ok_f c1 hf
      refine lv_iconst (v := 2) hx hb dX12_findMoves_14 (by decide) ?_
      refine lv_istore (lv' := [(4, .int 2), (0, .ref (G.1 + 51)), (1, .int x1), (2, .int x2), (3, .int x3)]) hx hb dX12_findMoves_15 hl (by decide) rfl (fun ls hl => ?_)
      refine lv_iconst (v := 1) hx hb dX12_findMoves_17 (by decide) ?_
      refine lv_istore (lv' := [(5, .int 1), (4, .int 2), (0, .ref (G.1 + 51)), (1, .int x1), (2, .int x2), (3, .int x3)]) hx hb dX12_findMoves_18 hl (by decide) rfl (fun ls hl => ?_)
      exact w_X12_findMoves_20  C0 ih _ _ _ hf _ _ hI _ (lv_sub hl [2, 3, 4, 5, 1, 0] rfl)

set_option maxRecDepth 100000 in
set_option maxHeartbeats 4000000 in
theorem m_X12_findMoves (G : GT) (l : Launch) {σ : Hp} {x1 : Int32} {σ' : Hp}  (hf : f_X12_findMoves σ x1 = some σ') : MetG G l yX12_findMoves wsX12_findMoves (rmk 3 73) σ [.ref (G.1 + 51), .int x1] (QV G σ') := by
  refine met_of (cc := cX12_findMoves) (nL := 7) (ret := none) (by decide) rfl (Nat.le_of_ble_eq_true rfl) ?_
  intro p e s m below meth c C0 hnm hI ls hl
  obtain ⟨hx, hb, hr, hml, hown, hts, hlk, hK, hG⟩ := id C0
  have hl : lv_has ls 7 [(0, .ref (G.1 + 51)), (1, .int x1)] := hl
  unfold f_X12_findMoves at hf
  refine lv_aload_n hx hb dX12_findMoves_0 rfl (lv_at hl 0 rfl) ?_
  refine z_get (C := RX12) (T := TX12) (N := 26) (ci := 11) (v := .ref (G.1 + 52)) hx hb hts i_X12_findMoves_11 hown hK hI 51 rfl (by decide) rfl 0 (by decide) (hts (.fieldLink RX12 7 "FenceYardsModel" "st" "[I") (by decide +kernel)) (fun _ h9 => h9) rfl dX12_findMoves_1 ?_
  refine lv_iconst (v := 1) hx hb dX12_findMoves_4 (by decide) ?_
  refine z_iald hx hb hK hI 52 (k := 1) rfl (by decide) (by decide) dX12_findMoves_5 ?_
  refine lv_topi (fun v1 ev1 => ?_)
  have hf := ok_n hf ev1
  refine lv_istore_n (lv' := [(2, .int v1), (0, .ref (G.1 + 51)), (1, .int x1)]) hx hb dX12_findMoves_6 rfl hl (by decide) rfl (fun ls hl => ?_)
  refine lv_iconst (v := 0) hx hb dX12_findMoves_7 (by decide) ?_
  refine lv_istore_n (lv' := [(3, .int 0), (2, .int v1), (0, .ref (G.1 + 51)), (1, .int x1)]) hx hb dX12_findMoves_8 rfl hl (by decide) rfl (fun ls hl => ?_)
  exact w_X12_findMoves_9  C0  _ _ _ _ hf _ _ hI _ (lv_sub hl [2, 3, 1, 0] rfl)

-- ===== FenceYardsModel.areMoves(II)Z
set_option maxRecDepth 100000 in
theorem i_X12_areMoves_11 : ∀ w ∈ u_ws RX12 TX12 26, w ∈ wsX12_areMoves := by decide +kernel
def f_X12_areMoves_5   (σ : Hp) (x1 : Int32) (x2 : Int32) : Nat → Int32 → Int32 → Option (Int32)
  | 0, _, _ => none
  | n + 1, x3, x4 =>
    if x2 ≤ x4 then (chk (x3 = 0 ∨ x3 = 1) <| some x3) else (if x3 = 0 then (f_X12_areMoves_5 σ x1 x2 n 0 (x4 + 1)) else (chk (inb ((40 * x1) + x4) 320) <| bd1 (f_X12_in σ (gI σ 57 (((40 * x1) + x4).toNatClampNeg)) (-1) 1) fun r1 => if r1 = 0 then (f_X12_areMoves_5 σ x1 x2 n 0 (x4 + 1)) else (f_X12_areMoves_5 σ x1 x2 n 1 (x4 + 1))))
def f_X12_areMoves (σ : Hp) (x1 : Int32) (x2 : Int32) : Option (Int32) :=
  f_X12_areMoves_5 σ x1 x2 fu 1 0
set_option maxRecDepth 100000 in
set_option maxHeartbeats 4000000 in
theorem w_X12_areMoves_5 {G : GT} {p : Program} {l : Launch} {e : Env} {s : State} {m : MethodId} {args : Array Value} {below : List Frame} {meth : Method} {c : Code}  {r : Int32}  {σ : Hp} {x1 : Int32} {x2 : Int32}  (C0 : Cx G cX12_areMoves RX12 wsX12_areMoves 5 (some .boolean) p s m args meth c)  :
    ∀ (n : Nat) (x3 : Int32) (x4 : Int32), f_X12_areMoves_5 σ x1 x2 n x3 x4 = some r → ∀ (H : Heap) (locs : List Loc), Inv G s σ H locs → ∀ ls : Array Slot, lv_has ls 5 [(0, .ref (G.1 + 51)), (1, .int x1), (2, .int x2), (3, .int x3), (4, .int x4)] → W p l e (rmk 1 22) s m args below meth c H locs 0 0 (MQ below (QI G σ r) args s (rmk 1 22).cells (rmk 1 22).slots (gA G)) (F0 m 5 ls []) := by
  obtain ⟨hx, hb, hr, hml, hown, hts, hlk, hK, hG⟩ := id C0
  intro n
  induction n with
  | zero =>
    intro x3 x4 hf
    cases hf
  | succ n ih =>
    intro x3 x4 hf H locs hI ls hl
    rw [f_X12_areMoves_5] at hf
    refine lv_iload hx hb dX12_areMoves_5 (lv_at hl 4 rfl) ?_
    refine lv_iload_n hx hb dX12_areMoves_7 rfl (lv_at hl 2 rfl) ?_
    refine lv_icmp_ge (tgt := 47) hx hb dX12_areMoves_8 (by decide) (fun c1 => ?_) (fun c1 => ?_)
    · have hf := ok_t c1 hf
      refine lv_iload_n hx hb dX12_areMoves_47 rfl (lv_at hl 3 rfl) ?_
      obtain ⟨h1, hf⟩ := ok_c hf
      cases hf
      exact z_zret hx hb hr hlk hK hG hI h1 dX12_areMoves_48
    · have hf := ok_f c1 hf
      refine lv_iload_n hx hb dX12_areMoves_11 rfl (lv_at hl 3 rfl) ?_
      refine lv_if_eq (tgt := 39) hx hb dX12_areMoves_12 (by decide) (fun c2 => ?_) (fun c2 => ?_)
      · have hf := ok_t c2 hf
        refine lv_iconst (v := 0) hx hb dX12_areMoves_39 (by decide) ?_
        refine lv_istore_n (lv' := [(3, .int 0), (0, .ref (G.1 + 51)), (1, .int x1), (2, .int x2), (4, .int x4)]) hx hb dX12_areMoves_40 rfl hl (by decide) rfl (fun ls hl => ?_)
        refine lv_iinc (v := x4 + 1) (lv' := [(4, .int (x4 + 1)), (3, .int 0), (0, .ref (G.1 + 51)), (1, .int x1), (2, .int x2)]) hx hb dX12_areMoves_41 hl (k := 4) rfl rfl (by decide) rfl (fun ls hl => ?_)
        refine lv_goto (tgt := 5) hx hb dX12_areMoves_44 (by decide) ?_
        exact ih _ _ hf _ _ hI _ (lv_sub hl [2, 3, 4, 1, 0] rfl)
      · have hf := ok_f c2 hf
        refine lv_aload_n hx hb dX12_areMoves_15 rfl (lv_at hl 0 rfl) ?_
        refine z_get (C := RX12) (T := TX12) (N := 26) (ci := 11) (v := .ref (G.1 + 57)) hx hb hts i_X12_areMoves_11 hown hK hI 51 rfl (by decide) rfl 5 (by decide) (hts (.fieldLink RX12 26 "FenceYardsModel" "items" "[I") (by decide +kernel)) (fun _ h9 => h9) rfl dX12_areMoves_16 ?_
        refine lv_bipush (v := 40) hx hb dX12_areMoves_19 (by decide) ?_
        refine lv_iload_n hx hb dX12_areMoves_21 rfl (lv_at hl 1 rfl) ?_
        refine lv_imul hx hb dX12_areMoves_22 ?_
        refine lv_iload hx hb dX12_areMoves_23 (lv_at hl 4 rfl) ?_
        refine lv_iadd hx hb dX12_areMoves_25 ?_
        obtain ⟨h2, hf⟩ := ok_c hf
        refine z_iald hx hb hK hI 57 (k := ((40 * x1) + x4).toNatClampNeg) rfl h2 rfl dX12_areMoves_26 ?_
        refine lv_iconst (v := (-1)) hx hb dX12_areMoves_27 (by decide) ?_
        refine lv_iconst (v := 1) hx hb dX12_areMoves_28 (by decide) ?_
        obtain ⟨r1, hc1, hf⟩ := ok_1 hf
        refine z_calli0 rfl rfl hI (va_runS (As := [.int (gI σ 57 (((40 * x1) + x4).toNatClampNeg)), .int (-1), .int 1]) (rest := []) ⟨hx, hb, hml, hown, hts⟩ (m_X12_in G l  hc1) (va_cwS 3 hts gX12_areMoves_X12_in rfl rfl rfl (by decide +kernel) ⟨Nat.le_of_ble_eq_true rfl, Nat.le_of_ble_eq_true rfl⟩) (z_pre hK hG hI) rfl rfl hl.1 rfl (lv_room (Nat.le_of_ble_eq_true rfl)) dX12_areMoves_29 ⟨Nat.zero_le _, Nat.zero_le _⟩) (fun H locs hI => ?_)
        refine lv_if_eq (tgt := 39) hx hb dX12_areMoves_32 (by decide) (fun c3 => ?_) (fun c3 => ?_)
        · have hf := ok_t c3 hf
          refine lv_iconst (v := 0) hx hb dX12_areMoves_39 (by decide) ?_
          refine lv_istore_n (lv' := [(3, .int 0), (0, .ref (G.1 + 51)), (1, .int x1), (2, .int x2), (4, .int x4)]) hx hb dX12_areMoves_40 rfl hl (by decide) rfl (fun ls hl => ?_)
          refine lv_iinc (v := x4 + 1) (lv' := [(4, .int (x4 + 1)), (3, .int 0), (0, .ref (G.1 + 51)), (1, .int x1), (2, .int x2)]) hx hb dX12_areMoves_41 hl (k := 4) rfl rfl (by decide) rfl (fun ls hl => ?_)
          refine lv_goto (tgt := 5) hx hb dX12_areMoves_44 (by decide) ?_
          exact ih _ _ hf _ _ hI _ (lv_sub hl [2, 3, 4, 1, 0] rfl)
        · have hf := ok_f c3 hf
          refine lv_iconst (v := 1) hx hb dX12_areMoves_35 (by decide) ?_
          refine lv_goto (tgt := 40) hx hb dX12_areMoves_36 (by decide) ?_
          refine lv_istore_n (lv' := [(3, .int 1), (0, .ref (G.1 + 51)), (1, .int x1), (2, .int x2), (4, .int x4)]) hx hb dX12_areMoves_40 rfl hl (by decide) rfl (fun ls hl => ?_)
          refine lv_iinc (v := x4 + 1) (lv' := [(4, .int (x4 + 1)), (3, .int 1), (0, .ref (G.1 + 51)), (1, .int x1), (2, .int x2)]) hx hb dX12_areMoves_41 hl (k := 4) rfl rfl (by decide) rfl (fun ls hl => ?_)
          refine lv_goto (tgt := 5) hx hb dX12_areMoves_44 (by decide) ?_
          exact ih _ _ hf _ _ hI _ (lv_sub hl [2, 3, 4, 1, 0] rfl)

set_option maxRecDepth 100000 in
set_option maxHeartbeats 4000000 in
theorem m_X12_areMoves (G : GT) (l : Launch) {σ : Hp} {x1 : Int32} {x2 : Int32} {r : Int32}  (hf : f_X12_areMoves σ x1 x2 = some r) : MetG G l yX12_areMoves wsX12_areMoves (rmk 1 22) σ [.ref (G.1 + 51), .int x1, .int x2] (QI G σ r) := by
  refine met_of (cc := cX12_areMoves) (nL := 5) (ret := (some .boolean)) (by decide) rfl (Nat.le_of_ble_eq_true rfl) ?_
  intro p e s m below meth c C0 hnm hI ls hl
  obtain ⟨hx, hb, hr, hml, hown, hts, hlk, hK, hG⟩ := id C0
  have hl : lv_has ls 5 [(0, .ref (G.1 + 51)), (1, .int x1), (2, .int x2)] := hl
  unfold f_X12_areMoves at hf
  refine lv_iconst (v := 1) hx hb dX12_areMoves_0 (by decide) ?_
  refine lv_istore_n (lv' := [(3, .int 1), (0, .ref (G.1 + 51)), (1, .int x1), (2, .int x2)]) hx hb dX12_areMoves_1 rfl hl (by decide) rfl (fun ls hl => ?_)
  refine lv_iconst (v := 0) hx hb dX12_areMoves_2 (by decide) ?_
  refine lv_istore (lv' := [(4, .int 0), (3, .int 1), (0, .ref (G.1 + 51)), (1, .int x1), (2, .int x2)]) hx hb dX12_areMoves_3 hl (by decide) rfl (fun ls hl => ?_)
  exact w_X12_areMoves_5  C0  _ _ _ hf _ _ hI _ (lv_sub hl [2, 3, 4, 1, 0] rfl)

-- ===== FenceYardsModel.best(III)I
set_option maxRecDepth 100000 in
theorem i_X12_best_11 : ∀ w ∈ u_ws RX12 TX12 26, w ∈ wsX12_best := by decide +kernel
def f_X12_best (σ : Hp) (x1 : Int32) (x2 : Int32) (x3 : Int32) : Option (Hp × Int32) :=
  bd1 (f_X12_isGround σ) fun r1 => if r1 = 0 then (some (σ, (-1000002))) else (bd1 (f_X12_isRow σ x1) fun r2 => if r2 = 0 then (some (σ, (-1000001))) else (bd1 (f_X12_in σ x2 1 12) fun r3 => if r3 = 0 then (some (σ, (-1000001))) else (if (-2) ≤ x3 then (chk (inb x1 8) <| if (gI σ 55 (x1.toNatClampNeg)) = (-1000000) then (bd2 (f_X12_found σ 1) fun s8 r11 => some (s8, r11)) else (chk (inb x1 8) <| if x2 ≤ (gI σ 56 (x1.toNatClampNeg)) then (bd1 (f_X12_areMoves σ x1 x2) fun r4 => if r4 = 0 then (some (σ, (-1000001))) else (bd1 (f_X12_daysOf σ x2) fun r5 => bd1 (f_X12_findEnds σ x1 r5) fun s1 => bd1 (f_X12_findMost s1 r5) fun s2 => bd1 (f_X12_findMoves s2 r5) fun s3 => if 0 ≤ x3 then (if r5 ≤ x3 then (bd2 (f_X12_well s3 (-1000000)) fun s4 r6 => some (s4, r6)) else (chk (inb x3 12) <| bd2 (f_X12_well s3 (gI s3 65 (x3.toNatClampNeg))) fun s5 r7 => some (s5, r7))) else (chk (inb (gI s3 52 1) 169) <| bd1 (f_X12_told s3 (gJ s3 64 ((gI s3 52 1).toNatClampNeg)) (x3 + 2)) fun r8 => bd2 (f_X12_well s3 r8) fun s6 r9 => some (s6, r9)))) else (bd2 (f_X12_found σ 2) fun s7 r10 => some (s7, r10)))) else (some (σ, (-1000001))))))
set_option maxRecDepth 100000 in
set_option maxHeartbeats 4000000 in
theorem m_X12_best (G : GT) (l : Launch) {σ : Hp} {x1 : Int32} {x2 : Int32} {x3 : Int32} {σ' : Hp} {r : Int32}  (hf : f_X12_best σ x1 x2 x3 = some (σ', r)) : MetG G l yX12_best wsX12_best (rmk 4 101) σ [.ref (G.1 + 51), .int x1, .int x2, .int x3] (QI G σ' r) := by
  refine met_of (cc := cX12_best) (nL := 5) (ret := (some .int)) (by decide) rfl (Nat.le_of_ble_eq_true rfl) ?_
  intro p e s m below meth c C0 hnm hI ls hl
  obtain ⟨hx, hb, hr, hml, hown, hts, hlk, hK, hG⟩ := id C0
  have hl : lv_has ls 5 [(0, .ref (G.1 + 51)), (1, .int x1), (2, .int x2), (3, .int x3)] := hl
  unfold f_X12_best at hf
  refine lv_aload_n hx hb dX12_best_0 rfl (lv_at hl 0 rfl) ?_
  obtain ⟨r1, hc1, hf⟩ := ok_1 hf
  refine z_calli0 rfl rfl hI (va_runV (As := []) (rest := []) ⟨hx, hb, hml, hown, hts⟩ (m_X12_isGround G l  hc1) (cwV 0 hts gX12_best_X12_isGround rfl rfl rfl (by decide +kernel) ⟨Nat.le_of_ble_eq_true rfl, Nat.le_of_ble_eq_true rfl⟩) (z_preV hK hG hI (z_rc (q := 51) (ci := 11) (n := 0) hK hI rfl (by decide) rfl)) rfl rfl hl.1 rfl (lv_room (Nat.le_of_ble_eq_true rfl)) dX12_best_1 ⟨Nat.zero_le _, Nat.zero_le _⟩) (fun H locs hI => ?_)
  refine lv_if_ne (tgt := 10) hx hb dX12_best_4 (by decide) (fun c1 => ?_) (fun c1 => ?_)
  · have hf := ok_f c1 hf
    refine lv_iload_n hx hb dX12_best_10 rfl (lv_at hl 1 rfl) ?_
    obtain ⟨r2, hc2, hf⟩ := ok_1 hf
    refine z_calli0 rfl rfl hI (va_runS (As := [.int x1]) (rest := []) ⟨hx, hb, hml, hown, hts⟩ (m_X12_isRow G l  hc2) (va_cwS 1 hts gX12_best_X12_isRow rfl rfl rfl (by decide +kernel) ⟨Nat.le_of_ble_eq_true rfl, Nat.le_of_ble_eq_true rfl⟩) (z_pre hK hG hI) rfl rfl hl.1 rfl (lv_room (Nat.le_of_ble_eq_true rfl)) dX12_best_11 ⟨Nat.zero_le _, Nat.zero_le _⟩) (fun H locs hI => ?_)
    refine lv_if_eq (tgt := 33) hx hb dX12_best_14 (by decide) (fun c2 => ?_) (fun c2 => ?_)
    · have hf := ok_t c2 hf
      refine lv_ldc (v := (-1000001)) hx hb hown (hts (.constant RX12 71 (-1000001)) (by decide +kernel)) dX12_best_33 ?_
      cases hf
      exact z_iret hx hb hr hlk hK hG hI dX12_best_35
    · have hf := ok_f c2 hf
      refine lv_iload_n hx hb dX12_best_17 rfl (lv_at hl 2 rfl) ?_
      refine lv_iconst (v := 1) hx hb dX12_best_18 (by decide) ?_
      refine lv_bipush (v := 12) hx hb dX12_best_19 (by decide) ?_
      obtain ⟨r3, hc3, hf⟩ := ok_1 hf
      refine z_calli0 rfl rfl hI (va_runS (As := [.int x2, .int 1, .int 12]) (rest := []) ⟨hx, hb, hml, hown, hts⟩ (m_X12_in G l  hc3) (va_cwS 3 hts gX12_best_X12_in rfl rfl rfl (by decide +kernel) ⟨Nat.le_of_ble_eq_true rfl, Nat.le_of_ble_eq_true rfl⟩) (z_pre hK hG hI) rfl rfl hl.1 rfl (lv_room (Nat.le_of_ble_eq_true rfl)) dX12_best_21 ⟨Nat.zero_le _, Nat.zero_le _⟩) (fun H locs hI => ?_)
      refine lv_if_eq (tgt := 33) hx hb dX12_best_24 (by decide) (fun c3 => ?_) (fun c3 => ?_)
      · have hf := ok_t c3 hf
        refine lv_ldc (v := (-1000001)) hx hb hown (hts (.constant RX12 71 (-1000001)) (by decide +kernel)) dX12_best_33 ?_
        cases hf
        exact z_iret hx hb hr hlk hK hG hI dX12_best_35
      · have hf := ok_f c3 hf
        refine lv_iload_n hx hb dX12_best_27 rfl (lv_at hl 3 rfl) ?_
        refine lv_bipush (v := (-2)) hx hb dX12_best_28 (by decide) ?_
        refine lv_icmp_ge (tgt := 36) hx hb dX12_best_30 (by decide) (fun c4 => ?_) (fun c4 => ?_)
        · have hf := ok_t c4 hf
          refine lv_aload_n hx hb dX12_best_36 rfl (lv_at hl 0 rfl) ?_
          refine z_get (C := RX12) (T := TX12) (N := 26) (ci := 11) (v := .ref (G.1 + 55)) hx hb hts i_X12_best_11 hown hK hI 51 rfl (by decide) rfl 3 (by decide) (hts (.fieldLink RX12 20 "FenceYardsModel" "lanes" "[I") (by decide +kernel)) (fun _ h9 => h9) rfl dX12_best_37 ?_
          refine lv_iload_n hx hb dX12_best_40 rfl (lv_at hl 1 rfl) ?_
          obtain ⟨h1, hf⟩ := ok_c hf
          refine z_iald hx hb hK hI 55 (k := x1.toNatClampNeg) rfl h1 rfl dX12_best_41 ?_
          refine lv_ldc (v := (-1000000)) hx hb hown (hts (.constant RX12 57 (-1000000)) (by decide +kernel)) dX12_best_42 ?_
          refine lv_icmp_ne (tgt := 53) hx hb dX12_best_44 (by decide) (fun c5 => ?_) (fun c5 => ?_)
          · have hf := ok_f c5 hf
            refine lv_aload_n hx hb dX12_best_53 rfl (lv_at hl 0 rfl) ?_
            refine z_get (C := RX12) (T := TX12) (N := 26) (ci := 11) (v := .ref (G.1 + 56)) hx hb hts i_X12_best_11 hown hK hI 51 rfl (by decide) rfl 4 (by decide) (hts (.fieldLink RX12 23 "FenceYardsModel" "sizes" "[I") (by decide +kernel)) (fun _ h9 => h9) rfl dX12_best_54 ?_
            refine lv_iload_n hx hb dX12_best_57 rfl (lv_at hl 1 rfl) ?_
            obtain ⟨h2, hf⟩ := ok_c hf
            refine z_iald hx hb hK hI 56 (k := x1.toNatClampNeg) rfl h2 rfl dX12_best_58 ?_
            refine lv_iload_n hx hb dX12_best_59 rfl (lv_at hl 2 rfl) ?_
            refine lv_icmp_ge (tgt := 69) hx hb dX12_best_60 (by decide) (fun c6 => ?_) (fun c6 => ?_)
            · have hf := ok_t c6 hf
              refine lv_aload_n hx hb dX12_best_69 rfl (lv_at hl 0 rfl) ?_
              refine lv_iload_n hx hb dX12_best_70 rfl (lv_at hl 1 rfl) ?_
              refine lv_iload_n hx hb dX12_best_71 rfl (lv_at hl 2 rfl) ?_
              obtain ⟨r4, hc4, hf⟩ := ok_1 hf
              refine z_calli0 rfl rfl hI (va_runV (As := [.int x1, .int x2]) (rest := []) ⟨hx, hb, hml, hown, hts⟩ (m_X12_areMoves G l  hc4) (cwV 2 hts gX12_best_X12_areMoves rfl rfl rfl (by decide +kernel) ⟨Nat.le_of_ble_eq_true rfl, Nat.le_of_ble_eq_true rfl⟩) (z_preV hK hG hI (z_rc (q := 51) (ci := 11) (n := 0) hK hI rfl (by decide) rfl)) rfl rfl hl.1 rfl (lv_room (Nat.le_of_ble_eq_true rfl)) dX12_best_72 ⟨Nat.zero_le _, Nat.zero_le _⟩) (fun H locs hI => ?_)
              refine lv_if_ne (tgt := 81) hx hb dX12_best_75 (by decide) (fun c7 => ?_) (fun c7 => ?_)
              · have hf := ok_f c7 hf
                refine lv_aload_n hx hb dX12_best_81 rfl (lv_at hl 0 rfl) ?_
                refine lv_iload_n hx hb dX12_best_82 rfl (lv_at hl 2 rfl) ?_
                obtain ⟨r5, hc5, hf⟩ := ok_1 hf
                refine z_calli0 rfl rfl hI (va_runV (As := [.int x2]) (rest := []) ⟨hx, hb, hml, hown, hts⟩ (m_X12_daysOf G l  hc5) (cwV 1 hts gX12_best_X12_daysOf rfl rfl rfl (by decide +kernel) ⟨Nat.le_of_ble_eq_true rfl, Nat.le_of_ble_eq_true rfl⟩) (z_preV hK hG hI (z_rc (q := 51) (ci := 11) (n := 0) hK hI rfl (by decide) rfl)) rfl rfl hl.1 rfl (lv_room (Nat.le_of_ble_eq_true rfl)) dX12_best_83 ⟨Nat.zero_le _, Nat.zero_le _⟩) (fun H locs hI => ?_)
                refine lv_istore (lv' := [(4, .int r5), (0, .ref (G.1 + 51)), (1, .int x1), (2, .int x2), (3, .int x3)]) hx hb dX12_best_86 hl (by decide) rfl (fun ls hl => ?_)
                refine lv_aload_n hx hb dX12_best_88 rfl (lv_at hl 1 rfl) ?_
                refine lv_iload_n hx hb dX12_best_89 rfl (lv_at hl 2 rfl) ?_
                refine lv_iload hx hb dX12_best_90 (lv_at hl 0 rfl) ?_
                obtain ⟨s1, hc6, hf⟩ := ok_1 hf
                refine z_callv0 rfl rfl hI (va_runV (As := [.int x1, .int r5]) (rest := []) ⟨hx, hb, hml, hown, hts⟩ (m_X12_findEnds G l  hc6) (cwV 2 hts gX12_best_X12_findEnds rfl rfl rfl (by decide +kernel) ⟨Nat.le_of_ble_eq_true rfl, Nat.le_of_ble_eq_true rfl⟩) (z_preV hK hG hI (z_rc (q := 51) (ci := 11) (n := 0) hK hI rfl (by decide) rfl)) rfl rfl hl.1 rfl (lv_room (Nat.le_of_ble_eq_true rfl)) dX12_best_92 ⟨Nat.zero_le _, Nat.zero_le _⟩) (fun H locs hI => ?_)
                refine lv_aload_n hx hb dX12_best_95 rfl (lv_at hl 1 rfl) ?_
                refine lv_iload hx hb dX12_best_96 (lv_at hl 0 rfl) ?_
                obtain ⟨s2, hc7, hf⟩ := ok_1 hf
                refine z_callv0 rfl rfl hI (va_runV (As := [.int r5]) (rest := []) ⟨hx, hb, hml, hown, hts⟩ (m_X12_findMost G l  hc7) (cwV 1 hts gX12_best_X12_findMost rfl rfl rfl (by decide +kernel) ⟨Nat.le_of_ble_eq_true rfl, Nat.le_of_ble_eq_true rfl⟩) (z_preV hK hG hI (z_rc (q := 51) (ci := 11) (n := 0) hK hI rfl (by decide) rfl)) rfl rfl hl.1 rfl (lv_room (Nat.le_of_ble_eq_true rfl)) dX12_best_98 ⟨Nat.zero_le _, Nat.zero_le _⟩) (fun H locs hI => ?_)
                refine lv_aload_n hx hb dX12_best_101 rfl (lv_at hl 1 rfl) ?_
                refine lv_iload hx hb dX12_best_102 (lv_at hl 0 rfl) ?_
                obtain ⟨s3, hc8, hf⟩ := ok_1 hf
                refine z_callv0 rfl rfl hI (va_runV (As := [.int r5]) (rest := []) ⟨hx, hb, hml, hown, hts⟩ (m_X12_findMoves G l  hc8) (cwV 1 hts gX12_best_X12_findMoves rfl rfl rfl (by decide +kernel) ⟨Nat.le_of_ble_eq_true rfl, Nat.le_of_ble_eq_true rfl⟩) (z_preV hK hG hI (z_rc (q := 51) (ci := 11) (n := 0) hK hI rfl (by decide) rfl)) rfl rfl hl.1 rfl (lv_room (Nat.le_of_ble_eq_true rfl)) dX12_best_104 ⟨Nat.zero_le _, Nat.zero_le _⟩) (fun H locs hI => ?_)
                refine lv_aload_n hx hb dX12_best_107 rfl (lv_at hl 1 rfl) ?_
                refine lv_iload_n hx hb dX12_best_108 rfl (lv_at hl 4 rfl) ?_
                refine lv_if_ge (tgt := 132) hx hb dX12_best_109 (by decide) (fun c8 => ?_) (fun c8 => ?_)
                · have hf := ok_t c8 hf
                  refine lv_iload_n hx hb dX12_best_132 rfl (lv_at hl 4 rfl) ?_
                  refine lv_iload hx hb dX12_best_133 (lv_at hl 0 rfl) ?_
                  refine lv_icmp_ge (tgt := 147) hx hb dX12_best_135 (by decide) (fun c9 => ?_) (fun c9 => ?_)
                  · have hf := ok_t c9 hf
                    refine lv_ldc (v := (-1000000)) hx hb hown (hts (.constant RX12 57 (-1000000)) (by decide +kernel)) dX12_best_147 ?_
                    obtain ⟨s4, r6, hc9, hf⟩ := ok_2 hf
                    refine z_calli0 rfl rfl hI (va_runV (As := [.int (-1000000)]) (rest := []) ⟨hx, hb, hml, hown, hts⟩ (m_X12_well G l  hc9) (cwV 1 hts gX12_best_X12_well rfl rfl rfl (by decide +kernel) ⟨Nat.le_of_ble_eq_true rfl, Nat.le_of_ble_eq_true rfl⟩) (z_preV hK hG hI (z_rc (q := 51) (ci := 11) (n := 0) hK hI rfl (by decide) rfl)) rfl rfl hl.1 rfl (lv_room (Nat.le_of_ble_eq_true rfl)) dX12_best_149 ⟨Nat.zero_le _, Nat.zero_le _⟩) (fun H locs hI => ?_)
                    cases hf
                    exact z_iret hx hb hr hlk hK hG hI dX12_best_152
                  · have hf := ok_f c9 hf
                    refine lv_aload_n hx hb dX12_best_138 rfl (lv_at hl 1 rfl) ?_
                    refine z_get (C := RX12) (T := TX12) (N := 26) (ci := 11) (v := .ref (G.1 + 65)) hx hb hts i_X12_best_11 hown hK hI 51 rfl (by decide) rfl 22 (by decide) (hts (.fieldLink RX12 51 "FenceYardsModel" "moves" "[I") (by decide +kernel)) (fun _ h9 => h9) rfl dX12_best_139 ?_
                    refine lv_iload_n hx hb dX12_best_142 rfl (lv_at hl 4 rfl) ?_
                    obtain ⟨h3, hf⟩ := ok_c hf
                    refine z_iald hx hb hK hI 65 (k := x3.toNatClampNeg) rfl h3 rfl dX12_best_143 ?_
                    refine lv_goto (tgt := 149) hx hb dX12_best_144 (by decide) ?_
                    obtain ⟨s5, r7, hc10, hf⟩ := ok_2 hf
                    refine z_calli0 rfl rfl hI (va_runV (As := [.int (gI s3 65 (x3.toNatClampNeg))]) (rest := []) ⟨hx, hb, hml, hown, hts⟩ (m_X12_well G l  hc10) (cwV 1 hts gX12_best_X12_well rfl rfl rfl (by decide +kernel) ⟨Nat.le_of_ble_eq_true rfl, Nat.le_of_ble_eq_true rfl⟩) (z_preV hK hG hI (z_rc (q := 51) (ci := 11) (n := 0) hK hI rfl (by decide) rfl)) rfl rfl hl.1 rfl (lv_room (Nat.le_of_ble_eq_true rfl)) dX12_best_149 ⟨Nat.zero_le _, Nat.zero_le _⟩) (fun H locs hI => ?_)
                    cases hf
                    exact z_iret hx hb hr hlk hK hG hI dX12_best_152
                · have hf := ok_f c8 hf
                  refine lv_aload_n hx hb dX12_best_112 rfl (lv_at hl 1 rfl) ?_
                  refine z_get (C := RX12) (T := TX12) (N := 26) (ci := 11) (v := .ref (G.1 + 64)) hx hb hts i_X12_best_11 hown hK hI 51 rfl (by decide) rfl 21 (by decide) (hts (.fieldLink RX12 48 "FenceYardsModel" "most" "[J") (by decide +kernel)) (fun _ h9 => h9) rfl dX12_best_113 ?_
                  refine lv_aload_n hx hb dX12_best_116 rfl (lv_at hl 1 rfl) ?_
                  refine z_get (C := RX12) (T := TX12) (N := 26) (ci := 11) (v := .ref (G.1 + 52)) hx hb hts i_X12_best_11 hown hK hI 51 rfl (by decide) rfl 0 (by decide) (hts (.fieldLink RX12 7 "FenceYardsModel" "st" "[I") (by decide +kernel)) (fun _ h9 => h9) rfl dX12_best_117 ?_
                  refine lv_iconst (v := 1) hx hb dX12_best_120 (by decide) ?_
                  refine z_iald hx hb hK hI 52 (k := 1) rfl (by decide) (by decide) dX12_best_121 ?_
                  obtain ⟨h4, hf⟩ := ok_c hf
                  refine z_lald hx hb hK hI 64 (k := (gI s3 52 1).toNatClampNeg) rfl h4 rfl dX12_best_122 ?_
                  refine lv_iload_n hx hb dX12_best_123 rfl (lv_at hl 4 rfl) ?_
                  refine lv_iconst (v := 2) hx hb dX12_best_124 (by decide) ?_
                  refine lv_iadd hx hb dX12_best_125 ?_
                  obtain ⟨r8, hc11, hf⟩ := ok_1 hf
                  refine z_calli0 rfl rfl hI (va_runS (As := [.long (gJ s3 64 ((gI s3 52 1).toNatClampNeg)), .int (x3 + 2)]) (rest := [.ref (G.1 + 51)]) ⟨hx, hb, hml, hown, hts⟩ (m_X12_told G l  hc11) (va_cwS 2 hts gX12_best_X12_told rfl rfl rfl (by decide +kernel) ⟨Nat.le_of_ble_eq_true rfl, Nat.le_of_ble_eq_true rfl⟩) (z_pre hK hG hI) rfl rfl hl.1 rfl (lv_room (Nat.le_of_ble_eq_true rfl)) dX12_best_126 ⟨Nat.zero_le _, Nat.zero_le _⟩) (fun H locs hI => ?_)
                  refine lv_goto (tgt := 149) hx hb dX12_best_129 (by decide) ?_
                  obtain ⟨s6, r9, hc12, hf⟩ := ok_2 hf
                  refine z_calli0 rfl rfl hI (va_runV (As := [.int r8]) (rest := []) ⟨hx, hb, hml, hown, hts⟩ (m_X12_well G l  hc12) (cwV 1 hts gX12_best_X12_well rfl rfl rfl (by decide +kernel) ⟨Nat.le_of_ble_eq_true rfl, Nat.le_of_ble_eq_true rfl⟩) (z_preV hK hG hI (z_rc (q := 51) (ci := 11) (n := 0) hK hI rfl (by decide) rfl)) rfl rfl hl.1 rfl (lv_room (Nat.le_of_ble_eq_true rfl)) dX12_best_149 ⟨Nat.zero_le _, Nat.zero_le _⟩) (fun H locs hI => ?_)
                  cases hf
                  exact z_iret hx hb hr hlk hK hG hI dX12_best_152
              · have hf := ok_t c7 hf
                refine lv_ldc (v := (-1000001)) hx hb hown (hts (.constant RX12 71 (-1000001)) (by decide +kernel)) dX12_best_78 ?_
                cases hf
                exact z_iret hx hb hr hlk hK hG hI dX12_best_80
            · have hf := ok_f c6 hf
              refine lv_aload_n hx hb dX12_best_63 rfl (lv_at hl 0 rfl) ?_
              refine lv_iconst (v := 2) hx hb dX12_best_64 (by decide) ?_
              obtain ⟨s7, r10, hc13, hf⟩ := ok_2 hf
              refine z_calli0 rfl rfl hI (va_runV (As := [.int 2]) (rest := []) ⟨hx, hb, hml, hown, hts⟩ (m_X12_found G l  hc13) (cwV 1 hts gX12_best_X12_found rfl rfl rfl (by decide +kernel) ⟨Nat.le_of_ble_eq_true rfl, Nat.le_of_ble_eq_true rfl⟩) (z_preV hK hG hI (z_rc (q := 51) (ci := 11) (n := 0) hK hI rfl (by decide) rfl)) rfl rfl hl.1 rfl (lv_room (Nat.le_of_ble_eq_true rfl)) dX12_best_65 ⟨Nat.zero_le _, Nat.zero_le _⟩) (fun H locs hI => ?_)
              cases hf
              exact z_iret hx hb hr hlk hK hG hI dX12_best_68
          · have hf := ok_t c5 hf
            refine lv_aload_n hx hb dX12_best_47 rfl (lv_at hl 0 rfl) ?_
            refine lv_iconst (v := 1) hx hb dX12_best_48 (by decide) ?_
            obtain ⟨s8, r11, hc14, hf⟩ := ok_2 hf
            refine z_calli0 rfl rfl hI (va_runV (As := [.int 1]) (rest := []) ⟨hx, hb, hml, hown, hts⟩ (m_X12_found G l  hc14) (cwV 1 hts gX12_best_X12_found rfl rfl rfl (by decide +kernel) ⟨Nat.le_of_ble_eq_true rfl, Nat.le_of_ble_eq_true rfl⟩) (z_preV hK hG hI (z_rc (q := 51) (ci := 11) (n := 0) hK hI rfl (by decide) rfl)) rfl rfl hl.1 rfl (lv_room (Nat.le_of_ble_eq_true rfl)) dX12_best_49 ⟨Nat.zero_le _, Nat.zero_le _⟩) (fun H locs hI => ?_)
            cases hf
            exact z_iret hx hb hr hlk hK hG hI dX12_best_52
        · have hf := ok_f c4 hf
          refine lv_ldc (v := (-1000001)) hx hb hown (hts (.constant RX12 71 (-1000001)) (by decide +kernel)) dX12_best_33 ?_
          cases hf
          exact z_iret hx hb hr hlk hK hG hI dX12_best_35
  · have hf := ok_t c1 hf
    refine lv_ldc (v := (-1000002)) hx hb hown (hts (.constant RX12 200 (-1000002)) (by decide +kernel)) dX12_best_7 ?_
    cases hf
    exact z_iret hx hb hr hlk hK hG hI dX12_best_9

-- ===== FenceYardsModel.leaves(II)J
set_option maxRecDepth 100000 in
theorem i_X12_leaves_11 : ∀ w ∈ u_ws RX12 TX12 26, w ∈ wsX12_leaves := by decide +kernel
def f_X12_leaves_58 (k9 : Int64 → Int32 → Option (Int64))  (σ : Hp) (x1 : Int32) (x2 : Int32) (y3 : Int64) (x5 : Int32) (ty0 : Int64) : Option (Int64) :=
  if (lg_cmp ty0 (0 : Int64)) < 0 then (k9 y3 (x5 + 1)) else (if (lg_cmp y3 (0 : Int64)) < 0 then (k9 ty0 (x5 + 1)) else (if 0 ≤ (lg_cmp ty0 y3) then (k9 y3 (x5 + 1)) else (k9 ty0 (x5 + 1))))
def f_X12_leaves_9   (σ : Hp) (x1 : Int32) (x2 : Int32) : Nat → Int64 → Int32 → Option (Int64)
  | 0, _, _ => none
  | n + 1, y3, x5 =>
    if (x2 + 1) < x5 then (some y3) else (bd1 (f_X12_mayBe σ 1 x5) fun r1 => if r1 = 0 then (f_X12_leaves_58 (f_X12_leaves_9 σ x1 x2 n) σ x1 x2 y3 x5 (-1)) else (chk (inb ((13 * x1) + x5) 169) <| chk (inb ((13 * x1) + x5) 169) <| f_X12_leaves_58 (f_X12_leaves_9 σ x1 x2 n) σ x1 x2 y3 x5 ((gJ σ 60 (((13 * x1) + x5).toNatClampNeg)) + (gJ σ 61 (((13 * x1) + x5).toNatClampNeg)))))
def f_X12_leaves (σ : Hp) (x1 : Int32) (x2 : Int32) : Option (Int64) :=
  bnd (x2 - 1) fun v1 => f_X12_leaves_9 σ x1 x2 fu (-1) v1
set_option maxRecDepth 100000 in
set_option maxHeartbeats 4000000 in
theorem w_X12_leaves_58 {G : GT} {p : Program} {l : Launch} {e : Env} {s : State} {m : MethodId} {args : Array Value} {below : List Frame} {meth : Method} {c : Code}  {r : Int64} {k9 : Int64 → Int32 → Option (Int64)} {σ : Hp} {x1 : Int32} {x2 : Int32} {y3 : Int64} {x5 : Int32} {ty0 : Int64}  (C0 : Cx G cX12_leaves RX12 wsX12_leaves 8 (some .long) p s m args meth c) (hk9 : ∀ (y3 : Int64) (x5 : Int32), k9 y3 x5 = some r → ∀ (H : Heap) (locs : List Loc), Inv G s σ H locs → ∀ ls : Array Slot, lv_has ls 8 [(0, .ref (G.1 + 51)), (1, .int x1), (2, .int x2), (3, .long y3), (5, .int x5)] → W p l e (rmk 2 46) s m args below meth c H locs 0 0 (MQ below (QL G σ r) args s (rmk 2 46).cells (rmk 2 46).slots (gA G)) (F0 m 9 ls [])) (hf : f_X12_leaves_58 k9 σ x1 x2 y3 x5 ty0 = some r) {H : Heap} {locs : List Loc} (hI : Inv G s σ H locs) {ls : Array Slot} (hl : lv_has ls 8 [(0, .ref (G.1 + 51)), (1, .int x1), (2, .int x2), (3, .long y3), (5, .int x5)]) : W p l e (rmk 2 46) s m args below meth c H locs 0 0 (MQ below (QL G σ r) args s (rmk 2 46).cells (rmk 2 46).slots (gA G)) (F0 m 58 ls [.long ty0]) := by
  obtain ⟨hx, hb, hr, hml, hown, hts, hlk, hK, hG⟩ := id C0
  unfold f_X12_leaves_58 at hf
  refine lv_lstore (lv' := [(6, .long ty0), (0, .ref (G.1 + 51)), (1, .int x1), (2, .int x2), (3, .long y3), (5, .int x5)]) hx hb dX12_leaves_58 hl (by decide) rfl (fun ls hl => ?_)
  refine lv_lload hx hb dX12_leaves_60 (lv_at hl 0 rfl) ?_
  refine lv_lconst (v := 0) hx hb dX12_leaves_62 (by decide) ?_
  refine W.lcmp hx hb dX12_leaves_63 ?_
  refine lv_if_lt (tgt := 85) hx hb dX12_leaves_64 (by decide) (fun c1 => ?_) (fun c1 => ?_)
  · have hf := ok_t c1 hf
    refine lv_lload_n hx hb dX12_leaves_85 rfl (lv_at hl 4 rfl) ?_
    refine lv_lstore_n (lv' := [(3, .long y3), (6, .long ty0), (0, .ref (G.1 + 51)), (1, .int x1), (2, .int x2), (5, .int x5)]) hx hb dX12_leaves_86 rfl hl (by decide) rfl (fun ls hl => ?_)
    refine lv_iinc (v := x5 + 1) (lv' := [(5, .int (x5 + 1)), (3, .long y3), (6, .long ty0), (0, .ref (G.1 + 51)), (1, .int x1), (2, .int x2)]) hx hb dX12_leaves_87 hl (k := 5) rfl rfl (by decide) rfl (fun ls hl => ?_)
    refine lv_goto (tgt := 9) hx hb dX12_leaves_90 (by decide) ?_
    exact hk9 _ _ hf _ _ hI _ (lv_sub hl [3, 4, 5, 1, 0] rfl)
  · have hf := ok_f c1 hf
    refine lv_lload_n hx hb dX12_leaves_67 rfl (lv_at hl 4 rfl) ?_
    refine lv_lconst (v := 0) hx hb dX12_leaves_68 (by decide) ?_
    refine W.lcmp hx hb dX12_leaves_69 ?_
    refine lv_if_lt (tgt := 80) hx hb dX12_leaves_70 (by decide) (fun c2 => ?_) (fun c2 => ?_)
    · have hf := ok_t c2 hf
      refine lv_lload hx hb dX12_leaves_80 (lv_at hl 0 rfl) ?_
      refine lv_goto (tgt := 86) hx hb dX12_leaves_82 (by decide) ?_
      refine lv_lstore_n (lv' := [(3, .long ty0), (6, .long ty0), (0, .ref (G.1 + 51)), (1, .int x1), (2, .int x2), (5, .int x5)]) hx hb dX12_leaves_86 rfl hl (by decide) rfl (fun ls hl => ?_)
      refine lv_iinc (v := x5 + 1) (lv' := [(5, .int (x5 + 1)), (3, .long ty0), (6, .long ty0), (0, .ref (G.1 + 51)), (1, .int x1), (2, .int x2)]) hx hb dX12_leaves_87 hl (k := 5) rfl rfl (by decide) rfl (fun ls hl => ?_)
      refine lv_goto (tgt := 9) hx hb dX12_leaves_90 (by decide) ?_
      exact hk9 _ _ hf _ _ hI _ (lv_sub hl [3, 4, 5, 1, 0] rfl)
    · have hf := ok_f c2 hf
      refine lv_lload hx hb dX12_leaves_73 (lv_at hl 0 rfl) ?_
      refine lv_lload_n hx hb dX12_leaves_75 rfl (lv_at hl 4 rfl) ?_
      refine W.lcmp hx hb dX12_leaves_76 ?_
      refine lv_if_ge (tgt := 85) hx hb dX12_leaves_77 (by decide) (fun c3 => ?_) (fun c3 => ?_)
      · have hf := ok_t c3 hf
        refine lv_lload_n hx hb dX12_leaves_85 rfl (lv_at hl 4 rfl) ?_
        refine lv_lstore_n (lv' := [(3, .long y3), (6, .long ty0), (0, .ref (G.1 + 51)), (1, .int x1), (2, .int x2), (5, .int x5)]) hx hb dX12_leaves_86 rfl hl (by decide) rfl (fun ls hl => ?_)
        refine lv_iinc (v := x5 + 1) (lv' := [(5, .int (x5 + 1)), (3, .long y3), (6, .long ty0), (0, .ref (G.1 + 51)), (1, .int x1), (2, .int x2)]) hx hb dX12_leaves_87 hl (k := 5) rfl rfl (by decide) rfl (fun ls hl => ?_)
        refine lv_goto (tgt := 9) hx hb dX12_leaves_90 (by decide) ?_
        exact hk9 _ _ hf _ _ hI _ (lv_sub hl [3, 4, 5, 1, 0] rfl)
      · have hf := ok_f c3 hf
        refine lv_lload hx hb dX12_leaves_80 (lv_at hl 0 rfl) ?_
        refine lv_goto (tgt := 86) hx hb dX12_leaves_82 (by decide) ?_
        refine lv_lstore_n (lv' := [(3, .long ty0), (6, .long ty0), (0, .ref (G.1 + 51)), (1, .int x1), (2, .int x2), (5, .int x5)]) hx hb dX12_leaves_86 rfl hl (by decide) rfl (fun ls hl => ?_)
        refine lv_iinc (v := x5 + 1) (lv' := [(5, .int (x5 + 1)), (3, .long ty0), (6, .long ty0), (0, .ref (G.1 + 51)), (1, .int x1), (2, .int x2)]) hx hb dX12_leaves_87 hl (k := 5) rfl rfl (by decide) rfl (fun ls hl => ?_)
        refine lv_goto (tgt := 9) hx hb dX12_leaves_90 (by decide) ?_
        exact hk9 _ _ hf _ _ hI _ (lv_sub hl [3, 4, 5, 1, 0] rfl)

set_option maxRecDepth 100000 in
set_option maxHeartbeats 4000000 in
theorem w_X12_leaves_9 {G : GT} {p : Program} {l : Launch} {e : Env} {s : State} {m : MethodId} {args : Array Value} {below : List Frame} {meth : Method} {c : Code}  {r : Int64}  {σ : Hp} {x1 : Int32} {x2 : Int32}  (C0 : Cx G cX12_leaves RX12 wsX12_leaves 8 (some .long) p s m args meth c)  :
    ∀ (n : Nat) (y3 : Int64) (x5 : Int32), f_X12_leaves_9 σ x1 x2 n y3 x5 = some r → ∀ (H : Heap) (locs : List Loc), Inv G s σ H locs → ∀ ls : Array Slot, lv_has ls 8 [(0, .ref (G.1 + 51)), (1, .int x1), (2, .int x2), (3, .long y3), (5, .int x5)] → W p l e (rmk 2 46) s m args below meth c H locs 0 0 (MQ below (QL G σ r) args s (rmk 2 46).cells (rmk 2 46).slots (gA G)) (F0 m 9 ls []) := by
  obtain ⟨hx, hb, hr, hml, hown, hts, hlk, hK, hG⟩ := id C0
  intro n
  induction n with
  | zero =>
    intro y3 x5 hf
    cases hf
  | succ n ih =>
    intro y3 x5 hf H locs hI ls hl
    rw [f_X12_leaves_9] at hf
    refine lv_iload hx hb dX12_leaves_9 (lv_at hl 4 rfl) ?_
    refine lv_iload_n hx hb dX12_leaves_11 rfl (lv_at hl 2 rfl) ?_
    refine lv_iconst (v := 1) hx hb dX12_leaves_12 (by decide) ?_
    refine lv_iadd hx hb dX12_leaves_13 ?_
    refine lv_icmp_gt (tgt := 93) hx hb dX12_leaves_14 (by decide) (fun c1 => ?_) (fun c1 => ?_)
    · have hf := ok_t c1 hf
      refine lv_lload_n hx hb dX12_leaves_93 rfl (lv_at hl 3 rfl) ?_
      cases hf
      exact z_lret hx hb hr hlk hK hG hI dX12_leaves_94
    · have hf := ok_f c1 hf
      refine lv_aload_n hx hb dX12_leaves_17 rfl (lv_at hl 0 rfl) ?_
      refine lv_iconst (v := 1) hx hb dX12_leaves_18 (by decide) ?_
      refine lv_iload hx hb dX12_leaves_19 (lv_at hl 4 rfl) ?_
      obtain ⟨r1, hc1, hf⟩ := ok_1 hf
      refine z_calli0 rfl rfl hI (va_runV (As := [.int 1, .int x5]) (rest := []) ⟨hx, hb, hml, hown, hts⟩ (m_X12_mayBe G l  hc1) (cwV 2 hts gX12_leaves_X12_mayBe rfl rfl rfl (by decide +kernel) ⟨Nat.le_of_ble_eq_true rfl, Nat.le_of_ble_eq_true rfl⟩) (z_preV hK hG hI (z_rc (q := 51) (ci := 11) (n := 0) hK hI rfl (by decide) rfl)) rfl rfl hl.1 rfl (lv_room (Nat.le_of_ble_eq_true rfl)) dX12_leaves_21 ⟨Nat.zero_le _, Nat.zero_le _⟩) (fun H locs hI => ?_)
      refine lv_if_eq (tgt := 55) hx hb dX12_leaves_24 (by decide) (fun c2 => ?_) (fun c2 => ?_)
      · have hf := ok_t c2 hf
        refine lv_ldc2 (v := (-1)) hx hb hown (hts (.constantLong RX12 212 (-1)) (by decide +kernel)) dX12_leaves_55 ?_
        exact w_X12_leaves_58  C0 ih hf hI (lv_sub hl [0, 1, 2, 3, 4] rfl)
      · have hf := ok_f c2 hf
        refine lv_aload_n hx hb dX12_leaves_27 rfl (lv_at hl 0 rfl) ?_
        refine z_get (C := RX12) (T := TX12) (N := 26) (ci := 11) (v := .ref (G.1 + 60)) hx hb hts i_X12_leaves_11 hown hK hI 51 rfl (by decide) rfl 17 (by decide) (hts (.fieldLink RX12 35 "FenceYardsModel" "gains" "[J") (by decide +kernel)) (fun _ h9 => h9) rfl dX12_leaves_28 ?_
        refine lv_bipush (v := 13) hx hb dX12_leaves_31 (by decide) ?_
        refine lv_iload_n hx hb dX12_leaves_33 rfl (lv_at hl 1 rfl) ?_
        refine lv_imul hx hb dX12_leaves_34 ?_
        refine lv_iload hx hb dX12_leaves_35 (lv_at hl 4 rfl) ?_
        refine lv_iadd hx hb dX12_leaves_37 ?_
        obtain ⟨h1, hf⟩ := ok_c hf
        refine z_lald hx hb hK hI 60 (k := ((13 * x1) + x5).toNatClampNeg) rfl h1 rfl dX12_leaves_38 ?_
        refine lv_aload_n hx hb dX12_leaves_39 rfl (lv_at hl 0 rfl) ?_
        refine z_get (C := RX12) (T := TX12) (N := 26) (ci := 11) (v := .ref (G.1 + 61)) hx hb hts i_X12_leaves_11 hown hK hI 51 rfl (by decide) rfl 18 (by decide) (hts (.fieldLink RX12 39 "FenceYardsModel" "then" "[J") (by decide +kernel)) (fun _ h9 => h9) rfl dX12_leaves_40 ?_
        refine lv_bipush (v := 13) hx hb dX12_leaves_43 (by decide) ?_
        refine lv_iload_n hx hb dX12_leaves_45 rfl (lv_at hl 1 rfl) ?_
        refine lv_imul hx hb dX12_leaves_46 ?_
        refine lv_iload hx hb dX12_leaves_47 (lv_at hl 4 rfl) ?_
        refine lv_iadd hx hb dX12_leaves_49 ?_
        obtain ⟨h2, hf⟩ := ok_c hf
        refine z_lald hx hb hK hI 61 (k := ((13 * x1) + x5).toNatClampNeg) rfl h2 rfl dX12_leaves_50 ?_
        refine lv_ladd hx hb dX12_leaves_51 ?_
        refine lv_goto (tgt := 58) hx hb dX12_leaves_52 (by decide) ?_
        exact w_X12_leaves_58  C0 ih hf hI (lv_sub hl [0, 1, 2, 3, 4] rfl)

set_option maxRecDepth 100000 in
set_option maxHeartbeats 4000000 in
theorem m_X12_leaves (G : GT) (l : Launch) {σ : Hp} {x1 : Int32} {x2 : Int32} {r : Int64}  (hf : f_X12_leaves σ x1 x2 = some r) : MetG G l yX12_leaves wsX12_leaves (rmk 2 46) σ [.ref (G.1 + 51), .int x1, .int x2] (QL G σ r) := by
  refine met_of (cc := cX12_leaves) (nL := 8) (ret := (some .long)) (by decide) rfl (Nat.le_of_ble_eq_true rfl) ?_
  intro p e s m below meth c C0 hnm hI ls hl
  obtain ⟨hx, hb, hr, hml, hown, hts, hlk, hK, hG⟩ := id C0
  have hl : lv_has ls 8 [(0, .ref (G.1 + 51)), (1, .int x1), (2, .int x2)] := hl
  unfold f_X12_leaves at hf
  refine lv_ldc2 (v := (-1)) hx hb hown (hts (.constantLong RX12 212 (-1)) (by decide +kernel)) dX12_leaves_0 ?_
  refine lv_lstore_n (lv' := [(3, .long (-1)), (0, .ref (G.1 + 51)), (1, .int x1), (2, .int x2)]) hx hb dX12_leaves_3 rfl hl (by decide) rfl (fun ls hl => ?_)
  refine lv_iload_n hx hb dX12_leaves_4 rfl (lv_at hl 3 rfl) ?_
  refine lv_iconst (v := 1) hx hb dX12_leaves_5 (by decide) ?_
  refine lv_isub hx hb dX12_leaves_6 ?_
  refine lv_topi (fun v1 ev1 => ?_)
  have hf := ok_n hf ev1
  refine lv_istore (lv' := [(5, .int v1), (3, .long (-1)), (0, .ref (G.1 + 51)), (1, .int x1), (2, .int x2)]) hx hb dX12_leaves_7 hl (by decide) rfl (fun ls hl => ?_)
  exact w_X12_leaves_9  C0  _ _ _ hf _ _ hI _ (lv_sub hl [2, 3, 4, 1, 0] rfl)

-- ===== FenceYardsModel.chooses(II)J
set_option maxRecDepth 100000 in
theorem i_X12_chooses_11 : ∀ w ∈ u_ws RX12 TX12 26, w ∈ wsX12_chooses := by decide +kernel
def f_X12_chooses_59 (k7 : Hp → Int64 → Int32 → Option (Hp × Int64))  (σ : Hp) (x1 : Int32) (x2 : Int32) (y3 : Int64) (x5 : Int32) (y6 : Int64) (tx0 : Int32) : Option (Hp × Int64) :=
  if (lg_cmp y6 y3) ≤ 0 then (k7 (sI σ 51 23 tx0) y3 (x5 + 1)) else (k7 (sI σ 51 23 tx0) y6 (x5 + 1))
def f_X12_chooses_7    (x1 : Int32) (x2 : Int32) : Nat → Hp → Int64 → Int32 → Option (Hp × Int64)
  | 0, _, _, _ => none
  | n + 1, σ, y3, x5 =>
    if 1 < x5 then (some (σ, y3)) else (bd1 (f_X12_mayBe σ 0 (x1 + x5)) fun r1 => if r1 = 0 then (if (lg_cmp (-1 : Int64) y3) ≤ 0 then (f_X12_chooses_59 (f_X12_chooses_7 x1 x2 n) σ x1 x2 y3 x5 (-1) (gI σ 51 23)) else (f_X12_chooses_59 (f_X12_chooses_7 x1 x2 n) σ x1 x2 y3 x5 (-1) x5)) else (bd1 (f_X12_leaves σ (x1 + x5) x2) fun r2 => if (lg_cmp r2 y3) ≤ 0 then (f_X12_chooses_59 (f_X12_chooses_7 x1 x2 n) σ x1 x2 y3 x5 r2 (gI σ 51 23)) else (f_X12_chooses_59 (f_X12_chooses_7 x1 x2 n) σ x1 x2 y3 x5 r2 x5)))
def f_X12_chooses (σ : Hp) (x1 : Int32) (x2 : Int32) : Option (Hp × Int64) :=
  f_X12_chooses_7 x1 x2 fu σ (-1) (-1)
set_option maxRecDepth 100000 in
set_option maxHeartbeats 4000000 in
theorem w_X12_chooses_59 {G : GT} {p : Program} {l : Launch} {e : Env} {s : State} {m : MethodId} {args : Array Value} {below : List Frame} {meth : Method} {c : Code}  {σ' : Hp} {r : Int64} {k7 : Hp → Int64 → Int32 → Option (Hp × Int64)} {σ : Hp} {x1 : Int32} {x2 : Int32} {y3 : Int64} {x5 : Int32} {y6 : Int64} {tx0 : Int32}  (C0 : Cx G cX12_chooses RX12 wsX12_chooses 8 (some .long) p s m args meth c) (hk7 : ∀ (σ : Hp) (y3 : Int64) (x5 : Int32), k7 σ y3 x5 = some (σ', r) → ∀ (H : Heap) (locs : List Loc), Inv G s σ H locs → ∀ ls : Array Slot, lv_has ls 8 [(0, .ref (G.1 + 51)), (1, .int x1), (2, .int x2), (3, .long y3), (5, .int x5)] → W p l e (rmk 3 73) s m args below meth c H locs 0 0 (MQ below (QL G σ' r) args s (rmk 3 73).cells (rmk 3 73).slots (gA G)) (F0 m 7 ls [])) (hf : f_X12_chooses_59 k7 σ x1 x2 y3 x5 y6 tx0 = some (σ', r)) {H : Heap} {locs : List Loc} (hI : Inv G s σ H locs) {ls : Array Slot} (hl : lv_has ls 8 [(0, .ref (G.1 + 51)), (1, .int x1), (2, .int x2), (3, .long y3), (5, .int x5), (6, .long y6)]) : W p l e (rmk 3 73) s m args below meth c H locs 0 0 (MQ below (QL G σ' r) args s (rmk 3 73).cells (rmk 3 73).slots (gA G)) (F0 m 59 ls [.int tx0, .ref (G.1 + 51)]) := by
  obtain ⟨hx, hb, hr, hml, hown, hts, hlk, hK, hG⟩ := id C0
  unfold f_X12_chooses_59 at hf
  refine z_put (C := RX12) (T := TX12) (N := 26) (ci := 11) (ty := .int) (v := .int tx0) hx hb hts i_X12_chooses_11 tyX12 tyX12_ok nmX12 hown hK hI 51 rfl (by decide) rfl 23 (by decide) (hts (.fieldLink RX12 235 "FenceYardsModel" "firstMove" "I") (by decide +kernel)) (fun _ h9 => h9) rfl (by decide +kernel) rfl rfl (Nat.le_of_ble_eq_true rfl) (set_I hI.2.2.2 rfl (by decide) rfl) rfl hI.2.2.2 dX12_chooses_59 (fun H locs hI => ?_)
  refine lv_lload hx hb dX12_chooses_62 (lv_at hl 5 rfl) ?_
  refine lv_lload_n hx hb dX12_chooses_64 rfl (lv_at hl 3 rfl) ?_
  refine W.lcmp hx hb dX12_chooses_65 ?_
  refine lv_if_le (tgt := 74) hx hb dX12_chooses_66 (by decide) (fun c1 => ?_) (fun c1 => ?_)
  · have hf := ok_t c1 hf
    refine lv_lload_n hx hb dX12_chooses_74 rfl (lv_at hl 3 rfl) ?_
    refine lv_lstore_n (lv' := [(3, .long y3), (0, .ref (G.1 + 51)), (1, .int x1), (2, .int x2), (5, .int x5), (6, .long y6)]) hx hb dX12_chooses_75 rfl hl (by decide) rfl (fun ls hl => ?_)
    refine lv_iinc (v := x5 + 1) (lv' := [(5, .int (x5 + 1)), (3, .long y3), (0, .ref (G.1 + 51)), (1, .int x1), (2, .int x2), (6, .long y6)]) hx hb dX12_chooses_76 hl (k := 4) rfl rfl (by decide) rfl (fun ls hl => ?_)
    refine lv_goto (tgt := 7) hx hb dX12_chooses_79 (by decide) ?_
    exact hk7 _ _ _ hf _ _ hI _ (lv_sub hl [2, 3, 4, 1, 0] rfl)
  · have hf := ok_f c1 hf
    refine lv_lload hx hb dX12_chooses_69 (lv_at hl 5 rfl) ?_
    refine lv_goto (tgt := 75) hx hb dX12_chooses_71 (by decide) ?_
    refine lv_lstore_n (lv' := [(3, .long y6), (0, .ref (G.1 + 51)), (1, .int x1), (2, .int x2), (5, .int x5), (6, .long y6)]) hx hb dX12_chooses_75 rfl hl (by decide) rfl (fun ls hl => ?_)
    refine lv_iinc (v := x5 + 1) (lv' := [(5, .int (x5 + 1)), (3, .long y6), (0, .ref (G.1 + 51)), (1, .int x1), (2, .int x2), (6, .long y6)]) hx hb dX12_chooses_76 hl (k := 4) rfl rfl (by decide) rfl (fun ls hl => ?_)
    refine lv_goto (tgt := 7) hx hb dX12_chooses_79 (by decide) ?_
    exact hk7 _ _ _ hf _ _ hI _ (lv_sub hl [2, 3, 4, 1, 0] rfl)

set_option maxRecDepth 100000 in
set_option maxHeartbeats 4000000 in
theorem w_X12_chooses_7 {G : GT} {p : Program} {l : Launch} {e : Env} {s : State} {m : MethodId} {args : Array Value} {below : List Frame} {meth : Method} {c : Code}  {σ' : Hp} {r : Int64}   {x1 : Int32} {x2 : Int32}  (C0 : Cx G cX12_chooses RX12 wsX12_chooses 8 (some .long) p s m args meth c)  :
    ∀ (n : Nat) (σ : Hp) (y3 : Int64) (x5 : Int32), f_X12_chooses_7 x1 x2 n σ y3 x5 = some (σ', r) → ∀ (H : Heap) (locs : List Loc), Inv G s σ H locs → ∀ ls : Array Slot, lv_has ls 8 [(0, .ref (G.1 + 51)), (1, .int x1), (2, .int x2), (3, .long y3), (5, .int x5)] → W p l e (rmk 3 73) s m args below meth c H locs 0 0 (MQ below (QL G σ' r) args s (rmk 3 73).cells (rmk 3 73).slots (gA G)) (F0 m 7 ls []) := by
  obtain ⟨hx, hb, hr, hml, hown, hts, hlk, hK, hG⟩ := id C0
  intro n
  induction n with
  | zero =>
    intro σ y3 x5 hf
    cases hf
  | succ n ih =>
    intro σ y3 x5 hf H locs hI ls hl
    rw [f_X12_chooses_7] at hf
    refine lv_iload hx hb dX12_chooses_7 (lv_at hl 4 rfl) ?_
    refine lv_iconst (v := 1) hx hb dX12_chooses_9 (by decide) ?_
    refine lv_icmp_gt (tgt := 82) hx hb dX12_chooses_10 (by decide) (fun c1 => ?_) (fun c1 => ?_)
    · have hf := ok_t c1 hf
      refine lv_lload_n hx hb dX12_chooses_82 rfl (lv_at hl 3 rfl) ?_
      cases hf
      exact z_lret hx hb hr hlk hK hG hI dX12_chooses_83
    · have hf := ok_f c1 hf
      refine lv_aload_n hx hb dX12_chooses_13 rfl (lv_at hl 0 rfl) ?_
      refine lv_iconst (v := 0) hx hb dX12_chooses_14 (by decide) ?_
      refine lv_iload_n hx hb dX12_chooses_15 rfl (lv_at hl 1 rfl) ?_
      refine lv_iload hx hb dX12_chooses_16 (lv_at hl 4 rfl) ?_
      refine lv_iadd hx hb dX12_chooses_18 ?_
      obtain ⟨r1, hc1, hf⟩ := ok_1 hf
      refine z_calli0 rfl rfl hI (va_runV (As := [.int 0, .int (x1 + x5)]) (rest := []) ⟨hx, hb, hml, hown, hts⟩ (m_X12_mayBe G l  hc1) (cwV 2 hts gX12_chooses_X12_mayBe rfl rfl rfl (by decide +kernel) ⟨Nat.le_of_ble_eq_true rfl, Nat.le_of_ble_eq_true rfl⟩) (z_preV hK hG hI (z_rc (q := 51) (ci := 11) (n := 0) hK hI rfl (by decide) rfl)) rfl rfl hl.1 rfl (lv_room (Nat.le_of_ble_eq_true rfl)) dX12_chooses_19 ⟨Nat.zero_le _, Nat.zero_le _⟩) (fun H locs hI => ?_)
      refine lv_if_eq (tgt := 37) hx hb dX12_chooses_22 (by decide) (fun c2 => ?_) (fun c2 => ?_)
      · have hf := ok_t c2 hf
        refine lv_ldc2 (v := (-1)) hx hb hown (hts (.constantLong RX12 212 (-1)) (by decide +kernel)) dX12_chooses_37 ?_
        refine lv_lstore (lv' := [(6, .long (-1)), (0, .ref (G.1 + 51)), (1, .int x1), (2, .int x2), (3, .long y3), (5, .int x5)]) hx hb dX12_chooses_40 hl (by decide) rfl (fun ls hl => ?_)
        refine lv_aload_n hx hb dX12_chooses_42 rfl (lv_at hl 1 rfl) ?_
        refine lv_lload hx hb dX12_chooses_43 (lv_at hl 0 rfl) ?_
        refine lv_lload_n hx hb dX12_chooses_45 rfl (lv_at hl 4 rfl) ?_
        refine W.lcmp hx hb dX12_chooses_46 ?_
        refine lv_if_le (tgt := 55) hx hb dX12_chooses_47 (by decide) (fun c3 => ?_) (fun c3 => ?_)
        · have hf := ok_t c3 hf
          refine lv_aload_n hx hb dX12_chooses_55 rfl (lv_at hl 1 rfl) ?_
          refine z_get (C := RX12) (T := TX12) (N := 26) (ci := 11) (v := .int (gI σ 51 23)) hx hb hts i_X12_chooses_11 hown hK hI 51 rfl (by decide) rfl 23 (by decide) (hts (.fieldLink RX12 235 "FenceYardsModel" "firstMove" "I") (by decide +kernel)) (fun _ h9 => h9) rfl dX12_chooses_56 ?_
          exact w_X12_chooses_59  C0 ih hf hI (lv_sub hl [1, 2, 3, 4, 5, 0] rfl)
        · have hf := ok_f c3 hf
          refine lv_iload hx hb dX12_chooses_50 (lv_at hl 5 rfl) ?_
          refine lv_goto (tgt := 59) hx hb dX12_chooses_52 (by decide) ?_
          exact w_X12_chooses_59  C0 ih hf hI (lv_sub hl [1, 2, 3, 4, 5, 0] rfl)
      · have hf := ok_f c2 hf
        refine lv_aload_n hx hb dX12_chooses_25 rfl (lv_at hl 0 rfl) ?_
        refine lv_iload_n hx hb dX12_chooses_26 rfl (lv_at hl 1 rfl) ?_
        refine lv_iload hx hb dX12_chooses_27 (lv_at hl 4 rfl) ?_
        refine lv_iadd hx hb dX12_chooses_29 ?_
        refine lv_iload_n hx hb dX12_chooses_30 rfl (lv_at hl 2 rfl) ?_
        obtain ⟨r2, hc2, hf⟩ := ok_1 hf
        refine z_calll0 rfl rfl hI (va_runV (As := [.int (x1 + x5), .int x2]) (rest := []) ⟨hx, hb, hml, hown, hts⟩ (m_X12_leaves G l  hc2) (cwV 2 hts gX12_chooses_X12_leaves rfl rfl rfl (by decide +kernel) ⟨Nat.le_of_ble_eq_true rfl, Nat.le_of_ble_eq_true rfl⟩) (z_preV hK hG hI (z_rc (q := 51) (ci := 11) (n := 0) hK hI rfl (by decide) rfl)) rfl rfl hl.1 rfl (lv_room (Nat.le_of_ble_eq_true rfl)) dX12_chooses_31 ⟨Nat.zero_le _, Nat.zero_le _⟩) (fun H locs hI => ?_)
        refine lv_goto (tgt := 40) hx hb dX12_chooses_34 (by decide) ?_
        refine lv_lstore (lv' := [(6, .long r2), (0, .ref (G.1 + 51)), (1, .int x1), (2, .int x2), (3, .long y3), (5, .int x5)]) hx hb dX12_chooses_40 hl (by decide) rfl (fun ls hl => ?_)
        refine lv_aload_n hx hb dX12_chooses_42 rfl (lv_at hl 1 rfl) ?_
        refine lv_lload hx hb dX12_chooses_43 (lv_at hl 0 rfl) ?_
        refine lv_lload_n hx hb dX12_chooses_45 rfl (lv_at hl 4 rfl) ?_
        refine W.lcmp hx hb dX12_chooses_46 ?_
        refine lv_if_le (tgt := 55) hx hb dX12_chooses_47 (by decide) (fun c4 => ?_) (fun c4 => ?_)
        · have hf := ok_t c4 hf
          refine lv_aload_n hx hb dX12_chooses_55 rfl (lv_at hl 1 rfl) ?_
          refine z_get (C := RX12) (T := TX12) (N := 26) (ci := 11) (v := .int (gI σ 51 23)) hx hb hts i_X12_chooses_11 hown hK hI 51 rfl (by decide) rfl 23 (by decide) (hts (.fieldLink RX12 235 "FenceYardsModel" "firstMove" "I") (by decide +kernel)) (fun _ h9 => h9) rfl dX12_chooses_56 ?_
          exact w_X12_chooses_59  C0 ih hf hI (lv_sub hl [1, 2, 3, 4, 5, 0] rfl)
        · have hf := ok_f c4 hf
          refine lv_iload hx hb dX12_chooses_50 (lv_at hl 5 rfl) ?_
          refine lv_goto (tgt := 59) hx hb dX12_chooses_52 (by decide) ?_
          exact w_X12_chooses_59  C0 ih hf hI (lv_sub hl [1, 2, 3, 4, 5, 0] rfl)

set_option maxRecDepth 100000 in
set_option maxHeartbeats 4000000 in
theorem m_X12_chooses (G : GT) (l : Launch) {σ : Hp} {x1 : Int32} {x2 : Int32} {σ' : Hp} {r : Int64}  (hf : f_X12_chooses σ x1 x2 = some (σ', r)) : MetG G l yX12_chooses wsX12_chooses (rmk 3 73) σ [.ref (G.1 + 51), .int x1, .int x2] (QL G σ' r) := by
  refine met_of (cc := cX12_chooses) (nL := 8) (ret := (some .long)) (by decide) rfl (Nat.le_of_ble_eq_true rfl) ?_
  intro p e s m below meth c C0 hnm hI ls hl
  obtain ⟨hx, hb, hr, hml, hown, hts, hlk, hK, hG⟩ := id C0
  have hl : lv_has ls 8 [(0, .ref (G.1 + 51)), (1, .int x1), (2, .int x2)] := hl
  unfold f_X12_chooses at hf
  refine lv_ldc2 (v := (-1)) hx hb hown (hts (.constantLong RX12 212 (-1)) (by decide +kernel)) dX12_chooses_0 ?_
  refine lv_lstore_n (lv' := [(3, .long (-1)), (0, .ref (G.1 + 51)), (1, .int x1), (2, .int x2)]) hx hb dX12_chooses_3 rfl hl (by decide) rfl (fun ls hl => ?_)
  refine lv_iconst (v := (-1)) hx hb dX12_chooses_4 (by decide) ?_
  refine lv_istore (lv' := [(5, .int (-1)), (3, .long (-1)), (0, .ref (G.1 + 51)), (1, .int x1), (2, .int x2)]) hx hb dX12_chooses_5 hl (by decide) rfl (fun ls hl => ?_)
  exact w_X12_chooses_7  C0  _ _ _ _ hf _ _ hI _ (lv_sub hl [2, 3, 4, 1, 0] rfl)

-- ===== FenceYardsModel.gameOf(I)J
set_option maxRecDepth 100000 in
theorem i_X12_gameOf_11 : ∀ w ∈ u_ws RX12 TX12 26, w ∈ wsX12_gameOf := by decide +kernel
def f_X12_gameOf_125 (k39 : Hp → Int32 → Option (Hp × Int64))   (x2 : Int32) (x3 : Int32) : Nat → Hp → Int32 → Option (Hp × Int64)
  | 0, _, _ => none
  | n + 1, σ, x4 =>
    if 169 ≤ x4 then (k39 σ (x3 + (-1))) else (chk (inb x4 169) <| chk (inb x4 169) <| f_X12_gameOf_125 k39 x2 x3 n (sJ σ 61 (x4.toNatClampNeg) (gJ σ 62 (x4.toNatClampNeg))) (x4 + 1))
def f_X12_gameOf_57 (k39 : Hp → Int32 → Option (Hp × Int64))   (x2 : Int32) (x3 : Int32) : Nat → Hp → Int32 → Option (Hp × Int64)
  | 0, _, _ => none
  | n + 1, σ, x4 =>
    if 169 ≤ x4 then (f_X12_gameOf_125 k39 x2 x3 fu σ 0) else (bd1 (f_X12_mayBe σ 0 (x4 / 13)) fun r1 => if r1 = 0 then (chk (inb x4 169) <| f_X12_gameOf_57 k39 x2 x3 n (sJ σ 62 (x4.toNatClampNeg) 0) (x4 + 1)) else (bd1 (f_X12_mayBe σ 1 (x4 - x4 / 13 * 13)) fun r2 => if r2 = 0 then (chk (inb x4 169) <| f_X12_gameOf_57 k39 x2 x3 n (sJ σ 62 (x4.toNatClampNeg) 0) (x4 + 1)) else (bd2 (f_X12_chooses σ (x4 / 13) (x4 - x4 / 13 * 13)) fun s1 r3 => chk (inb x4 169) <| f_X12_gameOf_57 k39 x2 x3 n (sJ s1 62 (x4.toNatClampNeg) r3) (x4 + 1))))
def f_X12_gameOf_39    (x2 : Int32) : Nat → Hp → Int32 → Option (Hp × Int64)
  | 0, _, _ => none
  | n + 1, σ, x3 =>
    if x3 ≤ (gI σ 52 3) then (if x2 = 0 then (some (sI σ 51 23 (-1000000), 0)) else (bd1 (f_X12_findGains (sI σ 51 23 (-1000000)) (gI (sI σ 51 23 (-1000000)) 52 3)) fun s1 => bd2 (f_X12_chooses s1 (gI s1 52 1) (gI s1 52 2)) fun s2 r1 => some (s2, r1))) else (bd1 (f_X12_findGains σ x3) fun s3 => f_X12_gameOf_57 (f_X12_gameOf_39 x2 n) x2 x3 fu s3 0)
def f_X12_gameOf_2    (x1 : Int32) : Nat → Hp → Int32 → Option (Hp × Int64)
  | 0, _, _ => none
  | n + 1, σ, x2 =>
    if 169 ≤ x2 then (bd1 (f_X12_daysOf σ x1) fun r1 => bnd (((gI σ 52 3) + r1) - 1) fun v1 => f_X12_gameOf_39 r1 fu σ v1) else (chk (inb x2 169) <| f_X12_gameOf_2 x1 n (sJ σ 61 (x2.toNatClampNeg) 0) (x2 + 1))
def f_X12_gameOf (σ : Hp) (x1 : Int32) : Option (Hp × Int64) :=
  f_X12_gameOf_2 x1 fu σ 0
set_option maxRecDepth 100000 in
set_option maxHeartbeats 4000000 in
theorem w_X12_gameOf_125 {G : GT} {p : Program} {l : Launch} {e : Env} {s : State} {m : MethodId} {args : Array Value} {below : List Frame} {meth : Method} {c : Code}  {σ' : Hp} {r : Int64} {k39 : Hp → Int32 → Option (Hp × Int64)}  {x2 : Int32} {x3 : Int32}  (C0 : Cx G cX12_gameOf RX12 wsX12_gameOf 5 (some .long) p s m args meth c) (hk39 : ∀ (σ : Hp) (x3 : Int32), k39 σ x3 = some (σ', r) → ∀ (H : Heap) (locs : List Loc), Inv G s σ H locs → ∀ ls : Array Slot, lv_has ls 5 [(0, .ref (G.1 + 51)), (2, .int x2), (3, .int x3)] → W p l e (rmk 4 100) s m args below meth c H locs 0 0 (MQ below (QL G σ' r) args s (rmk 4 100).cells (rmk 4 100).slots (gA G)) (F0 m 39 ls [])) :
    ∀ (n : Nat) (σ : Hp) (x4 : Int32), f_X12_gameOf_125 k39 x2 x3 n σ x4 = some (σ', r) → ∀ (H : Heap) (locs : List Loc), Inv G s σ H locs → ∀ ls : Array Slot, lv_has ls 5 [(0, .ref (G.1 + 51)), (2, .int x2), (3, .int x3), (4, .int x4)] → W p l e (rmk 4 100) s m args below meth c H locs 0 0 (MQ below (QL G σ' r) args s (rmk 4 100).cells (rmk 4 100).slots (gA G)) (F0 m 125 ls []) := by
  obtain ⟨hx, hb, hr, hml, hown, hts, hlk, hK, hG⟩ := id C0
  intro n
  induction n with
  | zero =>
    intro σ x4 hf
    cases hf
  | succ n ih =>
    intro σ x4 hf H locs hI ls hl
    rw [f_X12_gameOf_125] at hf
    refine lv_iload hx hb dX12_gameOf_125 (lv_at hl 3 rfl) ?_
    refine lv_sipush (v := 169) hx hb dX12_gameOf_127 (by decide) ?_
    refine lv_icmp_ge (tgt := 153) hx hb dX12_gameOf_130 (by decide) (fun c1 => ?_) (fun c1 => ?_)
    · have hf := ok_t c1 hf
      refine lv_iinc (v := x3 + (-1)) (lv' := [(3, .int (x3 + (-1))), (0, .ref (G.1 + 51)), (2, .int x2), (4, .int x4)]) hx hb dX12_gameOf_153 hl (k := 2) rfl rfl (by decide) rfl (fun ls hl => ?_)
      refine lv_goto (tgt := 39) hx hb dX12_gameOf_156 (by decide) ?_
      exact hk39 _ _ hf _ _ hI _ (lv_sub hl [1, 2, 0] rfl)
    · have hf := ok_f c1 hf
      refine lv_aload_n hx hb dX12_gameOf_133 rfl (lv_at hl 0 rfl) ?_
      refine z_get (C := RX12) (T := TX12) (N := 26) (ci := 11) (v := .ref (G.1 + 61)) hx hb hts i_X12_gameOf_11 hown hK hI 51 rfl (by decide) rfl 18 (by decide) (hts (.fieldLink RX12 39 "FenceYardsModel" "then" "[J") (by decide +kernel)) (fun _ h9 => h9) rfl dX12_gameOf_134 ?_
      refine lv_iload hx hb dX12_gameOf_137 (lv_at hl 3 rfl) ?_
      refine lv_aload_n hx hb dX12_gameOf_139 rfl (lv_at hl 0 rfl) ?_
      refine z_get (C := RX12) (T := TX12) (N := 26) (ci := 11) (v := .ref (G.1 + 62)) hx hb hts i_X12_gameOf_11 hown hK hI 51 rfl (by decide) rfl 19 (by decide) (hts (.fieldLink RX12 42 "FenceYardsModel" "now" "[J") (by decide +kernel)) (fun _ h9 => h9) rfl dX12_gameOf_140 ?_
      refine lv_iload hx hb dX12_gameOf_143 (lv_at hl 3 rfl) ?_
      obtain ⟨h1, hf⟩ := ok_c hf
      refine z_lald hx hb hK hI 62 (k := x4.toNatClampNeg) rfl h1 rfl dX12_gameOf_145 ?_
      obtain ⟨h2, hf⟩ := ok_c hf
      refine z_last hx hb hK hI 61 (k := x4.toNatClampNeg) rfl h2 rfl dX12_gameOf_146 (fun H locs hI => ?_)
      refine lv_iinc (v := x4 + 1) (lv' := [(4, .int (x4 + 1)), (0, .ref (G.1 + 51)), (2, .int x2), (3, .int x3)]) hx hb dX12_gameOf_147 hl (k := 3) rfl rfl (by decide) rfl (fun ls hl => ?_)
      refine lv_goto (tgt := 125) hx hb dX12_gameOf_150 (by decide) ?_
      exact ih _ _ hf _ _ hI _ (lv_sub hl [1, 2, 3, 0] rfl)

set_option maxRecDepth 100000 in
set_option maxHeartbeats 4000000 in
theorem w_X12_gameOf_57 {G : GT} {p : Program} {l : Launch} {e : Env} {s : State} {m : MethodId} {args : Array Value} {below : List Frame} {meth : Method} {c : Code}  {σ' : Hp} {r : Int64} {k39 : Hp → Int32 → Option (Hp × Int64)}  {x2 : Int32} {x3 : Int32}  (C0 : Cx G cX12_gameOf RX12 wsX12_gameOf 5 (some .long) p s m args meth c) (hk39 : ∀ (σ : Hp) (x3 : Int32), k39 σ x3 = some (σ', r) → ∀ (H : Heap) (locs : List Loc), Inv G s σ H locs → ∀ ls : Array Slot, lv_has ls 5 [(0, .ref (G.1 + 51)), (2, .int x2), (3, .int x3)] → W p l e (rmk 4 100) s m args below meth c H locs 0 0 (MQ below (QL G σ' r) args s (rmk 4 100).cells (rmk 4 100).slots (gA G)) (F0 m 39 ls [])) :
    ∀ (n : Nat) (σ : Hp) (x4 : Int32), f_X12_gameOf_57 k39 x2 x3 n σ x4 = some (σ', r) → ∀ (H : Heap) (locs : List Loc), Inv G s σ H locs → ∀ ls : Array Slot, lv_has ls 5 [(0, .ref (G.1 + 51)), (2, .int x2), (3, .int x3), (4, .int x4)] → W p l e (rmk 4 100) s m args below meth c H locs 0 0 (MQ below (QL G σ' r) args s (rmk 4 100).cells (rmk 4 100).slots (gA G)) (F0 m 57 ls []) := by
  obtain ⟨hx, hb, hr, hml, hown, hts, hlk, hK, hG⟩ := id C0
  intro n
  induction n with
  | zero =>
    intro σ x4 hf
    cases hf
  | succ n ih =>
    intro σ x4 hf H locs hI ls hl
    rw [f_X12_gameOf_57] at hf
    refine lv_iload hx hb dX12_gameOf_57 (lv_at hl 3 rfl) ?_
    refine lv_sipush (v := 169) hx hb dX12_gameOf_59 (by decide) ?_
    refine lv_icmp_ge (tgt := 122) hx hb dX12_gameOf_62 (by decide) (fun c1 => ?_) (fun c1 => ?_)
    · have hf := ok_t c1 hf
      refine lv_iconst (v := 0) hx hb dX12_gameOf_122 (by decide) ?_
      refine lv_istore (lv' := [(4, .int 0), (0, .ref (G.1 + 51)), (2, .int x2), (3, .int x3)]) hx hb dX12_gameOf_123 hl (by decide) rfl (fun ls hl => ?_)
      exact w_X12_gameOf_125  C0 hk39 _ _ _ hf _ _ hI _ (lv_sub hl [1, 2, 3, 0] rfl)
    · have hf := ok_f c1 hf
      refine lv_aload_n hx hb dX12_gameOf_65 rfl (lv_at hl 0 rfl) ?_
      refine z_get (C := RX12) (T := TX12) (N := 26) (ci := 11) (v := .ref (G.1 + 62)) hx hb hts i_X12_gameOf_11 hown hK hI 51 rfl (by decide) rfl 19 (by decide) (hts (.fieldLink RX12 42 "FenceYardsModel" "now" "[J") (by decide +kernel)) (fun _ h9 => h9) rfl dX12_gameOf_66 ?_
      refine lv_iload hx hb dX12_gameOf_69 (lv_at hl 3 rfl) ?_
      refine lv_aload_n hx hb dX12_gameOf_71 rfl (lv_at hl 0 rfl) ?_
      refine lv_iconst (v := 0) hx hb dX12_gameOf_72 (by decide) ?_
      refine lv_iload hx hb dX12_gameOf_73 (lv_at hl 3 rfl) ?_
      refine lv_bipush (v := 13) hx hb dX12_gameOf_75 (by decide) ?_
      refine lv_idiv hx hb dX12_gameOf_77 (by decide) ?_
      obtain ⟨r1, hc1, hf⟩ := ok_1 hf
      refine z_calli0 rfl rfl hI (va_runV (As := [.int 0, .int (x4 / 13)]) (rest := [.int x4, .ref (G.1 + 62)]) ⟨hx, hb, hml, hown, hts⟩ (m_X12_mayBe G l  hc1) (cwV 2 hts gX12_gameOf_X12_mayBe rfl rfl rfl (by decide +kernel) ⟨Nat.le_of_ble_eq_true rfl, Nat.le_of_ble_eq_true rfl⟩) (z_preV hK hG hI (z_rc (q := 51) (ci := 11) (n := 0) hK hI rfl (by decide) rfl)) rfl rfl hl.1 rfl (lv_room (Nat.le_of_ble_eq_true rfl)) dX12_gameOf_78 ⟨Nat.zero_le _, Nat.zero_le _⟩) (fun H locs hI => ?_)
      refine lv_if_eq (tgt := 114) hx hb dX12_gameOf_81 (by decide) (fun c2 => ?_) (fun c2 => ?_)
      · have hf := ok_t c2 hf
        refine lv_lconst (v := 0) hx hb dX12_gameOf_114 (by decide) ?_
        obtain ⟨h1, hf⟩ := ok_c hf
        refine z_last hx hb hK hI 62 (k := x4.toNatClampNeg) rfl h1 rfl dX12_gameOf_115 (fun H locs hI => ?_)
        refine lv_iinc (v := x4 + 1) (lv' := [(4, .int (x4 + 1)), (0, .ref (G.1 + 51)), (2, .int x2), (3, .int x3)]) hx hb dX12_gameOf_116 hl (k := 3) rfl rfl (by decide) rfl (fun ls hl => ?_)
        refine lv_goto (tgt := 57) hx hb dX12_gameOf_119 (by decide) ?_
        exact ih _ _ hf _ _ hI _ (lv_sub hl [1, 2, 3, 0] rfl)
      · have hf := ok_f c2 hf
        refine lv_aload_n hx hb dX12_gameOf_84 rfl (lv_at hl 0 rfl) ?_
        refine lv_iconst (v := 1) hx hb dX12_gameOf_85 (by decide) ?_
        refine lv_iload hx hb dX12_gameOf_86 (lv_at hl 3 rfl) ?_
        refine lv_bipush (v := 13) hx hb dX12_gameOf_88 (by decide) ?_
        refine lv_irem hx hb dX12_gameOf_90 (by decide) ?_
        obtain ⟨r2, hc2, hf⟩ := ok_1 hf
        refine z_calli0 rfl rfl hI (va_runV (As := [.int 1, .int (x4 - x4 / 13 * 13)]) (rest := [.int x4, .ref (G.1 + 62)]) ⟨hx, hb, hml, hown, hts⟩ (m_X12_mayBe G l  hc2) (cwV 2 hts gX12_gameOf_X12_mayBe rfl rfl rfl (by decide +kernel) ⟨Nat.le_of_ble_eq_true rfl, Nat.le_of_ble_eq_true rfl⟩) (z_preV hK hG hI (z_rc (q := 51) (ci := 11) (n := 0) hK hI rfl (by decide) rfl)) rfl rfl hl.1 rfl (lv_room (Nat.le_of_ble_eq_true rfl)) dX12_gameOf_91 ⟨Nat.zero_le _, Nat.zero_le _⟩) (fun H locs hI => ?_)
        refine lv_if_eq (tgt := 114) hx hb dX12_gameOf_94 (by decide) (fun c3 => ?_) (fun c3 => ?_)
        · have hf := ok_t c3 hf
          refine lv_lconst (v := 0) hx hb dX12_gameOf_114 (by decide) ?_
          obtain ⟨h2, hf⟩ := ok_c hf
          refine z_last hx hb hK hI 62 (k := x4.toNatClampNeg) rfl h2 rfl dX12_gameOf_115 (fun H locs hI => ?_)
          refine lv_iinc (v := x4 + 1) (lv' := [(4, .int (x4 + 1)), (0, .ref (G.1 + 51)), (2, .int x2), (3, .int x3)]) hx hb dX12_gameOf_116 hl (k := 3) rfl rfl (by decide) rfl (fun ls hl => ?_)
          refine lv_goto (tgt := 57) hx hb dX12_gameOf_119 (by decide) ?_
          exact ih _ _ hf _ _ hI _ (lv_sub hl [1, 2, 3, 0] rfl)
        · have hf := ok_f c3 hf
          refine lv_aload_n hx hb dX12_gameOf_97 rfl (lv_at hl 0 rfl) ?_
          refine lv_iload hx hb dX12_gameOf_98 (lv_at hl 3 rfl) ?_
          refine lv_bipush (v := 13) hx hb dX12_gameOf_100 (by decide) ?_
          refine lv_idiv hx hb dX12_gameOf_102 (by decide) ?_
          refine lv_iload hx hb dX12_gameOf_103 (lv_at hl 3 rfl) ?_
          refine lv_bipush (v := 13) hx hb dX12_gameOf_105 (by decide) ?_
          refine lv_irem hx hb dX12_gameOf_107 (by decide) ?_
          obtain ⟨s1, r3, hc3, hf⟩ := ok_2 hf
          refine z_calll0 rfl rfl hI (va_runV (As := [.int (x4 / 13), .int (x4 - x4 / 13 * 13)]) (rest := [.int x4, .ref (G.1 + 62)]) ⟨hx, hb, hml, hown, hts⟩ (m_X12_chooses G l  hc3) (cwV 2 hts gX12_gameOf_X12_chooses rfl rfl rfl (by decide +kernel) ⟨Nat.le_of_ble_eq_true rfl, Nat.le_of_ble_eq_true rfl⟩) (z_preV hK hG hI (z_rc (q := 51) (ci := 11) (n := 0) hK hI rfl (by decide) rfl)) rfl rfl hl.1 rfl (lv_room (Nat.le_of_ble_eq_true rfl)) dX12_gameOf_108 ⟨Nat.zero_le _, Nat.zero_le _⟩) (fun H locs hI => ?_)
          refine lv_goto (tgt := 115) hx hb dX12_gameOf_111 (by decide) ?_
          obtain ⟨h3, hf⟩ := ok_c hf
          refine z_last hx hb hK hI 62 (k := x4.toNatClampNeg) rfl h3 rfl dX12_gameOf_115 (fun H locs hI => ?_)
          refine lv_iinc (v := x4 + 1) (lv' := [(4, .int (x4 + 1)), (0, .ref (G.1 + 51)), (2, .int x2), (3, .int x3)]) hx hb dX12_gameOf_116 hl (k := 3) rfl rfl (by decide) rfl (fun ls hl => ?_)
          refine lv_goto (tgt := 57) hx hb dX12_gameOf_119 (by decide) ?_
          exact ih _ _ hf _ _ hI _ (lv_sub hl [1, 2, 3, 0] rfl)

set_option maxRecDepth 100000 in
set_option maxHeartbeats 4000000 in
theorem w_X12_gameOf_39 {G : GT} {p : Program} {l : Launch} {e : Env} {s : State} {m : MethodId} {args : Array Value} {below : List Frame} {meth : Method} {c : Code}  {σ' : Hp} {r : Int64}   {x2 : Int32}  (C0 : Cx G cX12_gameOf RX12 wsX12_gameOf 5 (some .long) p s m args meth c)  :
    ∀ (n : Nat) (σ : Hp) (x3 : Int32), f_X12_gameOf_39 x2 n σ x3 = some (σ', r) → ∀ (H : Heap) (locs : List Loc), Inv G s σ H locs → ∀ ls : Array Slot, lv_has ls 5 [(0, .ref (G.1 + 51)), (2, .int x2), (3, .int x3)] → W p l e (rmk 4 100) s m args below meth c H locs 0 0 (MQ below (QL G σ' r) args s (rmk 4 100).cells (rmk 4 100).slots (gA G)) (F0 m 39 ls []) := by
  obtain ⟨hx, hb, hr, hml, hown, hts, hlk, hK, hG⟩ := id C0
  intro n
  induction n with
  | zero =>
    intro σ x3 hf
    cases hf
  | succ n ih =>
    intro σ x3 hf H locs hI ls hl
    rw [f_X12_gameOf_39] at hf
    refine lv_iload_n hx hb dX12_gameOf_39 rfl (lv_at hl 2 rfl) ?_
    refine lv_aload_n hx hb dX12_gameOf_40 rfl (lv_at hl 0 rfl) ?_
    refine z_get (C := RX12) (T := TX12) (N := 26) (ci := 11) (v := .ref (G.1 + 52)) hx hb hts i_X12_gameOf_11 hown hK hI 51 rfl (by decide) rfl 0 (by decide) (hts (.fieldLink RX12 7 "FenceYardsModel" "st" "[I") (by decide +kernel)) (fun _ h9 => h9) rfl dX12_gameOf_41 ?_
    refine lv_iconst (v := 3) hx hb dX12_gameOf_44 (by decide) ?_
    refine z_iald hx hb hK hI 52 (k := 3) rfl (by decide) (by decide) dX12_gameOf_45 ?_
    refine lv_icmp_le (tgt := 159) hx hb dX12_gameOf_46 (by decide) (fun c1 => ?_) (fun c1 => ?_)
    · have hf := ok_t c1 hf
      refine lv_aload_n hx hb dX12_gameOf_159 rfl (lv_at hl 0 rfl) ?_
      refine lv_ldc (v := (-1000000)) hx hb hown (hts (.constant RX12 57 (-1000000)) (by decide +kernel)) dX12_gameOf_160 ?_
      refine z_put (C := RX12) (T := TX12) (N := 26) (ci := 11) (ty := .int) (v := .int (-1000000)) hx hb hts i_X12_gameOf_11 tyX12 tyX12_ok nmX12 hown hK hI 51 rfl (by decide) rfl 23 (by decide) (hts (.fieldLink RX12 235 "FenceYardsModel" "firstMove" "I") (by decide +kernel)) (fun _ h9 => h9) rfl (by decide +kernel) rfl rfl (Nat.le_of_ble_eq_true rfl) (set_I hI.2.2.2 rfl (by decide) rfl) rfl hI.2.2.2 dX12_gameOf_162 (fun H locs hI => ?_)
      refine lv_iload_n hx hb dX12_gameOf_165 rfl (lv_at hl 1 rfl) ?_
      refine lv_if_ne (tgt := 171) hx hb dX12_gameOf_166 (by decide) (fun c2 => ?_) (fun c2 => ?_)
      · have hf := ok_f c2 hf
        refine lv_aload_n hx hb dX12_gameOf_171 rfl (lv_at hl 0 rfl) ?_
        refine lv_aload_n hx hb dX12_gameOf_172 rfl (lv_at hl 0 rfl) ?_
        refine z_get (C := RX12) (T := TX12) (N := 26) (ci := 11) (v := .ref (G.1 + 52)) hx hb hts i_X12_gameOf_11 hown hK hI 51 rfl (by decide) rfl 0 (by decide) (hts (.fieldLink RX12 7 "FenceYardsModel" "st" "[I") (by decide +kernel)) (fun _ h9 => h9) rfl dX12_gameOf_173 ?_
        refine lv_iconst (v := 3) hx hb dX12_gameOf_176 (by decide) ?_
        refine z_iald hx hb hK hI 52 (k := 3) rfl (by decide) (by decide) dX12_gameOf_177 ?_
        obtain ⟨s1, hc1, hf⟩ := ok_1 hf
        refine z_callv0 rfl rfl hI (va_runV (As := [.int (gI (sI σ 51 23 (-1000000)) 52 3)]) (rest := []) ⟨hx, hb, hml, hown, hts⟩ (m_X12_findGains G l  hc1) (cwV 1 hts gX12_gameOf_X12_findGains rfl rfl rfl (by decide +kernel) ⟨Nat.le_of_ble_eq_true rfl, Nat.le_of_ble_eq_true rfl⟩) (z_preV hK hG hI (z_rc (q := 51) (ci := 11) (n := 0) hK hI rfl (by decide) rfl)) rfl rfl hl.1 rfl (lv_room (Nat.le_of_ble_eq_true rfl)) dX12_gameOf_178 ⟨Nat.zero_le _, Nat.zero_le _⟩) (fun H locs hI => ?_)
        refine lv_aload_n hx hb dX12_gameOf_181 rfl (lv_at hl 0 rfl) ?_
        refine lv_aload_n hx hb dX12_gameOf_182 rfl (lv_at hl 0 rfl) ?_
        refine z_get (C := RX12) (T := TX12) (N := 26) (ci := 11) (v := .ref (G.1 + 52)) hx hb hts i_X12_gameOf_11 hown hK hI 51 rfl (by decide) rfl 0 (by decide) (hts (.fieldLink RX12 7 "FenceYardsModel" "st" "[I") (by decide +kernel)) (fun _ h9 => h9) rfl dX12_gameOf_183 ?_
        refine lv_iconst (v := 1) hx hb dX12_gameOf_186 (by decide) ?_
        refine z_iald hx hb hK hI 52 (k := 1) rfl (by decide) (by decide) dX12_gameOf_187 ?_
        refine lv_aload_n hx hb dX12_gameOf_188 rfl (lv_at hl 0 rfl) ?_
        refine z_get (C := RX12) (T := TX12) (N := 26) (ci := 11) (v := .ref (G.1 + 52)) hx hb hts i_X12_gameOf_11 hown hK hI 51 rfl (by decide) rfl 0 (by decide) (hts (.fieldLink RX12 7 "FenceYardsModel" "st" "[I") (by decide +kernel)) (fun _ h9 => h9) rfl dX12_gameOf_189 ?_
        refine lv_iconst (v := 2) hx hb dX12_gameOf_192 (by decide) ?_
        refine z_iald hx hb hK hI 52 (k := 2) rfl (by decide) (by decide) dX12_gameOf_193 ?_
        obtain ⟨s2, r1, hc2, hf⟩ := ok_2 hf
        refine z_calll0 rfl rfl hI (va_runV (As := [.int (gI s1 52 1), .int (gI s1 52 2)]) (rest := []) ⟨hx, hb, hml, hown, hts⟩ (m_X12_chooses G l  hc2) (cwV 2 hts gX12_gameOf_X12_chooses rfl rfl rfl (by decide +kernel) ⟨Nat.le_of_ble_eq_true rfl, Nat.le_of_ble_eq_true rfl⟩) (z_preV hK hG hI (z_rc (q := 51) (ci := 11) (n := 0) hK hI rfl (by decide) rfl)) rfl rfl hl.1 rfl (lv_room (Nat.le_of_ble_eq_true rfl)) dX12_gameOf_194 ⟨Nat.zero_le _, Nat.zero_le _⟩) (fun H locs hI => ?_)
        cases hf
        exact z_lret hx hb hr hlk hK hG hI dX12_gameOf_197
      · have hf := ok_t c2 hf
        refine lv_lconst (v := 0) hx hb dX12_gameOf_169 (by decide) ?_
        cases hf
        exact z_lret hx hb hr hlk hK hG hI dX12_gameOf_170
    · have hf := ok_f c1 hf
      refine lv_aload_n hx hb dX12_gameOf_49 rfl (lv_at hl 0 rfl) ?_
      refine lv_iload_n hx hb dX12_gameOf_50 rfl (lv_at hl 2 rfl) ?_
      obtain ⟨s3, hc3, hf⟩ := ok_1 hf
      refine z_callv0 rfl rfl hI (va_runV (As := [.int x3]) (rest := []) ⟨hx, hb, hml, hown, hts⟩ (m_X12_findGains G l  hc3) (cwV 1 hts gX12_gameOf_X12_findGains rfl rfl rfl (by decide +kernel) ⟨Nat.le_of_ble_eq_true rfl, Nat.le_of_ble_eq_true rfl⟩) (z_preV hK hG hI (z_rc (q := 51) (ci := 11) (n := 0) hK hI rfl (by decide) rfl)) rfl rfl hl.1 rfl (lv_room (Nat.le_of_ble_eq_true rfl)) dX12_gameOf_51 ⟨Nat.zero_le _, Nat.zero_le _⟩) (fun H locs hI => ?_)
      refine lv_iconst (v := 0) hx hb dX12_gameOf_54 (by decide) ?_
      refine lv_istore (lv' := [(4, .int 0), (0, .ref (G.1 + 51)), (2, .int x2), (3, .int x3)]) hx hb dX12_gameOf_55 hl (by decide) rfl (fun ls hl => ?_)
      exact w_X12_gameOf_57  C0 ih _ _ _ hf _ _ hI _ (lv_sub hl [1, 2, 3, 0] rfl)

set_option maxRecDepth 100000 in
set_option maxHeartbeats 4000000 in
theorem w_X12_gameOf_2 {G : GT} {p : Program} {l : Launch} {e : Env} {s : State} {m : MethodId} {args : Array Value} {below : List Frame} {meth : Method} {c : Code}  {σ' : Hp} {r : Int64}   {x1 : Int32}  (C0 : Cx G cX12_gameOf RX12 wsX12_gameOf 5 (some .long) p s m args meth c)  :
    ∀ (n : Nat) (σ : Hp) (x2 : Int32), f_X12_gameOf_2 x1 n σ x2 = some (σ', r) → ∀ (H : Heap) (locs : List Loc), Inv G s σ H locs → ∀ ls : Array Slot, lv_has ls 5 [(0, .ref (G.1 + 51)), (1, .int x1), (2, .int x2)] → W p l e (rmk 4 100) s m args below meth c H locs 0 0 (MQ below (QL G σ' r) args s (rmk 4 100).cells (rmk 4 100).slots (gA G)) (F0 m 2 ls []) := by
  obtain ⟨hx, hb, hr, hml, hown, hts, hlk, hK, hG⟩ := id C0
  intro n
  induction n with
  | zero =>
    intro σ x2 hf
    cases hf
  | succ n ih =>
    intro σ x2 hf H locs hI ls hl
    rw [f_X12_gameOf_2] at hf
    refine lv_iload_n hx hb dX12_gameOf_2 rfl (lv_at hl 2 rfl) ?_
    refine lv_sipush (v := 169) hx hb dX12_gameOf_3 (by decide) ?_
    refine lv_icmp_ge (tgt := 22) hx hb dX12_gameOf_6 (by decide) (fun c1 => ?_) (fun c1 => ?_)
    · have hf := ok_t c1 hf
      refine lv_aload_n hx hb dX12_gameOf_22 rfl (lv_at hl 0 rfl) ?_
      refine lv_iload_n hx hb dX12_gameOf_23 rfl (lv_at hl 1 rfl) ?_
      obtain ⟨r1, hc1, hf⟩ := ok_1 hf
      refine z_calli0 rfl rfl hI (va_runV (As := [.int x1]) (rest := []) ⟨hx, hb, hml, hown, hts⟩ (m_X12_daysOf G l  hc1) (cwV 1 hts gX12_gameOf_X12_daysOf rfl rfl rfl (by decide +kernel) ⟨Nat.le_of_ble_eq_true rfl, Nat.le_of_ble_eq_true rfl⟩) (z_preV hK hG hI (z_rc (q := 51) (ci := 11) (n := 0) hK hI rfl (by decide) rfl)) rfl rfl hl.1 rfl (lv_room (Nat.le_of_ble_eq_true rfl)) dX12_gameOf_24 ⟨Nat.zero_le _, Nat.zero_le _⟩) (fun H locs hI => ?_)
      refine lv_istore_n (lv' := [(2, .int r1), (0, .ref (G.1 + 51)), (1, .int x1)]) hx hb dX12_gameOf_27 rfl hl (by decide) rfl (fun ls hl => ?_)
      refine lv_aload_n hx hb dX12_gameOf_28 rfl (lv_at hl 1 rfl) ?_
      refine z_get (C := RX12) (T := TX12) (N := 26) (ci := 11) (v := .ref (G.1 + 52)) hx hb hts i_X12_gameOf_11 hown hK hI 51 rfl (by decide) rfl 0 (by decide) (hts (.fieldLink RX12 7 "FenceYardsModel" "st" "[I") (by decide +kernel)) (fun _ h9 => h9) rfl dX12_gameOf_29 ?_
      refine lv_iconst (v := 3) hx hb dX12_gameOf_32 (by decide) ?_
      refine z_iald hx hb hK hI 52 (k := 3) rfl (by decide) (by decide) dX12_gameOf_33 ?_
      refine lv_iload_n hx hb dX12_gameOf_34 rfl (lv_at hl 0 rfl) ?_
      refine lv_iadd hx hb dX12_gameOf_35 ?_
      refine lv_iconst (v := 1) hx hb dX12_gameOf_36 (by decide) ?_
      refine lv_isub hx hb dX12_gameOf_37 ?_
      refine lv_topi (fun v1 ev1 => ?_)
      have hf := ok_n hf ev1
      refine lv_istore_n (lv' := [(3, .int v1), (2, .int r1), (0, .ref (G.1 + 51)), (1, .int x1)]) hx hb dX12_gameOf_38 rfl hl (by decide) rfl (fun ls hl => ?_)
      exact w_X12_gameOf_39  C0  _ _ _ hf _ _ hI _ (lv_sub hl [2, 1, 0] rfl)
    · have hf := ok_f c1 hf
      refine lv_aload_n hx hb dX12_gameOf_9 rfl (lv_at hl 0 rfl) ?_
      refine z_get (C := RX12) (T := TX12) (N := 26) (ci := 11) (v := .ref (G.1 + 61)) hx hb hts i_X12_gameOf_11 hown hK hI 51 rfl (by decide) rfl 18 (by decide) (hts (.fieldLink RX12 39 "FenceYardsModel" "then" "[J") (by decide +kernel)) (fun _ h9 => h9) rfl dX12_gameOf_10 ?_
      refine lv_iload_n hx hb dX12_gameOf_13 rfl (lv_at hl 2 rfl) ?_
      refine lv_lconst (v := 0) hx hb dX12_gameOf_14 (by decide) ?_
      obtain ⟨h1, hf⟩ := ok_c hf
      refine z_last hx hb hK hI 61 (k := x2.toNatClampNeg) rfl h1 rfl dX12_gameOf_15 (fun H locs hI => ?_)
      refine lv_iinc (v := x2 + 1) (lv' := [(2, .int (x2 + 1)), (0, .ref (G.1 + 51)), (1, .int x1)]) hx hb dX12_gameOf_16 hl (k := 2) rfl rfl (by decide) rfl (fun ls hl => ?_)
      refine lv_goto (tgt := 2) hx hb dX12_gameOf_19 (by decide) ?_
      exact ih _ _ hf _ _ hI _ (lv_sub hl [1, 2, 0] rfl)

set_option maxRecDepth 100000 in
set_option maxHeartbeats 4000000 in
theorem m_X12_gameOf (G : GT) (l : Launch) {σ : Hp} {x1 : Int32} {σ' : Hp} {r : Int64}  (hf : f_X12_gameOf σ x1 = some (σ', r)) : MetG G l yX12_gameOf wsX12_gameOf (rmk 4 100) σ [.ref (G.1 + 51), .int x1] (QL G σ' r) := by
  refine met_of (cc := cX12_gameOf) (nL := 5) (ret := (some .long)) (by decide) rfl (Nat.le_of_ble_eq_true rfl) ?_
  intro p e s m below meth c C0 hnm hI ls hl
  obtain ⟨hx, hb, hr, hml, hown, hts, hlk, hK, hG⟩ := id C0
  have hl : lv_has ls 5 [(0, .ref (G.1 + 51)), (1, .int x1)] := hl
  unfold f_X12_gameOf at hf
  refine lv_iconst (v := 0) hx hb dX12_gameOf_0 (by decide) ?_
  refine lv_istore_n (lv' := [(2, .int 0), (0, .ref (G.1 + 51)), (1, .int x1)]) hx hb dX12_gameOf_1 rfl hl (by decide) rfl (fun ls hl => ?_)
  exact w_X12_gameOf_2  C0  _ _ _ hf _ _ hI _ (lv_sub hl [1, 2, 0] rfl)

