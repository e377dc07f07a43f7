-- ===== FenceYards$Ground.begin()V
set_option maxRecDepth 100000 in
theorem i_X4_begin_4 : ∀ w ∈ u_ws RX4 TX4 11, w ∈ wsX4_begin := by decide +kernel
def f_X4_begin (σ : Hp) (g : Nat) : Option (Hp) :=
  bnd (sI (sI (sI (sI (sI (sI σ g 5 0) g 6 0) g 7 0) g 8 8191) g 9 8191) g 10 0) fun s1 => bnd (sI (sI (sI (sI s1 (g + 2) 0 0) (g + 3) 0 0) (g + 4) 0 0) (g + 5) 0 0) fun s2 => some s2
set_option maxRecDepth 100000 in
set_option maxHeartbeats 4000000 in
theorem m_X4_begin (G : GT) (l : Launch) {σ : Hp} {g : Nat} {σ' : Hp} (hg : isG g) (hf : f_X4_begin σ g = some σ') : MetG G l yX4_begin wsX4_begin (rmk 0 0) σ [.ref (G.1 + g)] (QV G σ') := by
  refine met_of (cc := cX4_begin) (nL := 1) (ret := none) (by decide) rfl (Nat.le_of_ble_eq_true rfl) ?_
  intro p e s m below meth c C0 hnm hI ls hl
  obtain ⟨hx, hb, hr, hml, hown, hts, hlk, hK, hG⟩ := id C0
  have hl : lv_has ls 1 [(0, .ref (G.1 + g))] := hl
  unfold f_X4_begin at hf
  refine lv_aload_n hx hb dX4_begin_0 rfl (lv_at hl 0 rfl) ?_
  refine lv_iconst (v := 0) hx hb dX4_begin_1 (by decide) ?_
  refine z_put (C := RX4) (T := TX4) (N := 11) (ci := 4) (ty := .boolean) (v := .int 0) hx hb hts i_X4_begin_4 tyX4 tyX4_ok nmX4 hown hK hI g (kd_G hg) (by decide) rfl 5 (by decide) (hts (.fieldLink RX4 30 "FenceYards$Ground" "stands" "Z") (by decide +kernel)) (fun _ h9 => h9) rfl (by decide +kernel) rfl rfl (Nat.le_of_ble_eq_true rfl) (set_I hI.2.2.2 (kd_G hg) (by decide) rfl) rfl hI.2.2.2 dX4_begin_2 (fun H locs hI => ?_)
  refine lv_aload_n hx hb dX4_begin_5 rfl (lv_at hl 0 rfl) ?_
  refine lv_iconst (v := 0) hx hb dX4_begin_6 (by decide) ?_
  refine z_put (C := RX4) (T := TX4) (N := 11) (ci := 4) (ty := .int) (v := .int 0) hx hb hts i_X4_begin_4 tyX4 tyX4_ok nmX4 hown hK hI g (kd_G hg) (by decide) rfl 6 (by decide) (hts (.fieldLink RX4 34 "FenceYards$Ground" "told" "I") (by decide +kernel)) (fun _ h9 => h9) rfl (by decide +kernel) rfl rfl (Nat.le_of_ble_eq_true rfl) (set_I hI.2.2.2 (kd_G hg) (by decide) rfl) rfl hI.2.2.2 dX4_begin_7 (fun H locs hI => ?_)
  refine lv_aload_n hx hb dX4_begin_10 rfl (lv_at hl 0 rfl) ?_
  refine lv_iconst (v := 0) hx hb dX4_begin_11 (by decide) ?_
  refine z_put (C := RX4) (T := TX4) (N := 11) (ci := 4) (ty := .int) (v := .int 0) hx hb hts i_X4_begin_4 tyX4 tyX4_ok nmX4 hown hK hI g (kd_G hg) (by decide) rfl 7 (by decide) (hts (.fieldLink RX4 38 "FenceYards$Ground" "ponds" "I") (by decide +kernel)) (fun _ h9 => h9) rfl (by decide +kernel) rfl rfl (Nat.le_of_ble_eq_true rfl) (set_I hI.2.2.2 (kd_G hg) (by decide) rfl) rfl hI.2.2.2 dX4_begin_12 (fun H locs hI => ?_)
  refine lv_aload_n hx hb dX4_begin_15 rfl (lv_at hl 0 rfl) ?_
  refine lv_sipush (v := 8191) hx hb dX4_begin_16 (by decide) ?_
  refine z_put (C := RX4) (T := TX4) (N := 11) (ci := 4) (ty := .int) (v := .int 8191) hx hb hts i_X4_begin_4 tyX4 tyX4_ok nmX4 hown hK hI g (kd_G hg) (by decide) rfl 8 (by decide) (hts (.fieldLink RX4 41 "FenceYards$Ground" "openUpper" "I") (by decide +kernel)) (fun _ h9 => h9) rfl (by decide +kernel) rfl rfl (Nat.le_of_ble_eq_true rfl) (set_I hI.2.2.2 (kd_G hg) (by decide) rfl) rfl hI.2.2.2 dX4_begin_19 (fun H locs hI => ?_)
  refine lv_aload_n hx hb dX4_begin_22 rfl (lv_at hl 0 rfl) ?_
  refine lv_sipush (v := 8191) hx hb dX4_begin_23 (by decide) ?_
  refine z_put (C := RX4) (T := TX4) (N := 11) (ci := 4) (ty := .int) (v := .int 8191) hx hb hts i_X4_begin_4 tyX4 tyX4_ok nmX4 hown hK hI g (kd_G hg) (by decide) rfl 9 (by decide) (hts (.fieldLink RX4 44 "FenceYards$Ground" "openLower" "I") (by decide +kernel)) (fun _ h9 => h9) rfl (by decide +kernel) rfl rfl (Nat.le_of_ble_eq_true rfl) (set_I hI.2.2.2 (kd_G hg) (by decide) rfl) rfl hI.2.2.2 dX4_begin_26 (fun H locs hI => ?_)
  refine lv_aload_n hx hb dX4_begin_29 rfl (lv_at hl 0 rfl) ?_
  refine lv_iconst (v := 0) hx hb dX4_begin_30 (by decide) ?_
  refine z_put (C := RX4) (T := TX4) (N := 11) (ci := 4) (ty := .int) (v := .int 0) hx hb hts i_X4_begin_4 tyX4 tyX4_ok nmX4 hown hK hI g (kd_G hg) (by decide) rfl 10 (by decide) (hts (.fieldLink RX4 47 "FenceYards$Ground" "today" "I") (by decide +kernel)) (fun _ h9 => h9) rfl (by decide +kernel) rfl rfl (Nat.le_of_ble_eq_true rfl) (set_I hI.2.2.2 (kd_G hg) (by decide) rfl) rfl hI.2.2.2 dX4_begin_31 (fun H locs hI => ?_)
  obtain ⟨s1, es1⟩ : ∃ z, z = sI (sI (sI (sI (sI (sI σ g 5 0) g 6 0) g 7 0) g 8 8191) g 9 8191) g 10 0 := ⟨_, rfl⟩
  have hI : Inv G s s1 H locs := by rw [es1]; exact hI
  have hf := ok_n hf es1
  refine lv_aload_n hx hb dX4_begin_34 rfl (lv_at hl 0 rfl) ?_
  refine z_get (C := RX4) (T := TX4) (N := 11) (ci := 4) (v := .ref (G.1 + (g + 2))) hx hb hts i_X4_begin_4 hown hK hI g (kd_G hg) (by decide) rfl 1 (by decide) (hts (.fieldLink RX4 17 "FenceYards$Ground" "uppers" "[I") (by decide +kernel)) (fun _ h9 => h9) rfl dX4_begin_35 ?_
  refine lv_iconst (v := 0) hx hb dX4_begin_38 (by decide) ?_
  refine lv_iconst (v := 0) hx hb dX4_begin_39 (by decide) ?_
  refine z_iast hx hb hK hI (g + 2) (k := 0) (kd_G2 hg) (by decide) (by decide) dX4_begin_40 (fun H locs hI => ?_)
  refine lv_aload_n hx hb dX4_begin_41 rfl (lv_at hl 0 rfl) ?_
  refine z_get (C := RX4) (T := TX4) (N := 11) (ci := 4) (v := .ref (G.1 + (g + 3))) hx hb hts i_X4_begin_4 hown hK hI g (kd_G hg) (by decide) rfl 2 (by decide) (hts (.fieldLink RX4 21 "FenceYards$Ground" "lowers" "[I") (by decide +kernel)) (fun _ h9 => h9) rfl dX4_begin_42 ?_
  refine lv_iconst (v := 0) hx hb dX4_begin_45 (by decide) ?_
  refine lv_iconst (v := 0) hx hb dX4_begin_46 (by decide) ?_
  refine z_iast hx hb hK hI (g + 3) (k := 0) (kd_G3 hg) (by decide) (by decide) dX4_begin_47 (fun H locs hI => ?_)
  refine lv_aload_n hx hb dX4_begin_48 rfl (lv_at hl 0 rfl) ?_
  refine z_get (C := RX4) (T := TX4) (N := 11) (ci := 4) (v := .ref (G.1 + (g + 4))) hx hb hts i_X4_begin_4 hown hK hI g (kd_G hg) (by decide) rfl 3 (by decide) (hts (.fieldLink RX4 24 "FenceYards$Ground" "lefts" "[I") (by decide +kernel)) (fun _ h9 => h9) rfl dX4_begin_49 ?_
  refine lv_iconst (v := 0) hx hb dX4_begin_52 (by decide) ?_
  refine lv_iconst (v := 0) hx hb dX4_begin_53 (by decide) ?_
  refine z_iast hx hb hK hI (g + 4) (k := 0) (kd_G4 hg) (by decide) (by decide) dX4_begin_54 (fun H locs hI => ?_)
  refine lv_aload_n hx hb dX4_begin_55 rfl (lv_at hl 0 rfl) ?_
  refine z_get (C := RX4) (T := TX4) (N := 11) (ci := 4) (v := .ref (G.1 + (g + 5))) hx hb hts i_X4_begin_4 hown hK hI g (kd_G hg) (by decide) rfl 4 (by decide) (hts (.fieldLink RX4 27 "FenceYards$Ground" "rights" "[I") (by decide +kernel)) (fun _ h9 => h9) rfl dX4_begin_56 ?_
  refine lv_iconst (v := 0) hx hb dX4_begin_59 (by decide) ?_
  refine lv_iconst (v := 0) hx hb dX4_begin_60 (by decide) ?_
  refine z_iast hx hb hK hI (g + 5) (k := 0) (kd_G5 hg) (by decide) (by decide) dX4_begin_61 (fun H locs hI => ?_)
  obtain ⟨s2, es2⟩ : ∃ z, z = sI (sI (sI (sI s1 (g + 2) 0 0) (g + 3) 0 0) (g + 4) 0 0) (g + 5) 0 0 := ⟨_, rfl⟩
  have hI : Inv G s s2 H locs := by rw [es2]; exact hI
  have hf := ok_n hf es2
  cases hf
  exact z_vret hx hb hr hlk hK hG hI dX4_begin_62

-- ===== FenceYards$Ground.putFence(II)V
set_option maxRecDepth 100000 in
theorem i_X4_putFence_4 : ∀ w ∈ u_ws RX4 TX4 11, w ∈ wsX4_putFence := by decide +kernel
def f_X4_putFence (σ : Hp) (g : Nat) (x1 : Int32) (x2 : Int32) : Option (Hp) :=
  some (sI (sI σ (g + 2) 0 x1) (g + 3) 0 x2)
set_option maxRecDepth 100000 in
set_option maxHeartbeats 4000000 in
theorem m_X4_putFence (G : GT) (l : Launch) {σ : Hp} {g : Nat} {x1 : Int32} {x2 : Int32} {σ' : Hp} (hg : isG g) (hf : f_X4_putFence σ g x1 x2 = some σ') : MetG G l yX4_putFence wsX4_putFence (rmk 0 0) σ [.ref (G.1 + g), .int x1, .int x2] (QV G σ') := by
  refine met_of (cc := cX4_putFence) (nL := 3) (ret := none) (by decide) rfl (Nat.le_of_ble_eq_true rfl) ?_
  intro p e s m below meth c C0 hnm hI ls hl
  obtain ⟨hx, hb, hr, hml, hown, hts, hlk, hK, hG⟩ := id C0
  have hl : lv_has ls 3 [(0, .ref (G.1 + g)), (1, .int x1), (2, .int x2)] := hl
  unfold f_X4_putFence at hf
  refine lv_aload_n hx hb dX4_putFence_0 rfl (lv_at hl 0 rfl) ?_
  refine z_get (C := RX4) (T := TX4) (N := 11) (ci := 4) (v := .ref (G.1 + (g + 2))) hx hb hts i_X4_putFence_4 hown hK hI g (kd_G hg) (by decide) rfl 1 (by decide) (hts (.fieldLink RX4 17 "FenceYards$Ground" "uppers" "[I") (by decide +kernel)) (fun _ h9 => h9) rfl dX4_putFence_1 ?_
  refine lv_iconst (v := 0) hx hb dX4_putFence_4 (by decide) ?_
  refine lv_iload_n hx hb dX4_putFence_5 rfl (lv_at hl 1 rfl) ?_
  refine z_iast hx hb hK hI (g + 2) (k := 0) (kd_G2 hg) (by decide) (by decide) dX4_putFence_6 (fun H locs hI => ?_)
  refine lv_aload_n hx hb dX4_putFence_7 rfl (lv_at hl 0 rfl) ?_
  refine z_get (C := RX4) (T := TX4) (N := 11) (ci := 4) (v := .ref (G.1 + (g + 3))) hx hb hts i_X4_putFence_4 hown hK hI g (kd_G hg) (by decide) rfl 2 (by decide) (hts (.fieldLink RX4 21 "FenceYards$Ground" "lowers" "[I") (by decide +kernel)) (fun _ h9 => h9) rfl dX4_putFence_8 ?_
  refine lv_iconst (v := 0) hx hb dX4_putFence_11 (by decide) ?_
  refine lv_iload_n hx hb dX4_putFence_12 rfl (lv_at hl 2 rfl) ?_
  refine z_iast hx hb hK hI (g + 3) (k := 0) (kd_G3 hg) (by decide) (by decide) dX4_putFence_13 (fun H locs hI => ?_)
  cases hf
  exact z_vret hx hb hr hlk hK hG hI dX4_putFence_14

-- ===== FenceYards$Ground.endOn(I)I
set_option maxRecDepth 100000 in
theorem i_X4_endOn_4 : ∀ w ∈ u_ws RX4 TX4 11, w ∈ wsX4_endOn := by decide +kernel
def f_X4_endOn (σ : Hp) (g : Nat) (x1 : Int32) : Option (Int32) :=
  if x1 = 0 then (chk (inb (gI σ g 10) 13) <| some (gI σ (g + 2) ((gI σ g 10).toNatClampNeg))) else (chk (inb (gI σ g 10) 13) <| some (gI σ (g + 3) ((gI σ g 10).toNatClampNeg)))
set_option maxRecDepth 100000 in
set_option maxHeartbeats 4000000 in
theorem m_X4_endOn (G : GT) (l : Launch) {σ : Hp} {g : Nat} {x1 : Int32} {r : Int32} (hg : isG g) (hf : f_X4_endOn σ g x1 = some r) : MetG G l yX4_endOn wsX4_endOn (rmk 0 0) σ [.ref (G.1 + g), .int x1] (QI G σ r) := by
  refine met_of (cc := cX4_endOn) (nL := 2) (ret := (some .int)) (by decide) rfl (Nat.le_of_ble_eq_true rfl) ?_
  intro p e s m below meth c C0 hnm hI ls hl
  obtain ⟨hx, hb, hr, hml, hown, hts, hlk, hK, hG⟩ := id C0
  have hl : lv_has ls 2 [(0, .ref (G.1 + g)), (1, .int x1)] := hl
  unfold f_X4_endOn at hf
  refine lv_iload_n hx hb dX4_endOn_0 rfl (lv_at hl 1 rfl) ?_
  refine lv_if_ne (tgt := 16) hx hb dX4_endOn_1 (by decide) (fun c1 => ?_) (fun c1 => ?_)
  · have hf := ok_f c1 hf
    refine lv_aload_n hx hb dX4_endOn_16 rfl (lv_at hl 0 rfl) ?_
    refine z_get (C := RX4) (T := TX4) (N := 11) (ci := 4) (v := .ref (G.1 + (g + 3))) hx hb hts i_X4_endOn_4 hown hK hI g (kd_G hg) (by decide) rfl 2 (by decide) (hts (.fieldLink RX4 21 "FenceYards$Ground" "lowers" "[I") (by decide +kernel)) (fun _ h9 => h9) rfl dX4_endOn_17 ?_
    refine lv_aload_n hx hb dX4_endOn_20 rfl (lv_at hl 0 rfl) ?_
    refine z_get (C := RX4) (T := TX4) (N := 11) (ci := 4) (v := .int (gI σ g 10)) hx hb hts i_X4_endOn_4 hown hK hI g (kd_G hg) (by decide) rfl 10 (by decide) (hts (.fieldLink RX4 47 "FenceYards$Ground" "today" "I") (by decide +kernel)) (fun _ h9 => h9) rfl dX4_endOn_21 ?_
    obtain ⟨h1, hf⟩ := ok_c hf
    refine z_iald hx hb hK hI (g + 3) (k := (gI σ g 10).toNatClampNeg) (kd_G3 hg) h1 rfl dX4_endOn_24 ?_
    cases hf
    exact z_iret hx hb hr hlk hK hG hI dX4_endOn_25
  · have hf := ok_t c1 hf
    refine lv_aload_n hx hb dX4_endOn_4 rfl (lv_at hl 0 rfl) ?_
    refine z_get (C := RX4) (T := TX4) (N := 11) (ci := 4) (v := .ref (G.1 + (g + 2))) hx hb hts i_X4_endOn_4 hown hK hI g (kd_G hg) (by decide) rfl 1 (by decide) (hts (.fieldLink RX4 17 "FenceYards$Ground" "uppers" "[I") (by decide +kernel)) (fun _ h9 => h9) rfl dX4_endOn_5 ?_
    refine lv_aload_n hx hb dX4_endOn_8 rfl (lv_at hl 0 rfl) ?_
    refine z_get (C := RX4) (T := TX4) (N := 11) (ci := 4) (v := .int (gI σ g 10)) hx hb hts i_X4_endOn_4 hown hK hI g (kd_G hg) (by decide) rfl 10 (by decide) (hts (.fieldLink RX4 47 "FenceYards$Ground" "today" "I") (by decide +kernel)) (fun _ h9 => h9) rfl dX4_endOn_9 ?_
    obtain ⟨h2, hf⟩ := ok_c hf
    refine z_iald hx hb hK hI (g + 2) (k := (gI σ g 10).toNatClampNeg) (kd_G2 hg) h2 rfl dX4_endOn_12 ?_
    refine lv_goto (tgt := 25) hx hb dX4_endOn_13 (by decide) ?_
    cases hf
    exact z_iret hx hb hr hlk hK hG hI dX4_endOn_25

-- ===== FenceYards$Ground.addPond(II)V
set_option maxRecDepth 100000 in
theorem i_X4_addPond_4 : ∀ w ∈ u_ws RX4 TX4 11, w ∈ wsX4_addPond := by decide +kernel
def f_X4_addPond (σ : Hp) (g : Nat) (x1 : Int32) (x2 : Int32) : Option (Hp) :=
  if x1 = 0 then (bnd (sI (sI σ g 8 ((gI σ g 8) &&& ((1 <<< (x2 &&& 31)) ^^^ (-1)))) g 7 ((gI (sI σ g 8 ((gI σ g 8) &&& ((1 <<< (x2 &&& 31)) ^^^ (-1)))) g 7) + 1)) fun s2 => some s2) else (bnd (sI (sI σ g 9 ((gI σ g 9) &&& ((1 <<< (x2 &&& 31)) ^^^ (-1)))) g 7 ((gI (sI σ g 9 ((gI σ g 9) &&& ((1 <<< (x2 &&& 31)) ^^^ (-1)))) g 7) + 1)) fun s1 => some s1)
set_option maxRecDepth 100000 in
set_option maxHeartbeats 4000000 in
theorem m_X4_addPond (G : GT) (l : Launch) {σ : Hp} {g : Nat} {x1 : Int32} {x2 : Int32} {σ' : Hp} (hg : isG g) (hf : f_X4_addPond σ g x1 x2 = some σ') : MetG G l yX4_addPond wsX4_addPond (rmk 0 0) σ [.ref (G.1 + g), .int x1, .int x2] (QV G σ') := by
  refine met_of (cc := cX4_addPond) (nL := 3) (ret := none) (by decide) rfl (Nat.le_of_ble_eq_true rfl) ?_
  intro p e s m below meth c C0 hnm hI ls hl
  obtain ⟨hx, hb, hr, hml, hown, hts, hlk, hK, hG⟩ := id C0
  have hl : lv_has ls 3 [(0, .ref (G.1 + g)), (1, .int x1), (2, .int x2)] := hl
  unfold f_X4_addPond at hf
  refine lv_iload_n hx hb dX4_addPond_0 rfl (lv_at hl 1 rfl) ?_
  refine lv_if_ne (tgt := 21) hx hb dX4_addPond_1 (by decide) (fun c1 => ?_) (fun c1 => ?_)
  · have hf := ok_f c1 hf
    refine lv_aload_n hx hb dX4_addPond_21 rfl (lv_at hl 0 rfl) ?_
    refine lv_dup hx hb dX4_addPond_22 rfl ?_
    refine z_get (C := RX4) (T := TX4) (N := 11) (ci := 4) (v := .int (gI σ g 9)) hx hb hts i_X4_addPond_4 hown hK hI g (kd_G hg) (by decide) rfl 9 (by decide) (hts (.fieldLink RX4 44 "FenceYards$Ground" "openLower" "I") (by decide +kernel)) (fun _ h9 => h9) rfl dX4_addPond_23 ?_
    refine lv_iconst (v := 1) hx hb dX4_addPond_26 (by decide) ?_
    refine lv_iload_n hx hb dX4_addPond_27 rfl (lv_at hl 2 rfl) ?_
    refine lv_ishl hx hb dX4_addPond_28 ?_
    refine lv_iconst (v := (-1)) hx hb dX4_addPond_29 (by decide) ?_
    refine lv_ixor hx hb dX4_addPond_30 ?_
    refine lv_iand hx hb dX4_addPond_31 ?_
    refine z_put (C := RX4) (T := TX4) (N := 11) (ci := 4) (ty := .int) (v := .int ((gI σ g 9) &&& ((1 <<< (x2 &&& 31)) ^^^ (-1)))) hx hb hts i_X4_addPond_4 tyX4 tyX4_ok nmX4 hown hK hI g (kd_G hg) (by decide) rfl 9 (by decide) (hts (.fieldLink RX4 44 "FenceYards$Ground" "openLower" "I") (by decide +kernel)) (fun _ h9 => h9) rfl (by decide +kernel) rfl rfl (Nat.le_of_ble_eq_true rfl) (set_I hI.2.2.2 (kd_G hg) (by decide) rfl) rfl hI.2.2.2 dX4_addPond_32 (fun H locs hI => ?_)
    refine lv_aload_n hx hb dX4_addPond_35 rfl (lv_at hl 0 rfl) ?_
    refine lv_dup hx hb dX4_addPond_36 rfl ?_
    refine z_get (C := RX4) (T := TX4) (N := 11) (ci := 4) (v := .int (gI (sI σ g 9 ((gI σ g 9) &&& ((1 <<< (x2 &&& 31)) ^^^ (-1)))) g 7)) hx hb hts i_X4_addPond_4 hown hK hI g (kd_G hg) (by decide) rfl 7 (by decide) (hts (.fieldLink RX4 38 "FenceYards$Ground" "ponds" "I") (by decide +kernel)) (fun _ h9 => h9) rfl dX4_addPond_37 ?_
    refine lv_iconst (v := 1) hx hb dX4_addPond_40 (by decide) ?_
    refine lv_iadd hx hb dX4_addPond_41 ?_
    refine z_put (C := RX4) (T := TX4) (N := 11) (ci := 4) (ty := .int) (v := .int ((gI (sI σ g 9 ((gI σ g 9) &&& ((1 <<< (x2 &&& 31)) ^^^ (-1)))) g 7) + 1)) hx hb hts i_X4_addPond_4 tyX4 tyX4_ok nmX4 hown hK hI g (kd_G hg) (by decide) rfl 7 (by decide) (hts (.fieldLink RX4 38 "FenceYards$Ground" "ponds" "I") (by decide +kernel)) (fun _ h9 => h9) rfl (by decide +kernel) rfl rfl (Nat.le_of_ble_eq_true rfl) (set_I hI.2.2.2 (kd_G hg) (by decide) rfl) rfl hI.2.2.2 dX4_addPond_42 (fun H locs hI => ?_)
    obtain ⟨s1, es1⟩ : ∃ z, z = sI (sI σ g 9 ((gI σ g 9) &&& ((1 <<< (x2 &&& 31)) ^^^ (-1)))) g 7 ((gI (sI σ g 9 ((gI σ g 9) &&& ((1 <<< (x2 &&& 31)) ^^^ (-1)))) g 7) + 1) := ⟨_, rfl⟩
    have hI : Inv G s s1 H locs := by rw [es1]; exact hI
    have hf := ok_n hf es1
    cases hf
    exact z_vret hx hb hr hlk hK hG hI dX4_addPond_45
  · have hf := ok_t c1 hf
    refine lv_aload_n hx hb dX4_addPond_4 rfl (lv_at hl 0 rfl) ?_
    refine lv_dup hx hb dX4_addPond_5 rfl ?_
    refine z_get (C := RX4) (T := TX4) (N := 11) (ci := 4) (v := .int (gI σ g 8)) hx hb hts i_X4_addPond_4 hown hK hI g (kd_G hg) (by decide) rfl 8 (by decide) (hts (.fieldLink RX4 41 "FenceYards$Ground" "openUpper" "I") (by decide +kernel)) (fun _ h9 => h9) rfl dX4_addPond_6 ?_
    refine lv_iconst (v := 1) hx hb dX4_addPond_9 (by decide) ?_
    refine lv_iload_n hx hb dX4_addPond_10 rfl (lv_at hl 2 rfl) ?_
    refine lv_ishl hx hb dX4_addPond_11 ?_
    refine lv_iconst (v := (-1)) hx hb dX4_addPond_12 (by decide) ?_
    refine lv_ixor hx hb dX4_addPond_13 ?_
    refine lv_iand hx hb dX4_addPond_14 ?_
    refine z_put (C := RX4) (T := TX4) (N := 11) (ci := 4) (ty := .int) (v := .int ((gI σ g 8) &&& ((1 <<< (x2 &&& 31)) ^^^ (-1)))) hx hb hts i_X4_addPond_4 tyX4 tyX4_ok nmX4 hown hK hI g (kd_G hg) (by decide) rfl 8 (by decide) (hts (.fieldLink RX4 41 "FenceYards$Ground" "openUpper" "I") (by decide +kernel)) (fun _ h9 => h9) rfl (by decide +kernel) rfl rfl (Nat.le_of_ble_eq_true rfl) (set_I hI.2.2.2 (kd_G hg) (by decide) rfl) rfl hI.2.2.2 dX4_addPond_15 (fun H locs hI => ?_)
    refine lv_goto (tgt := 35) hx hb dX4_addPond_18 (by decide) ?_
    refine lv_aload_n hx hb dX4_addPond_35 rfl (lv_at hl 0 rfl) ?_
    refine lv_dup hx hb dX4_addPond_36 rfl ?_
    refine z_get (C := RX4) (T := TX4) (N := 11) (ci := 4) (v := .int (gI (sI σ g 8 ((gI σ g 8) &&& ((1 <<< (x2 &&& 31)) ^^^ (-1)))) g 7)) hx hb hts i_X4_addPond_4 hown hK hI g (kd_G hg) (by decide) rfl 7 (by decide) (hts (.fieldLink RX4 38 "FenceYards$Ground" "ponds" "I") (by decide +kernel)) (fun _ h9 => h9) rfl dX4_addPond_37 ?_
    refine lv_iconst (v := 1) hx hb dX4_addPond_40 (by decide) ?_
    refine lv_iadd hx hb dX4_addPond_41 ?_
    refine z_put (C := RX4) (T := TX4) (N := 11) (ci := 4) (ty := .int) (v := .int ((gI (sI σ g 8 ((gI σ g 8) &&& ((1 <<< (x2 &&& 31)) ^^^ (-1)))) g 7) + 1)) hx hb hts i_X4_addPond_4 tyX4 tyX4_ok nmX4 hown hK hI g (kd_G hg) (by decide) rfl 7 (by decide) (hts (.fieldLink RX4 38 "FenceYards$Ground" "ponds" "I") (by decide +kernel)) (fun _ h9 => h9) rfl (by decide +kernel) rfl rfl (Nat.le_of_ble_eq_true rfl) (set_I hI.2.2.2 (kd_G hg) (by decide) rfl) rfl hI.2.2.2 dX4_addPond_42 (fun H locs hI => ?_)
    obtain ⟨s2, es2⟩ : ∃ z, z = sI (sI σ g 8 ((gI σ g 8) &&& ((1 <<< (x2 &&& 31)) ^^^ (-1)))) g 7 ((gI (sI σ g 8 ((gI σ g 8) &&& ((1 <<< (x2 &&& 31)) ^^^ (-1)))) g 7) + 1) := ⟨_, rfl⟩
    have hI : Inv G s s2 H locs := by rw [es2]; exact hI
    have hf := ok_n hf es2
    cases hf
    exact z_vret hx hb hr hlk hK hG hI dX4_addPond_45

-- ===== FenceYards$Ground.addStrip(LFenceYards$Strip;)V
set_option maxRecDepth 100000 in
theorem i_X4_addStrip_4 : ∀ w ∈ u_ws RX4 TX4 11, w ∈ wsX4_addStrip := by decide +kernel
def f_X4_addStrip (σ : Hp) (g : Nat) (o1 : Option Nat) : Option (Hp) :=
  opc o1 (if 12 ≤ (gI σ g 6) then (some σ) else (chk (inb (gI σ g 6) 12) <| bnd (sI (sR σ (g + 1) ((gI σ g 6).toNatClampNeg) none) g 6 ((gI (sR σ (g + 1) ((gI σ g 6).toNatClampNeg) none) g 6) + 1)) fun s1 => some s1)) fun q1 => (if 12 ≤ (gI σ g 6) then (some σ) else (chk (inb (gI σ g 6) 12) <| chk (okS σ q1) <| bnd (sI (sR σ (g + 1) ((gI σ g 6).toNatClampNeg) (some q1)) g 6 ((gI (sR σ (g + 1) ((gI σ g 6).toNatClampNeg) (some q1)) g 6) + 1)) fun s2 => some s2))
set_option maxRecDepth 100000 in
set_option maxHeartbeats 4000000 in
theorem m_X4_addStrip (G : GT) (l : Launch) {σ : Hp} {g : Nat} {o1 : Option Nat} {σ' : Hp} (hg : isG g) (hf : f_X4_addStrip σ g o1 = some σ') : MetG G l yX4_addStrip wsX4_addStrip (rmk 0 0) σ [.ref (G.1 + g), va_rf (o1.map (fun z => G.1 + z))] (QV G σ') := by
  unfold f_X4_addStrip at hf
  cases o1 with
  | none =>
    have hf := ok_on hf
    refine met_of (cc := cX4_addStrip) (nL := 2) (ret := none) (by decide) rfl (Nat.le_of_ble_eq_true rfl) ?_
    intro p e s m below meth c C0 hnm hI ls hl
    obtain ⟨hx, hb, hr, hml, hown, hts, hlk, hK, hG⟩ := id C0
    have hl : lv_has ls 2 [(0, .ref (G.1 + g)), (1, .null)] := hl
    refine lv_aload_n hx hb dX4_addStrip_0 rfl (lv_at hl 0 rfl) ?_
    refine z_get (C := RX4) (T := TX4) (N := 11) (ci := 4) (v := .int (gI σ g 6)) hx hb hts i_X4_addStrip_4 hown hK hI g (kd_G hg) (by decide) rfl 6 (by decide) (hts (.fieldLink RX4 34 "FenceYards$Ground" "told" "I") (by decide +kernel)) (fun _ h9 => h9) rfl dX4_addStrip_1 ?_
    refine lv_bipush (v := 12) hx hb dX4_addStrip_4 (by decide) ?_
    refine lv_icmp_ge (tgt := 29) hx hb dX4_addStrip_6 (by decide) (fun c1 => ?_) (fun c1 => ?_)
    · have hf := ok_t c1 hf
      cases hf
      exact z_vret hx hb hr hlk hK hG hI dX4_addStrip_29
    · have hf := ok_f c1 hf
      refine lv_aload_n hx hb dX4_addStrip_9 rfl (lv_at hl 0 rfl) ?_
      refine z_get (C := RX4) (T := TX4) (N := 11) (ci := 4) (v := .ref (G.1 + (g + 1))) hx hb hts i_X4_addStrip_4 hown hK hI g (kd_G hg) (by decide) rfl 0 (by decide) (hts (.fieldLink RX4 11 "FenceYards$Ground" "strips" "[LFenceYards$Strip;") (by decide +kernel)) (fun _ h9 => h9) rfl dX4_addStrip_10 ?_
      refine lv_aload_n hx hb dX4_addStrip_13 rfl (lv_at hl 0 rfl) ?_
      refine z_get (C := RX4) (T := TX4) (N := 11) (ci := 4) (v := .int (gI σ g 6)) hx hb hts i_X4_addStrip_4 hown hK hI g (kd_G hg) (by decide) rfl 6 (by decide) (hts (.fieldLink RX4 34 "FenceYards$Ground" "told" "I") (by decide +kernel)) (fun _ h9 => h9) rfl dX4_addStrip_14 ?_
      refine lv_aload_nN hx hb dX4_addStrip_17 rfl (lv_at hl 1 rfl) ?_
      obtain ⟨h1, hf⟩ := ok_c hf
      refine z_ast (r := none) hx hb hK hG hI (g + 1) (k := (gI σ g 6).toNatClampNeg) (kd_G1 hg) (Or.inl rfl) h1 rfl dX4_addStrip_18 (fun H locs hI => ?_)
      refine lv_aload_n hx hb dX4_addStrip_19 rfl (lv_at hl 0 rfl) ?_
      refine lv_dup hx hb dX4_addStrip_20 rfl ?_
      refine z_get (C := RX4) (T := TX4) (N := 11) (ci := 4) (v := .int (gI (sR σ (g + 1) ((gI σ g 6).toNatClampNeg) none) g 6)) hx hb hts i_X4_addStrip_4 hown hK hI g (kd_G hg) (by decide) rfl 6 (by decide) (hts (.fieldLink RX4 34 "FenceYards$Ground" "told" "I") (by decide +kernel)) (fun _ h9 => h9) rfl dX4_addStrip_21 ?_
      refine lv_iconst (v := 1) hx hb dX4_addStrip_24 (by decide) ?_
      refine lv_iadd hx hb dX4_addStrip_25 ?_
      refine z_put (C := RX4) (T := TX4) (N := 11) (ci := 4) (ty := .int) (v := .int ((gI (sR σ (g + 1) ((gI σ g 6).toNatClampNeg) none) g 6) + 1)) hx hb hts i_X4_addStrip_4 tyX4 tyX4_ok nmX4 hown hK hI g (kd_G hg) (by decide) rfl 6 (by decide) (hts (.fieldLink RX4 34 "FenceYards$Ground" "told" "I") (by decide +kernel)) (fun _ h9 => h9) rfl (by decide +kernel) rfl rfl (Nat.le_of_ble_eq_true rfl) (set_I hI.2.2.2 (kd_G hg) (by decide) rfl) rfl hI.2.2.2 dX4_addStrip_26 (fun H locs hI => ?_)
      obtain ⟨s1, es1⟩ : ∃ z, z = sI (sR σ (g + 1) ((gI σ g 6).toNatClampNeg) none) g 6 ((gI (sR σ (g + 1) ((gI σ g 6).toNatClampNeg) none) g 6) + 1) := ⟨_, rfl⟩
      have hI : Inv G s s1 H locs := by rw [es1]; exact hI
      have hf := ok_n hf es1
      cases hf
      exact z_vret hx hb hr hlk hK hG hI dX4_addStrip_29
  | some q1 =>
    have hf := ok_os hf
    refine met_of (cc := cX4_addStrip) (nL := 2) (ret := none) (by decide) rfl (Nat.le_of_ble_eq_true rfl) ?_
    intro p e s m below meth c C0 hnm hI ls hl
    obtain ⟨hx, hb, hr, hml, hown, hts, hlk, hK, hG⟩ := id C0
    have hl : lv_has ls 2 [(0, .ref (G.1 + g)), (1, .ref (G.1 + q1))] := hl
    refine lv_aload_n hx hb dX4_addStrip_0 rfl (lv_at hl 0 rfl) ?_
    refine z_get (C := RX4) (T := TX4) (N := 11) (ci := 4) (v := .int (gI σ g 6)) hx hb hts i_X4_addStrip_4 hown hK hI g (kd_G hg) (by decide) rfl 6 (by decide) (hts (.fieldLink RX4 34 "FenceYards$Ground" "told" "I") (by decide +kernel)) (fun _ h9 => h9) rfl dX4_addStrip_1 ?_
    refine lv_bipush (v := 12) hx hb dX4_addStrip_4 (by decide) ?_
    refine lv_icmp_ge (tgt := 29) hx hb dX4_addStrip_6 (by decide) (fun c2 => ?_) (fun c2 => ?_)
    · have hf := ok_t c2 hf
      cases hf
      exact z_vret hx hb hr hlk hK hG hI dX4_addStrip_29
    · have hf := ok_f c2 hf
      refine lv_aload_n hx hb dX4_addStrip_9 rfl (lv_at hl 0 rfl) ?_
      refine z_get (C := RX4) (T := TX4) (N := 11) (ci := 4) (v := .ref (G.1 + (g + 1))) hx hb hts i_X4_addStrip_4 hown hK hI g (kd_G hg) (by decide) rfl 0 (by decide) (hts (.fieldLink RX4 11 "FenceYards$Ground" "strips" "[LFenceYards$Strip;") (by decide +kernel)) (fun _ h9 => h9) rfl dX4_addStrip_10 ?_
      refine lv_aload_n hx hb dX4_addStrip_13 rfl (lv_at hl 0 rfl) ?_
      refine z_get (C := RX4) (T := TX4) (N := 11) (ci := 4) (v := .int (gI σ g 6)) hx hb hts i_X4_addStrip_4 hown hK hI g (kd_G hg) (by decide) rfl 6 (by decide) (hts (.fieldLink RX4 34 "FenceYards$Ground" "told" "I") (by decide +kernel)) (fun _ h9 => h9) rfl dX4_addStrip_14 ?_
      refine lv_aload_n hx hb dX4_addStrip_17 rfl (lv_at hl 1 rfl) ?_
      obtain ⟨h2, hf⟩ := ok_c hf
      obtain ⟨h3, hf⟩ := ok_c hf
      refine z_ast (r := some q1) hx hb hK hG hI (g + 1) (k := (gI σ g 6).toNatClampNeg) (kd_G1 hg) (Or.inr h3) h2 rfl dX4_addStrip_18 (fun H locs hI => ?_)
      refine lv_aload_n hx hb dX4_addStrip_19 rfl (lv_at hl 0 rfl) ?_
      refine lv_dup hx hb dX4_addStrip_20 rfl ?_
      refine z_get (C := RX4) (T := TX4) (N := 11) (ci := 4) (v := .int (gI (sR σ (g + 1) ((gI σ g 6).toNatClampNeg) (some q1)) g 6)) hx hb hts i_X4_addStrip_4 hown hK hI g (kd_G hg) (by decide) rfl 6 (by decide) (hts (.fieldLink RX4 34 "FenceYards$Ground" "told" "I") (by decide +kernel)) (fun _ h9 => h9) rfl dX4_addStrip_21 ?_
      refine lv_iconst (v := 1) hx hb dX4_addStrip_24 (by decide) ?_
      refine lv_iadd hx hb dX4_addStrip_25 ?_
      refine z_put (C := RX4) (T := TX4) (N := 11) (ci := 4) (ty := .int) (v := .int ((gI (sR σ (g + 1) ((gI σ g 6).toNatClampNeg) (some q1)) g 6) + 1)) hx hb hts i_X4_addStrip_4 tyX4 tyX4_ok nmX4 hown hK hI g (kd_G hg) (by decide) rfl 6 (by decide) (hts (.fieldLink RX4 34 "FenceYards$Ground" "told" "I") (by decide +kernel)) (fun _ h9 => h9) rfl (by decide +kernel) rfl rfl (Nat.le_of_ble_eq_true rfl) (set_I hI.2.2.2 (kd_G hg) (by decide) rfl) rfl hI.2.2.2 dX4_addStrip_26 (fun H locs hI => ?_)
      obtain ⟨s2, es2⟩ : ∃ z, z = sI (sR σ (g + 1) ((gI σ g 6).toNatClampNeg) (some q1)) g 6 ((gI (sR σ (g + 1) ((gI σ g 6).toNatClampNeg) (some q1)) g 6) + 1) := ⟨_, rfl⟩
      have hI : Inv G s s2 H locs := by rw [es2]; exact hI
      have hf := ok_n hf es2
      cases hf
      exact z_vret hx hb hr hlk hK hG hI dX4_addStrip_29

-- ===== FenceYards$Ground.isOpen(II)Z
set_option maxRecDepth 100000 in
theorem i_X4_isOpen_4 : ∀ w ∈ u_ws RX4 TX4 11, w ∈ wsX4_isOpen := by decide +kernel
def f_X4_isOpen_15  (g : Nat) (σ : Hp) (x2 : Int32) (tx0 : Int32) : Option (Int32) :=
  if x2 < 0 then (some 0) else (if 13 ≤ x2 then (some 0) else (if ((tx0 >>> (x2 &&& 31)) &&& 1) = 1 then (some 1) else (some 0)))
def f_X4_isOpen (σ : Hp) (g : Nat) (x1 : Int32) (x2 : Int32) : Option (Int32) :=
  if x1 = 0 then (f_X4_isOpen_15 g σ x2 (gI σ g 8)) else (f_X4_isOpen_15 g σ x2 (gI σ g 9))
set_option maxRecDepth 100000 in
set_option maxHeartbeats 4000000 in
theorem w_X4_isOpen_15 {G : GT} {p : Program} {l : Launch} {e : Env} {s : State} {m : MethodId} {args : Array Value} {below : List Frame} {meth : Method} {c : Code} {g : Nat} {r : Int32}  {σ : Hp} {x2 : Int32} {tx0 : Int32} (hg : isG g) (C0 : Cx G cX4_isOpen RX4 wsX4_isOpen 4 (some .boolean) p s m args meth c)  (hf : f_X4_isOpen_15 g σ x2 tx0 = some r) {H : Heap} {locs : List Loc} (hI : Inv G s σ H locs) {ls : Array Slot} (hl : lv_has ls 4 [(2, .int x2)]) : W p l e (rmk 0 0) s m args below meth c H locs 0 0 (MQ below (QI G σ r) args s (rmk 0 0).cells (rmk 0 0).slots (gA G)) (F0 m 15 ls [.int tx0]) := by
  obtain ⟨hx, hb, hr, hml, hown, hts, hlk, hK, hG⟩ := id C0
  unfold f_X4_isOpen_15 at hf
  refine lv_istore_n (lv' := [(3, .int tx0), (2, .int x2)]) hx hb dX4_isOpen_15 rfl hl (by decide) rfl (fun ls hl => ?_)
  refine lv_iload_n hx hb dX4_isOpen_16 rfl (lv_at hl 1 rfl) ?_
  refine lv_if_lt (tgt := 39) hx hb dX4_isOpen_17 (by decide) (fun c1 => ?_) (fun c1 => ?_)
  · have hf := ok_t c1 hf
    refine lv_iconst (v := 0) hx hb dX4_isOpen_39 (by decide) ?_
    cases hf
    exact z_zret hx hb hr hlk hK hG hI (Or.inl rfl) dX4_isOpen_40
  · have hf := ok_f c1 hf
    refine lv_iload_n hx hb dX4_isOpen_20 rfl (lv_at hl 1 rfl) ?_
    refine lv_bipush (v := 13) hx hb dX4_isOpen_21 (by decide) ?_
    refine lv_icmp_ge (tgt := 39) hx hb dX4_isOpen_23 (by decide) (fun c2 => ?_) (fun c2 => ?_)
    · have hf := ok_t c2 hf
      refine lv_iconst (v := 0) hx hb dX4_isOpen_39 (by decide) ?_
      cases hf
      exact z_zret hx hb hr hlk hK hG hI (Or.inl rfl) dX4_isOpen_40
    · have hf := ok_f c2 hf
      refine lv_iload_n hx hb dX4_isOpen_26 rfl (lv_at hl 0 rfl) ?_
      refine lv_iload_n hx hb dX4_isOpen_27 rfl (lv_at hl 1 rfl) ?_
      refine lv_ishr hx hb dX4_isOpen_28 ?_
      refine lv_iconst (v := 1) hx hb dX4_isOpen_29 (by decide) ?_
      refine lv_iand hx hb dX4_isOpen_30 ?_
      refine lv_iconst (v := 1) hx hb dX4_isOpen_31 (by decide) ?_
      refine lv_icmp_ne (tgt := 39) hx hb dX4_isOpen_32 (by decide) (fun c3 => ?_) (fun c3 => ?_)
      · have hf := ok_f c3 hf
        refine lv_iconst (v := 0) hx hb dX4_isOpen_39 (by decide) ?_
        cases hf
        exact z_zret hx hb hr hlk hK hG hI (Or.inl rfl) dX4_isOpen_40
      · have hf := ok_t c3 hf
        refine lv_iconst (v := 1) hx hb dX4_isOpen_35 (by decide) ?_
        refine lv_goto (tgt := 40) hx hb dX4_isOpen_36 (by decide) ?_
        cases hf
        exact z_zret hx hb hr hlk hK hG hI (Or.inr rfl) dX4_isOpen_40

set_option maxRecDepth 100000 in
set_option maxHeartbeats 4000000 in
theorem m_X4_isOpen (G : GT) (l : Launch) {σ : Hp} {g : Nat} {x1 : Int32} {x2 : Int32} {r : Int32} (hg : isG g) (hf : f_X4_isOpen σ g x1 x2 = some r) : MetG G l yX4_isOpen wsX4_isOpen (rmk 0 0) σ [.ref (G.1 + g), .int x1, .int x2] (QI G σ r) := by
  refine met_of (cc := cX4_isOpen) (nL := 4) (ret := (some .boolean)) (by decide) rfl (Nat.le_of_ble_eq_true rfl) ?_
  intro p e s m below meth c C0 hnm hI ls hl
  obtain ⟨hx, hb, hr, hml, hown, hts, hlk, hK, hG⟩ := id C0
  have hl : lv_has ls 4 [(0, .ref (G.1 + g)), (1, .int x1), (2, .int x2)] := hl
  unfold f_X4_isOpen at hf
  refine lv_iload_n hx hb dX4_isOpen_0 rfl (lv_at hl 1 rfl) ?_
  refine lv_if_ne (tgt := 11) hx hb dX4_isOpen_1 (by decide) (fun c1 => ?_) (fun c1 => ?_)
  · have hf := ok_f c1 hf
    refine lv_aload_n hx hb dX4_isOpen_11 rfl (lv_at hl 0 rfl) ?_
    refine z_get (C := RX4) (T := TX4) (N := 11) (ci := 4) (v := .int (gI σ g 9)) hx hb hts i_X4_isOpen_4 hown hK hI g (kd_G hg) (by decide) rfl 9 (by decide) (hts (.fieldLink RX4 44 "FenceYards$Ground" "openLower" "I") (by decide +kernel)) (fun _ h9 => h9) rfl dX4_isOpen_12 ?_
    exact w_X4_isOpen_15 hg C0  hf hI (lv_sub hl [2] rfl)
  · have hf := ok_t c1 hf
    refine lv_aload_n hx hb dX4_isOpen_4 rfl (lv_at hl 0 rfl) ?_
    refine z_get (C := RX4) (T := TX4) (N := 11) (ci := 4) (v := .int (gI σ g 8)) hx hb hts i_X4_isOpen_4 hown hK hI g (kd_G hg) (by decide) rfl 8 (by decide) (hts (.fieldLink RX4 41 "FenceYards$Ground" "openUpper" "I") (by decide +kernel)) (fun _ h9 => h9) rfl dX4_isOpen_5 ?_
    refine lv_goto (tgt := 15) hx hb dX4_isOpen_8 (by decide) ?_
    exact w_X4_isOpen_15 hg C0  hf hI (lv_sub hl [2] rfl)

-- ===== FenceYards$Ground.toldStrip(I)LFenceYards$Strip;
set_option maxRecDepth 100000 in
theorem i_X4_toldStrip_4 : ∀ w ∈ u_ws RX4 TX4 11, w ∈ wsX4_toldStrip := by decide +kernel
def f_X4_toldStrip (σ : Hp) (g : Nat) (x1 : Int32) : Option (Option Nat) :=
  if x1 < 0 then (some none) else (if (gI σ g 6) ≤ x1 then (some none) else (if 12 ≤ x1 then (some none) else (chk (inb x1 12) <| some (gR σ (g + 1) (x1.toNatClampNeg)))))
set_option maxRecDepth 100000 in
set_option maxHeartbeats 4000000 in
theorem m_X4_toldStrip (G : GT) (l : Launch) {σ : Hp} {g : Nat} {x1 : Int32} {r : Option Nat} (hg : isG g) (hf : f_X4_toldStrip σ g x1 = some r) : MetG G l yX4_toldStrip wsX4_toldStrip (rmk 0 0) σ [.ref (G.1 + g), .int x1] (QQ G σ r) := by
  refine met_of (cc := cX4_toldStrip) (nL := 2) (ret := (some (.object "FenceYards$Strip"))) (by decide) rfl (Nat.le_of_ble_eq_true rfl) ?_
  intro p e s m below meth c C0 hnm hI ls hl
  obtain ⟨hx, hb, hr, hml, hown, hts, hlk, hK, hG⟩ := id C0
  have hl : lv_has ls 2 [(0, .ref (G.1 + g)), (1, .int x1)] := hl
  unfold f_X4_toldStrip at hf
  refine lv_iload_n hx hb dX4_toldStrip_0 rfl (lv_at hl 1 rfl) ?_
  refine lv_if_lt (tgt := 27) hx hb dX4_toldStrip_1 (by decide) (fun c1 => ?_) (fun c1 => ?_)
  · have hf := ok_t c1 hf
    refine lv_null hx hb dX4_toldStrip_27 ?_
    cases hf
    exact z_aret (r := none) rfl hx hb hr hlk hK hG hI dX4_toldStrip_28
  · have hf := ok_f c1 hf
    refine lv_iload_n hx hb dX4_toldStrip_4 rfl (lv_at hl 1 rfl) ?_
    refine lv_aload_n hx hb dX4_toldStrip_5 rfl (lv_at hl 0 rfl) ?_
    refine z_get (C := RX4) (T := TX4) (N := 11) (ci := 4) (v := .int (gI σ g 6)) hx hb hts i_X4_toldStrip_4 hown hK hI g (kd_G hg) (by decide) rfl 6 (by decide) (hts (.fieldLink RX4 34 "FenceYards$Ground" "told" "I") (by decide +kernel)) (fun _ h9 => h9) rfl dX4_toldStrip_6 ?_
    refine lv_icmp_ge (tgt := 27) hx hb dX4_toldStrip_9 (by decide) (fun c2 => ?_) (fun c2 => ?_)
    · have hf := ok_t c2 hf
      refine lv_null hx hb dX4_toldStrip_27 ?_
      cases hf
      exact z_aret (r := none) rfl hx hb hr hlk hK hG hI dX4_toldStrip_28
    · have hf := ok_f c2 hf
      refine lv_iload_n hx hb dX4_toldStrip_12 rfl (lv_at hl 1 rfl) ?_
      refine lv_bipush (v := 12) hx hb dX4_toldStrip_13 (by decide) ?_
      refine lv_icmp_ge (tgt := 27) hx hb dX4_toldStrip_15 (by decide) (fun c3 => ?_) (fun c3 => ?_)
      · have hf := ok_t c3 hf
        refine lv_null hx hb dX4_toldStrip_27 ?_
        cases hf
        exact z_aret (r := none) rfl hx hb hr hlk hK hG hI dX4_toldStrip_28
      · have hf := ok_f c3 hf
        refine lv_aload_n hx hb dX4_toldStrip_18 rfl (lv_at hl 0 rfl) ?_
        refine z_get (C := RX4) (T := TX4) (N := 11) (ci := 4) (v := .ref (G.1 + (g + 1))) hx hb hts i_X4_toldStrip_4 hown hK hI g (kd_G hg) (by decide) rfl 0 (by decide) (hts (.fieldLink RX4 11 "FenceYards$Ground" "strips" "[LFenceYards$Strip;") (by decide +kernel)) (fun _ h9 => h9) rfl dX4_toldStrip_19 ?_
        refine lv_iload_n hx hb dX4_toldStrip_22 rfl (lv_at hl 1 rfl) ?_
        obtain ⟨h1, hf⟩ := ok_c hf
        refine z_ald hx hb hK hI (g + 1) (k := x1.toNatClampNeg) (kd_G1 hg) h1 rfl dX4_toldStrip_23 ?_
        refine lv_goto (tgt := 28) hx hb dX4_toldStrip_24 (by decide) ?_
        cases hf
        exact z_aret (r := (gR σ (g + 1) (x1.toNatClampNeg))) rfl hx hb hr hlk hK hG hI dX4_toldStrip_28

-- ===== FenceYards$Ground.passDay(IIII)V
set_option maxRecDepth 100000 in
theorem i_X4_passDay_4 : ∀ w ∈ u_ws RX4 TX4 11, w ∈ wsX4_passDay := by decide +kernel
def f_X4_passDay (σ : Hp) (g : Nat) (x1 : Int32) (x2 : Int32) (x3 : Int32) (x4 : Int32) : Option (Hp) :=
  if 12 ≤ (gI σ g 10) then (some σ) else (chk (inb ((gI σ g 10) + 1) 13) <| chk (inb ((gI (sI σ (g + 2) (((gI σ g 10) + 1).toNatClampNeg) x1) g 10) + 1) 13) <| bnd (sI (sI σ (g + 2) (((gI σ g 10) + 1).toNatClampNeg) x1) (g + 3) (((gI (sI σ (g + 2) (((gI σ g 10) + 1).toNatClampNeg) x1) g 10) + 1).toNatClampNeg) x2) fun s1 => chk (inb (gI s1 g 10) 13) <| chk (inb ((gI s1 g 10) + 1) 13) <| bnd (sI s1 (g + 4) (((gI s1 g 10) + 1).toNatClampNeg) ((gI s1 (g + 4) ((gI s1 g 10).toNatClampNeg)) + x3)) fun s2 => chk (inb (gI s2 g 10) 13) <| chk (inb ((gI s2 g 10) + 1) 13) <| bnd (sI s2 (g + 5) (((gI s2 g 10) + 1).toNatClampNeg) ((gI s2 (g + 5) ((gI s2 g 10).toNatClampNeg)) + x4)) fun s3 => some (sI s3 g 10 ((gI s3 g 10) + 1)))
set_option maxRecDepth 100000 in
set_option maxHeartbeats 4000000 in
theorem m_X4_passDay (G : GT) (l : Launch) {σ : Hp} {g : Nat} {x1 : Int32} {x2 : Int32} {x3 : Int32} {x4 : Int32} {σ' : Hp} (hg : isG g) (hf : f_X4_passDay σ g x1 x2 x3 x4 = some σ') : MetG G l yX4_passDay wsX4_passDay (rmk 0 0) σ [.ref (G.1 + g), .int x1, .int x2, .int x3, .int x4] (QV G σ') := by
  refine met_of (cc := cX4_passDay) (nL := 5) (ret := none) (by decide) rfl (Nat.le_of_ble_eq_true rfl) ?_
  intro p e s m below meth c C0 hnm hI ls hl
  obtain ⟨hx, hb, hr, hml, hown, hts, hlk, hK, hG⟩ := id C0
  have hl : lv_has ls 5 [(0, .ref (G.1 + g)), (1, .int x1), (2, .int x2), (3, .int x3), (4, .int x4)] := hl
  unfold f_X4_passDay at hf
  refine lv_aload_n hx hb dX4_passDay_0 rfl (lv_at hl 0 rfl) ?_
  refine z_get (C := RX4) (T := TX4) (N := 11) (ci := 4) (v := .int (gI σ g 10)) hx hb hts i_X4_passDay_4 hown hK hI g (kd_G hg) (by decide) rfl 10 (by decide) (hts (.fieldLink RX4 47 "FenceYards$Ground" "today" "I") (by decide +kernel)) (fun _ h9 => h9) rfl dX4_passDay_1 ?_
  refine lv_bipush (v := 12) hx hb dX4_passDay_4 (by decide) ?_
  refine lv_icmp_ge (tgt := 88) hx hb dX4_passDay_6 (by decide) (fun c1 => ?_) (fun c1 => ?_)
  · have hf := ok_t c1 hf
    cases hf
    exact z_vret hx hb hr hlk hK hG hI dX4_passDay_88
  · have hf := ok_f c1 hf
    refine lv_aload_n hx hb dX4_passDay_9 rfl (lv_at hl 0 rfl) ?_
    refine z_get (C := RX4) (T := TX4) (N := 11) (ci := 4) (v := .ref (G.1 + (g + 2))) hx hb hts i_X4_passDay_4 hown hK hI g (kd_G hg) (by decide) rfl 1 (by decide) (hts (.fieldLink RX4 17 "FenceYards$Ground" "uppers" "[I") (by decide +kernel)) (fun _ h9 => h9) rfl dX4_passDay_10 ?_
    refine lv_aload_n hx hb dX4_passDay_13 rfl (lv_at hl 0 rfl) ?_
    refine z_get (C := RX4) (T := TX4) (N := 11) (ci := 4) (v := .int (gI σ g 10)) hx hb hts i_X4_passDay_4 hown hK hI g (kd_G hg) (by decide) rfl 10 (by decide) (hts (.fieldLink RX4 47 "FenceYards$Ground" "today" "I") (by decide +kernel)) (fun _ h9 => h9) rfl dX4_passDay_14 ?_
    refine lv_iconst (v := 1) hx hb dX4_passDay_17 (by decide) ?_
    refine lv_iadd hx hb dX4_passDay_18 ?_
    refine lv_iload_n hx hb dX4_passDay_19 rfl (lv_at hl 1 rfl) ?_
    obtain ⟨h1, hf⟩ := ok_c hf
    refine z_iast hx hb hK hI (g + 2) (k := ((gI σ g 10) + 1).toNatClampNeg) (kd_G2 hg) h1 rfl dX4_passDay_20 (fun H locs hI => ?_)
    refine lv_aload_n hx hb dX4_passDay_21 rfl (lv_at hl 0 rfl) ?_
    refine z_get (C := RX4) (T := TX4) (N := 11) (ci := 4) (v := .ref (G.1 + (g + 3))) hx hb hts i_X4_passDay_4 hown hK hI g (kd_G hg) (by decide) rfl 2 (by decide) (hts (.fieldLink RX4 21 "FenceYards$Ground" "lowers" "[I") (by decide +kernel)) (fun _ h9 => h9) rfl dX4_passDay_22 ?_
    refine lv_aload_n hx hb dX4_passDay_25 rfl (lv_at hl 0 rfl) ?_
    refine z_get (C := RX4) (T := TX4) (N := 11) (ci := 4) (v := .int (gI (sI σ (g + 2) (((gI σ g 10) + 1).toNatClampNeg) x1) g 10)) hx hb hts i_X4_passDay_4 hown hK hI g (kd_G hg) (by decide) rfl 10 (by decide) (hts (.fieldLink RX4 47 "FenceYards$Ground" "today" "I") (by decide +kernel)) (fun _ h9 => h9) rfl dX4_passDay_26 ?_
    refine lv_iconst (v := 1) hx hb dX4_passDay_29 (by decide) ?_
    refine lv_iadd hx hb dX4_passDay_30 ?_
    refine lv_iload_n hx hb dX4_passDay_31 rfl (lv_at hl 2 rfl) ?_
    obtain ⟨h2, hf⟩ := ok_c hf
    refine z_iast hx hb hK hI (g + 3) (k := ((gI (sI σ (g + 2) (((gI σ g 10) + 1).toNatClampNeg) x1) g 10) + 1).toNatClampNeg) (kd_G3 hg) h2 rfl dX4_passDay_32 (fun H locs hI => ?_)
    obtain ⟨s1, es1⟩ : ∃ z, z = sI (sI σ (g + 2) (((gI σ g 10) + 1).toNatClampNeg) x1) (g + 3) (((gI (sI σ (g + 2) (((gI σ g 10) + 1).toNatClampNeg) x1) g 10) + 1).toNatClampNeg) x2 := ⟨_, rfl⟩
    have hI : Inv G s s1 H locs := by rw [es1]; exact hI
    have hf := ok_n hf es1
    refine lv_aload_n hx hb dX4_passDay_33 rfl (lv_at hl 0 rfl) ?_
    refine z_get (C := RX4) (T := TX4) (N := 11) (ci := 4) (v := .ref (G.1 + (g + 4))) hx hb hts i_X4_passDay_4 hown hK hI g (kd_G hg) (by decide) rfl 3 (by decide) (hts (.fieldLink RX4 24 "FenceYards$Ground" "lefts" "[I") (by decide +kernel)) (fun _ h9 => h9) rfl dX4_passDay_34 ?_
    refine lv_aload_n hx hb dX4_passDay_37 rfl (lv_at hl 0 rfl) ?_
    refine z_get (C := RX4) (T := TX4) (N := 11) (ci := 4) (v := .int (gI s1 g 10)) hx hb hts i_X4_passDay_4 hown hK hI g (kd_G hg) (by decide) rfl 10 (by decide) (hts (.fieldLink RX4 47 "FenceYards$Ground" "today" "I") (by decide +kernel)) (fun _ h9 => h9) rfl dX4_passDay_38 ?_
    refine lv_iconst (v := 1) hx hb dX4_passDay_41 (by decide) ?_
    refine lv_iadd hx hb dX4_passDay_42 ?_
    refine lv_aload_n hx hb dX4_passDay_43 rfl (lv_at hl 0 rfl) ?_
    refine z_get (C := RX4) (T := TX4) (N := 11) (ci := 4) (v := .ref (G.1 + (g + 4))) hx hb hts i_X4_passDay_4 hown hK hI g (kd_G hg) (by decide) rfl 3 (by decide) (hts (.fieldLink RX4 24 "FenceYards$Ground" "lefts" "[I") (by decide +kernel)) (fun _ h9 => h9) rfl dX4_passDay_44 ?_
    refine lv_aload_n hx hb dX4_passDay_47 rfl (lv_at hl 0 rfl) ?_
    refine z_get (C := RX4) (T := TX4) (N := 11) (ci := 4) (v := .int (gI s1 g 10)) hx hb hts i_X4_passDay_4 hown hK hI g (kd_G hg) (by decide) rfl 10 (by decide) (hts (.fieldLink RX4 47 "FenceYards$Ground" "today" "I") (by decide +kernel)) (fun _ h9 => h9) rfl dX4_passDay_48 ?_
    obtain ⟨h3, hf⟩ := ok_c hf
    refine z_iald hx hb hK hI (g + 4) (k := (gI s1 g 10).toNatClampNeg) (kd_G4 hg) h3 rfl dX4_passDay_51 ?_
    refine lv_iload_n hx hb dX4_passDay_52 rfl (lv_at hl 3 rfl) ?_
    refine lv_iadd hx hb dX4_passDay_53 ?_
    obtain ⟨h4, hf⟩ := ok_c hf
    refine z_iast hx hb hK hI (g + 4) (k := ((gI s1 g 10) + 1).toNatClampNeg) (kd_G4 hg) h4 rfl dX4_passDay_54 (fun H locs hI => ?_)
    obtain ⟨s2, es2⟩ : ∃ z, z = sI s1 (g + 4) (((gI s1 g 10) + 1).toNatClampNeg) ((gI s1 (g + 4) ((gI s1 g 10).toNatClampNeg)) + x3) := ⟨_, rfl⟩
    have hI : Inv G s s2 H locs := by rw [es2]; exact hI
    have hf := ok_n hf es2
    refine lv_aload_n hx hb dX4_passDay_55 rfl (lv_at hl 0 rfl) ?_
    refine z_get (C := RX4) (T := TX4) (N := 11) (ci := 4) (v := .ref (G.1 + (g + 5))) hx hb hts i_X4_passDay_4 hown hK hI g (kd_G hg) (by decide) rfl 4 (by decide) (hts (.fieldLink RX4 27 "FenceYards$Ground" "rights" "[I") (by decide +kernel)) (fun _ h9 => h9) rfl dX4_passDay_56 ?_
    refine lv_aload_n hx hb dX4_passDay_59 rfl (lv_at hl 0 rfl) ?_
    refine z_get (C := RX4) (T := TX4) (N := 11) (ci := 4) (v := .int (gI s2 g 10)) hx hb hts i_X4_passDay_4 hown hK hI g (kd_G hg) (by decide) rfl 10 (by decide) (hts (.fieldLink RX4 47 "FenceYards$Ground" "today" "I") (by decide +kernel)) (fun _ h9 => h9) rfl dX4_passDay_60 ?_
    refine lv_iconst (v := 1) hx hb dX4_passDay_63 (by decide) ?_
    refine lv_iadd hx hb dX4_passDay_64 ?_
    refine lv_aload_n hx hb dX4_passDay_65 rfl (lv_at hl 0 rfl) ?_
    refine z_get (C := RX4) (T := TX4) (N := 11) (ci := 4) (v := .ref (G.1 + (g + 5))) hx hb hts i_X4_passDay_4 hown hK hI g (kd_G hg) (by decide) rfl 4 (by decide) (hts (.fieldLink RX4 27 "FenceYards$Ground" "rights" "[I") (by decide +kernel)) (fun _ h9 => h9) rfl dX4_passDay_66 ?_
    refine lv_aload_n hx hb dX4_passDay_69 rfl (lv_at hl 0 rfl) ?_
    refine z_get (C := RX4) (T := TX4) (N := 11) (ci := 4) (v := .int (gI s2 g 10)) hx hb hts i_X4_passDay_4 hown hK hI g (kd_G hg) (by decide) rfl 10 (by decide) (hts (.fieldLink RX4 47 "FenceYards$Ground" "today" "I") (by decide +kernel)) (fun _ h9 => h9) rfl dX4_passDay_70 ?_
    obtain ⟨h5, hf⟩ := ok_c hf
    refine z_iald hx hb hK hI (g + 5) (k := (gI s2 g 10).toNatClampNeg) (kd_G5 hg) h5 rfl dX4_passDay_73 ?_
    refine lv_iload hx hb dX4_passDay_74 (lv_at hl 4 rfl) ?_
    refine lv_iadd hx hb dX4_passDay_76 ?_
    obtain ⟨h6, hf⟩ := ok_c hf
    refine z_iast hx hb hK hI (g + 5) (k := ((gI s2 g 10) + 1).toNatClampNeg) (kd_G5 hg) h6 rfl dX4_passDay_77 (fun H locs hI => ?_)
    obtain ⟨s3, es3⟩ : ∃ z, z = sI s2 (g + 5) (((gI s2 g 10) + 1).toNatClampNeg) ((gI s2 (g + 5) ((gI s2 g 10).toNatClampNeg)) + x4) := ⟨_, rfl⟩
    have hI : Inv G s s3 H locs := by rw [es3]; exact hI
    have hf := ok_n hf es3
    refine lv_aload_n hx hb dX4_passDay_78 rfl (lv_at hl 0 rfl) ?_
    refine lv_dup hx hb dX4_passDay_79 rfl ?_
    refine z_get (C := RX4) (T := TX4) (N := 11) (ci := 4) (v := .int (gI s3 g 10)) hx hb hts i_X4_passDay_4 hown hK hI g (kd_G hg) (by decide) rfl 10 (by decide) (hts (.fieldLink RX4 47 "FenceYards$Ground" "today" "I") (by decide +kernel)) (fun _ h9 => h9) rfl dX4_passDay_80 ?_
    refine lv_iconst (v := 1) hx hb dX4_passDay_83 (by decide) ?_
    refine lv_iadd hx hb dX4_passDay_84 ?_
    refine z_put (C := RX4) (T := TX4) (N := 11) (ci := 4) (ty := .int) (v := .int ((gI s3 g 10) + 1)) hx hb hts i_X4_passDay_4 tyX4 tyX4_ok nmX4 hown hK hI g (kd_G hg) (by decide) rfl 10 (by decide) (hts (.fieldLink RX4 47 "FenceYards$Ground" "today" "I") (by decide +kernel)) (fun _ h9 => h9) rfl (by decide +kernel) rfl rfl (Nat.le_of_ble_eq_true rfl) (set_I hI.2.2.2 (kd_G hg) (by decide) rfl) rfl hI.2.2.2 dX4_passDay_85 (fun H locs hI => ?_)
    cases hf
    exact z_vret hx hb hr hlk hK hG hI dX4_passDay_88

-- ===== FenceYards$Ground.leftSoFar()I
set_option maxRecDepth 100000 in
theorem i_X4_leftSoFar_4 : ∀ w ∈ u_ws RX4 TX4 11, w ∈ wsX4_leftSoFar := by decide +kernel
def f_X4_leftSoFar (σ : Hp) (g : Nat) : Option (Int32) :=
  chk (inb (gI σ g 10) 13) <| some (gI σ (g + 4) ((gI σ g 10).toNatClampNeg))
set_option maxRecDepth 100000 in
set_option maxHeartbeats 4000000 in
theorem m_X4_leftSoFar (G : GT) (l : Launch) {σ : Hp} {g : Nat} {r : Int32} (hg : isG g) (hf : f_X4_leftSoFar σ g = some r) : MetG G l yX4_leftSoFar wsX4_leftSoFar (rmk 0 0) σ [.ref (G.1 + g)] (QI G σ r) := by
  refine met_of (cc := cX4_leftSoFar) (nL := 1) (ret := (some .int)) (by decide) rfl (Nat.le_of_ble_eq_true rfl) ?_
  intro p e s m below meth c C0 hnm hI ls hl
  obtain ⟨hx, hb, hr, hml, hown, hts, hlk, hK, hG⟩ := id C0
  have hl : lv_has ls 1 [(0, .ref (G.1 + g))] := hl
  unfold f_X4_leftSoFar at hf
  refine lv_aload_n hx hb dX4_leftSoFar_0 rfl (lv_at hl 0 rfl) ?_
  refine z_get (C := RX4) (T := TX4) (N := 11) (ci := 4) (v := .ref (G.1 + (g + 4))) hx hb hts i_X4_leftSoFar_4 hown hK hI g (kd_G hg) (by decide) rfl 3 (by decide) (hts (.fieldLink RX4 24 "FenceYards$Ground" "lefts" "[I") (by decide +kernel)) (fun _ h9 => h9) rfl dX4_leftSoFar_1 ?_
  refine lv_aload_n hx hb dX4_leftSoFar_4 rfl (lv_at hl 0 rfl) ?_
  refine z_get (C := RX4) (T := TX4) (N := 11) (ci := 4) (v := .int (gI σ g 10)) hx hb hts i_X4_leftSoFar_4 hown hK hI g (kd_G hg) (by decide) rfl 10 (by decide) (hts (.fieldLink RX4 47 "FenceYards$Ground" "today" "I") (by decide +kernel)) (fun _ h9 => h9) rfl dX4_leftSoFar_5 ?_
  obtain ⟨h1, hf⟩ := ok_c hf
  refine z_iald hx hb hK hI (g + 4) (k := (gI σ g 10).toNatClampNeg) (kd_G4 hg) h1 rfl dX4_leftSoFar_8 ?_
  cases hf
  exact z_iret hx hb hr hlk hK hG hI dX4_leftSoFar_9

-- ===== FenceYards$Ground.rightSoFar()I
set_option maxRecDepth 100000 in
theorem i_X4_rightSoFar_4 : ∀ w ∈ u_ws RX4 TX4 11, w ∈ wsX4_rightSoFar := by decide +kernel
def f_X4_rightSoFar (σ : Hp) (g : Nat) : Option (Int32) :=
  chk (inb (gI σ g 10) 13) <| some (gI σ (g + 5) ((gI σ g 10).toNatClampNeg))
set_option maxRecDepth 100000 in
set_option maxHeartbeats 4000000 in
theorem m_X4_rightSoFar (G : GT) (l : Launch) {σ : Hp} {g : Nat} {r : Int32} (hg : isG g) (hf : f_X4_rightSoFar σ g = some r) : MetG G l yX4_rightSoFar wsX4_rightSoFar (rmk 0 0) σ [.ref (G.1 + g)] (QI G σ r) := by
  refine met_of (cc := cX4_rightSoFar) (nL := 1) (ret := (some .int)) (by decide) rfl (Nat.le_of_ble_eq_true rfl) ?_
  intro p e s m below meth c C0 hnm hI ls hl
  obtain ⟨hx, hb, hr, hml, hown, hts, hlk, hK, hG⟩ := id C0
  have hl : lv_has ls 1 [(0, .ref (G.1 + g))] := hl
  unfold f_X4_rightSoFar at hf
  refine lv_aload_n hx hb dX4_rightSoFar_0 rfl (lv_at hl 0 rfl) ?_
  refine z_get (C := RX4) (T := TX4) (N := 11) (ci := 4) (v := .ref (G.1 + (g + 5))) hx hb hts i_X4_rightSoFar_4 hown hK hI g (kd_G hg) (by decide) rfl 4 (by decide) (hts (.fieldLink RX4 27 "FenceYards$Ground" "rights" "[I") (by decide +kernel)) (fun _ h9 => h9) rfl dX4_rightSoFar_1 ?_
  refine lv_aload_n hx hb dX4_rightSoFar_4 rfl (lv_at hl 0 rfl) ?_
  refine z_get (C := RX4) (T := TX4) (N := 11) (ci := 4) (v := .int (gI σ g 10)) hx hb hts i_X4_rightSoFar_4 hown hK hI g (kd_G hg) (by decide) rfl 10 (by decide) (hts (.fieldLink RX4 47 "FenceYards$Ground" "today" "I") (by decide +kernel)) (fun _ h9 => h9) rfl dX4_rightSoFar_5 ?_
  obtain ⟨h1, hf⟩ := ok_c hf
  refine z_iald hx hb hK hI (g + 5) (k := (gI σ g 10).toNatClampNeg) (kd_G5 hg) h1 rfl dX4_rightSoFar_8 ?_
  cases hf
  exact z_iret hx hb hr hlk hK hG hI dX4_rightSoFar_9

-- ===== FenceYards$Ground.daysOf(I)I
set_option maxRecDepth 100000 in
theorem i_X4_daysOf_4 : ∀ w ∈ u_ws RX4 TX4 11, w ∈ wsX4_daysOf := by decide +kernel
def f_X4_daysOf (σ : Hp) (g : Nat) (x1 : Int32) : Option (Int32) :=
  some (if (12 - (gI σ g 10)) < x1 then (12 - (gI σ g 10)) else x1)
set_option maxRecDepth 100000 in
set_option maxHeartbeats 4000000 in
theorem m_X4_daysOf (G : GT) (l : Launch) {σ : Hp} {g : Nat} {x1 : Int32} {r : Int32} (hg : isG g) (hf : f_X4_daysOf σ g x1 = some r) : MetG G l yX4_daysOf wsX4_daysOf (rmk 1 24) σ [.ref (G.1 + g), .int x1] (QI G σ r) := by
  refine met_of (cc := cX4_daysOf) (nL := 2) (ret := (some .int)) (by decide) rfl (Nat.le_of_ble_eq_true rfl) ?_
  intro p e s m below meth c C0 hnm hI ls hl
  obtain ⟨hx, hb, hr, hml, hown, hts, hlk, hK, hG⟩ := id C0
  have hl : lv_has ls 2 [(0, .ref (G.1 + g)), (1, .int x1)] := hl
  unfold f_X4_daysOf at hf
  refine lv_iload_n hx hb dX4_daysOf_0 rfl (lv_at hl 1 rfl) ?_
  refine lv_bipush (v := 12) hx hb dX4_daysOf_1 (by decide) ?_
  refine lv_aload_n hx hb dX4_daysOf_3 rfl (lv_at hl 0 rfl) ?_
  refine z_get (C := RX4) (T := TX4) (N := 11) (ci := 4) (v := .int (gI σ g 10)) hx hb hts i_X4_daysOf_4 hown hK hI g (kd_G hg) (by decide) rfl 10 (by decide) (hts (.fieldLink RX4 47 "FenceYards$Ground" "today" "I") (by decide +kernel)) (fun _ h9 => h9) rfl dX4_daysOf_4 ?_
  refine lv_isub hx hb dX4_daysOf_7 ?_
  refine va_mmin hx hb (hml.trans hl.1.symm) hown (hts (.methodLink RX4 56 Lib.Math.min.name) (by decide +kernel)) (hts (.static Lib.Math.min.name) (by decide +kernel)) (hts (.initialized "java/lang/Math") (by decide +kernel)) (hts (.code Lib.Math.min.name Lib.Math.min.code 2 (some .int)) (by decide +kernel)) (Nat.le_of_ble_eq_true rfl) (Nat.le_of_ble_eq_true rfl) (Nat.zero_le _) (Nat.zero_le _) dX4_daysOf_8 ?_
  cases hf
  exact z_iret hx hb hr hlk hK hG hI dX4_daysOf_11

-- ===== FenceYards$Ground.lowestOn(II)I
def f_X4_lowestOn_9  (g : Nat) (σ : Hp) (x1 : Int32) (x2 : Int32) : Nat → Int32 → Int32 → Option (Int32)
  | 0, _, _ => none
  | n + 1, x3, x4 =>
    if x2 ≤ x4 then (some x3) else (bd1 (f_X4_isOpen σ g x1 (x3 - 1)) fun r1 => if r1 = 0 then (some x3) else (f_X4_lowestOn_9 g σ x1 x2 n (x3 + (-1)) (x4 + 1)))
def f_X4_lowestOn (σ : Hp) (g : Nat) (x1 : Int32) (x2 : Int32) : Option (Int32) :=
  bd1 (f_X4_endOn σ g x1) fun r1 => f_X4_lowestOn_9 g σ x1 x2 fu r1 0
set_option maxRecDepth 100000 in
set_option maxHeartbeats 4000000 in
theorem w_X4_lowestOn_9 {G : GT} {p : Program} {l : Launch} {e : Env} {s : State} {m : MethodId} {args : Array Value} {below : List Frame} {meth : Method} {c : Code} {g : Nat} {r : Int32}  {σ : Hp} {x1 : Int32} {x2 : Int32} (hg : isG g) (C0 : Cx G cX4_lowestOn RX4 wsX4_lowestOn 5 (some .int) p s m args meth c)  :
    ∀ (n : Nat) (x3 : Int32) (x4 : Int32), f_X4_lowestOn_9 g σ x1 x2 n x3 x4 = some r → ∀ (H : Heap) (locs : List Loc), Inv G s σ H locs → ∀ ls : Array Slot, lv_has ls 5 [(0, .ref (G.1 + g)), (1, .int x1), (2, .int x2), (3, .int x3), (4, .int x4)] → W p l e (rmk 1 23) s m args below meth c H locs 0 0 (MQ below (QI G σ r) args s (rmk 1 23).cells (rmk 1 23).slots (gA G)) (F0 m 9 ls []) := by
  obtain ⟨hx, hb, hr, hml, hown, hts, hlk, hK, hG⟩ := id C0
  intro n
  induction n with
  | zero =>
    intro x3 x4 hf
    cases hf
  | succ n ih =>
    intro x3 x4 hf H locs hI ls hl
    rw [f_X4_lowestOn_9] at hf
    refine lv_iload hx hb dX4_lowestOn_9 (lv_at hl 4 rfl) ?_
    refine lv_iload_n hx hb dX4_lowestOn_11 rfl (lv_at hl 2 rfl) ?_
    refine lv_icmp_ge (tgt := 35) hx hb dX4_lowestOn_12 (by decide) (fun c1 => ?_) (fun c1 => ?_)
    · have hf := ok_t c1 hf
      refine lv_iload_n hx hb dX4_lowestOn_35 rfl (lv_at hl 3 rfl) ?_
      cases hf
      exact z_iret hx hb hr hlk hK hG hI dX4_lowestOn_36
    · have hf := ok_f c1 hf
      refine lv_aload_n hx hb dX4_lowestOn_15 rfl (lv_at hl 0 rfl) ?_
      refine lv_iload_n hx hb dX4_lowestOn_16 rfl (lv_at hl 1 rfl) ?_
      refine lv_iload_n hx hb dX4_lowestOn_17 rfl (lv_at hl 3 rfl) ?_
      refine lv_iconst (v := 1) hx hb dX4_lowestOn_18 (by decide) ?_
      refine lv_isub hx hb dX4_lowestOn_19 ?_
      obtain ⟨r1, hc1, hf⟩ := ok_1 hf
      refine z_calli0 rfl rfl hI (va_runV (As := [.int x1, .int (x3 - 1)]) (rest := []) ⟨hx, hb, hml, hown, hts⟩ (m_X4_isOpen G l hg hc1) (cwV 2 hts gX4_lowestOn_X4_isOpen rfl rfl rfl (by decide +kernel) ⟨Nat.le_of_ble_eq_true rfl, Nat.le_of_ble_eq_true rfl⟩) (z_preV hK hG hI (z_rc (q := g) (ci := 4) (n := 0) hK hI (kd_G hg) (by decide) rfl)) rfl rfl hl.1 rfl (lv_room (Nat.le_of_ble_eq_true rfl)) dX4_lowestOn_20 ⟨Nat.zero_le _, Nat.zero_le _⟩) (fun H locs hI => ?_)
      refine lv_if_eq (tgt := 35) hx hb dX4_lowestOn_23 (by decide) (fun c2 => ?_) (fun c2 => ?_)
      · have hf := ok_t c2 hf
        refine lv_iload_n hx hb dX4_lowestOn_35 rfl (lv_at hl 3 rfl) ?_
        cases hf
        exact z_iret hx hb hr hlk hK hG hI dX4_lowestOn_36
      · have hf := ok_f c2 hf
        refine lv_iinc (v := x3 + (-1)) (lv' := [(3, .int (x3 + (-1))), (0, .ref (G.1 + g)), (1, .int x1), (2, .int x2), (4, .int x4)]) hx hb dX4_lowestOn_26 hl (k := 3) rfl rfl (by decide) rfl (fun ls hl => ?_)
        refine lv_iinc (v := x4 + 1) (lv' := [(4, .int (x4 + 1)), (3, .int (x3 + (-1))), (0, .ref (G.1 + g)), (1, .int x1), (2, .int x2)]) hx hb dX4_lowestOn_29 hl (k := 4) rfl rfl (by decide) rfl (fun ls hl => ?_)
        refine lv_goto (tgt := 9) hx hb dX4_lowestOn_32 (by decide) ?_
        exact ih _ _ hf _ _ hI _ (lv_sub hl [2, 3, 4, 1, 0] rfl)

set_option maxRecDepth 100000 in
set_option maxHeartbeats 4000000 in
theorem m_X4_lowestOn (G : GT) (l : Launch) {σ : Hp} {g : Nat} {x1 : Int32} {x2 : Int32} {r : Int32} (hg : isG g) (hf : f_X4_lowestOn σ g x1 x2 = some r) : MetG G l yX4_lowestOn wsX4_lowestOn (rmk 1 23) σ [.ref (G.1 + g), .int x1, .int x2] (QI G σ r) := by
  refine met_of (cc := cX4_lowestOn) (nL := 5) (ret := (some .int)) (by decide) rfl (Nat.le_of_ble_eq_true rfl) ?_
  intro p e s m below meth c C0 hnm hI ls hl
  obtain ⟨hx, hb, hr, hml, hown, hts, hlk, hK, hG⟩ := id C0
  have hl : lv_has ls 5 [(0, .ref (G.1 + g)), (1, .int x1), (2, .int x2)] := hl
  unfold f_X4_lowestOn at hf
  refine lv_aload_n hx hb dX4_lowestOn_0 rfl (lv_at hl 0 rfl) ?_
  refine lv_iload_n hx hb dX4_lowestOn_1 rfl (lv_at hl 1 rfl) ?_
  obtain ⟨r1, hc1, hf⟩ := ok_1 hf
  refine z_calli0 rfl rfl hI (va_runV (As := [.int x1]) (rest := []) ⟨hx, hb, hml, hown, hts⟩ (m_X4_endOn G l hg hc1) (cwV 1 hts gX4_lowestOn_X4_endOn rfl rfl rfl (by decide +kernel) ⟨Nat.le_of_ble_eq_true rfl, Nat.le_of_ble_eq_true rfl⟩) (z_preV hK hG hI (z_rc (q := g) (ci := 4) (n := 0) hK hI (kd_G hg) (by decide) rfl)) rfl rfl hl.1 rfl (lv_room (Nat.le_of_ble_eq_true rfl)) dX4_lowestOn_2 ⟨Nat.zero_le _, Nat.zero_le _⟩) (fun H locs hI => ?_)
  refine lv_istore_n (lv' := [(3, .int r1), (0, .ref (G.1 + g)), (1, .int x1), (2, .int x2)]) hx hb dX4_lowestOn_5 rfl hl (by decide) rfl (fun ls hl => ?_)
  refine lv_iconst (v := 0) hx hb dX4_lowestOn_6 (by decide) ?_
  refine lv_istore (lv' := [(4, .int 0), (3, .int r1), (0, .ref (G.1 + g)), (1, .int x1), (2, .int x2)]) hx hb dX4_lowestOn_7 hl (by decide) rfl (fun ls hl => ?_)
  exact w_X4_lowestOn_9 hg C0  _ _ _ hf _ _ hI _ (lv_sub hl [2, 3, 4, 1, 0] rfl)

-- ===== FenceYards$Ground.highestOn(II)I
def f_X4_highestOn_9  (g : Nat) (σ : Hp) (x1 : Int32) (x2 : Int32) : Nat → Int32 → Int32 → Option (Int32)
  | 0, _, _ => none
  | n + 1, x3, x4 =>
    if x2 ≤ x4 then (some x3) else (bd1 (f_X4_isOpen σ g x1 (x3 + 1)) fun r1 => if r1 = 0 then (some x3) else (f_X4_highestOn_9 g σ x1 x2 n (x3 + 1) (x4 + 1)))
def f_X4_highestOn (σ : Hp) (g : Nat) (x1 : Int32) (x2 : Int32) : Option (Int32) :=
  bd1 (f_X4_endOn σ g x1) fun r1 => f_X4_highestOn_9 g σ x1 x2 fu r1 0
set_option maxRecDepth 100000 in
set_option maxHeartbeats 4000000 in
theorem w_X4_highestOn_9 {G : GT} {p : Program} {l : Launch} {e : Env} {s : State} {m : MethodId} {args : Array Value} {below : List Frame} {meth : Method} {c : Code} {g : Nat} {r : Int32}  {σ : Hp} {x1 : Int32} {x2 : Int32} (hg : isG g) (C0 : Cx G cX4_highestOn RX4 wsX4_highestOn 5 (some .int) p s m args meth c)  :
    ∀ (n : Nat) (x3 : Int32) (x4 : Int32), f_X4_highestOn_9 g σ x1 x2 n x3 x4 = some r → ∀ (H : Heap) (locs : List Loc), Inv G s σ H locs → ∀ ls : Array Slot, lv_has ls 5 [(0, .ref (G.1 + g)), (1, .int x1), (2, .int x2), (3, .int x3), (4, .int x4)] → W p l e (rmk 1 23) s m args below meth c H locs 0 0 (MQ below (QI G σ r) args s (rmk 1 23).cells (rmk 1 23).slots (gA G)) (F0 m 9 ls []) := by
  obtain ⟨hx, hb, hr, hml, hown, hts, hlk, hK, hG⟩ := id C0
  intro n
  induction n with
  | zero =>
    intro x3 x4 hf
    cases hf
  | succ n ih =>
    intro x3 x4 hf H locs hI ls hl
    rw [f_X4_highestOn_9] at hf
    refine lv_iload hx hb dX4_highestOn_9 (lv_at hl 4 rfl) ?_
    refine lv_iload_n hx hb dX4_highestOn_11 rfl (lv_at hl 2 rfl) ?_
    refine lv_icmp_ge (tgt := 35) hx hb dX4_highestOn_12 (by decide) (fun c1 => ?_) (fun c1 => ?_)
    · have hf := ok_t c1 hf
      refine lv_iload_n hx hb dX4_highestOn_35 rfl (lv_at hl 3 rfl) ?_
      cases hf
      exact z_iret hx hb hr hlk hK hG hI dX4_highestOn_36
    · have hf := ok_f c1 hf
      refine lv_aload_n hx hb dX4_highestOn_15 rfl (lv_at hl 0 rfl) ?_
      refine lv_iload_n hx hb dX4_highestOn_16 rfl (lv_at hl 1 rfl) ?_
      refine lv_iload_n hx hb dX4_highestOn_17 rfl (lv_at hl 3 rfl) ?_
      refine lv_iconst (v := 1) hx hb dX4_highestOn_18 (by decide) ?_
      refine lv_iadd hx hb dX4_highestOn_19 ?_
      obtain ⟨r1, hc1, hf⟩ := ok_1 hf
      refine z_calli0 rfl rfl hI (va_runV (As := [.int x1, .int (x3 + 1)]) (rest := []) ⟨hx, hb, hml, hown, hts⟩ (m_X4_isOpen G l hg hc1) (cwV 2 hts gX4_highestOn_X4_isOpen rfl rfl rfl (by decide +kernel) ⟨Nat.le_of_ble_eq_true rfl, Nat.le_of_ble_eq_true rfl⟩) (z_preV hK hG hI (z_rc (q := g) (ci := 4) (n := 0) hK hI (kd_G hg) (by decide) rfl)) rfl rfl hl.1 rfl (lv_room (Nat.le_of_ble_eq_true rfl)) dX4_highestOn_20 ⟨Nat.zero_le _, Nat.zero_le _⟩) (fun H locs hI => ?_)
      refine lv_if_eq (tgt := 35) hx hb dX4_highestOn_23 (by decide) (fun c2 => ?_) (fun c2 => ?_)
      · have hf := ok_t c2 hf
        refine lv_iload_n hx hb dX4_highestOn_35 rfl (lv_at hl 3 rfl) ?_
        cases hf
        exact z_iret hx hb hr hlk hK hG hI dX4_highestOn_36
      · have hf := ok_f c2 hf
        refine lv_iinc (v := x3 + 1) (lv' := [(3, .int (x3 + 1)), (0, .ref (G.1 + g)), (1, .int x1), (2, .int x2), (4, .int x4)]) hx hb dX4_highestOn_26 hl (k := 3) rfl rfl (by decide) rfl (fun ls hl => ?_)
        refine lv_iinc (v := x4 + 1) (lv' := [(4, .int (x4 + 1)), (3, .int (x3 + 1)), (0, .ref (G.1 + g)), (1, .int x1), (2, .int x2)]) hx hb dX4_highestOn_29 hl (k := 4) rfl rfl (by decide) rfl (fun ls hl => ?_)
        refine lv_goto (tgt := 9) hx hb dX4_highestOn_32 (by decide) ?_
        exact ih _ _ hf _ _ hI _ (lv_sub hl [2, 3, 4, 1, 0] rfl)

set_option maxRecDepth 100000 in
set_option maxHeartbeats 4000000 in
theorem m_X4_highestOn (G : GT) (l : Launch) {σ : Hp} {g : Nat} {x1 : Int32} {x2 : Int32} {r : Int32} (hg : isG g) (hf : f_X4_highestOn σ g x1 x2 = some r) : MetG G l yX4_highestOn wsX4_highestOn (rmk 1 23) σ [.ref (G.1 + g), .int x1, .int x2] (QI G σ r) := by
  refine met_of (cc := cX4_highestOn) (nL := 5) (ret := (some .int)) (by decide) rfl (Nat.le_of_ble_eq_true rfl) ?_
  intro p e s m below meth c C0 hnm hI ls hl
  obtain ⟨hx, hb, hr, hml, hown, hts, hlk, hK, hG⟩ := id C0
  have hl : lv_has ls 5 [(0, .ref (G.1 + g)), (1, .int x1), (2, .int x2)] := hl
  unfold f_X4_highestOn at hf
  refine lv_aload_n hx hb dX4_highestOn_0 rfl (lv_at hl 0 rfl) ?_
  refine lv_iload_n hx hb dX4_highestOn_1 rfl (lv_at hl 1 rfl) ?_
  obtain ⟨r1, hc1, hf⟩ := ok_1 hf
  refine z_calli0 rfl rfl hI (va_runV (As := [.int x1]) (rest := []) ⟨hx, hb, hml, hown, hts⟩ (m_X4_endOn G l hg hc1) (cwV 1 hts gX4_highestOn_X4_endOn rfl rfl rfl (by decide +kernel) ⟨Nat.le_of_ble_eq_true rfl, Nat.le_of_ble_eq_true rfl⟩) (z_preV hK hG hI (z_rc (q := g) (ci := 4) (n := 0) hK hI (kd_G hg) (by decide) rfl)) rfl rfl hl.1 rfl (lv_room (Nat.le_of_ble_eq_true rfl)) dX4_highestOn_2 ⟨Nat.zero_le _, Nat.zero_le _⟩) (fun H locs hI => ?_)
  refine lv_istore_n (lv' := [(3, .int r1), (0, .ref (G.1 + g)), (1, .int x1), (2, .int x2)]) hx hb dX4_highestOn_5 rfl hl (by decide) rfl (fun ls hl => ?_)
  refine lv_iconst (v := 0) hx hb dX4_highestOn_6 (by decide) ?_
  refine lv_istore (lv' := [(4, .int 0), (3, .int r1), (0, .ref (G.1 + g)), (1, .int x1), (2, .int x2)]) hx hb dX4_highestOn_7 hl (by decide) rfl (fun ls hl => ?_)
  exact w_X4_highestOn_9 hg C0  _ _ _ hf _ _ hI _ (lv_sub hl [2, 3, 4, 1, 0] rfl)

-- ===== FenceYards$Ground.putStrip(ILFenceYards$Strip;)V
set_option maxRecDepth 100000 in
theorem i_X4_putStrip_4 : ∀ w ∈ u_ws RX4 TX4 11, w ∈ wsX4_putStrip := by decide +kernel
def f_X4_putStrip (σ : Hp) (g : Nat) (x1 : Int32) (q2 : Nat) : Option (Hp) :=
  if x1 < 0 then (some σ) else (if (gI σ g 6) ≤ x1 then (some σ) else (chk (inb x1 12) <| some (sR σ (g + 1) (x1.toNatClampNeg) (some q2))))
set_option maxRecDepth 100000 in
set_option maxHeartbeats 4000000 in
theorem m_X4_putStrip (G : GT) (l : Launch) {σ : Hp} {g : Nat} {x1 : Int32} {q2 : Nat} {σ' : Hp} (hg : isG g) (hq2 : okS σ q2) (hf : f_X4_putStrip σ g x1 q2 = some σ') : MetG G l yX4_putStrip wsX4_putStrip (rmk 0 0) σ [.ref (G.1 + g), .int x1, .ref (G.1 + q2)] (QV G σ') := by
  refine met_of (cc := cX4_putStrip) (nL := 3) (ret := none) (by decide) rfl (Nat.le_of_ble_eq_true rfl) ?_
  intro p e s m below meth c C0 hnm hI ls hl
  obtain ⟨hx, hb, hr, hml, hown, hts, hlk, hK, hG⟩ := id C0
  have hl : lv_has ls 3 [(0, .ref (G.1 + g)), (1, .int x1), (2, .ref (G.1 + q2))] := hl
  unfold f_X4_putStrip at hf
  refine lv_iload_n hx hb dX4_putStrip_0 rfl (lv_at hl 1 rfl) ?_
  refine lv_if_lt (tgt := 19) hx hb dX4_putStrip_1 (by decide) (fun c1 => ?_) (fun c1 => ?_)
  · have hf := ok_t c1 hf
    cases hf
    exact z_vret hx hb hr hlk hK hG hI dX4_putStrip_19
  · have hf := ok_f c1 hf
    refine lv_iload_n hx hb dX4_putStrip_4 rfl (lv_at hl 1 rfl) ?_
    refine lv_aload_n hx hb dX4_putStrip_5 rfl (lv_at hl 0 rfl) ?_
    refine z_get (C := RX4) (T := TX4) (N := 11) (ci := 4) (v := .int (gI σ g 6)) hx hb hts i_X4_putStrip_4 hown hK hI g (kd_G hg) (by decide) rfl 6 (by decide) (hts (.fieldLink RX4 34 "FenceYards$Ground" "told" "I") (by decide +kernel)) (fun _ h9 => h9) rfl dX4_putStrip_6 ?_
    refine lv_icmp_ge (tgt := 19) hx hb dX4_putStrip_9 (by decide) (fun c2 => ?_) (fun c2 => ?_)
    · have hf := ok_t c2 hf
      cases hf
      exact z_vret hx hb hr hlk hK hG hI dX4_putStrip_19
    · have hf := ok_f c2 hf
      refine lv_aload_n hx hb dX4_putStrip_12 rfl (lv_at hl 0 rfl) ?_
      refine z_get (C := RX4) (T := TX4) (N := 11) (ci := 4) (v := .ref (G.1 + (g + 1))) hx hb hts i_X4_putStrip_4 hown hK hI g (kd_G hg) (by decide) rfl 0 (by decide) (hts (.fieldLink RX4 11 "FenceYards$Ground" "strips" "[LFenceYards$Strip;") (by decide +kernel)) (fun _ h9 => h9) rfl dX4_putStrip_13 ?_
      refine lv_iload_n hx hb dX4_putStrip_16 rfl (lv_at hl 1 rfl) ?_
      refine lv_aload_n hx hb dX4_putStrip_17 rfl (lv_at hl 2 rfl) ?_
      obtain ⟨h1, hf⟩ := ok_c hf
      refine z_ast (r := some q2) hx hb hK hG hI (g + 1) (k := x1.toNatClampNeg) (kd_G1 hg) (Or.inr hq2) h1 rfl dX4_putStrip_18 (fun H locs hI => ?_)
      cases hf
      exact z_vret hx hb hr hlk hK hG hI dX4_putStrip_19

-- ===== FenceYards$Ground.become(LFenceYards$Ground;)V
set_option maxRecDepth 100000 in
theorem i_X4_become_4 : ∀ w ∈ u_ws RX4 TX4 11, w ∈ wsX4_become := by decide +kernel
def f_X4_become_2  (g : Nat) (g2 : Nat)   : Nat → Hp → Int32 → Option (Hp)
  | 0, _, _ => none
  | n + 1, σ, x2 =>
    if 12 ≤ x2 then (bnd (rI σ (g + 2) (va_cpy (gI σ (g2 + 2)) (gI σ (g + 2)) (0 : Int32).toNatClampNeg (0 : Int32).toNatClampNeg (13 : Int32).toNatClampNeg)) fun s1 => bnd (rI s1 (g + 3) (va_cpy (gI s1 (g2 + 3)) (gI s1 (g + 3)) (0 : Int32).toNatClampNeg (0 : Int32).toNatClampNeg (13 : Int32).toNatClampNeg)) fun s2 => bnd (rI s2 (g + 4) (va_cpy (gI s2 (g2 + 4)) (gI s2 (g + 4)) (0 : Int32).toNatClampNeg (0 : Int32).toNatClampNeg (13 : Int32).toNatClampNeg)) fun s3 => bnd (rI s3 (g + 5) (va_cpy (gI s3 (g2 + 5)) (gI s3 (g + 5)) (0 : Int32).toNatClampNeg (0 : Int32).toNatClampNeg (13 : Int32).toNatClampNeg)) fun s4 => chk ((gI s4 g2 5) = 0 ∨ (gI s4 g2 5) = 1) <| bnd (sI (sI s4 g 5 (gI s4 g2 5)) g 6 (gI (sI s4 g 5 (gI s4 g2 5)) g2 6)) fun s5 => bnd (sI (sI s5 g 7 (gI s5 g2 7)) g 8 (gI (sI s5 g 7 (gI s5 g2 7)) g2 8)) fun s6 => bnd (sI (sI s6 g 9 (gI s6 g2 9)) g 10 (gI (sI s6 g 9 (gI s6 g2 9)) g2 10)) fun s7 => some s7) else (chk (inb x2 12) <| chk (inb x2 12) <| chk (okO σ (gR σ (g2 + 1) (x2.toNatClampNeg))) <| bnd (sR σ (g + 1) (x2.toNatClampNeg) (gR σ (g2 + 1) (x2.toNatClampNeg))) fun s8 => f_X4_become_2 g g2 n s8 (x2 + 1))
def f_X4_become (σ : Hp) (g : Nat) (g2 : Nat) : Option (Hp) :=
  f_X4_become_2 g g2 fu σ 0
set_option maxRecDepth 100000 in
set_option maxHeartbeats 4000000 in
theorem w_X4_become_2 {G : GT} {p : Program} {l : Launch} {e : Env} {s : State} {m : MethodId} {args : Array Value} {below : List Frame} {meth : Method} {c : Code} {g : Nat} {g2 : Nat} {σ' : Hp}    (hg : isG g) (hg2 : isG g2) (C0 : Cx G cX4_become RX4 wsX4_become 3 none p s m args meth c)  :
    ∀ (n : Nat) (σ : Hp) (x2 : Int32), f_X4_become_2 g g2 n σ x2 = some σ' → ∀ (H : Heap) (locs : List Loc), Inv G s σ H locs → ∀ ls : Array Slot, lv_has ls 3 [(0, .ref (G.1 + g)), (1, .ref (G.1 + g2)), (2, .int x2)] → W p l e (rmk 1 60) s m args below meth c H locs 0 0 (MQ below (QV G σ') args s (rmk 1 60).cells (rmk 1 60).slots (gA G)) (F0 m 2 ls []) := by
  obtain ⟨hx, hb, hr, hml, hown, hts, hlk, hK, hG⟩ := id C0
  intro n
  induction n with
  | zero =>
    intro σ x2 hf
    cases hf
  | succ n ih =>
    intro σ x2 hf H locs hI ls hl
    rw [f_X4_become_2] at hf
    refine lv_iload_n hx hb dX4_become_2 rfl (lv_at hl 2 rfl) ?_
    refine lv_bipush (v := 12) hx hb dX4_become_3 (by decide) ?_
    refine lv_icmp_ge (tgt := 26) hx hb dX4_become_5 (by decide) (fun c1 => ?_) (fun c1 => ?_)
    · have hf := ok_t c1 hf
      refine lv_aload_n hx hb dX4_become_26 rfl (lv_at hl 1 rfl) ?_
      refine z_get (C := RX4) (T := TX4) (N := 11) (ci := 4) (v := .ref (G.1 + (g2 + 2))) hx hb hts i_X4_become_4 hown hK hI g2 (kd_G hg2) (by decide) rfl 1 (by decide) (hts (.fieldLink RX4 17 "FenceYards$Ground" "uppers" "[I") (by decide +kernel)) (fun _ h9 => h9) rfl dX4_become_27 ?_
      refine lv_iconst (v := 0) hx hb dX4_become_30 (by decide) ?_
      refine lv_aload_n hx hb dX4_become_31 rfl (lv_at hl 0 rfl) ?_
      refine z_get (C := RX4) (T := TX4) (N := 11) (ci := 4) (v := .ref (G.1 + (g + 2))) hx hb hts i_X4_become_4 hown hK hI g (kd_G hg) (by decide) rfl 1 (by decide) (hts (.fieldLink RX4 17 "FenceYards$Ground" "uppers" "[I") (by decide +kernel)) (fun _ h9 => h9) rfl dX4_become_32 ?_
      refine lv_iconst (v := 0) hx hb dX4_become_35 (by decide) ?_
      refine lv_bipush (v := 13) hx hb dX4_become_36 (by decide) ?_
      have h1 : cpok 0 0 13 13 13 := by decide
      refine z_copy (q0 := (g2 + 2)) (q1 := (g + 2)) hx hb (hml.trans hl.1.symm) hown (hts (.methodLink RX4 50 arraycopyName) (by decide +kernel)) (hts (.native arraycopyName) (by decide +kernel)) (hts (.static arraycopyName) (by decide +kernel)) (hts (.initialized "java/lang/System") (by decide +kernel)) hK hI (kd_G2 hg2) (kd_G2 hg) h1 (Nat.le_of_ble_eq_true rfl) (Nat.le_of_ble_eq_true rfl) dX4_become_38 (fun H locs hI => ?_)
      obtain ⟨s1, es1⟩ : ∃ z, z = rI σ (g + 2) (va_cpy (gI σ (g2 + 2)) (gI σ (g + 2)) (0 : Int32).toNatClampNeg (0 : Int32).toNatClampNeg (13 : Int32).toNatClampNeg) := ⟨_, rfl⟩
      have hI : Inv G s s1 H locs := by rw [es1]; exact hI
      have hf := ok_n hf es1
      refine lv_aload_n hx hb dX4_become_41 rfl (lv_at hl 1 rfl) ?_
      refine z_get (C := RX4) (T := TX4) (N := 11) (ci := 4) (v := .ref (G.1 + (g2 + 3))) hx hb hts i_X4_become_4 hown hK hI g2 (kd_G hg2) (by decide) rfl 2 (by decide) (hts (.fieldLink RX4 21 "FenceYards$Ground" "lowers" "[I") (by decide +kernel)) (fun _ h9 => h9) rfl dX4_become_42 ?_
      refine lv_iconst (v := 0) hx hb dX4_become_45 (by decide) ?_
      refine lv_aload_n hx hb dX4_become_46 rfl (lv_at hl 0 rfl) ?_
      refine z_get (C := RX4) (T := TX4) (N := 11) (ci := 4) (v := .ref (G.1 + (g + 3))) hx hb hts i_X4_become_4 hown hK hI g (kd_G hg) (by decide) rfl 2 (by decide) (hts (.fieldLink RX4 21 "FenceYards$Ground" "lowers" "[I") (by decide +kernel)) (fun _ h9 => h9) rfl dX4_become_47 ?_
      refine lv_iconst (v := 0) hx hb dX4_become_50 (by decide) ?_
      refine lv_bipush (v := 13) hx hb dX4_become_51 (by decide) ?_
      have h2 : cpok 0 0 13 13 13 := by decide
      refine z_copy (q0 := (g2 + 3)) (q1 := (g + 3)) hx hb (hml.trans hl.1.symm) hown (hts (.methodLink RX4 50 arraycopyName) (by decide +kernel)) (hts (.native arraycopyName) (by decide +kernel)) (hts (.static arraycopyName) (by decide +kernel)) (hts (.initialized "java/lang/System") (by decide +kernel)) hK hI (kd_G3 hg2) (kd_G3 hg) h2 (Nat.le_of_ble_eq_true rfl) (Nat.le_of_ble_eq_true rfl) dX4_become_53 (fun H locs hI => ?_)
      obtain ⟨s2, es2⟩ : ∃ z, z = rI s1 (g + 3) (va_cpy (gI s1 (g2 + 3)) (gI s1 (g + 3)) (0 : Int32).toNatClampNeg (0 : Int32).toNatClampNeg (13 : Int32).toNatClampNeg) := ⟨_, rfl⟩
      have hI : Inv G s s2 H locs := by rw [es2]; exact hI
      have hf := ok_n hf es2
      refine lv_aload_n hx hb dX4_become_56 rfl (lv_at hl 1 rfl) ?_
      refine z_get (C := RX4) (T := TX4) (N := 11) (ci := 4) (v := .ref (G.1 + (g2 + 4))) hx hb hts i_X4_become_4 hown hK hI g2 (kd_G hg2) (by decide) rfl 3 (by decide) (hts (.fieldLink RX4 24 "FenceYards$Ground" "lefts" "[I") (by decide +kernel)) (fun _ h9 => h9) rfl dX4_become_57 ?_
      refine lv_iconst (v := 0) hx hb dX4_become_60 (by decide) ?_
      refine lv_aload_n hx hb dX4_become_61 rfl (lv_at hl 0 rfl) ?_
      refine z_get (C := RX4) (T := TX4) (N := 11) (ci := 4) (v := .ref (G.1 + (g + 4))) hx hb hts i_X4_become_4 hown hK hI g (kd_G hg) (by decide) rfl 3 (by decide) (hts (.fieldLink RX4 24 "FenceYards$Ground" "lefts" "[I") (by decide +kernel)) (fun _ h9 => h9) rfl dX4_become_62 ?_
      refine lv_iconst (v := 0) hx hb dX4_become_65 (by decide) ?_
      refine lv_bipush (v := 13) hx hb dX4_become_66 (by decide) ?_
      have h3 : cpok 0 0 13 13 13 := by decide
      refine z_copy (q0 := (g2 + 4)) (q1 := (g + 4)) hx hb (hml.trans hl.1.symm) hown (hts (.methodLink RX4 50 arraycopyName) (by decide +kernel)) (hts (.native arraycopyName) (by decide +kernel)) (hts (.static arraycopyName) (by decide +kernel)) (hts (.initialized "java/lang/System") (by decide +kernel)) hK hI (kd_G4 hg2) (kd_G4 hg) h3 (Nat.le_of_ble_eq_true rfl) (Nat.le_of_ble_eq_true rfl) dX4_become_68 (fun H locs hI => ?_)
      obtain ⟨s3, es3⟩ : ∃ z, z = rI s2 (g + 4) (va_cpy (gI s2 (g2 + 4)) (gI s2 (g + 4)) (0 : Int32).toNatClampNeg (0 : Int32).toNatClampNeg (13 : Int32).toNatClampNeg) := ⟨_, rfl⟩
      have hI : Inv G s s3 H locs := by rw [es3]; exact hI
      have hf := ok_n hf es3
      refine lv_aload_n hx hb dX4_become_71 rfl (lv_at hl 1 rfl) ?_
      refine z_get (C := RX4) (T := TX4) (N := 11) (ci := 4) (v := .ref (G.1 + (g2 + 5))) hx hb hts i_X4_become_4 hown hK hI g2 (kd_G hg2) (by decide) rfl 4 (by decide) (hts (.fieldLink RX4 27 "FenceYards$Ground" "rights" "[I") (by decide +kernel)) (fun _ h9 => h9) rfl dX4_become_72 ?_
      refine lv_iconst (v := 0) hx hb dX4_become_75 (by decide) ?_
      refine lv_aload_n hx hb dX4_become_76 rfl (lv_at hl 0 rfl) ?_
      refine z_get (C := RX4) (T := TX4) (N := 11) (ci := 4) (v := .ref (G.1 + (g + 5))) hx hb hts i_X4_become_4 hown hK hI g (kd_G hg) (by decide) rfl 4 (by decide) (hts (.fieldLink RX4 27 "FenceYards$Ground" "rights" "[I") (by decide +kernel)) (fun _ h9 => h9) rfl dX4_become_77 ?_
      refine lv_iconst (v := 0) hx hb dX4_become_80 (by decide) ?_
      refine lv_bipush (v := 13) hx hb dX4_become_81 (by decide) ?_
      have h4 : cpok 0 0 13 13 13 := by decide
      refine z_copy (q0 := (g2 + 5)) (q1 := (g + 5)) hx hb (hml.trans hl.1.symm) hown (hts (.methodLink RX4 50 arraycopyName) (by decide +kernel)) (hts (.native arraycopyName) (by decide +kernel)) (hts (.static arraycopyName) (by decide +kernel)) (hts (.initialized "java/lang/System") (by decide +kernel)) hK hI (kd_G5 hg2) (kd_G5 hg) h4 (Nat.le_of_ble_eq_true rfl) (Nat.le_of_ble_eq_true rfl) dX4_become_83 (fun H locs hI => ?_)
      obtain ⟨s4, es4⟩ : ∃ z, z = rI s3 (g + 5) (va_cpy (gI s3 (g2 + 5)) (gI s3 (g + 5)) (0 : Int32).toNatClampNeg (0 : Int32).toNatClampNeg (13 : Int32).toNatClampNeg) := ⟨_, rfl⟩
      have hI : Inv G s s4 H locs := by rw [es4]; exact hI
      have hf := ok_n hf es4
      refine lv_aload_n hx hb dX4_become_86 rfl (lv_at hl 0 rfl) ?_
      refine lv_aload_n hx hb dX4_become_87 rfl (lv_at hl 1 rfl) ?_
      refine z_get (C := RX4) (T := TX4) (N := 11) (ci := 4) (v := .int (gI s4 g2 5)) hx hb hts i_X4_become_4 hown hK hI g2 (kd_G hg2) (by decide) rfl 5 (by decide) (hts (.fieldLink RX4 30 "FenceYards$Ground" "stands" "Z") (by decide +kernel)) (fun _ h9 => h9) rfl dX4_become_88 ?_
      obtain ⟨h5, hf⟩ := ok_c hf
      refine z_put (C := RX4) (T := TX4) (N := 11) (ci := 4) (ty := .boolean) (v := .int (gI s4 g2 5)) hx hb hts i_X4_become_4 tyX4 tyX4_ok nmX4 hown hK hI g (kd_G hg) (by decide) rfl 5 (by decide) (hts (.fieldLink RX4 30 "FenceYards$Ground" "stands" "Z") (by decide +kernel)) (fun _ h9 => h9) rfl (by decide +kernel) (nar_Z h5) (fit_Z h5) (Nat.le_of_ble_eq_true rfl) (set_I hI.2.2.2 (kd_G hg) (by decide) rfl) rfl hI.2.2.2 dX4_become_91 (fun H locs hI => ?_)
      refine lv_aload_n hx hb dX4_become_94 rfl (lv_at hl 0 rfl) ?_
      refine lv_aload_n hx hb dX4_become_95 rfl (lv_at hl 1 rfl) ?_
      refine z_get (C := RX4) (T := TX4) (N := 11) (ci := 4) (v := .int (gI (sI s4 g 5 (gI s4 g2 5)) g2 6)) hx hb hts i_X4_become_4 hown hK hI g2 (kd_G hg2) (by decide) rfl 6 (by decide) (hts (.fieldLink RX4 34 "FenceYards$Ground" "told" "I") (by decide +kernel)) (fun _ h9 => h9) rfl dX4_become_96 ?_
      refine z_put (C := RX4) (T := TX4) (N := 11) (ci := 4) (ty := .int) (v := .int (gI (sI s4 g 5 (gI s4 g2 5)) g2 6)) hx hb hts i_X4_become_4 tyX4 tyX4_ok nmX4 hown hK hI g (kd_G hg) (by decide) rfl 6 (by decide) (hts (.fieldLink RX4 34 "FenceYards$Ground" "told" "I") (by decide +kernel)) (fun _ h9 => h9) rfl (by decide +kernel) rfl rfl (Nat.le_of_ble_eq_true rfl) (set_I hI.2.2.2 (kd_G hg) (by decide) rfl) rfl hI.2.2.2 dX4_become_99 (fun H locs hI => ?_)
      obtain ⟨s5, es5⟩ : ∃ z, z = sI (sI s4 g 5 (gI s4 g2 5)) g 6 (gI (sI s4 g 5 (gI s4 g2 5)) g2 6) := ⟨_, rfl⟩
      have hI : Inv G s s5 H locs := by rw [es5]; exact hI
      have hf := ok_n hf es5
      refine lv_aload_n hx hb dX4_become_102 rfl (lv_at hl 0 rfl) ?_
      refine lv_aload_n hx hb dX4_become_103 rfl (lv_at hl 1 rfl) ?_
      refine z_get (C := RX4) (T := TX4) (N := 11) (ci := 4) (v := .int (gI s5 g2 7)) hx hb hts i_X4_become_4 hown hK hI g2 (kd_G hg2) (by decide) rfl 7 (by decide) (hts (.fieldLink RX4 38 "FenceYards$Ground" "ponds" "I") (by decide +kernel)) (fun _ h9 => h9) rfl dX4_become_104 ?_
      refine z_put (C := RX4) (T := TX4) (N := 11) (ci := 4) (ty := .int) (v := .int (gI s5 g2 7)) hx hb hts i_X4_become_4 tyX4 tyX4_ok nmX4 hown hK hI g (kd_G hg) (by decide) rfl 7 (by decide) (hts (.fieldLink RX4 38 "FenceYards$Ground" "ponds" "I") (by decide +kernel)) (fun _ h9 => h9) rfl (by decide +kernel) rfl rfl (Nat.le_of_ble_eq_true rfl) (set_I hI.2.2.2 (kd_G hg) (by decide) rfl) rfl hI.2.2.2 dX4_become_107 (fun H locs hI => ?_)
      refine lv_aload_n hx hb dX4_become_110 rfl (lv_at hl 0 rfl) ?_
      refine lv_aload_n hx hb dX4_become_111 rfl (lv_at hl 1 rfl) ?_
      refine z_get (C := RX4) (T := TX4) (N := 11) (ci := 4) (v := .int (gI (sI s5 g 7 (gI s5 g2 7)) g2 8)) hx hb hts i_X4_become_4 hown hK hI g2 (kd_G hg2) (by decide) rfl 8 (by decide) (hts (.fieldLink RX4 41 "FenceYards$Ground" "openUpper" "I") (by decide +kernel)) (fun _ h9 => h9) rfl dX4_become_112 ?_
      refine z_put (C := RX4) (T := TX4) (N := 11) (ci := 4) (ty := .int) (v := .int (gI (sI s5 g 7 (gI s5 g2 7)) g2 8)) hx hb hts i_X4_become_4 tyX4 tyX4_ok nmX4 hown hK hI g (kd_G hg) (by decide) rfl 8 (by decide) (hts (.fieldLink RX4 41 "FenceYards$Ground" "openUpper" "I") (by decide +kernel)) (fun _ h9 => h9) rfl (by decide +kernel) rfl rfl (Nat.le_of_ble_eq_true rfl) (set_I hI.2.2.2 (kd_G hg) (by decide) rfl) rfl hI.2.2.2 dX4_become_115 (fun H locs hI => ?_)
      obtain ⟨s6, es6⟩ : ∃ z, z = sI (sI s5 g 7 (gI s5 g2 7)) g 8 (gI (sI s5 g 7 (gI s5 g2 7)) g2 8) := ⟨_, rfl⟩
      have hI : Inv G s s6 H locs := by rw [es6]; exact hI
      have hf := ok_n hf es6
      refine lv_aload_n hx hb dX4_become_118 rfl (lv_at hl 0 rfl) ?_
      refine lv_aload_n hx hb dX4_become_119 rfl (lv_at hl 1 rfl) ?_
      refine z_get (C := RX4) (T := TX4) (N := 11) (ci := 4) (v := .int (gI s6 g2 9)) hx hb hts i_X4_become_4 hown hK hI g2 (kd_G hg2) (by decide) rfl 9 (by decide) (hts (.fieldLink RX4 44 "FenceYards$Ground" "openLower" "I") (by decide +kernel)) (fun _ h9 => h9) rfl dX4_become_120 ?_
      refine z_put (C := RX4) (T := TX4) (N := 11) (ci := 4) (ty := .int) (v := .int (gI s6 g2 9)) hx hb hts i_X4_become_4 tyX4 tyX4_ok nmX4 hown hK hI g (kd_G hg) (by decide) rfl 9 (by decide) (hts (.fieldLink RX4 44 "FenceYards$Ground" "openLower" "I") (by decide +kernel)) (fun _ h9 => h9) rfl (by decide +kernel) rfl rfl (Nat.le_of_ble_eq_true rfl) (set_I hI.2.2.2 (kd_G hg) (by decide) rfl) rfl hI.2.2.2 dX4_become_123 (fun H locs hI => ?_)
      refine lv_aload_n hx hb dX4_become_126 rfl (lv_at hl 0 rfl) ?_
      refine lv_aload_n hx hb dX4_become_127 rfl (lv_at hl 1 rfl) ?_
      refine z_get (C := RX4) (T := TX4) (N := 11) (ci := 4) (v := .int (gI (sI s6 g 9 (gI s6 g2 9)) g2 10)) hx hb hts i_X4_become_4 hown hK hI g2 (kd_G hg2) (by decide) rfl 10 (by decide) (hts (.fieldLink RX4 47 "FenceYards$Ground" "today" "I") (by decide +kernel)) (fun _ h9 => h9) rfl dX4_become_128 ?_
      refine z_put (C := RX4) (T := TX4) (N := 11) (ci := 4) (ty := .int) (v := .int (gI (sI s6 g 9 (gI s6 g2 9)) g2 10)) hx hb hts i_X4_become_4 tyX4 tyX4_ok nmX4 hown hK hI g (kd_G hg) (by decide) rfl 10 (by decide) (hts (.fieldLink RX4 47 "FenceYards$Ground" "today" "I") (by decide +kernel)) (fun _ h9 => h9) rfl (by decide +kernel) rfl rfl (Nat.le_of_ble_eq_true rfl) (set_I hI.2.2.2 (kd_G hg) (by decide) rfl) rfl hI.2.2.2 dX4_become_131 (fun H locs hI => ?_)
      obtain ⟨s7, es7⟩ : ∃ z, z = sI (sI s6 g 9 (gI s6 g2 9)) g 10 (gI (sI s6 g 9 (gI s6 g2 9)) g2 10) := ⟨_, rfl⟩
      have hI : Inv G s s7 H locs := by rw [es7]; exact hI
      have hf := ok_n hf es7
      cases hf
      exact z_vret hx hb hr hlk hK hG hI dX4_become_134
    · have hf := ok_f c1 hf
      refine lv_aload_n hx hb dX4_become_8 rfl (lv_at hl 0 rfl) ?_
      refine z_get (C := RX4) (T := TX4) (N := 11) (ci := 4) (v := .ref (G.1 + (g + 1))) hx hb hts i_X4_become_4 hown hK hI g (kd_G hg) (by decide) rfl 0 (by decide) (hts (.fieldLink RX4 11 "FenceYards$Ground" "strips" "[LFenceYards$Strip;") (by decide +kernel)) (fun _ h9 => h9) rfl dX4_become_9 ?_
      refine lv_iload_n hx hb dX4_become_12 rfl (lv_at hl 2 rfl) ?_
      refine lv_aload_n hx hb dX4_become_13 rfl (lv_at hl 1 rfl) ?_
      refine z_get (C := RX4) (T := TX4) (N := 11) (ci := 4) (v := .ref (G.1 + (g2 + 1))) hx hb hts i_X4_become_4 hown hK hI g2 (kd_G hg2) (by decide) rfl 0 (by decide) (hts (.fieldLink RX4 11 "FenceYards$Ground" "strips" "[LFenceYards$Strip;") (by decide +kernel)) (fun _ h9 => h9) rfl dX4_become_14 ?_
      refine lv_iload_n hx hb dX4_become_17 rfl (lv_at hl 2 rfl) ?_
      obtain ⟨h6, hf⟩ := ok_c hf
      refine z_ald hx hb hK hI (g2 + 1) (k := x2.toNatClampNeg) (kd_G1 hg2) h6 rfl dX4_become_18 ?_
      obtain ⟨h7, hf⟩ := ok_c hf
      obtain ⟨h8, hf⟩ := ok_c hf
      refine z_ast hx hb hK hG hI (g + 1) (k := x2.toNatClampNeg) (kd_G1 hg) h8 h7 rfl dX4_become_19 (fun H locs hI => ?_)
      obtain ⟨s8, es8⟩ : ∃ z, z = sR σ (g + 1) (x2.toNatClampNeg) (gR σ (g2 + 1) (x2.toNatClampNeg)) := ⟨_, rfl⟩
      have hI : Inv G s s8 H locs := by rw [es8]; exact hI
      have hf := ok_n hf es8
      refine lv_iinc (v := x2 + 1) (lv' := [(2, .int (x2 + 1)), (0, .ref (G.1 + g)), (1, .ref (G.1 + g2))]) hx hb dX4_become_20 hl (k := 2) rfl rfl (by decide) rfl (fun ls hl => ?_)
      refine lv_goto (tgt := 2) hx hb dX4_become_23 (by decide) ?_
      exact ih _ _ hf _ _ hI _ (lv_sub hl [1, 2, 0] rfl)

set_option maxRecDepth 100000 in
set_option maxHeartbeats 4000000 in
theorem m_X4_become (G : GT) (l : Launch) {σ : Hp} {g : Nat} {g2 : Nat} {σ' : Hp} (hg : isG g) (hg2 : isG g2) (hf : f_X4_become σ g g2 = some σ') : MetG G l yX4_become wsX4_become (rmk 1 60) σ [.ref (G.1 + g), .ref (G.1 + g2)] (QV G σ') := by
  refine met_of (cc := cX4_become) (nL := 3) (ret := none) (by decide) rfl (Nat.le_of_ble_eq_true rfl) ?_
  intro p e s m below meth c C0 hnm hI ls hl
  obtain ⟨hx, hb, hr, hml, hown, hts, hlk, hK, hG⟩ := id C0
  have hl : lv_has ls 3 [(0, .ref (G.1 + g)), (1, .ref (G.1 + g2))] := hl
  unfold f_X4_become at hf
  refine lv_iconst (v := 0) hx hb dX4_become_0 (by decide) ?_
  refine lv_istore_n (lv' := [(2, .int 0), (0, .ref (G.1 + g)), (1, .ref (G.1 + g2))]) hx hb dX4_become_1 rfl hl (by decide) rfl (fun ls hl => ?_)
  exact w_X4_become_2 hg hg2 C0  _ _ _ hf _ _ hI _ (lv_sub hl [1, 2, 0] rfl)

