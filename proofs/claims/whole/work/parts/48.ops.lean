/-! ===== the land ===== -/
theorem RLand.g {σ : Hp} (h : RLand σ) : isG (lnd σ) := by
  rcases h.1 with ⟨a, -⟩ | ⟨a, -⟩
  · exact Or.inr (Or.inr (Or.inl a))
  · exact Or.inr (Or.inr (Or.inr a))
theorem ninb0 {x : Int32} : ¬ inb x 0 := fun z => by unfold inb at z; omega
/-- a strip that was told, or none -/
theorem land_strip {σ : Hp} (h : Rel σ) (x : Int32) : (f_X4_toldStrip σ (lnd σ) x = some none ∧ f_X12_isStrip σ x = some 0) ∨ ∃ u i q, x = nI i ∧ i < uS u ∧ VG u ∧ CG σ (lnd σ) u ∧ MG (gI σ 52) u ∧ f_X4_toldStrip σ (lnd σ) x = some (some q) ∧ f_X12_isStrip σ x = some 1 ∧ 67 ≤ q ∧ gK σ q = kcode (uSo u i) ∧ gI σ q 0 = nI i ∧ gI σ q 1 = nI (uWo u i) ∧ gI σ q 2 = nI (uRi u i) ∧ okS σ q := by
  rcases h.2.2.2.2.1.2 with B | ⟨u, V, C, M⟩
  · obtain ⟨b1, b2, b3, b4, b5, b6, b7, b8, b9, b10, b11, b12⟩ := B
    exact Or.inl ⟨e_told0 (S := 0) b2 (by omega) ninb0, e_str0 (S := 0) b11 (by omega) ninb0⟩
  · by_cases hx : inb x (uS u)
    · have hS := V.2.1
      obtain ⟨i, hi, rfl⟩ := inb_nI hx (by omega)
      obtain ⟨q, r1, r2, r3, r4, r5, r6⟩ := C.2.2.2.2.2.2.2 i hi
      obtain ⟨v1, v2, v3, v4⟩ := V.2.2.2.2.1 i hi
      refine Or.inr ⟨u, i, q, rfl, hi, V, C, M, ?_, e_str1 M.2.2.2.2.1 hS hi, r2, r3, r4, r5, r6, okS_k r2 ⟨v1, v2⟩ r3⟩
      rw [e_told1 C.2.1 hS hi, r1]
    · exact Or.inl ⟨e_told0 C.2.1 V.2.1 hx, e_str0 M.2.2.2.2.1 V.2.1 hx⟩
theorem land_ground {σ : Hp} (h : Rel σ) : (gI σ (lnd σ) 5 = 0 ∧ f_X12_isGround σ = some 0) ∨ (gI σ (lnd σ) 5 = 1 ∧ f_X12_isGround σ = some 1 ∧ ∃ u, VG u ∧ CG σ (lnd σ) u ∧ MG (gI σ 52) u) := by
  unfold f_X12_isGround
  rcases h.2.2.2.2.1.2 with B | ⟨u, V, C, M⟩
  · obtain ⟨b1, b2, b3, b4, b5, b6, b7, b8, b9, b10, b11, b12⟩ := B
    refine Or.inl ⟨b1, ?_⟩
    rw [b7]
    rfl
  · refine Or.inr ⟨C.1, ?_, u, V, C, M⟩
    rw [M.1]
    rfl
theorem op_kind {σ : Hp} (h : Rel σ) (x1 : Int32) : Same (f_X11_kind σ x1) (f_X12_kind σ x1) := by
  unfold f_X11_kind f_X12_kind
  rcases land_strip h x1 with ⟨a, b⟩ | ⟨u, i, q, rfl, hi, V, C, M, a, b, r2, r3, r4, r5, r6, ok⟩
  · rw [a, b]
    exact ⟨_, rfl, rfl⟩
  · obtain ⟨v1, v2, v3, v4⟩ := V.2.2.2.2.1 i hi
    refine ⟨nI (uSo u i), ?_, ?_⟩
    · rw [a, bd1_s, opc_s, chk_s ok]
      unfold v_Strip_kindNumber
      rcases kc ⟨v1, v2⟩ with ⟨e1, e⟩ | ⟨e1, e⟩ | ⟨e1, e⟩ | ⟨e1, e⟩ | ⟨e1, e⟩ <;> rw [r3, e, e1] <;> rfl
    · rw [b, bd1_s, if_neg n10, (e_sown M V hi).1, bd1_s]
theorem op_crop {σ : Hp} (h : Rel σ) (x1 x2 : Int32) : Same (f_X11_crop σ x1 x2) (f_X12_crop σ x1 x2) := by
  unfold f_X11_crop f_X12_crop
  rcases land_strip h x1 with ⟨a, b⟩ | ⟨u, i, q, rfl, hi, V, C, M, a, b, r2, r3, r4, r5, r6, ok⟩
  · rw [a, b]
    exact ⟨_, rfl, rfl⟩
  · obtain ⟨v1, v2, v3, v4⟩ := V.2.2.2.2.1 i hi
    rw [a, bd1_s, opc_s, b, bd1_s, if_neg n10]
    by_cases hx : inb x2 12
    · obtain ⟨d, hd, rfl⟩ := inb_nI hx (by decide)
      refine ⟨nI (crpI u d i), ?_, ?_⟩
      · rw [if_neg (nI_pos (by omega)), if_pos (show nI d < 12 from nI_lt (b := 12) hd (by decide)), chk_s ok, e_cropC ⟨v1, v2⟩ r3 r5 r6 v3 v4 (by omega)]
        rfl
      · rw [e_in1 (a := 0) (b := 11) (by rw [nI_toInt (by omega)]; show (0 : Int) ≤ d; omega) (by rw [nI_toInt (by omega)]; show (d : Int) ≤ 11; omega), bd1_s, if_neg n10, e_cropOn M V hi (by omega)]
        rfl
    · refine ⟨-1000001, ?_, ?_⟩
      · by_cases h1 : x2 < 0
        · rw [if_pos h1]
        · rw [if_neg h1, if_neg (by rw [tI_lt]; show ¬ x2.toInt < 12; rw [tI_lt] at h1; have h1 : ¬ x2.toInt < 0 := h1; unfold inb at hx; omega)]
      · rw [e_in0 (a := 0) (b := 11) (by unfold inb at hx; show x2.toInt < 0 ∨ 11 < x2.toInt; omega), bd1_s, if_pos rfl]
def isK (so t : Nat) : Bool := t = 0 ∨ so = t ∨ (t = 1 ∧ (so = 2 ∨ so = 3)) ∨ (t = 4 ∧ so = 5)
theorem e_isK {σ : Hp} {q so t : Nat} (hso : 1 ≤ so ∧ so ≤ 5) (ht : t ≤ 5) (h : gK σ q = kcode so) : f_X11_isOfKind σ q (nI t) = some (bI (isK so t)) ∧ f_X12_isA σ (nI so) (nI t) = some (bI (isK so t)) := by
  unfold f_X11_isOfKind f_X12_isA f_X12_in
  rcases kc hso with ⟨rfl, e⟩ | ⟨rfl, e⟩ | ⟨rfl, e⟩ | ⟨rfl, e⟩ | ⟨rfl, e⟩ <;> rw [h, e] <;> rcases (show t = 0 ∨ t = 1 ∨ t = 2 ∨ t = 3 ∨ t = 4 ∨ t = 5 by omega) with rfl | rfl | rfl | rfl | rfl | rfl <;> exact ⟨by decide, by decide⟩
theorem bI1 {b : Bool} (h : b = true) : bI b = 1 := by rw [h]; rfl
theorem bI0 {b : Bool} (h : b = false) : bI b = 0 := by rw [h]; rfl
theorem op_as {σ : Hp} (h : Rel σ) (x1 x2 : Int32) : Sim (f_X11_as σ x1 x2) (fun s => f_X12_as s x1 x2) := by
  rcases land_strip h x1 with ⟨a, b⟩ | ⟨u, i, q, rfl, hi, V, C, M, a, b, r2, r3, r4, r5, r6, ok⟩
  · refine sim_bad h ?_ ?_
    · unfold f_X11_as
      rw [a]
      rfl
    · show f_X12_as _ _ _ = _
      unfold f_X12_as
      rw [b]
      rfl
  · obtain ⟨v1, v2, v3, v4⟩ := V.2.2.2.2.1 i hi
    have hS := V.2.1
    by_cases hx : inb x2 6
    · obtain ⟨t, ht, rfl⟩ := inb_nI hx (by decide)
      obtain ⟨k1, k2⟩ := e_isK (σ := σ) (q := q) (t := t) ⟨v1, v2⟩ (by omega) r3
      have lo : ∀ s, f_X12_in s (nI t) 0 5 = some 1 := fun s => e_in1 (a := 0) (b := 5) (by rw [nI_toInt (by omega)]; show (0 : Int) ≤ t; omega) (by rw [nI_toInt (by omega)]; show (t : Int) ≤ 5; omega)
      cases hb : isK (uSo u i) t with
      | true =>
        refine ⟨sI σ 0 8 0, nI i, sI (sI σ 0 8 0) 51 6 0, ?_, ?_, rel_found h 0⟩
        · unfold f_X11_as
          rw [a, bd1_s, opc_s, if_neg (nI_pos (by omega)), if_pos (show nI t ≤ 5 from nI_le (b := 5) (by omega) (by decide)), chk_s ok, k1, bd1_s, bI1 hb, if_neg n10, chk_s ok, r4]
          rfl
        · have b' : f_X12_isStrip (sI σ 0 8 0) (nI i) = some 1 := b
          have k2' : f_X12_isA (sI σ 0 8 0) (nI (uSo u i)) (nI t) = some (bI (isK (uSo u i) t)) := k2
          have s' : f_X12_sown (sI σ 0 8 0) (nI i) 0 = some (nI (uSo u i)) := (e_sown M V hi).1
          show f_X12_as _ _ _ = _
          unfold f_X12_as
          rw [b', bd1_s, if_neg n10, lo, bd1_s, if_neg n10, s', bd1_s, k2', bd1_s, bI1 hb, if_neg n10]
          rfl
      | false =>
        refine ⟨sI σ 0 8 3, -1000010 - 3, sI (sI σ 0 8 3) 51 6 3, ?_, ?_, rel_found h 3⟩
        · unfold f_X11_as
          rw [a, bd1_s, opc_s, if_neg (nI_pos (by omega)), if_pos (show nI t ≤ 5 from nI_le (b := 5) (by omega) (by decide)), chk_s ok, k1, bd1_s, bI0 hb, if_pos rfl]
          rfl
        · have b' : f_X12_isStrip (sI σ 0 8 3) (nI i) = some 1 := b
          have k2' : f_X12_isA (sI σ 0 8 3) (nI (uSo u i)) (nI t) = some (bI (isK (uSo u i) t)) := k2
          have s' : f_X12_sown (sI σ 0 8 3) (nI i) 0 = some (nI (uSo u i)) := (e_sown M V hi).1
          show f_X12_as _ _ _ = _
          unfold f_X12_as
          rw [b', bd1_s, if_neg n10, lo, bd1_s, if_neg n10, s', bd1_s, k2', bd1_s, bI0 hb, if_pos rfl]
          rfl
    · refine sim_bad h ?_ ?_
      · unfold f_X11_as
        rw [a, bd1_s, opc_s]
        by_cases h1 : x2 < 0
        · rw [if_pos h1]
        · rw [if_neg h1, if_neg (by rw [tI_le]; show ¬ x2.toInt ≤ 5; rw [tI_lt] at h1; have h1 : ¬ x2.toInt < 0 := h1; unfold inb at hx; omega)]
      · show f_X12_as _ _ _ = _
        unfold f_X12_as
        rw [b, bd1_s, if_neg n10, e_in0 (a := 0) (b := 5) (by unfold inb at hx; show x2.toInt < 0 ∨ 5 < x2.toInt; omega), bd1_s, if_pos rfl]
theorem VG.up {u : GD} (V : VG u) : uUp u (uD u) ≤ 12 ∧ uLo u (uD u) ≤ 12 := ⟨(V.2.2.2.1 _ (Nat.le_refl _)).1.1, (V.2.2.2.1 _ (Nat.le_refl _)).2.1⟩
theorem op_strip {σ : Hp} (h : Rel σ) (x1 x2 : Int32) : Same (f_X11_strip σ x1 x2) (f_X12_strip σ x1 x2) := by
  unfold f_X11_strip f_X12_strip
  rcases land_strip h x1 with ⟨a, b⟩ | ⟨u, i, q, rfl, hi, V, C, M, a, b, r2, r3, r4, r5, r6, ok⟩
  · rw [a, b]
    exact ⟨_, rfl, rfl⟩
  · have hS := V.2.1
    obtain ⟨p1, p2⟩ := V.up
    obtain ⟨s0, s1, s2⟩ := e_sown M V hi
    have sc : f_X11_shareNow σ (nI i) = some (nI (shr i (uUp u (uD u)) (uLo u (uD u)))) := by
      unfold f_X11_shareNow
      rw [e_end0 C V, bd1_s, e_end1 C V, bd1_s, e_shareC p1 p2 (by omega), bd1_s]
    have sm : f_X12_shareOf σ (nI i) (gI σ 52 1) (gI σ 52 2) = some (nI (shr i (uUp u (uD u)) (uLo u (uD u)))) := by
      rw [M.2.1, M.2.2.1, e_shareM p1 p2 (by omega)]
    have hs := shr_le (x := i) p1 p2
    have fr : ∀ s, Same (f_X11_fraction σ (nI (shr i (uUp u (uD u)) (uLo u (uD u)))) s) (f_X12_told σ (nI (shr i (uUp u (uD u)) (uLo u (uD u)))).toInt64 s) := fun s => e_frac (Int32.toInt_toInt64 _) (by rw [nI_toInt (by omega)]; omega) s
    rw [a, bd1_s, opc_s, b, bd1_s, if_neg n10]
    by_cases hx : inb x2 4
    · obtain ⟨t, ht, rfl⟩ := inb_nI hx (by decide)
      rw [e_in1 (a := 0) (b := 3) (by rw [nI_toInt (by omega)]; show (0 : Int) ≤ t; omega) (by rw [nI_toInt (by omega)]; show (t : Int) ≤ 3; omega), bd1_s, if_neg n10]
      rcases (show t = 0 ∨ t = 1 ∨ t = 2 ∨ t = 3 by omega) with rfl | rfl | rfl | rfl
      · rw [if_pos (show nI 0 = 0 from rfl), chk_s ok, if_neg (by decide), show (1 : Int32) + nI 0 = 1 from rfl, s1, r5]
        exact ⟨_, rfl, rfl⟩
      · rw [if_neg (by decide), if_pos (show nI 1 = 1 from rfl), chk_s ok, if_neg (by decide), show (1 : Int32) + nI 1 = 2 from rfl, s2, r6]
        exact ⟨_, rfl, rfl⟩
      · rw [if_neg (by decide), if_neg (by decide), if_pos (show nI 2 = 2 from rfl), if_pos (by decide), sc, bd1_s, sm, bd1_s, show nI 2 - 2 = (0 : Int32) from rfl]
        obtain ⟨r, e1, e2⟩ := fr 0
        exact ⟨r, by rw [e1]; rfl, by rw [e2]; rfl⟩
      · rw [if_neg (by decide), if_neg (by decide), if_neg (by decide), if_pos (show nI 3 = 3 from rfl), if_pos (by decide), sc, bd1_s, sm, bd1_s, show nI 3 - 2 = (1 : Int32) from rfl]
        obtain ⟨r, e1, e2⟩ := fr 1
        exact ⟨r, by rw [e1]; rfl, by rw [e2]; rfl⟩
    · have ne : ∀ t, t < 4 → ¬ x2 = nI t := fun t ht e => hx (by rw [e]; exact nI_inb ht (by decide))
      refine ⟨-1000001, ?_, ?_⟩
      · rw [if_neg (show ¬ x2 = 0 from ne 0 (by omega)), if_neg (show ¬ x2 = 1 from ne 1 (by omega)), if_neg (show ¬ x2 = 2 from ne 2 (by omega)), if_neg (show ¬ x2 = 3 from ne 3 (by omega))]
      · rw [e_in0 (a := 0) (b := 3) (by unfold inb at hx; show x2.toInt < 0 ∨ 3 < x2.toInt; omega), bd1_s, if_pos rfl]
theorem e_count {σ : Hp} (h : RRow σ) (x1 : Int32) : ∀ (n k : Nat) (acc : Int32), k ≤ 8 → 8 < k + n → ∃ r, f_X6_present_4 σ n acc (nI k) = some r ∧ f_X12_count_4 σ x1 n acc (nI k) = (if x1 = 0 then (some r) else if x1 = 1 then (some (gI σ 52 4)) else if x1 = 2 then (some (gI σ 52 3)) else if x1 = 3 then (some (gI σ 52 1)) else if x1 = 4 then (some (gI σ 52 2)) else if x1 = 5 then (some (gI σ 52 5)) else if x1 = 6 then (some (gI σ 51 8)) else (some (-1000001))) := by
  intro n
  induction n with
  | zero =>
    intro k acc h1 h2
    omega
  | succ n ih =>
    intro k acc h1 h2
    rw [f_X6_present_4, f_X12_count_4]
    by_cases hk : k = 8
    · subst hk
      rw [if_pos (by decide), if_pos (by decide)]
      exact ⟨acc, rfl, rfl⟩
    · rw [if_neg (show ¬ (8 : Int32) ≤ nI k from nI_ge (b := 8) (by omega) (by decide)), if_neg (show ¬ (8 : Int32) ≤ nI k from nI_ge (b := 8) (by omega) (by decide)), chk_s (nI_inb (by omega) (by decide)), nI_cl (by omega)]
      rcases h.1 k (by omega) with ⟨a, b⟩ | ⟨L, N, hL, hN, a1, a2, a3, a4⟩
      · rw [e_miss1 (by omega) a, bd1_s, if_neg n10, b, if_pos rfl, bnd_s, bnd_s, nI_1]
        exact ih (k + 1) (acc + 0) (by omega) (by omega)
      · rw [e_miss0 (by omega) hN a3, bd1_s, if_pos rfl, a2, if_neg (nI_nN (by omega)), bnd_s, bnd_s, nI_1]
        exact ih (k + 1) (acc + 1) (by omega) (by omega)
theorem op_count {σ : Hp} (h : Rel σ) (x1 : Int32) : Same (f_X11_count σ x1) (f_X12_count σ x1) := by
  obtain ⟨r, c1, c2⟩ := e_count h.2.1 x1 fu 0 0 (by omega) (by decide)
  have c1 : f_X6_present σ = some r := c1
  have c2 : f_X12_count σ x1 = _ := c2
  have ld : gI σ (lnd σ) 6 = gI σ 52 4 ∧ gI σ (lnd σ) 10 = gI σ 52 3 ∧ f_X4_endOn σ (lnd σ) 0 = some (gI σ 52 1) ∧ f_X4_endOn σ (lnd σ) 1 = some (gI σ 52 2) ∧ gI σ (lnd σ) 7 = gI σ 52 5 := by
    rcases h.2.2.2.2.1.2 with B | ⟨u, V, C, M⟩
    · obtain ⟨b1, b2, b3, b4, b5, b6, b7, b8, b9, b10, b11, b12⟩ := B
      refine ⟨by rw [b2, b11], by rw [b4, b10], ?_, ?_, by rw [b3, b12]⟩
      · unfold f_X4_endOn
        rw [if_pos rfl, b4, chk_s (by decide), b8]
        show some (gI σ (lnd σ + 2) 0) = _
        rw [b5]
      · unfold f_X4_endOn
        rw [if_neg n10, b4, chk_s (by decide), b9]
        show some (gI σ (lnd σ + 3) 0) = _
        rw [b6]
    · exact ⟨by rw [C.2.1, M.2.2.2.2.1], by rw [C.2.2.2.1, M.2.2.2.1], by rw [e_end0 C V, M.2.1], by rw [e_end1 C V, M.2.2.1], by rw [C.2.2.1, M.2.2.2.2.2.1]⟩
  obtain ⟨l1, l2, l3, l4, l5⟩ := ld
  obtain ⟨n, hn, t1, t2, t3⟩ := h.2.2.1
  unfold f_X11_count
  rw [c2, c1, bd1_s, l1, l2, l3, bd1_s, l4, bd1_s, l5, t1, t2]
  unfold Same
  repeat' split
  all_goals exact ⟨_, rfl, rfl⟩
