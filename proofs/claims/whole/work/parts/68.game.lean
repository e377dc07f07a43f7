theorem rel_seer {σ σ' : Hp} (h : Rel σ) (k : onlyI (fun q => 15 ≤ q ∧ q ≤ 24) σ σ') : Rel σ' := by
  have eR : gR σ' = gR σ := by funext q; show σ'.2.2.1 q = σ.2.2.1 q; rw [k.2]
  exact (k.keepB (by omega)).rel h (h.1.of k.2) (h.2.2.2.2.1.of2 (by rw [eR]) (fun q _ i _ => by rw [eR]) (k.keepS (by omega)) (fun q a b => k.1 q (by omega)) (k.1 52 (by omega))) (h.2.2.2.2.2.of2 (fun q _ i _ => by rw [eR]) (k.keepS (by omega)) (fun q a b => k.1 q (by omega)) (k.1 53 (by omega)) (k.1 54 (by omega)))
theorem RTop.of3 {σ σ' : Hp} (e : σ'.2.2 = σ.2.2) (h : RTop σ) : RTop σ' := by
  rcases σ with ⟨i, j, r⟩
  rcases σ' with ⟨i', j', r'⟩
  have e : r' = r := e
  subst e
  exact h
theorem onlyM.keepS {σ σ' : Hp} (o : onlyM σ σ') : keepS σ σ' := fun q h1 _ => ⟨o.1 q (by omega), by show σ'.2.2.2.1 q = σ.2.2.2.1 q; rw [o.2.2]⟩
theorem onlyM.keepB {σ σ' : Hp} (o : onlyM σ σ') : keepB σ σ' := ⟨fun q hq => o.1 q (by omega), fun k hk => o.2.1 k (by omega)⟩
theorem rel_M {σ σ' : Hp} (h : Rel σ) (k : onlyM σ σ') : Rel σ' := by
  have eR : gR σ' = gR σ := by funext q; show σ'.2.2.1 q = σ.2.2.1 q; rw [k.2.2]
  exact k.keepB.rel h (h.1.of3 k.2.2) (h.2.2.2.2.1.of2 (by rw [eR]) (fun q _ i _ => by rw [eR]) k.keepS (fun q a b => k.1 q (by omega)) (k.1 52 (by omega))) (h.2.2.2.2.2.of2 (fun q _ i _ => by rw [eR]) k.keepS (fun q a b => k.1 q (by omega)) (k.1 53 (by omega)) (k.1 54 (by omega)))
theorem Vg_lt {u : GD} (V : VG u) {k d a b : Nat} (hk : k ≤ 12) (ha : a ≤ 12) (hb : b ≤ 12) : Vg u k d a b ≤ 790352640 := by
  have q2 := Vg_le V k d a b ha hb
  have q3 : k * 65862720 ≤ 12 * 65862720 := Nat.mul_le_mul_right _ hk
  omega
theorem dys_le {u : GD} {m : Nat} : dys u m ≤ 12 := by unfold dys; omega
theorem lnd_o {σ σ' : Hp} {S : Nat → Prop} (o : onlyI S σ σ') : lnd σ' = lnd σ := by unfold lnd; show (σ'.2.2.1 0 6).getD 39 = (σ.2.2.1 0 6).getD 39; rw [o.2]
theorem isG_o {σ σ' : Hp} (e : gI σ' 52 = gI σ 52) {r : Int32} (b : f_X12_isGround σ = some r) : f_X12_isGround σ' = some r := by unfold f_X12_isGround at b ⊢; rw [e]; exact b
theorem op_game {σ : Hp} (h : Rel σ) (x1 x2 : Int32) : Sim (f_X11_game σ x1 x2) (fun s => f_X12_game s x1 x2) := by
  have hG := h.2.2.2.2.1.g
  rcases land_ground h with ⟨a, b⟩ | ⟨a, b, u, V, C, M⟩
  · refine sim_state h ?_ ?_
    · unfold f_X11_game
      rw [a, if_pos rfl]
    · show f_X12_game _ _ _ = _
      unfold f_X12_game
      rw [b, bd1_s, if_pos rfl]
  · by_cases hx : 1 ≤ x1.toInt ∧ x1.toInt ≤ 12
    · by_cases hy : inb x2 3
      · obtain ⟨m, hm1, hm, rfl⟩ := sp_nI hx
        obtain ⟨w, hw, rfl⟩ := inb_nI hy (by decide)
        obtain ⟨p1, p2⟩ := V.up
        obtain ⟨σ1, c1, c2, c3, c4, c5⟩ := e_gameC hG V C (m := m) hm
        have M1 : MG (gI σ1 52) u := by rw [c2.1 52 (by omega)]; exact M
        obtain ⟨σ2, m1, m2, m3⟩ := e_gameM V M1 hm1 hm
        have rel1 : Rel σ1 := rel_seer h (c2.mono (by omega))
        have rel2 : Rel σ2 := rel_M rel1 m2
        have el : lnd σ1 = lnd σ := lnd_o c2
        have b1 : f_X12_isGround σ1 = some 1 := isG_o (c2.1 52 (by omega)) b
        have hV := Vg_lt V (k := dys u m) (d := uD u) dys_le p1 p2
        have cpre : f_X11_game σ (nI m) (nI w) = if nI w = 2 then (bd1 (f_X8_firstMove σ1 (lnd σ1) (nI m)) fun r4 => some (σ1, r4)) else (bd1 (f_X11_fraction σ1 (nI (Vg u (dys u m) (uD u) (uUp u (uD u)) (uLo u (uD u)))) (nI w)) fun r3 => some (σ1, r3)) := by
          unfold f_X11_game
          rw [a, if_neg n10, e_spC1 hx, bd1_s, if_neg n10, if_neg (nI_pos (by omega)), if_pos (show nI w ≤ 2 from nI_le (b := 2) (by omega) (by decide)), c1, bd2_s]
        have mpre : f_X12_game σ1 (nI m) (nI w) = if nI w = 2 then some (σ2, gI σ2 51 23) else (bd1 (f_X12_told σ2 (lN (Vg u (dys u m) (uD u) (uUp u (uD u)) (uLo u (uD u)))) (nI w)) fun r5 => some (σ2, r5)) := by
          unfold f_X12_game
          rw [b1, bd1_s, if_neg n10, e_spM1 hx, bd1_s, if_neg n10, e_in1 (a := 0) (b := 2) (by rw [nI_toInt (by omega)]; show (0 : Int) ≤ w; omega) (by rw [nI_toInt (by omega)]; show (w : Int) ≤ 2; omega), bd1_s, if_neg n10, m1, bd2_s]
        by_cases w2 : nI w = 2
        · refine ⟨σ1, fmG u (dys u m), σ2, ?_, ?_, rel2⟩
          · rw [cpre, if_pos w2, el, e_first V (C.only c2 hG (by omega)) hm c3 c4 c5, bd1_s]
          · show f_X12_game _ _ _ = _
            rw [mpre, if_pos w2, m3]
        · obtain ⟨r, f1, f2⟩ := e_frac (σ := σ1) (σ' := σ2) (nl_eq (show Vg u (dys u m) (uD u) (uUp u (uD u)) (uLo u (uD u)) < 2147483648 by omega)) (by rw [nI_toInt (by omega)]; omega) (nI w)
          refine ⟨σ1, r, σ2, ?_, ?_, rel2⟩
          · rw [cpre, if_neg w2, f1, bd1_s]
          · show f_X12_game _ _ _ = _
            rw [mpre, if_neg w2, f2, bd1_s]
      · refine sim_bad h ?_ ?_
        · unfold f_X11_game
          rw [a, if_neg n10, e_spC1 hx, bd1_s, if_neg n10]
          by_cases k : x2 < 0
          · rw [if_pos k]
          · rw [if_neg k, if_neg (by rw [tI_le]; show ¬ x2.toInt ≤ 2; rw [tI_lt] at k; have k : ¬ x2.toInt < 0 := k; unfold inb at hy; omega)]
        · show f_X12_game _ _ _ = _
          unfold f_X12_game
          rw [b, bd1_s, if_neg n10, e_spM1 hx, bd1_s, if_neg n10, e_in0 (a := 0) (b := 2) (by unfold inb at hy; show x2.toInt < 0 ∨ 2 < x2.toInt; omega), bd1_s, if_pos rfl]
    · refine sim_bad h ?_ ?_
      · unfold f_X11_game
        rw [a, if_neg n10, e_spC0 hx, bd1_s, if_pos rfl]
      · show f_X12_game _ _ _ = _
        unfold f_X12_game
        rw [b, bd1_s, if_neg n10, e_spM0 hx, bd1_s, if_pos rfl]
/-! ===== treaty ===== -/
def rst (u : GD) (r : Nat) : Nat := sumN (fun i => gts u (uD u + i) (uUp u (uD u)) (uLo u (uD u))) r
theorem rst_le {u : GD} (V : VG u) {r : Nat} (hr : r ≤ 12) : rst u r ≤ 790352640 := by
  have : rst u r ≤ r * 65862720 := sumN_le (fun i _ => Nat.le_trans (gts_alls V.up.1 V.up.2) (alls_le V))
  have := Nat.mul_le_mul_right 65862720 hr
  omega
theorem e_rest12 {g : Nat} {u : GD} {L R : Nat → Nat} (hg : isG g) (V : VG u) {r : Nat} (hr : uD u + r ≤ 12) : ∀ (n k : Nat) (σ : Hp), k ≤ r → r < k + n → CGw σ g u L R → ∃ σ', f_X8_restingOf_12 g (nI r) n σ (nI (rst u k)) (nI k) = some (σ', nI (rst u r)) ∧ onlyI (fun q => 15 ≤ q ∧ q ≤ 18) σ σ' := by
  obtain ⟨p1, p2⟩ := V.up
  intro n
  induction n with
  | zero =>
    intro k σ h1 h2
    omega
  | succ n ih =>
    intro k σ h1 h2 C
    rw [f_X8_restingOf_12]
    by_cases hk : k = r
    · rw [if_pos (by rw [hk]; exact nI_le (Nat.le_refl _) (by omega)), hk]
      exact ⟨σ, rfl, onlyI.rf⟩
    · obtain ⟨s1, g1, g2, g3, g4⟩ := e_gather hg V C (d := uD u + k) (by omega)
      have C1 := C.only g2 hg (by omega)
      obtain ⟨σ', e1, e2⟩ := ih (k + 1) s1 (by omega) (by omega) C1
      refine ⟨σ', ?_, g2.tr e2⟩
      rw [if_neg (nI_ge (by omega) (by omega)), C.2.2.2.1, nI_add, g1, bd1_s, e_end0 C1 V, bd1_s, e_end1 C1 V, bd1_s, e_left V g4 p1 p2, bd1_s, bnd_s, nI_add, nI_1]
      exact e1
theorem e_rest {σ : Hp} {g : Nat} {u : GD} {L R : Nat → Nat} (hg : isG g) (V : VG u) (C : CGw σ g u L R) {m : Nat} (hm : m ≤ 12) : ∃ σ', f_X8_restingOf σ g (nI m) = some (σ', nI (rst u (dys u m))) ∧ onlyI (fun q => 15 ≤ q ∧ q ≤ 18) σ σ' := by
  have hD := V.1
  have hr : uD u + dys u m ≤ 12 := by unfold dys; omega
  obtain ⟨σ', e1, e2⟩ := e_rest12 hg V hr fu 0 σ (by omega) (by show _ < 0 + 512; omega) C
  refine ⟨σ', ?_, e2⟩
  unfold f_X8_restingOf
  rw [e_dysC C V hm, bd1_s]
  exact e1
theorem e_tr37 {σ : Hp} {u : GD} (V : VG u) (M : MG (gI σ 52) u) {m : Nat} (h1 : 1 ≤ m) (hm : m ≤ 12) {x2 : Int32} : ∀ (n k : Nat), k ≤ dys u m → dys u m < k + n → f_X12_treaty_37 σ (nI m) x2 n (lN (rst u k)) (nI k) = (bd2 (f_X12_gameOf σ (nI m)) fun s1 r2 => bd1 (f_X12_told s1 (lN (rst u (dys u m)) - r2) x2) fun r3 => some (s1, r3)) := by
  have hD := V.1
  have hr : uD u + dys u m ≤ 12 := by unfold dys; omega
  obtain ⟨p1, p2⟩ := V.up
  intro n
  induction n with
  | zero =>
    intro k h1 h2
    omega
  | succ n ih =>
    intro k h1 h2
    rw [f_X12_treaty_37, e_dysM M V hm, bd1_s]
    by_cases hk : k = dys u m
    · rw [if_pos (by rw [hk]; exact nI_le (Nat.le_refl _) (by omega)), hk]
    · rw [if_neg (nI_ge (by omega) (by omega)), M.2.2.2.1, M.2.1, M.2.2.1, nI_add, e_gets M V (by omega) p1 p2, bd1_s, bnd_s, lN_add, nI_1]
      exact ih (k + 1) (by omega) (by omega)
theorem lN_subT {a b : Nat} (ha : a < 2147483648) (hb : b < 2147483648) : (lN a - lN b).toInt = (a : Int) - b := by
  rw [Int64.toInt_sub, lN_toInt ha, lN_toInt hb, Int.bmod_eq_of_le (by omega) (by omega)]
theorem fr_sub {σ σ' : Hp} {a b : Nat} (ha : a ≤ 790352640) (hb : b ≤ 790352640) (s : Int32) : Same (f_X11_fraction σ (nI a - nI b) s) (f_X12_told σ' (lN a - lN b) s) := by
  have e := pk_sub_toInt (a := a) (b := b) (by omega) (by omega)
  exact e_frac (by rw [e, lN_subT (by omega) (by omega)]) (by rw [e]; omega) s
theorem op_treaty {σ : Hp} (h : Rel σ) (x1 x2 : Int32) : Sim (f_X11_treaty σ x1 x2) (fun s => f_X12_treaty s x1 x2) := by
  have hG := h.2.2.2.2.1.g
  rcases land_ground h with ⟨a, b⟩ | ⟨a, b, u, V, C, M⟩
  · refine sim_state h ?_ ?_
    · unfold f_X11_treaty
      rw [a, if_pos rfl]
    · show f_X12_treaty _ _ _ = _
      unfold f_X12_treaty
      rw [b, bd1_s, if_pos rfl]
  · by_cases hx : 1 ≤ x1.toInt ∧ x1.toInt ≤ 12
    · by_cases hy : inb x2 2
      · obtain ⟨m, hm1, hm, rfl⟩ := sp_nI hx
        obtain ⟨p1, p2⟩ := V.up
        obtain ⟨s1, r1, r2⟩ := e_rest hG V C (m := m) hm
        have C1 := C.only r2 hG (by omega)
        obtain ⟨σ1, c1, c2, -, -, -⟩ := e_gameC hG V C1 (m := m) hm
        have o : onlyI (fun q => 15 ≤ q ∧ q ≤ 21) σ σ1 := (r2.mono (by omega)).tr c2
        have M1 : MG (gI σ1 52) u := by rw [o.1 52 (by omega)]; exact M
        obtain ⟨σ2, m1, m2, -⟩ := e_gameM V M1 hm1 hm
        have b1 : f_X12_isGround σ1 = some 1 := isG_o (o.1 52 (by omega)) b
        obtain ⟨r, f1, f2⟩ := fr_sub (σ := σ1) (σ' := σ2) (rst_le V (r := dys u m) dys_le) (Vg_lt V (k := dys u m) (d := uD u) dys_le p1 p2) x2
        refine ⟨σ1, r, σ2, ?_, ?_, rel_M (rel_seer h (o.mono (by omega))) m2⟩
        · unfold f_X11_treaty
          rw [a, if_neg n10, e_spC1 hx, bd1_s, if_neg n10, e_ud1 hy, bd1_s, if_neg n10, r1, bd2_s, lnd_o r2, c1, bd2_s, f1, bd1_s]
        · show f_X12_treaty _ _ _ = _
          unfold f_X12_treaty
          rw [b1, bd1_s, if_neg n10, e_spM1 hx, bd1_s, if_neg n10, e_i01 hy, bd1_s, if_neg n10]
          show f_X12_treaty_37 σ1 (nI m) x2 fu (lN (rst u 0)) (nI 0) = _
          rw [e_tr37 V M1 hm1 hm fu 0 (by omega) (by show _ < 0 + 512; have := dys_le (u := u) (m := m); omega), m1, bd2_s, f2, bd1_s]
      · refine sim_bad h ?_ ?_
        · unfold f_X11_treaty
          rw [a, if_neg n10, e_spC1 hx, bd1_s, if_neg n10, e_ud0 hy, bd1_s, if_pos rfl]
        · show f_X12_treaty _ _ _ = _
          unfold f_X12_treaty
          rw [b, bd1_s, if_neg n10, e_spM1 hx, bd1_s, if_neg n10, e_i00 hy, bd1_s, if_pos rfl]
    · refine sim_bad h ?_ ?_
      · unfold f_X11_treaty
        rw [a, if_neg n10, e_spC0 hx, bd1_s, if_pos rfl]
      · show f_X12_treaty _ _ _ = _
        unfold f_X12_treaty
        rw [b, bd1_s, if_neg n10, e_spM0 hx, bd1_s, if_pos rfl]
