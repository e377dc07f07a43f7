/-! ===== best ===== -/
theorem rel_fin {σ σ2 : Hp} (h : Rel σ) (o : ∀ q, ¬ (q = 0 ∨ (15 ≤ q ∧ q ≤ 24) ∨ q = 51 ∨ (59 ≤ q ∧ q ≤ 65)) → gI σ2 q = gI σ q) (e : σ2.2.2 = σ.2.2) (e0 : gI σ2 0 8 = gI σ2 51 6) (e1 : ∀ k, k ≠ 6 → k ≠ 23 → gI σ2 51 k = gI σ 51 k) : Rel σ2 := by
  have eR : gR σ2 = gR σ := by funext q; show σ2.2.2.1 q = σ.2.2.1 q; rw [e]
  have kS : keepS σ σ2 := fun q h1 _ => ⟨o q (by omega), by show σ2.2.2.2.1 q = σ.2.2.2.1 q; rw [e]⟩
  obtain ⟨b1, b2, b3, b4, b5, b6⟩ := h
  refine ⟨b1.of3 e, b2.of (fun q hq => o q (by omega)), b3.of (by rw [o 13 (by omega)]) (e1 8 (by omega) (by omega)) (o 14 (by omega)) (o 58 (by omega)), ?_, b5.of2 (by rw [eR]) (fun q _ i _ => by rw [eR]) kS (fun q a b => o q (by omega)) (o 52 (by omega)), b6.of2 (fun q _ i _ => by rw [eR]) kS (fun q a b => o q (by omega)) (o 53 (by omega)) (o 54 (by omega))⟩
  obtain ⟨-, c2, n, c3, c4, c5, c6⟩ := b4
  exact ⟨e0, by rw [o 13 (by omega), e1 15 (by omega) (by omega)]; exact c2, n, c3, by rw [o 25 (by omega)]; exact c4, by rw [e1 25 (by omega) (by omega)]; exact c5, fun i hi => by rw [o 26 (by omega), o 66 (by omega)]; exact c6 i hi⟩
theorem e_sm1 {σ : Hp} {j m : Nat} (hj : j < 8) (hm : m ≤ 12) {f : Nat → Int32} (hf : ∀ i, i < m → gI σ (3 + j) i = f i) (ha : ∀ i, i < m → mvs (f i)) : ∀ (n k : Nat), k ≤ m → m < k + n → f_X6_startsWithMoves_2 σ (nI j) (nI m) n (nI k) = some 1 := by
  intro n
  induction n with
  | zero =>
    intro k h1 h2
    omega
  | succ n ih =>
    intro k h1 h2
    rw [f_X6_startsWithMoves_2]
    by_cases hk : k = m
    · rw [if_pos (by rw [hk]; exact nI_le (Nat.le_refl _) (by omega))]
    · rw [if_neg (nI_ge (by omega) (by omega)), chk_s (nI_inb hj (by decide)), chk_s (nI_inb (by omega) (by decide)), nI_cl (show j < 2147483648 by omega), nI_cl (show k < 2147483648 by omega), hf k (by omega), e_mvC1 (ha k (by omega)), bd1_s, if_neg n10, nI_1]
      exact ih (k + 1) (by omega) (by omega)
theorem e_sm0 {σ : Hp} {j m : Nat} (hj : j < 8) (hm : m ≤ 12) {f : Nat → Int32} (hf : ∀ i, i < m → gI σ (3 + j) i = f i) : ∀ (n k : Nat), k ≤ m → m < k + n → (∃ i, k ≤ i ∧ i < m ∧ ¬ mvs (f i)) → f_X6_startsWithMoves_2 σ (nI j) (nI m) n (nI k) = some 0 := by
  intro n
  induction n with
  | zero =>
    intro k h1 h2
    omega
  | succ n ih =>
    intro k h1 h2 hx
    obtain ⟨i, i1, i2, i3⟩ := hx
    rw [f_X6_startsWithMoves_2, if_neg (nI_ge (show k < m by omega) (by omega)), chk_s (nI_inb hj (by decide)), chk_s (nI_inb (by omega) (by decide)), nI_cl (show j < 2147483648 by omega), nI_cl (show k < 2147483648 by omega), hf k (by omega)]
    by_cases c : mvs (f k)
    · have : i ≠ k := fun z => i3 (by rw [z]; exact c)
      rw [e_mvC1 c, bd1_s, if_neg n10, nI_1]
      exact ih (k + 1) (by omega) (by omega) ⟨i, by omega, i2, i3⟩
    · rw [e_mvC0 c, bd1_s, if_pos rfl]
theorem e_am00 {σ : Hp} {j m : Nat} (hm : m ≤ 12) : ∀ (n k : Nat), k ≤ m → m < k + n → f_X12_areMoves_5 σ (nI j) (nI m) n 0 (nI k) = some 0 := by
  intro n
  induction n with
  | zero =>
    intro k h1 h2
    omega
  | succ n ih =>
    intro k h1 h2
    rw [f_X12_areMoves_5]
    by_cases hk : k = m
    · rw [if_pos (by rw [hk]; exact nI_le (Nat.le_refl _) (by omega)), chk_s (Or.inl rfl)]
    · rw [if_neg (nI_ge (by omega) (by omega)), if_pos rfl, nI_1]
      exact ih (k + 1) (by omega) (by omega)
theorem e_am1 {σ : Hp} {j m : Nat} (hj : j < 8) (hm : m ≤ 12) {f : Nat → Int32} (hf : ∀ i, i < m → gI σ 57 (40 * j + i) = f i) (ha : ∀ i, i < m → mvs (f i)) : ∀ (n k : Nat), k ≤ m → m < k + n → f_X12_areMoves_5 σ (nI j) (nI m) n 1 (nI k) = some 1 := by
  intro n
  induction n with
  | zero =>
    intro k h1 h2
    omega
  | succ n ih =>
    intro k h1 h2
    rw [f_X12_areMoves_5]
    by_cases hk : k = m
    · rw [if_pos (by rw [hk]; exact nI_le (Nat.le_refl _) (by omega)), chk_s (Or.inr rfl)]
    · rw [if_neg (nI_ge (by omega) (by omega)), if_neg n10, show (40 : Int32) * nI j + nI k = nI (40 * j + k) by rw [show (40 : Int32) = nI 40 from rfl, pk_mul, nI_add], chk_s (nI_inb (by omega) (by decide)), nI_cl (by omega), hf k (by omega), e_mvM1 (ha k (by omega)), bd1_s, if_neg n10, nI_1]
      exact ih (k + 1) (by omega) (by omega)
theorem e_am0 {σ : Hp} {j m : Nat} (hj : j < 8) (hm : m ≤ 12) {f : Nat → Int32} (hf : ∀ i, i < m → gI σ 57 (40 * j + i) = f i) : ∀ (n k : Nat), k ≤ m → m < k + n → (∃ i, k ≤ i ∧ i < m ∧ ¬ mvs (f i)) → f_X12_areMoves_5 σ (nI j) (nI m) n 1 (nI k) = some 0 := by
  intro n
  induction n with
  | zero =>
    intro k h1 h2
    omega
  | succ n ih =>
    intro k h1 h2 hx
    obtain ⟨i, i1, i2, i3⟩ := hx
    rw [f_X12_areMoves_5, if_neg (nI_ge (show k < m by omega) (by omega)), if_neg n10, show (40 : Int32) * nI j + nI k = nI (40 * j + k) by rw [show (40 : Int32) = nI 40 from rfl, pk_mul, nI_add], chk_s (nI_inb (by omega) (by decide)), nI_cl (by omega), hf k (by omega)]
    by_cases c : mvs (f k)
    · have : i ≠ k := fun z => i3 (by rw [z]; exact c)
      rw [e_mvM1 c, bd1_s, if_neg n10, nI_1]
      exact ih (k + 1) (by omega) (by omega) ⟨i, by omega, i2, i3⟩
    · rw [e_mvM0 c, bd1_s, if_pos rfl, nI_1]
      exact e_am00 hm n (k + 1) (by omega) (by omega)
theorem op_best {σ : Hp} (h : Rel σ) (x1 x2 x3 : Int32) : Sim (f_X11_best σ x1 x2 x3) (fun s => f_X12_best s x1 x2 x3) := by
  have hG := h.2.2.2.2.1.g
  rcases land_ground h with ⟨a, b⟩ | ⟨a, b, u, V, C, M⟩
  · refine sim_state h ?_ ?_
    · unfold f_X11_best
      rw [a, if_pos rfl]
    · show f_X12_best _ _ _ _ = _
      unfold f_X12_best
      rw [b, bd1_s, if_pos rfl]
  · by_cases hx1 : inb x1 8
    · by_cases hx2 : 1 ≤ x2.toInt ∧ x2.toInt ≤ 12
      · by_cases hx3 : (-2 : Int32) ≤ x3
        · obtain ⟨j, hj, rfl⟩ := inb_nI hx1 (by decide)
          obtain ⟨m, hm1, hm, rfl⟩ := sp_nI hx2
          have ij : inb (nI j) 8 := nI_inb hj (by decide)
          rcases h.2.1.1 j hj with ⟨a12, a55⟩ | ⟨LL, N, hL, hN, a11, a55, a12, a56⟩
          · refine ⟨sI σ 0 8 1, -1000010 - 1, sI (sI σ 0 8 1) 51 6 1, ?_, ?_, rel_found h 1⟩
            · unfold f_X11_best
              rw [a, if_neg n10, e_cRow1 hx1, bd1_s, if_neg n10, e_spC1 hx2, bd1_s, if_neg n10, if_pos hx3, e_miss1 hj a12, bd1_s, if_neg n10]
              rfl
            · show f_X12_best _ _ _ _ = _
              unfold f_X12_best
              rw [isG_o (gI_n (by decide)) b, bd1_s, if_neg n10, e_mRow1 hx1, bd1_s, if_neg n10, e_spM1 hx2, bd1_s, if_neg n10, if_pos hx3, chk_s ij, nI_cl (by omega), gI_n (show (55 : Nat) ≠ 0 by decide), a55, if_pos rfl]
              rfl
          · by_cases hmN : m ≤ N
            · have hs : spn 0 (nI m) N := ⟨by decide, by rw [nI_toInt (by omega)]; omega, by rw [nI_toInt (by omega)]; show (0 : Int) + (m : Int) ≤ N; omega⟩
              by_cases hall : ∀ i, i < m → mvs (gI σ (3 + j) i)
              · obtain ⟨p1, p2⟩ := V.up
                have hD := V.1
                have hr : uD u + dys u m ≤ 12 := by unfold dys; omega
                have hrm : dys u m ≤ m := by unfold dys; omega
                obtain ⟨s1, c1, c2, c3⟩ := e_bestC hG V C hm (show 3 + j < 15 by omega) (mv := gI σ (3 + j)) (fun _ _ => rfl)
                have he : ∀ i, (fun i => bP u (gI σ (3 + j)) (i + 1)) i ≤ 12 := fun i => bP_le V (i + 1)
                generalize hev : (fun i => bP u (gI σ (3 + j)) (i + 1)) = ev at c1 c3 he
                have e57 : ∀ i, i < m → gI (sI s1 0 8 0) 57 (40 * j + i) = gI σ (3 + j) i := fun i hi => by rw [gI_n (by decide), c2.1 57 (by omega)]; exact (h.2.1.2 j i hj (by omega)).symm
                have M1 : MG (gI (sI s1 0 8 0) 52) u := by rw [gI_n (by decide), c2.1 52 (by omega)]; exact M
                obtain ⟨s2, d1, d2, d3, -⟩ := e_fe10 V hj (r := dys u m) (by omega) (mv := gI σ (3 + j)) fu 0 (sI s1 0 8 0) (by omega) (by show _ < 0 + 512; omega) M1 (fun i hi => e57 i (by omega))
                have M2 : MG (gI s2 52) u := by rw [d2.1 52 (by omega)]; exact M1
                have h63 : ∀ i, i < dys u m → gI s2 63 i = nI (ev i) := fun i hi => by rw [d3 i (by omega) hi, ← hev]
                obtain ⟨s3, f1, f2, f3⟩ := e_most V he hr M2 h63
                have M3 : MG (gI s3 52) u := by rw [f2.gI]; exact M2
                obtain ⟨s4, g1, g2, g3, -⟩ := e_mv9 V he hr fu 0 s3 (by omega) (by show _ < 0 + 512; omega) M3 (fun i hi => by rw [f2.gI]; exact h63 i hi) f3
                have M4 : MG (gI s4 52) u := by rw [g2.1 52 (by omega)]; exact M3
                have v4 : gJ s4 64 (uUp u (uD u)) = lN (bsG u ev (dys u m) 0 (uUp u (uD u))) := by
                  have q := f3 0 (uUp u (uD u)) (by omega) p1 V.open0
                  rw [Nat.mul_zero, Nat.zero_add, Nat.sub_zero] at q
                  rw [← q]
                  show s4.2.1 64 _ = s3.2.1 64 _
                  rw [g2.2]
                have rel2 : Rel (sI s4 51 6 0) := by
                  refine rel_fin h (fun q hq => ?_) ?_ ?_ (fun k k1 k2 => ?_)
                  · rw [gI_n (by omega), g2.1 q (by omega), f2.gI, d2.1 q (by omega), gI_n (by omega), c2.1 q (by omega)]
                  · show s4.2.2 = σ.2.2
                    rw [g2.2, f2.2.2, d2.2]
                    show s1.2.2 = σ.2.2
                    rw [c2.2]
                  · rw [gI_n (by decide), gI_s, upd_s, g2.1 0 (by omega), f2.gI, d2.1 0 (by omega), gI_s, upd_s]
                  · rw [gI_s, upd_n k1, g2.1 51 (by omega), f2.gI, d2.1 51 (by omega), gI_n (by decide), c2.1 51 (by omega)]
                have cls : f_X11_best σ (nI j) (nI m) x3 = (if 0 ≤ x3 then (if nI (dys u m) ≤ x3 then some (sI s1 0 8 0, -1000000) else (bd1 (f_X8_bestMove s1 x3) fun r9 => some (sI s1 0 8 0, r9))) else (bd1 (f_X11_fraction s1 (nI (bsG u ev (dys u m) 0 (uUp u (uD u)))) (x3 + 2)) fun r11 => some (sI s1 0 8 0, r11))) := by
                  unfold f_X11_best f_X6_startsWithMoves
                  rw [a, if_neg n10, e_cRow1 hx1, bd1_s, if_neg n10, e_spC1 hx2, bd1_s, if_neg n10, if_pos hx3, e_miss0 hj hN a12, bd1_s, if_pos rfl, e_holds1 hj hN a12 hs, bd1_s, if_neg n10, show f_X6_startsWithMoves_2 σ (nI j) (nI m) fu 0 = some 1 from e_sm1 hj hm (f := gI σ (3 + j)) (fun _ _ => rfl) hall fu 0 (by omega) (by show _ < 0 + 512; omega), bd1_s, if_neg n10, chk_s ij, nI_cl (by omega), c1, bd2_s, lnd_o c2, e_dysC (C.only c2 hG (by omega)) V hm, bd1_s]
                  rfl
                have mdl : f_X12_best (sI s1 0 8 0) (nI j) (nI m) x3 = (if 0 ≤ x3 then (if nI (dys u m) ≤ x3 then some (sI s4 51 6 0, -1000000) else (chk (inb x3 12) <| some (sI s4 51 6 0, gI s4 65 (x3.toNatClampNeg)))) else (bd1 (f_X12_told s4 (lN (bsG u ev (dys u m) 0 (uUp u (uD u)))) (x3 + 2)) fun r8 => some (sI s4 51 6 0, r8))) := by
                  have fe : f_X12_findEnds (sI s1 0 8 0) (nI j) (nI (dys u m)) = some s2 := by
                    unfold f_X12_findEnds
                    rw [bnd_s, M1.2.2.1]
                    exact d1
                  have fv : f_X12_findMoves s3 (nI (dys u m)) = some s4 := by
                    unfold f_X12_findMoves
                    rw [bnd_s, M3.2.1]
                    exact g1
                  unfold f_X12_best f_X12_areMoves
                  rw [isG_o (show gI (sI s1 0 8 0) 52 = gI σ 52 by rw [gI_n (by decide), c2.1 52 (by omega)]) b, bd1_s, if_neg n10, e_mRow1 hx1, bd1_s, if_neg n10, e_spM1 hx2, bd1_s, if_neg n10, if_pos hx3, chk_s ij, chk_s ij, nI_cl (by omega), gI_n (show (55 : Nat) ≠ 0 by decide), c2.1 55 (by omega), a55, if_neg (nI_nN (by omega)), gI_n (show (56 : Nat) ≠ 0 by decide), c2.1 56 (by omega), a56, if_pos (nI_le hmN (by omega)), show f_X12_areMoves_5 (sI s1 0 8 0) (nI j) (nI m) fu 1 0 = some 1 from e_am1 hj hm e57 hall fu 0 (by omega) (by show _ < 0 + 512; omega), bd1_s, if_neg n10, e_dysM M1 V hm, bd1_s, fe, bd1_s, f1, bd1_s, fv, bd1_s, M4.2.1, chk_s (nI_inb (by omega) (by decide)), nI_cl (show uUp u (uD u) < 2147483648 by omega), v4]
                  rfl
                by_cases k0 : 0 ≤ x3
                · by_cases k1 : nI (dys u m) ≤ x3
                  · refine ⟨sI s1 0 8 0, -1000000, sI s4 51 6 0, ?_, ?_, rel2⟩
                    · rw [cls, if_pos k0, if_pos k1]
                    · show f_X12_best _ _ _ _ = _
                      rw [mdl, if_pos k0, if_pos k1]
                  · have k0' : (0 : Int) ≤ x3.toInt := tI_le.mp k0
                    have k1' : x3.toInt < (dys u m : Int) := by rw [tI_le, nI_toInt (by omega)] at k1; omega
                    obtain ⟨w, hw, rfl⟩ := inb_nI (x := x3) (n := dys u m) ⟨k0', k1'⟩ (by omega)
                    refine ⟨sI s1 0 8 0, aM u ev (dys u m) w, sI s4 51 6 0, ?_, ?_, rel2⟩
                    · rw [cls, if_pos k0, if_neg k1]
                      unfold f_X8_bestMove
                      rw [if_neg (nI_pos (by omega)), if_neg (show ¬ (12 : Int32) ≤ nI w from nI_ge (b := 12) (by omega) (by decide)), chk_s (nI_inb (by omega) (by decide)), nI_cl (by omega), c3 w hw, bd1_s]
                    · show f_X12_best _ _ _ _ = _
                      rw [mdl, if_pos k0, if_neg k1, chk_s (nI_inb (by omega) (by decide)), nI_cl (by omega), g3 w (by omega) hw]
                · have hv : bsG u ev (dys u m) 0 (uUp u (uD u)) ≤ 790352640 := by
                    have q2 := bsG_le V he (dys u m) 0 _ p1
                    have q3 : dys u m * 65862720 ≤ 12 * 65862720 := Nat.mul_le_mul_right _ (by omega)
                    omega
                  obtain ⟨r, w1, w2⟩ := e_frac (σ := s1) (σ' := s4) (nl_eq (show bsG u ev (dys u m) 0 (uUp u (uD u)) < 2147483648 by omega)) (by rw [nI_toInt (by omega)]; omega) (x3 + 2)
                  refine ⟨sI s1 0 8 0, r, sI s4 51 6 0, ?_, ?_, rel2⟩
                  · rw [cls, if_neg k0, w1, bd1_s]
                  · show f_X12_best _ _ _ _ = _
                    rw [mdl, if_neg k0, w2, bd1_s]
              · have hex : ∃ i, 0 ≤ i ∧ i < m ∧ ¬ mvs (gI σ (3 + j) i) := Classical.byContradiction (fun z => hall (fun i hi => Classical.byContradiction (fun y => z ⟨i, Nat.zero_le _, hi, y⟩)))
                refine sim_bad h ?_ ?_
                · unfold f_X11_best f_X6_startsWithMoves
                  rw [a, if_neg n10, e_cRow1 hx1, bd1_s, if_neg n10, e_spC1 hx2, bd1_s, if_neg n10, if_pos hx3, e_miss0 hj hN a12, bd1_s, if_pos rfl, e_holds1 hj hN a12 hs, bd1_s, if_neg n10, show f_X6_startsWithMoves_2 σ (nI j) (nI m) fu 0 = some 0 from e_sm0 hj hm (f := gI σ (3 + j)) (fun _ _ => rfl) fu 0 (by omega) (by show _ < 0 + 512; omega) hex, bd1_s, if_pos rfl]
                · show f_X12_best _ _ _ _ = _
                  unfold f_X12_best f_X12_areMoves
                  rw [b, bd1_s, if_neg n10, e_mRow1 hx1, bd1_s, if_neg n10, e_spM1 hx2, bd1_s, if_neg n10, if_pos hx3, chk_s ij, chk_s ij, nI_cl (by omega), a55, if_neg (nI_nN (by omega)), a56, if_pos (nI_le hmN (by omega)), show f_X12_areMoves_5 σ (nI j) (nI m) fu 1 0 = some 0 from e_am0 hj hm (f := gI σ (3 + j)) (fun i hi => (h.2.1.2 j i hj (by omega)).symm) fu 0 (by omega) (by show _ < 0 + 512; omega) hex, bd1_s, if_pos rfl]
            · have hs : ¬ spn 0 (nI m) N := fun z => by
                have := z.2.2
                rw [nI_toInt (by omega)] at this
                have : (0 : Int) + (m : Int) ≤ N := this
                omega
              refine ⟨sI σ 0 8 2, -1000010 - 2, sI (sI σ 0 8 2) 51 6 2, ?_, ?_, rel_found h 2⟩
              · unfold f_X11_best
                rw [a, if_neg n10, e_cRow1 hx1, bd1_s, if_neg n10, e_spC1 hx2, bd1_s, if_neg n10, if_pos hx3, e_miss0 hj hN a12, bd1_s, if_pos rfl, e_holds0 hj hN a12 hs, bd1_s, if_pos rfl]
                rfl
              · show f_X12_best _ _ _ _ = _
                unfold f_X12_best
                rw [isG_o (gI_n (by decide)) b, bd1_s, if_neg n10, e_mRow1 hx1, bd1_s, if_neg n10, e_spM1 hx2, bd1_s, if_neg n10, if_pos hx3, chk_s ij, chk_s ij, nI_cl (by omega), gI_n (show (55 : Nat) ≠ 0 by decide), a55, if_neg (nI_nN (by omega)), gI_n (show (56 : Nat) ≠ 0 by decide), a56, if_neg (nI_ge (by omega) (by omega))]
                rfl
        · refine sim_bad h ?_ ?_
          · unfold f_X11_best
            rw [a, if_neg n10, e_cRow1 hx1, bd1_s, if_neg n10, e_spC1 hx2, bd1_s, if_neg n10, if_neg hx3]
          · show f_X12_best _ _ _ _ = _
            unfold f_X12_best
            rw [b, bd1_s, if_neg n10, e_mRow1 hx1, bd1_s, if_neg n10, e_spM1 hx2, bd1_s, if_neg n10, if_neg hx3]
      · refine sim_bad h ?_ ?_
        · unfold f_X11_best
          rw [a, if_neg n10, e_cRow1 hx1, bd1_s, if_neg n10, e_spC0 hx2, bd1_s, if_pos rfl]
        · show f_X12_best _ _ _ _ = _
          unfold f_X12_best
          rw [b, bd1_s, if_neg n10, e_mRow1 hx1, bd1_s, if_neg n10, e_spM0 hx2, bd1_s, if_pos rfl]
    · refine sim_bad h ?_ ?_
      · unfold f_X11_best
        rw [a, if_neg n10, e_cRow0 hx1, bd1_s, if_pos rfl]
      · show f_X12_best _ _ _ _ = _
        unfold f_X12_best
        rw [b, bd1_s, if_neg n10, e_mRow0 hx1, bd1_s, if_pos rfl]
