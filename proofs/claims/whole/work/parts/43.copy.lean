/-! ===== copy ===== -/
def spn (x y : Int32) (N : Nat) : Prop := 0 ≤ x.toInt ∧ 0 ≤ y.toInt ∧ x.toInt + y.toInt ≤ (N : Int)
theorem e_holds1 {σ : Hp} {j N : Nat} (hj : j < 8) (hN : N ≤ 40) (h : gI σ 12 j = nI N) {x y : Int32} (hs : spn x y N) : f_X6_holds σ (nI j) x y = some 1 := by
  obtain ⟨h1, h2, h3⟩ := hs
  have i1 : inb (nI j) 8 := nI_inb hj (by decide)
  unfold f_X6_holds
  rw [if_neg (by rw [tI_lt]; show ¬ x.toInt < 0; omega), if_neg (by rw [tI_lt]; show ¬ y.toInt < 0; omega), chk_s i1, nI_cl (by omega), h, if_neg (by rw [tI_lt, nI_toInt (by omega)]; omega), chk_s i1, if_neg (by rw [tI_lt, tI_sub (by rw [nI_toInt (by omega)]; omega) (by rw [nI_toInt (by omega)]; omega), nI_toInt (by omega)]; omega)]
theorem e_holds0 {σ : Hp} {j N : Nat} (hj : j < 8) (hN : N ≤ 40) (h : gI σ 12 j = nI N) {x y : Int32} (hs : ¬ spn x y N) : f_X6_holds σ (nI j) x y = some 0 := by
  have i1 : inb (nI j) 8 := nI_inb hj (by decide)
  unfold f_X6_holds
  by_cases a1 : x < 0
  · rw [if_pos a1]
  · by_cases a2 : y < 0
    · rw [if_neg a1, if_pos a2]
    · rw [if_neg a1, if_neg a2, chk_s i1, nI_cl (by omega), h]
      by_cases a3 : nI N < x
      · rw [if_pos a3]
      · have b1 : ¬ x.toInt < 0 := by rw [tI_lt] at a1; exact a1
        have b2 : ¬ y.toInt < 0 := by rw [tI_lt] at a2; exact a2
        have b3 : ¬ (N : Int) < x.toInt := by rw [tI_lt, nI_toInt (by omega)] at a3; exact a3
        rw [if_neg a3, chk_s i1, if_pos (by rw [tI_lt, tI_sub (by rw [nI_toInt (by omega)]; omega) (by rw [nI_toInt (by omega)]; omega), nI_toInt (by omega)]; unfold spn at hs; omega)]
theorem l_add {x y : Int32} : (x.toInt64 + y.toInt64).toInt = x.toInt + y.toInt := by
  have a := tI_lo x
  have b := tI_hi x
  have c := tI_lo y
  have d := tI_hi y
  rw [Int64.toInt_add, Int32.toInt_toInt64, Int32.toInt_toInt64, Int.bmod_eq_of_le (by omega) (by omega)]
theorem e_span1 {σ : Hp} {j N : Nat} (hj : j < 8) (hN : N ≤ 40) (h : gI σ 56 j = nI N) {x y : Int32} (hs : spn x y N) : f_X12_isSpan σ (nI j) x y = some 1 := by
  obtain ⟨h1, h2, h3⟩ := hs
  have i1 : inb (nI j) 8 := nI_inb hj (by decide)
  unfold f_X12_isSpan
  rw [if_neg (by rw [tI_lt]; show ¬ x.toInt < 0; omega), if_neg (by rw [tI_lt]; show ¬ y.toInt < 0; omega), chk_s i1, nI_cl (by omega), h, if_neg (by rw [lg_cmp_gt, Int64.lt_iff_toInt_lt, l_add, Int32.toInt_toInt64, nI_toInt (by omega)]; omega)]
theorem e_span0 {σ : Hp} {j N : Nat} (hj : j < 8) (hN : N ≤ 40) (h : gI σ 56 j = nI N) {x y : Int32} (hs : ¬ spn x y N) : f_X12_isSpan σ (nI j) x y = some 0 := by
  have i1 : inb (nI j) 8 := nI_inb hj (by decide)
  unfold f_X12_isSpan
  by_cases a1 : x < 0
  · rw [if_pos a1]
  · by_cases a2 : y < 0
    · rw [if_neg a1, if_pos a2]
    · have b1 : ¬ x.toInt < 0 := by rw [tI_lt] at a1; exact a1
      have b2 : ¬ y.toInt < 0 := by rw [tI_lt] at a2; exact a2
      rw [if_neg a1, if_neg a2, chk_s i1, nI_cl (by omega), h, if_pos (by rw [lg_cmp_gt, Int64.lt_iff_toInt_lt, l_add, Int32.toInt_toInt64, nI_toInt (by omega)]; unfold spn at hs; omega)]
theorem e_copy98 {a b c d e : Nat} (ha : a < 8) (hc : c < 8) (hb : b + e ≤ 40) (hd : d + e ≤ 40) (F : Nat → Int32) : ∀ (n k : Nat) (σ : Hp), k ≤ e → e < k + n →
    (∀ t, t < e → (b ≤ d ∧ t + k < e ∨ d < b ∧ k ≤ t) → gI σ 57 (40 * a + b + t) = F (40 * a + b + t)) →
    ∃ f, f_X12_copy_98 (nI a) (nI b) (nI c) (nI d) (nI e) n σ (nI k) = some (sI (rI σ 57 f) 51 6 0, nI e) ∧ (∀ t, t < e → (b ≤ d ∧ t + k < e ∨ d < b ∧ k ≤ t) → f (40 * c + d + t) = F (40 * a + b + t)) ∧
      ∀ i, (∀ t, t < e → (b ≤ d ∧ t + k < e ∨ d < b ∧ k ≤ t) → i ≠ 40 * c + d + t) → f i = gI σ 57 i := by
  intro n
  induction n with
  | zero =>
    intro k σ h1 h2 h3
    omega
  | succ n ih =>
    intro k σ h1 h2 h3
    rw [f_X12_copy_98]
    by_cases hk : k = e
    · subst hk
      rw [if_pos (nI_le (Nat.le_refl k) (by omega))]
      exact ⟨gI σ 57, by rw [rI_id]; rfl, fun t a b => by omega, fun _ _ => rfl⟩
    · rw [if_neg (nI_ge (by omega) (by omega))]
      unfold f_X12_copy_123
      by_cases hbd : b ≤ d
      · have et : nI e - 1 - nI k = nI (e - 1 - k) := by rw [show (1 : Int32) = nI 1 from rfl, pk_sub (by omega), pk_sub (by omega)]
        rw [if_pos (nI_le hbd (by omega)), et, c40, c40, nI_add, nI_add, chk_s (nI_inb (by omega) (by decide)), chk_s (nI_inb (by omega) (by decide)), bnd_s, nI_cl (by omega), nI_cl (by omega), nI_1, h3 _ (by omega) (by omega)]
        obtain ⟨f, e1, e2, e3⟩ := ih (k + 1) (sI σ 57 (40 * c + d + (e - 1 - k)) (F (40 * a + b + (e - 1 - k)))) (by omega) (by omega) (fun t x1 x2 => by rw [gI_s, upd_n (by omega)]; exact h3 t x1 (by omega))
        refine ⟨f, by rw [e1]; unfold sI; rw [rI_rI], fun t x1 x2 => ?_, fun i x1 => ?_⟩
        · by_cases ht : t = e - 1 - k
          · rw [e3 _ (by omega), gI_s, ht, upd_s]
          · exact e2 t x1 (by omega)
        · rw [e3 i (fun t y1 y2 => x1 t y1 (by omega)), gI_s, upd_n (x1 (e - 1 - k) (by omega) (by omega))]
      · rw [if_neg (nI_ge (by omega) (by omega)), c40, c40, nI_add, nI_add, chk_s (nI_inb (by omega) (by decide)), chk_s (nI_inb (by omega) (by decide)), bnd_s, nI_cl (by omega), nI_cl (by omega), nI_1, h3 _ (by omega) (by omega)]
        obtain ⟨f, e1, e2, e3⟩ := ih (k + 1) (sI σ 57 (40 * c + d + k) (F (40 * a + b + k))) (by omega) (by omega) (fun t x1 x2 => by rw [gI_s, upd_n (by omega)]; exact h3 t x1 (by omega))
        refine ⟨f, by rw [e1]; unfold sI; rw [rI_rI], fun t x1 x2 => ?_, fun i x1 => ?_⟩
        · by_cases ht : t = k
          · rw [e3 _ (by omega), gI_s, ht, upd_s]
          · exact e2 t x1 (by omega)
        · rw [e3 i (fun t y1 y2 => x1 t y1 (by omega)), gI_s, upd_n (x1 k (by omega) (by omega))]
theorem op_copy {σ : Hp} (h : Rel σ) (x1 x2 x3 x4 x5 : Int32) : Sim (f_X11_copy σ x1 x2 x3 x4 x5) (fun s => f_X12_copy s x1 x2 x3 x4 x5) := by
  by_cases hx : inb x1 8
  · by_cases hz : inb x3 8
    · obtain ⟨a, ha, rfl⟩ := inb_nI hx (by decide)
      obtain ⟨c, hc, rfl⟩ := inb_nI hz (by decide)
      rcases h.2.1.1 a ha with ⟨a1, a2⟩ | ⟨L, N, hL, hN, a1, a2, a3, a4⟩
      · refine ⟨sI σ 0 8 1, -1000010 - 1, sI (sI σ 0 8 1) 51 6 1, ?_, ?_, rel_found h 1⟩
        · unfold f_X11_copy
          rw [e_cRow1 hx, bd1_s, if_neg n10, e_cRow1 hz, bd1_s, if_neg n10, e_miss1 ha a1, bd1_s, if_neg n10]
          rfl
        · show f_X12_copy _ _ _ _ _ _ = _
          unfold f_X12_copy
          rw [e_mRow1 hx, bd1_s, if_neg n10, e_mRow1 hz, bd1_s, if_neg n10, chk_s hx, nI_cl (by omega), if_pos (show gI (sI σ 0 8 1) 55 a = -1000000 from a2)]
          rfl
      · rcases h.2.1.1 c hc with ⟨b1, b2⟩ | ⟨L', N', hL', hN', b1, b2, b3, b4⟩
        · refine ⟨sI σ 0 8 1, -1000010 - 1, sI (sI σ 0 8 1) 51 6 1, ?_, ?_, rel_found h 1⟩
          · unfold f_X11_copy
            rw [e_cRow1 hx, bd1_s, if_neg n10, e_cRow1 hz, bd1_s, if_neg n10, e_miss0 ha hN a3, bd1_s, if_pos rfl, e_miss1 hc b1, bd1_s, if_neg n10]
            rfl
          · show f_X12_copy _ _ _ _ _ _ = _
            unfold f_X12_copy
            rw [e_mRow1 hx, bd1_s, if_neg n10, e_mRow1 hz, bd1_s, if_neg n10, chk_s hx, nI_cl (by omega), show gI (sI σ 0 8 1) 55 a = nI L from a2, if_neg (nI_nN (by omega)), chk_s hz, nI_cl (by omega), if_pos (show gI (sI σ 0 8 1) 55 c = -1000000 from b2)]
            rfl
        · by_cases hLL : L = L'
          · subst hLL
            by_cases s1 : spn x2 x5 N
            · by_cases s2 : spn x4 x5 N'
              · obtain ⟨t1, t2, t3⟩ := s1
                obtain ⟨t4, t5, t6⟩ := s2
                obtain ⟨b, hb, rfl⟩ := inb_nI (x := x2) (n := 41) ⟨t1, by omega⟩ (by decide)
                obtain ⟨d, hd, rfl⟩ := inb_nI (x := x4) (n := 41) ⟨t4, by omega⟩ (by decide)
                obtain ⟨e, he, rfl⟩ := inb_nI (x := x5) (n := 41) ⟨t2, by omega⟩ (by decide)
                have hbe : b + e ≤ N := by rw [nI_toInt (by omega), nI_toInt (by omega)] at t3; omega
                have hde : d + e ≤ N' := by rw [nI_toInt (by omega), nI_toInt (by omega)] at t6; omega
                have k : ∃ σ1, f_X11_copy σ (nI a) (nI b) (nI c) (nI d) (nI e) = some (σ1, nI e) ∧ onlyI (fun q => q = 0 ∨ q = 3 + c) σ σ1 ∧ gI σ1 (3 + c) = va_cpy (gI σ (3 + a)) (gI σ (3 + c)) b d e ∧ gI σ1 0 8 = 0 := by
                  refine ⟨sI (rI σ (3 + c) (va_cpy (gI σ (3 + a)) (gI σ (3 + c)) b d e)) 0 8 0, ?_, (onlyI.rf.row (by omega)).st (by omega), ?_, ?_⟩
                  · unfold f_X11_copy f_X6_areOfOneLane f_X6_move
                    rw [e_cRow1 hx, bd1_s, if_neg n10, e_cRow1 hz, bd1_s, if_neg n10, e_miss0 ha hN a3, bd1_s, if_pos rfl, e_miss0 hc hN' b3, bd1_s, if_pos rfl, chk_s hx, chk_s hz, nI_cl (by omega), nI_cl (by omega), a1, b1, if_pos rfl, bd1_s, if_neg n10, e_holds1 ha hN a3 ⟨t1, t2, t3⟩, bd1_s, if_neg n10, e_holds1 hc hN' b3 ⟨t4, t5, t6⟩, bd1_s, if_neg n10, chk_s hx, chk_s hz, chk_s ⟨nI_pos (by omega), nI_pos (by omega), nI_pos (by omega), by rw [nI_cl (by omega), nI_cl (by omega)]; omega, by rw [nI_cl (by omega), nI_cl (by omega)]; omega⟩, nI_cl (by omega), nI_cl (by omega), nI_cl (by omega)]
                    rfl
                  · simp (disch := omega) only [gI_n, gI_rI]
                  · rw [gI_s, upd_s]
                obtain ⟨σ1, k1, k2, k3, k4⟩ := k
                have m : ∃ σ2, f_X12_copy σ1 (nI a) (nI b) (nI c) (nI d) (nI e) = some (σ2, nI e) ∧ onlyI (fun q => q = 51 ∨ q = 57) σ1 σ2 ∧ (∀ t, t < e → gI σ2 57 (40 * c + d + t) = gI σ1 57 (40 * a + b + t)) ∧ (∀ i, (∀ t, t < e → i ≠ 40 * c + d + t) → gI σ2 57 i = gI σ1 57 i) ∧ gI σ2 51 = upd (gI σ1 51) 6 0 := by
                  obtain ⟨f, e1, e2, e3⟩ := e_copy98 ha hc (show b + e ≤ 40 by omega) (show d + e ≤ 40 by omega) (gI σ1 57) fu 0 σ1 (by omega) (by show e < 0 + 512; omega) (fun _ _ _ => rfl)
                  refine ⟨sI (rI σ1 57 f) 51 6 0, ?_, (onlyI.rf.row (by omega)).st (by omega), fun t ht => ?_, fun i hi => ?_, ?_⟩
                  · have a2' : gI σ1 55 a = nI L := by rw [k2.1 55 (by omega)]; exact a2
                    have b2' : gI σ1 55 c = nI L := by rw [k2.1 55 (by omega)]; exact b2
                    have a4' : gI σ1 56 a = nI N := by rw [k2.1 56 (by omega)]; exact a4
                    have b4' : gI σ1 56 c = nI N' := by rw [k2.1 56 (by omega)]; exact b4
                    unfold f_X12_copy
                    rw [e_mRow1 hx, bd1_s, if_neg n10, e_mRow1 hz, bd1_s, if_neg n10, chk_s hx, nI_cl (by omega), a2', if_neg (nI_nN (by omega)), chk_s hz, nI_cl (by omega), b2', if_neg (nI_nN (by omega)), chk_s hx, chk_s hz, if_pos rfl, e_span1 ha hN a4' ⟨t1, t2, t3⟩, bd1_s, if_neg n10, e_span1 hc hN' b4' ⟨t4, t5, t6⟩, bd1_s, if_neg n10]
                    exact e1
                  · simp (disch := omega) only [gI_n, gI_rI]
                    exact e2 t ht (by omega)
                  · simp (disch := omega) only [gI_n, gI_rI]
                    exact e3 i (fun t y1 _ => hi t y1)
                  · simp (disch := omega) only [gI_n, gI_rIn, gI_s]
                obtain ⟨σ2, m1, m2, m3, m4, m5⟩ := m
                refine ⟨σ1, nI e, σ2, k1, m1, rel_rows h ((k2.mono (by omega)).tr (m2.mono (by omega))) ?_ ?_ ⟨fun r hr => ?_, fun r i hr hi => ?_⟩⟩
                · rw [m5, upd_s, m2.1 0 (by omega), k4]
                · intro k hk
                  rw [m5, upd_n hk, k2.1 51 (by omega)]
                · rw [m2.1 12 (by omega), m2.1 11 (by omega), m2.1 55 (by omega), m2.1 56 (by omega), k2.1 12 (by omega), k2.1 11 (by omega), k2.1 55 (by omega), k2.1 56 (by omega)]
                  exact h.2.1.1 r hr
                · rw [m2.1 (3 + r) (by omega)]
                  by_cases hrc : r = c
                  · subst hrc
                    rw [k3]
                    by_cases hin : d ≤ i ∧ i < d + e
                    · rw [pk_cpy_in hin.1 hin.2, show 40 * r + i = 40 * r + d + (i - d) by omega, m3 _ (by omega), k2.1 57 (by omega), h.2.1.2 a _ ha (by omega), Nat.add_assoc]
                    · rw [pk_cpy_out (by omega), m4 _ (fun t ht => by omega), k2.1 57 (by omega)]
                      exact h.2.1.2 r i hr hi
                  · rw [m4 _ (fun t ht => by omega), k2.1 (3 + r) (by omega), k2.1 57 (by omega)]
                    exact h.2.1.2 r i hr hi
              · refine ⟨sI σ 0 8 2, -1000010 - 2, sI (sI σ 0 8 2) 51 6 2, ?_, ?_, rel_found h 2⟩
                · unfold f_X11_copy f_X6_areOfOneLane
                  rw [e_cRow1 hx, bd1_s, if_neg n10, e_cRow1 hz, bd1_s, if_neg n10, e_miss0 ha hN a3, bd1_s, if_pos rfl, e_miss0 hc hN' b3, bd1_s, if_pos rfl, chk_s hx, chk_s hz, nI_cl (by omega), nI_cl (by omega), a1, b1, if_pos rfl, bd1_s, if_neg n10, e_holds1 ha hN a3 s1, bd1_s, if_neg n10, e_holds0 hc hN' b3 s2, bd1_s, if_pos rfl]
                  rfl
                · show f_X12_copy _ _ _ _ _ _ = _
                  unfold f_X12_copy
                  rw [e_mRow1 hx, bd1_s, if_neg n10, e_mRow1 hz, bd1_s, if_neg n10, chk_s hx, nI_cl (by omega), show gI (sI σ 0 8 2) 55 a = nI L from a2, if_neg (nI_nN (by omega)), chk_s hz, nI_cl (by omega), show gI (sI σ 0 8 2) 55 c = nI L from b2, if_neg (nI_nN (by omega)), chk_s hx, chk_s hz, if_pos rfl, e_span1 ha hN (show gI (sI σ 0 8 2) 56 a = nI N from a4) s1, bd1_s, if_neg n10, e_span0 hc hN' (show gI (sI σ 0 8 2) 56 c = nI N' from b4) s2, bd1_s, if_pos rfl]
                  rfl
            · refine ⟨sI σ 0 8 2, -1000010 - 2, sI (sI σ 0 8 2) 51 6 2, ?_, ?_, rel_found h 2⟩
              · unfold f_X11_copy f_X6_areOfOneLane
                rw [e_cRow1 hx, bd1_s, if_neg n10, e_cRow1 hz, bd1_s, if_neg n10, e_miss0 ha hN a3, bd1_s, if_pos rfl, e_miss0 hc hN' b3, bd1_s, if_pos rfl, chk_s hx, chk_s hz, nI_cl (by omega), nI_cl (by omega), a1, b1, if_pos rfl, bd1_s, if_neg n10, e_holds0 ha hN a3 s1, bd1_s, if_pos rfl]
                rfl
              · show f_X12_copy _ _ _ _ _ _ = _
                unfold f_X12_copy
                rw [e_mRow1 hx, bd1_s, if_neg n10, e_mRow1 hz, bd1_s, if_neg n10, chk_s hx, nI_cl (by omega), show gI (sI σ 0 8 2) 55 a = nI L from a2, if_neg (nI_nN (by omega)), chk_s hz, nI_cl (by omega), show gI (sI σ 0 8 2) 55 c = nI L from b2, if_neg (nI_nN (by omega)), chk_s hx, chk_s hz, if_pos rfl, e_span0 ha hN (show gI (sI σ 0 8 2) 56 a = nI N from a4) s1, bd1_s, if_pos rfl]
                rfl
          · have hne : ¬ nI L = nI L' := by rw [nI_eq (by omega) (by omega)]; exact hLL
            refine ⟨sI σ 0 8 5, -1000010 - 5, sI (sI σ 0 8 5) 51 6 5, ?_, ?_, rel_found h 5⟩
            · unfold f_X11_copy f_X6_areOfOneLane
              rw [e_cRow1 hx, bd1_s, if_neg n10, e_cRow1 hz, bd1_s, if_neg n10, e_miss0 ha hN a3, bd1_s, if_pos rfl, e_miss0 hc hN' b3, bd1_s, if_pos rfl, chk_s hx, chk_s hz, nI_cl (by omega), nI_cl (by omega), a1, b1, if_neg hne, bd1_s, if_pos rfl]
              rfl
            · show f_X12_copy _ _ _ _ _ _ = _
              unfold f_X12_copy
              rw [e_mRow1 hx, bd1_s, if_neg n10, e_mRow1 hz, bd1_s, if_neg n10, chk_s hx, nI_cl (by omega), show gI (sI σ 0 8 5) 55 a = nI L from a2, if_neg (nI_nN (by omega)), chk_s hz, nI_cl (by omega), show gI (sI σ 0 8 5) 55 c = nI L' from b2, if_neg (nI_nN (by omega)), chk_s hx, chk_s hz, if_neg hne]
              rfl
    · refine sim_bad h ?_ ?_
      · unfold f_X11_copy
        rw [e_cRow1 hx, bd1_s, if_neg n10, e_cRow0 hz, bd1_s, if_pos rfl]
      · show f_X12_copy _ _ _ _ _ _ = _
        unfold f_X12_copy
        rw [e_mRow1 hx, bd1_s, if_neg n10, e_mRow0 hz, bd1_s, if_pos rfl]
  · refine sim_bad h ?_ ?_
    · unfold f_X11_copy
      rw [e_cRow0 hx, bd1_s, if_pos rfl]
    · show f_X12_copy _ _ _ _ _ _ = _
      unfold f_X12_copy
      rw [e_mRow0 hx, bd1_s, if_pos rfl]
