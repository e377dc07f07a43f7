theorem e_nm (σ : Hp) (y : Int64) : f_X12_isName σ y = some 0 ∨ f_X12_isName σ y = some 1 := by
  unfold f_X12_isName
  by_cases h : gI σ 51 11 = 1
  · rw [if_pos h]
    by_cases k : lg_cmp (gJ σ 51 13) y = 0
    · rw [if_pos k]
      exact Or.inr rfl
    · rw [if_neg k]
      exact Or.inl rfl
  · rw [if_neg h]
    exact Or.inl rfl
theorem e_sortA (σ : Hp) : ∃ v, f_X12_sortNow σ = some v := by
  unfold f_X12_sortNow
  rcases e_nm σ 1650811246 with q | q <;> rw [q, bd1_s]
  · rw [if_pos rfl]
    rcases e_nm σ 418498243685 with q | q <;> rw [q, bd1_s]
    · rw [if_pos rfl]
      rcases e_nm σ 7502181 with q | q <;> rw [q, bd1_s]
      · rw [if_pos rfl]
        rcases e_nm σ 444300620659 with q | q <;> rw [q, bd1_s]
        · rw [if_pos rfl]
          rcases e_nm σ 109317377647986 with q | q <;> rw [q, bd1_s]
          · exact ⟨_, if_pos rfl⟩
          · exact ⟨_, if_neg n10⟩
        · exact ⟨_, if_neg n10⟩
      · exact ⟨_, if_neg n10⟩
    · exact ⟨_, if_neg n10⟩
  · exact ⟨_, if_neg n10⟩
theorem e_msort {σ : Hp} {T : Tp} {p : Nat} (S : MS σ T p) : f_X12_sortNow σ = some (if srt T p = 0 then -1000000 else nI (srt T p)) := by
  have m2 := S.2.1
  have m4 := S.2.2.2
  unfold f_X12_sortNow srt
  rw [show f_X12_isName σ 1650811246 = _ from e_mW (w := 3) (by decide) m4 m2, bd1_s, show f_X12_isName σ 418498243685 = _ from e_mW (w := 4) (by decide) m4 m2, bd1_s, show f_X12_isName σ 7502181 = _ from e_mW (w := 5) (by decide) m4 m2, bd1_s, show f_X12_isName σ 444300620659 = _ from e_mW (w := 6) (by decide) m4 m2, bd1_s, show f_X12_isName σ 109317377647986 = _ from e_mW (w := 7) (by decide) m4 m2, bd1_s]
  cases isWd T 3 p <;> cases isWd T 4 p <;> cases isWd T 5 p <;> cases isWd T 6 p <;> cases isWd T 7 p <;> rfl
theorem e_42F {σ : Hp} {f s : Nat} (h : MF σ f s) (x1 t : Int32) : f_X12_readStrip_42 σ x1 t = some σ := by
  unfold f_X12_readStrip_42
  rw [e_mustF h, bd1_s, e_goF h, bd1_s, e_numF h, bd2_s, e_numF h, bd2_s, e_stopF h, bd1_s, if_neg h.n0]
theorem e_mStrip {σ : Hp} {T : Tp} {p : Nat} {u : GD} (S : MS σ T p) (V : VG u) (D : uD u = 0) (R : MR σ u) : ∃ σ', onlyQ σ σ' ∧ f_X12_readStrip σ = some σ' ∧ ((∃ f s, MF σ' f s ∧ ∀ k, pStrip T u p k = .inl (f, s)) ∨ (∃ so wo ri p', uS u < 12 ∧ (1 ≤ so ∧ so ≤ 5) ∧ wo ≤ 99 ∧ ri ≤ 11 ∧ MS σ' T p' ∧ MR σ' (adS u so wo ri) ∧ ∀ k, pStrip T u p k = k (adS u so wo ri) p')) := by
  obtain ⟨m1, m2, m3, m4⟩ := id S
  have hP := V.2.2.1
  have hS := V.2.1
  unfold f_X12_readStrip
  rw [R.k.2.2.1]
  by_cases h12 : 12 ≤ uS u
  · have F := S.flt (f := 3) (by omega)
    obtain ⟨v, hv⟩ := e_sortA (sI σ 51 14 (nI 3))
    rw [if_pos (show (12 : Int32) ≤ nI (uS u) from nI_le (a := 12) h12 (by omega))]
    unfold f_X12_readStrip_17
    rw [e_must0 m3, bd1_s]
    show ∃ σ', onlyQ σ σ' ∧ (bd1 (f_X12_goesOn (sI σ 51 14 (nI 3))) _) = some σ' ∧ _
    rw [e_goF F, bd1_s, hv, bd1_s, e_42F F, e_42F F]
    refine ⟨_, onlyQ.rf.f14, by split <;> rfl, Or.inl ⟨3, _, F, fun k => ?_⟩⟩
    unfold pStrip
    rw [if_pos h12]
  · rw [if_neg (show ¬ (12 : Int32) ≤ nI (uS u) from nI_ge (b := 12) (by omega) (by decide))]
    unfold f_X12_readStrip_17
    obtain ⟨s2, g1, g2, S2⟩ := e_goS S
    have so5 := srt_le (T := T) (p := tE T p)
    rw [e_must1, bd1_s, g1, bd1_s, e_msort S2, bd1_s]
    by_cases h0 : srt T (tE T p) = 0
    · have F := S2.flt (f := 1) (by omega)
      rw [if_pos h0, if_pos rfl]
      unfold f_X12_readStrip_42
      rw [e_must0 S2.2.2.1, bd1_s]
      show ∃ σ', onlyQ σ σ' ∧ (bd1 (f_X12_goesOn (sI s2 51 14 (nI 1))) _) = some σ' ∧ _
      rw [e_goF F, bd1_s, e_numF F, bd2_s, e_numF F, bd2_s, e_stopF F, bd1_s, if_neg F.n0]
      refine ⟨_, g2.Q.f14, rfl, Or.inl ⟨1, _, F, fun k => ?_⟩⟩
      unfold pStrip
      rw [if_neg h12, if_pos h0]
    · rw [if_neg h0, if_neg (nI_nN (by omega))]
      unfold f_X12_readStrip_42
      obtain ⟨s3, g3, g4, S3⟩ := e_goS S2
      rw [e_must1, bd1_s, g3, bd1_s]
      obtain ⟨s4, o4, r4, ⟨v, f, a1, a2, a3⟩ | ⟨a1, S4, a3, a4, a5⟩⟩ := e_mNum S3 (most := 99) (but := 1000) (bI' := -1000000) (by omega) b_none
      · rw [show f_X12_readNumber s3 99 (-1000000) = _ from a1, bd2_s, e_numF a2, bd2_s, e_stopF a2, bd1_s, if_neg a2.n0]
        refine ⟨s4, (g2.Q.tr g4.Q).tr o4, rfl, Or.inl ⟨f, _, a2, fun k => ?_⟩⟩
        unfold pStrip
        rw [if_neg h12, if_neg h0]
        exact a3 _
      · rw [show f_X12_readNumber s3 99 (-1000000) = _ from a1, bd2_s]
        obtain ⟨s5, o5, r5, ⟨v, f, b1, b2, b3⟩ | ⟨b1, S5, b3, b4, b5⟩⟩ := e_mNum S4 (most := 11) (but := 1000) (bI' := -1000000) (by omega) b_none
        · rw [show f_X12_readNumber s4 11 (-1000000) = _ from b1, bd2_s, e_stopF b2, bd1_s, if_neg b2.n0]
          refine ⟨s5, ((g2.Q.tr g4.Q).tr o4).tr o5, rfl, Or.inl ⟨f, _, b2, fun k => ?_⟩⟩
          unfold pStrip
          rw [if_neg h12, if_neg h0, a5]
          exact b3 _
        · rw [show f_X12_readNumber s4 11 (-1000000) = _ from b1, bd2_s]
          obtain ⟨s6, o6, r6, c1, ⟨c2, c3⟩ | ⟨S6, c3⟩⟩ := e_mStop S5
          · rw [c1, bd1_s, if_neg c2.n0]
            refine ⟨s6, (((g2.Q.tr g4.Q).tr o4).tr o5).tr o6, rfl, Or.inl ⟨1, _, c2, fun k => ?_⟩⟩
            unfold pStrip
            rw [if_neg h12, if_neg h0, a5, b5]
            exact c3 _
          · have R6 : MR s6 u := R.of (by rw [r6, r5, r4, g4.1 59 (by decide), g2.1 59 (by decide)])
            have k6 := R6.k.2.2.1
            have i1 : (6 : Int32) + 3 * nI (uS u) = nI (6 + 3 * uS u) := by rw [show (6 : Int32) = nI 6 from rfl, show (3 : Int32) = nI 3 from rfl, pk_mul, nI_add]
            have i3 : nI (6 + 3 * uS u) + 2 = nI (6 + 3 * uS u + 2) := by rw [show (2 : Int32) = nI 2 from rfl, nI_add]
            have in0 : inb (nI (6 + 3 * uS u)) 78 := nI_inb (by omega) (by decide)
            have in1 : inb (nI (6 + 3 * uS u + 1)) 78 := nI_inb (by omega) (by decide)
            have in2 : inb (nI (6 + 3 * uS u + 2)) 78 := nI_inb (by omega) (by decide)
            have k7 : ∀ v w x, gI (sI (sI (sI s6 59 (6 + 3 * uS u) v) 59 (6 + 3 * uS u + 1) w) 59 (6 + 3 * uS u + 2) x) 59 4 = nI (uS u) := fun v w x => by rw [gI_s, upd_n (by omega), gI_s, upd_n (by omega), gI_s, upd_n (by omega)]; exact k6
            rw [c1, bd1_s, if_pos S6.2.2.1, k6, i1, bnd_s, nI_1 (6 + 3 * uS u), i3, chk_s in0, chk_s in1, bnd_s, chk_s in2, bnd_s, nI_cl (show 6 + 3 * uS u < 2147483648 by omega), nI_cl (show 6 + 3 * uS u + 1 < 2147483648 by omega), nI_cl (show 6 + 3 * uS u + 2 < 2147483648 by omega), k7, nI_1 (uS u)]
            refine ⟨_, ((((g2.Q.tr g4.Q).tr o4).tr o5).tr o6).rd.rd.rd.rd, rfl, Or.inr ⟨srt T (tE T p), tV T (tE T (tE T p)), tV T (tE T (tE T (tE T p))), _, by omega, by omega, a3, b3, S6.rd.rd.rd.rd, ?_, fun k => ?_⟩⟩
            · unfold MR at R6 ⊢
              rw [gI_s, gI_s, gI_s, gI_s]
              obtain ⟨d0, d1, d2, d3, d4, d5, d6, d7, d8⟩ := R6
              have e : ∀ k, ¬ (6 + 3 * uS u ≤ k ∧ k ≤ 6 + 3 * uS u + 2) → k ≠ 4 → upd (upd (upd (upd (upd (gI s6 59) (6 + 3 * uS u) (nI (srt T (tE T p)))) (6 + 3 * uS u + 1) (nI (tV T (tE T (tE T p))))) (6 + 3 * uS u + 2) (nI (tV T (tE T (tE T (tE T p)))))) 4 (nI (uS u + 1))) 0 1 k = upd (gI s6 59) 0 1 k := fun k q1 q2 => by
                by_cases q0 : k = 0
                · rw [q0, upd_s, upd_s]
                · rw [upd_n q0, upd_n q2, upd_n (by omega), upd_n (by omega), upd_n (by omega), upd_n q0]
              refine ⟨by rw [upd_s], by rw [e _ (by omega) (by omega)]; exact d1, by rw [e _ (by omega) (by omega)]; exact d2, by rw [e _ (by omega) (by omega)]; exact d3, ?_, by rw [e _ (by omega) (by omega)]; exact d5, fun j hj => ?_, fun j hj => ?_, fun d hd => ?_⟩
              · rw [upd_n (by decide), upd_s]; rfl
              · have hj : j < uS u + 1 := hj
                show _ = nI (if j = uS u then srt T (tE T p) else uSo u j) ∧ _ = nI (if j = uS u then tV T (tE T (tE T p)) else uWo u j) ∧ _ = nI (if j = uS u then tV T (tE T (tE T (tE T p))) else uRi u j)
                by_cases q : j = uS u
                · subst q
                  rw [if_pos rfl, if_pos rfl, if_pos rfl]
                  refine ⟨?_, ?_, ?_⟩
                  · rw [upd_n (by omega), upd_n (by omega), upd_n (by omega), upd_n (by omega), upd_s]
                  · rw [upd_n (by omega), upd_n (by omega), upd_n (by omega), upd_s]
                  · rw [upd_n (by omega), upd_n (by omega), upd_s]
                · rw [if_neg q, if_neg q, if_neg q, e _ (by omega) (by omega), e _ (by omega) (by omega), e _ (by omega) (by omega)]
                  exact d6 j (by omega)
              · have hj' : j < uP u := hj
                rw [e _ (by omega) (by omega), e _ (by omega) (by omega)]
                exact d7 j hj
              · have hd : d < uD u := hd
                omega
            · unfold pStrip
              rw [if_neg h12, if_neg h0, a5, b5]
              exact c3 _
/-! the model's answer -/
def MOut (res : Rs) (σ σ' : Hp) (r : Int32) : Prop := (∀ q, q ≠ 51 → q ≠ 52 → q ≠ 59 → gI σ' q = gI σ q) ∧ (∀ k, k = 6 ∨ k = 25 → gI σ' 51 k = gI σ 51 k) ∧ σ'.2.2 = σ.2.2 ∧ gI σ' 51 8 = 0 ∧ ((∃ f s, res = .inl (f, s) ∧ r = -1000100 - nI s ∧ gI σ' 51 15 = nI f ∧ gI σ' 52 = gI σ 52) ∨ (∃ u, res = .inr u ∧ r = nI (uS u) ∧ gI σ' 51 15 = gI σ 51 15 ∧ MG (gI σ' 52) u))
theorem MOut.tr {res : Rs} {a b c : Hp} {r : Int32} (h : onlyQ a b) (k : MOut res b c r) : MOut res a c r := by
  obtain ⟨k1, k2, k3, k4, k5⟩ := k
  refine ⟨fun q h1 h2 h3 => (k1 q h1 h2 h3).trans (h.1 q h1 h3), fun q hq => (k2 q hq).trans (h.2.1 q (by omega) (by omega)), k3.trans h.2.2, k4, ?_⟩
  rcases k5 with ⟨f, s, e1, e2, e3, e4⟩ | ⟨u, e1, e2, e3, e4⟩
  · exact Or.inl ⟨f, s, e1, e2, e3, e4.trans (h.1 52 (by decide) (by decide))⟩
  · exact Or.inr ⟨u, e1, e2, e3.trans (h.2.1 15 (by omega) (by omega)), e4⟩
theorem e_100F {σ : Hp} {f s : Nat} (h : MF σ f s) (x : Int32) : ∃ σ' r, f_X12_ground_100 σ x = some (σ', r) ∧ MOut (.inl (f, s)) σ σ' r := by
  have k : gI (sI σ 51 8 0) 51 14 = nI f := by rw [gI_s, upd_n (by decide)]; exact h.1
  unfold f_X12_ground_100
  rw [e_mustF h, bd1_s, bnd_s, k, if_neg (show ¬ nI f ≤ 0 from nI_nle (by have := h.2.1; omega) (by have := h.2.1; omega)), h.2.2]
  refine ⟨_, _, rfl, fun q h1 h2 h3 => by rw [gI_n h1, gI_n h1], fun k hk => by rw [gI_s, upd_n (by omega), gI_s, upd_n (by omega)], rfl, by rw [gI_s, upd_n (by decide), gI_s, upd_s], Or.inl ⟨f, s, rfl, rfl, by rw [gI_s, upd_s], by rw [gI_n (by decide), gI_n (by decide)]⟩⟩
theorem e_100N {σ : Hp} {T : Tp} {p : Nat} (S : MS σ T p) : ∃ σ' r, f_X12_ground_100 σ 0 = some (σ', r) ∧ MOut (.inl (1, tS T p)) σ σ' r := by
  have F := S.flt (f := 1) (by omega)
  obtain ⟨σ', r, e1, e2⟩ := e_100F F 0
  refine ⟨σ', r, ?_, e2.tr onlyQ.rf.f14⟩
  rw [← e1]
  unfold f_X12_ground_100
  rw [e_must0 S.2.2.1, e_mustF F]
  rfl
theorem e_136 : ∀ (n t : Nat) (σ : Hp), t ≤ 78 → 78 < t + n → ∃ σ', f_X12_ground_136 n σ (nI t) = some (σ', gI σ' 52 4) ∧ onlyI (fun q => q = 52) σ σ' ∧ gI σ' 52 0 = 1 ∧ (∀ k, 1 ≤ k → t ≤ k → k < 78 → gI σ' 52 k = gI σ 59 k) ∧ ∀ k, 1 ≤ k → k < t → gI σ' 52 k = gI σ 52 k := by
  intro n
  induction n with
  | zero =>
    intro t σ h1 h2
    omega
  | succ n ih =>
    intro t σ h1 h2
    rw [f_X12_ground_136]
    by_cases ht : t = 78
    · subst ht
      rw [if_pos (by decide)]
      exact ⟨_, rfl, onlyI.rf.st rfl, by rw [gI_s, upd_s], fun k _ a b => by omega, fun k a _ => by rw [gI_s, upd_n (by omega)]⟩
    · have ib : inb (nI t) 78 := nI_inb (by omega) (by decide)
      rw [if_neg (show ¬ (78 : Int32) ≤ nI t from nI_ge (b := 78) (by omega) (by decide)), chk_s ib, chk_s ib, nI_cl (by omega), nI_1]
      obtain ⟨σ', e1, e2, e3, e4, e5⟩ := ih (t + 1) (sI σ 52 t (gI σ 59 t)) (by omega) (by omega)
      refine ⟨σ', e1, ((onlyI.rf (S := fun q => q = 52)).st rfl).tr e2, e3, fun k a b c => ?_, fun k a b => ?_⟩
      · by_cases hk : k = t
        · rw [e5 k a (by omega), gI_s, hk, upd_s]
        · rw [e4 k a (by omega) c, gI_n (by decide)]
      · rw [e5 k a (by omega), gI_s, upd_n (by omega)]
theorem MG_ext {t t' : Nat → Int32} {u : GD} (V : VG u) (h0 : t' 0 = 1) (h : ∀ k, 1 ≤ k → k < 78 → t' k = t k) (M : MG (upd t 0 1) u) : MG t' u := by
  have hS := V.2.1
  have hP := V.2.2.1
  have hD := V.1
  have e : ∀ k, 1 ≤ k → k < 78 → t' k = upd t 0 1 k := fun k a b => by rw [upd_n (by omega)]; exact h k a b
  obtain ⟨d0, d1, d2, d3, d4, d5, d6, d7, d8⟩ := M
  exact ⟨h0, by rw [e _ (by omega) (by omega)]; exact d1, by rw [e _ (by omega) (by omega)]; exact d2, by rw [e _ (by omega) (by omega)]; exact d3, by rw [e _ (by omega) (by omega)]; exact d4, by rw [e _ (by omega) (by omega)]; exact d5, fun i hi => by rw [e _ (by omega) (by omega), e _ (by omega) (by omega), e _ (by omega) (by omega)]; exact d6 i hi, fun p hp => by rw [e _ (by omega) (by omega), e _ (by omega) (by omega)]; exact d7 p hp, fun d hd => by rw [e _ (by omega) (by omega), e _ (by omega) (by omega)]; exact d8 d hd⟩
theorem e_100S {σ : Hp} {u : GD} (h : gI σ 51 14 = 0) (V : VG u) (R : MR σ u) : ∃ σ' r, f_X12_ground_100 σ 1 = some (σ', r) ∧ MOut (.inr u) σ σ' r := by
  obtain ⟨σ', e1, e2, e3, e4, e5⟩ := e_136 fu 0 (sI σ 51 8 0) (by omega) (by decide)
  have M : MG (gI σ' 52) u := MG_ext V e3 (fun k a b => e4 k a (Nat.zero_le _) b) (by rw [gI_n (by decide)]; exact R)
  unfold f_X12_ground_100
  rw [e_must1, bd1_s, bnd_s, gI_s, upd_n (show (14 : Nat) ≠ 8 by decide), h, if_pos (by decide)]
  refine ⟨σ', gI σ' 52 4, e1, fun q h1 h2 h3 => by rw [e2.1 q h2, gI_n h1], fun k hk => by rw [e2.1 51 (by decide), gI_s, upd_n (by omega)], by rw [e2.2]; rfl, by rw [e2.1 51 (by decide), gI_s, upd_s], Or.inr ⟨u, rfl, M.2.2.2.2.1, by rw [e2.1 51 (by decide), gI_s, upd_n (by decide)], M⟩⟩
theorem e_63F {σ : Hp} {f s m : Nat} (h : MF σ f s) : ∃ σ' r, f_X12_ground_63 (m + 1) σ = some (σ', r) ∧ MOut (.inl (f, s)) σ σ' r := by
  rw [f_X12_ground_63, if_neg h.n0]
  by_cases k : gI σ 51 11 = 0
  · rw [if_pos k]
    exact e_100F h 1
  · rw [if_neg k]
    exact e_100F h 0
theorem pMain_s {T : Tp} {n p : Nat} {u : GD} : pMain T (n + 1) u p = if tK T p = 0 then .inr u else if isWd T 1 p = true ∧ uS u = 0 then pPond T u p (fun u p => pMain T n u p) else if isWd T 2 p = true then pStrip T u p (fun u p => pMain T n u p) else .inl (1, tS T p) := rfl
theorem e_m63 {T : Tp} : ∀ (n m : Nat) (u : GD) (p : Nat) (σ : Hp), n < m → 18 < n + uP u + uS u → MS σ T p → VG u → uD u = 0 → MR σ u → ¬ (isWd T 1 p = true ∧ uS u = 0) → ∃ σ' r, f_X12_ground_63 m σ = some (σ', r) ∧ MOut (pMain T n u p) σ σ' r := by
  intro n
  induction n with
  | zero =>
    intro m u p σ _ h2 _ V
    have := V.2.1
    have := V.2.2.1
    omega
  | succ n ih =>
    intro m0 u p σ h1 h2 S V D R hn
    obtain ⟨m, rfl⟩ : ∃ m, m0 = m + 1 + 1 := ⟨m0 - 2, by omega⟩
    obtain ⟨m1, m2, m3, m4⟩ := id S
    have hk := tK_le (T := T) (p := p)
    have w : f_X12_isName σ 495874894192 = some (bI (isWd T 2 p)) := e_mW (w := 2) (by decide) m4 m2
    rw [f_X12_ground_63, if_pos m3, w, bd1_s, m2.2.2.1, pMain_s]
    by_cases h0 : tK T p = 0
    · have hW : isWd T 2 p = false := Bool.eq_false_iff.mpr (fun z => by have := (isWd_iff.mp z).1; omega)
      rw [hW, if_pos (by decide), if_pos (by rw [h0]; rfl), if_pos h0]
      exact e_100S m3 V R
    · rw [if_neg h0, if_neg hn]
      cases hW : isWd T 2 p with
      | false =>
        rw [if_pos (by decide), if_neg (by show ¬ nI (tK T p) = nI 0; rw [nI_eq (by omega) (by decide)]; exact h0), if_neg (show ¬ false = true by decide)]
        exact e_100N S
      | true =>
        rw [if_neg (by decide), if_pos (show true = true from rfl)]
        obtain ⟨s1, o1, a1, ⟨f, s, a2, a3⟩ | ⟨so, wo, ri, p', b1, b2, b3, b4, S1, R1, b7⟩⟩ := e_mStrip S V D R
        · rw [a1, bd1_s, a3]
          obtain ⟨σ', r, c1, c2⟩ := e_63F (m := m) a2
          exact ⟨σ', r, c1, c2.tr o1⟩
        · rw [a1, bd1_s, b7]
          obtain ⟨σ', r, c1, c2⟩ := ih (m + 1) (adS u so wo ri) p' s1 (by omega) (by show 18 < n + uP u + (uS u + 1); omega) S1 (adS_V V b1 b2 b3 b4) D R1 (fun z => by have : uS u + 1 = 0 := z.2; omega)
          exact ⟨σ', r, c1, c2.tr o1⟩
theorem e_m39 {T : Tp} : ∀ (n m : Nat) (u : GD) (p : Nat) (σ : Hp), n < m → n < 500 → 18 < n + uP u + uS u → uS u = 0 → MS σ T p → VG u → uD u = 0 → MR σ u → ∃ σ' r, f_X12_ground_39 m σ = some (σ', r) ∧ MOut (pMain T n u p) σ σ' r := by
  intro n
  induction n with
  | zero =>
    intro m u p σ _ _ h2 _ _ V
    have := V.2.1
    have := V.2.2.1
    omega
  | succ n ih =>
    intro m0 u p σ h1 h5 h2 hs0 S V D R
    obtain ⟨m, rfl⟩ : ∃ m, m0 = m + 1 + 1 := ⟨m0 - 2, by omega⟩
    obtain ⟨m1, m2, m3, m4⟩ := id S
    have w : f_X12_isName σ 1886350948 = some (bI (isWd T 1 p)) := e_mW (w := 1) (by decide) m4 m2
    rw [f_X12_ground_39, if_pos m3, w, bd1_s]
    cases hW : isWd T 1 p with
    | false =>
      rw [if_pos (by decide)]
      exact e_m63 (n + 1) fu u p σ (by show _ < 512; omega) h2 S V D R (fun z => by rw [hW] at z; exact Bool.noConfusion z.1)
    | true =>
      have k1 := (isWd_iff.mp hW).1
      rw [if_neg (by decide), pMain_s, if_neg (show ¬ tK T p = 0 by omega), if_pos ⟨hW, hs0⟩]
      obtain ⟨s1, o1, a1, ⟨f, s, a2, a3⟩ | ⟨r, x, p', b1, b2, b3, b4, S1, R1, b7⟩⟩ := e_mPond S V D R
      · rw [a1, bd1_s, a3]
        rw [f_X12_ground_39, if_neg a2.n0]
        obtain ⟨σ', r, c1, c2⟩ := e_63F (m := 511) a2
        exact ⟨σ', r, c1, c2.tr o1⟩
      · rw [a1, bd1_s, b7]
        obtain ⟨σ', r', c1, c2⟩ := ih (m + 1) (adP u r x) p' s1 (by omega) (by omega) (by show 18 < n + (uP u + 1) + uS u; omega) hs0 S1 (adP_V V D b1 b2 b3 b4) D R1
        exact ⟨σ', r', c1, c2.tr o1⟩
theorem e_gz : ∀ (n t : Nat) (σ : Hp), t ≤ 78 → 78 < t + n → ∃ σ', f_X12_ground_2 n σ (nI t) = (bd1 (f_X12_next (sI (sI σ' 51 9 0) 51 14 0)) fun s1 => bd1 (f_X12_readFence s1) fun s2 => f_X12_ground_39 fu s2) ∧ onlyI (fun q => q = 59) σ σ' ∧ (∀ k, t ≤ k → k < 78 → gI σ' 59 k = 0) ∧ ∀ k, k < t → gI σ' 59 k = gI σ 59 k := by
  intro n
  induction n with
  | zero =>
    intro t σ h1 h2
    omega
  | succ n ih =>
    intro t σ h1 h2
    rw [f_X12_ground_2]
    by_cases ht : t = 78
    · subst ht
      rw [if_pos (by decide)]
      exact ⟨σ, rfl, onlyI.rf, fun k a b => by omega, fun _ _ => rfl⟩
    · have ib : inb (nI t) 78 := nI_inb (by omega) (by decide)
      rw [if_neg (show ¬ (78 : Int32) ≤ nI t from nI_ge (b := 78) (by omega) (by decide)), chk_s ib, nI_cl (by omega), nI_1]
      obtain ⟨σ', e1, e2, e3, e4⟩ := ih (t + 1) (sI σ 59 t 0) (by omega) (by omega)
      refine ⟨σ', e1, ((onlyI.rf (S := fun q => q = 59)).st rfl).tr e2, fun k a b => ?_, fun k a => ?_⟩
      · by_cases hk : k = t
        · rw [e4 k (by omega), gI_s, hk, upd_s]
        · exact e3 k (by omega) b
      · rw [e4 k (by omega), gI_s, upd_n (by omega)]
theorem e_mRead {σ : Hp} {T : Tp} (M : MT σ T) : ∃ σ' r, f_X12_ground σ = some (σ', r) ∧ MOut (pAll T) σ σ' r := by
  obtain ⟨s0, z1, z2, z3, -⟩ := e_gz fu 0 σ (by omega) (by decide)
  have M0 : MT (sI (sI s0 51 9 0) 51 14 0) T := ((M.of (by rw [z2.1 51 (by decide)]) (z2.1 58 (by decide))).st (by decide)).st (by decide)
  obtain ⟨s1, n1, n2, n3⟩ := e_mnext (Nat.zero_le T.2) M0 (by rw [gI_s, upd_n (by decide), gI_s, upd_s]; rfl)
  have S1 : MS s1 T 0 := ⟨M0.only n2, n3, by rw [n2.2.1 14 (by omega), gI_s, upd_s], Nat.zero_le _⟩
  have o0 : onlyQ σ (sI (sI s0 51 9 0) 51 14 0) := by
    refine ⟨fun q h1 h2 => by rw [gI_n h1, gI_n h1, z2.1 q h2], fun k h1 h2 => by rw [gI_s, upd_n h2, gI_s, upd_n (by omega), z2.1 51 (by decide)], ?_⟩
    show s0.2.2 = σ.2.2
    rw [z2.2]
  obtain ⟨s2, o2, f1, ⟨f, s, f2, f3⟩ | ⟨a, b, p', ha, hb, S2, r2, f3⟩⟩ := e_mFence S1
  · obtain ⟨σ', r, c1, c2⟩ := e_63F (m := 511) f2
    refine ⟨σ', r, ?_, ?_⟩
    · show f_X12_ground_2 fu σ (nI 0) = _
      rw [z1, n1, bd1_s, f1, bd1_s]
      show f_X12_ground_39 (511 + 1) s2 = _
      rw [f_X12_ground_39, if_neg f2.n0]
      exact c1
    · unfold pAll
      rw [f3]
      exact c2.tr ((o0.tr n2.Q).tr o2)
  · have R2 : MR s2 (gu0 a b) := by
      have e59 : gI s2 59 = upd (upd (gI s0 59) 1 (nI a)) 2 (nI b) := by rw [r2, n2.1 59 (by decide), gI_n (by decide), gI_n (by decide)]
      unfold MR
      rw [e59]
      refine ⟨by rw [upd_s], by rw [upd_n (by decide), upd_n (by decide), upd_s]; rfl, by rw [upd_n (by decide), upd_s]; rfl, ?_, ?_, ?_, fun i hi => absurd hi (Nat.not_lt_zero i), fun p hp => absurd hp (Nat.not_lt_zero p), fun d hd => absurd hd (Nat.not_lt_zero d)⟩
      · rw [upd_n (by decide), upd_n (by decide), upd_n (by decide)]; exact z3 3 (by omega) (by omega)
      · rw [upd_n (by decide), upd_n (by decide), upd_n (by decide)]; exact z3 4 (by omega) (by omega)
      · rw [upd_n (by decide), upd_n (by decide), upd_n (by decide)]; exact z3 5 (by omega) (by omega)
    obtain ⟨σ', r, c1, c2⟩ := e_m39 30 fu (gu0 a b) p' s2 (by decide) (by omega) (by show 18 < 30 + 0 + 0; omega) rfl S2 (gu0_V ha hb) rfl R2
    refine ⟨σ', r, ?_, ?_⟩
    · show f_X12_ground_2 fu σ (nI 0) = _
      rw [z1, n1, bd1_s, f1, bd1_s]
      exact c1
    · unfold pAll
      rw [f3]
      exact c2.tr ((o0.tr n2.Q).tr o2)
