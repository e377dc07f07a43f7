/-! ===== day ===== -/
def mvs (x : Int32) : Prop := -1 ≤ x.toInt ∧ x.toInt ≤ 1
theorem e_mvC1 {σ : Hp} {x : Int32} (h : mvs x) : f_X11_isMove σ x = some 1 := by
  unfold f_X11_isMove
  rw [if_neg (by rw [tI_lt]; have := h.1; show ¬ x.toInt < -1; omega), if_neg (by rw [tI_lt]; have := h.2; show ¬ 1 < x.toInt; omega)]
theorem e_mvC0 {σ : Hp} {x : Int32} (h : ¬ mvs x) : f_X11_isMove σ x = some 0 := by
  unfold f_X11_isMove
  by_cases h1 : x < -1
  · rw [if_pos h1]
  · rw [if_neg h1, if_pos (by rw [tI_lt]; rw [tI_lt] at h1; have h1 : ¬ x.toInt < -1 := h1; show 1 < x.toInt; unfold mvs at h; omega)]
theorem e_mvM1 {σ : Hp} {x : Int32} (h : mvs x) : f_X12_in σ x (-1) 1 = some 1 := e_in1 (a := -1) (b := 1) (show (-1 : Int) ≤ x.toInt from h.1) (show x.toInt ≤ (1 : Int) from h.2)
theorem e_mvM0 {σ : Hp} {x : Int32} (h : ¬ mvs x) : f_X12_in σ x (-1) 1 = some 0 := e_in0 (a := -1) (b := 1) (show x.toInt < (-1 : Int) ∨ (1 : Int) < x.toInt by unfold mvs at h; omega)
theorem opB_nI {u : GD} {r : Nat} {z : Int32} (h : opB u r z.toInt = true) : ∃ x : Nat, x ≤ 12 ∧ z = nI x ∧ opn u r x := by
  have k := opB_iff.mp h
  obtain ⟨x, hx, rfl⟩ := inb_nI (x := z) (n := 13) ⟨k.1, by omega⟩ (by decide)
  refine ⟨x, by omega, rfl, ?_⟩
  rw [nI_toInt (by omega)] at h
  exact (opB_N (by omega)).mp h
theorem e_pass {σ : Hp} {g : Nat} (hg : isG g) {D : Nat} (hD : D < 12) (h10 : gI σ g 10 = nI D) (v1 v2 r7 r8 : Int32) : ∃ σ', f_X4_passDay σ g v1 v2 r7 r8 = some σ' ∧ onlyI (fun q => q = g ∨ q = g + 2 ∨ q = g + 3 ∨ q = g + 4 ∨ q = g + 5) σ σ' ∧ gI σ' g = upd (gI σ g) 10 (nI (D + 1)) ∧ gI σ' (g + 2) = upd (gI σ (g + 2)) (D + 1) v1 ∧ gI σ' (g + 3) = upd (gI σ (g + 3)) (D + 1) v2 ∧ gI σ' (g + 4) = upd (gI σ (g + 4)) (D + 1) (gI σ (g + 4) D + r7) ∧ gI σ' (g + 5) = upd (gI σ (g + 5)) (D + 1) (gI σ (g + 5) D + r8) := by
  have i1 : inb (nI (D + 1)) 13 := nI_inb (by omega) (by decide)
  have i0 : inb (nI D) 13 := nI_inb (by omega) (by decide)
  refine ⟨sI (sI (sI (sI (sI σ (g + 2) (D + 1) v1) (g + 3) (D + 1) v2) (g + 4) (D + 1) (gI σ (g + 4) D + r7)) (g + 5) (D + 1) (gI σ (g + 5) D + r8)) g 10 (nI (D + 1)), ?_, ((((onlyI.rf.st (by omega)).st (by omega)).st (by omega)).st (by omega)).st (by omega), ?_, ?_, ?_, ?_, ?_⟩
  · unfold f_X4_passDay
    rw [h10, if_neg (show ¬ (12 : Int32) ≤ nI D from nI_ge (b := 12) hD (by decide)), nI_1, chk_s i1, nI_cl (by omega)]
    have a1 : gI (sI σ (g + 2) (D + 1) v1) g 10 = nI D := by rw [gI_n (by omega)]; exact h10
    rw [a1, nI_1, chk_s i1, nI_cl (by omega), bnd_s]
    have a2 : gI (sI (sI σ (g + 2) (D + 1) v1) (g + 3) (D + 1) v2) g 10 = nI D := by rw [gI_n (by omega)]; exact a1
    have a3 : gI (sI (sI σ (g + 2) (D + 1) v1) (g + 3) (D + 1) v2) (g + 4) = gI σ (g + 4) := by simp (disch := omega) only [gI_n]
    rw [a2, nI_1, chk_s i0, chk_s i1, nI_cl (by omega), nI_cl (by omega), bnd_s, a3]
    have a4 : ∀ v, gI (sI (sI (sI σ (g + 2) (D + 1) v1) (g + 3) (D + 1) v2) (g + 4) (D + 1) v) g 10 = nI D := by intro v; rw [gI_n (by omega)]; exact a2
    have a5 : ∀ v, gI (sI (sI (sI σ (g + 2) (D + 1) v1) (g + 3) (D + 1) v2) (g + 4) (D + 1) v) (g + 5) = gI σ (g + 5) := by intro v; simp (disch := omega) only [gI_n]
    rw [a4, nI_1, chk_s i0, chk_s i1, nI_cl (by omega), nI_cl (by omega), bnd_s, a5]
    have a6 : ∀ v w, gI (sI (sI (sI (sI σ (g + 2) (D + 1) v1) (g + 3) (D + 1) v2) (g + 4) (D + 1) v) (g + 5) (D + 1) w) g 10 = nI D := by intro v w; rw [gI_n (by omega)]; exact a4 v
    rw [a6, nI_1]
  · simp (disch := omega) only [gI_n, gI_s]
  · simp (disch := omega) only [gI_n, gI_s]
  · simp (disch := omega) only [gI_n, gI_s]
  · simp (disch := omega) only [gI_n, gI_s]
  · simp (disch := omega) only [gI_n, gI_s]
theorem op_day {σ : Hp} (h : Rel σ) (x1 x2 : Int32) : Sim (f_X11_day σ x1 x2) (fun s => f_X12_day s x1 x2) := by
  have hG := h.2.2.2.2.1.g
  have hb : lnd σ = 39 ∨ lnd σ = 45 := by rcases h.2.2.2.2.1.1 with h | h <;> omega
  rcases land_ground h with ⟨a, b⟩ | ⟨a, b, u, V, C, M⟩
  · refine sim_state h ?_ ?_
    · unfold f_X11_day
      rw [a, if_pos rfl]
    · show f_X12_day _ _ _ = _
      unfold f_X12_day
      rw [b, bd1_s, if_pos rfl]
  · by_cases h1 : mvs x1
    · by_cases h2 : mvs x2
      · have hD := V.1
        obtain ⟨p1, p2⟩ := V.up
        have e1 : (nI (uUp u (uD u)) + x1).toInt = (uUp u (uD u) : Int) + x1.toInt := by
          obtain ⟨q1, q2⟩ := h1
          rw [tI_add (by rw [nI_toInt (by omega)]; omega) (by rw [nI_toInt (by omega)]; omega), nI_toInt (by omega)]
        have cpre : f_X11_day σ x1 x2 = if 12 ≤ nI (uD u) then some (σ, -1000002) else bd1 (f_X4_isOpen σ (lnd σ) 0 (nI (uUp u (uD u)) + x1)) fun r5 => if r5 = 0 then (some (σ, (-1000002))) else (bd1 (f_X4_isOpen σ (lnd σ) 1 (nI (uLo u (uD u)) + x2)) fun r6 => if r6 = 0 then (some (σ, (-1000002))) else (bd1 (f_X8_gather σ (lnd σ) (nI (uD u))) fun s1 => bd1 (f_X8_leftReaps s1 (nI (uUp u (uD u)) + x1) (nI (uLo u (uD u)) + x2)) fun r7 => bd1 (f_X8_allReaps s1) fun r8 => bd1 (f_X4_passDay s1 (lnd s1) (nI (uUp u (uD u)) + x1) (nI (uLo u (uD u)) + x2) r7 (r8 - r7)) fun s2 => some (s2, (13 * (nI (uUp u (uD u)) + x1)) + (nI (uLo u (uD u)) + x2)))) := by
          unfold f_X11_day
          rw [a, if_neg n10, e_mvC1 h1, bd1_s, if_neg n10, e_mvC1 h2, bd1_s, if_neg n10, e_end0 C V, bd1_s, bnd_s, e_end1 C V, bd1_s, bnd_s, C.2.2.2.1]
        have mpre : ∀ s : Hp, gI s 52 = gI σ 52 → f_X12_day s x1 x2 = (if nI (uD u) = 12 then (some (s, (-1000002))) else (bd1 (f_X12_mayBe s 0 (nI (uUp u (uD u)) + x1)) fun r4 => if r4 = 0 then (some (s, (-1000002))) else (bd1 (f_X12_mayBe s 1 (nI (uLo u (uD u)) + x2)) fun r5 => if r5 = 0 then (some (s, (-1000002))) else (chk (inb (54 + (2 * nI (uD u))) 78) <| chk (inb ((54 + (2 * (gI (sI s 52 ((54 + (2 * nI (uD u))).toNatClampNeg) (nI (uUp u (uD u)))) 52 3))) + 1) 78) <| bnd (sI (sI s 52 ((54 + (2 * nI (uD u))).toNatClampNeg) (nI (uUp u (uD u)))) 52 (((54 + (2 * (gI (sI s 52 ((54 + (2 * nI (uD u))).toNatClampNeg) (nI (uUp u (uD u)))) 52 3))) + 1).toNatClampNeg) (gI (sI s 52 ((54 + (2 * nI (uD u))).toNatClampNeg) (nI (uUp u (uD u)))) 52 2)) fun s1 => bnd (sI (sI s1 52 1 ((gI s1 52 1) + x1)) 52 2 ((gI (sI s1 52 1 ((gI s1 52 1) + x1)) 52 2) + x2)) fun s2 => some (sI s2 52 3 ((gI s2 52 3) + 1), (13 * (gI (sI s2 52 3 ((gI s2 52 3) + 1)) 52 1)) + (gI (sI s2 52 3 ((gI s2 52 3) + 1)) 52 2)))))) := by
          intro s es
          have b' : f_X12_isGround s = some 1 := by unfold f_X12_isGround at b ⊢; rw [es]; exact b
          unfold f_X12_day
          rw [b', bd1_s, if_neg n10, e_mvM1 h1, bd1_s, if_neg n10, e_mvM1 h2, bd1_s, if_neg n10, es, M.2.2.2.1, M.2.1, M.2.2.1]
        have may0 : ∀ s : Hp, gI s 52 = gI σ 52 → ∀ z, f_X12_mayBe s 0 z = some (bI (opB u 0 z.toInt)) := fun s es z => e_may (σ := s) (by rw [es]; exact M) V (r := 0) (by omega) z
        have may1 : ∀ s : Hp, gI s 52 = gI σ 52 → ∀ z, f_X12_mayBe s 1 z = some (bI (opB u 1 z.toInt)) := fun s es z => e_may (σ := s) (by rw [es]; exact M) V (r := 1) (by omega) z
        by_cases h12 : uD u = 12
        · refine sim_state h ?_ ?_
          · rw [cpre, h12, if_pos (by decide)]
          · show f_X12_day _ _ _ = _
            rw [mpre σ rfl, h12, if_pos (by decide)]
        · have nc : ¬ (12 : Int32) ≤ nI (uD u) := nI_ge (b := 12) (by omega) (by decide)
          have nm : ¬ nI (uD u) = 12 := by
            show ¬ nI (uD u) = nI 12
            rw [nI_eq (by omega) (by decide)]
            exact h12
          cases o0 : opB u 0 (nI (uUp u (uD u)) + x1).toInt with
          | false =>
            refine sim_state h ?_ ?_
            · rw [cpre, if_neg nc, e_open0 C, o0, bd1_s, if_pos (by decide)]
            · show f_X12_day _ _ _ = _
              rw [mpre σ rfl, if_neg nm, may0 σ rfl, o0, bd1_s, if_pos (by decide)]
          | true =>
            cases o1 : opB u 1 (nI (uLo u (uD u)) + x2).toInt with
            | false =>
              refine sim_state h ?_ ?_
              · rw [cpre, if_neg nc, e_open0 C, o0, bd1_s, if_neg (by decide), e_open1 C, o1, bd1_s, if_pos (by decide)]
              · show f_X12_day _ _ _ = _
                rw [mpre σ rfl, if_neg nm, may0 σ rfl, o0, bd1_s, if_neg (by decide), may1 σ rfl, o1, bd1_s, if_pos (by decide)]
            | true =>
              obtain ⟨a', ha', ea, oa⟩ := opB_nI o0
              obtain ⟨b', hb', eb, ob⟩ := opB_nI o1
              obtain ⟨σg, g1, g2, g3, g4⟩ := e_gather hG V C (d := uD u) (by omega)
              have Cg := C.only g2 hG (by omega)
              have hga := gts_alls (u := u) (d := uD u) ha' hb'
              obtain ⟨σ1, w1, w2, w3, w4, w5, w6, w7⟩ := e_pass (σ := σg) hG (show uD u < 12 by omega) Cg.2.2.2.1 (nI a') (nI b') (nI (gts u (uD u) a' b')) (nI (alls u (uD u) - gts u (uD u) a' b'))
              have eg : lnd σg = lnd σ := by unfold lnd; show (σg.2.2.1 0 6).getD 39 = (σ.2.2.1 0 6).getD 39; rw [g2.2]
              have c1 : f_X11_day σ x1 x2 = some (σ1, 13 * nI a' + nI b') := by
                rw [cpre, if_neg nc, e_open0 C, o0, bd1_s, if_neg (by decide), e_open1 C, o1, bd1_s, if_neg (by decide), g1, bd1_s, ea, eb, e_left V g4 ha' hb', bd1_s, e_all V g4, bd1_s, eg, pk_sub hga, w1, bd1_s]
              have k1 : onlyI (fun q => (15 ≤ q ∧ q ≤ 18) ∨ q = lnd σ ∨ (lnd σ + 2 ≤ q ∧ q ≤ lnd σ + 5)) σ σ1 := (g2.mono (by omega)).tr (w2.mono (by omega))
              have m52 : gI σ1 52 = gI σ 52 := k1.1 52 (by omega)
              have i1 : (54 : Int32) + 2 * nI (uD u) = nI (54 + 2 * uD u) := by rw [show (54 : Int32) = nI 54 from rfl, show (2 : Int32) = nI 2 from rfl, pk_mul, nI_add]
              have m : ∃ σ2, f_X12_day σ1 x1 x2 = some (σ2, 13 * nI a' + nI b') ∧ onlyI (fun q => q = 52) σ1 σ2 ∧ gI σ2 52 = upd (upd (upd (upd (upd (gI σ 52) (54 + 2 * uD u) (nI (uUp u (uD u)))) (54 + 2 * uD u + 1) (nI (uLo u (uD u)))) 1 (nI a')) 2 (nI b')) 3 (nI (uD u + 1)) := by
                refine ⟨sI (sI (sI (sI (sI σ1 52 (54 + 2 * uD u) (nI (uUp u (uD u)))) 52 (54 + 2 * uD u + 1) (nI (uLo u (uD u)))) 52 1 (nI a')) 52 2 (nI b')) 52 3 (nI (uD u + 1)), ?_, ((((onlyI.rf.st (by omega)).st (by omega)).st (by omega)).st (by omega)).st (by omega), by rw [gI_s, gI_s, gI_s, gI_s, gI_s, m52]⟩
                rw [mpre σ1 m52, if_neg nm, may0 σ1 m52, o0, bd1_s, if_neg (by decide), may1 σ1 m52, o1, bd1_s, if_neg (by decide), i1, chk_s (nI_inb (by omega) (by decide)), nI_cl (by omega)]
                have f3 : gI (sI σ1 52 (54 + 2 * uD u) (nI (uUp u (uD u)))) 52 3 = nI (uD u) := by rw [gI_s, upd_n (by omega), m52, M.2.2.2.1]
                have f2 : gI (sI σ1 52 (54 + 2 * uD u) (nI (uUp u (uD u)))) 52 2 = nI (uLo u (uD u)) := by rw [gI_s, upd_n (by omega), m52, M.2.2.1]
                rw [f3, f2, i1, nI_1, chk_s (nI_inb (by omega) (by decide)), nI_cl (by omega), bnd_s]
                have f1 : gI (sI (sI σ1 52 (54 + 2 * uD u) (nI (uUp u (uD u)))) 52 (54 + 2 * uD u + 1) (nI (uLo u (uD u)))) 52 1 = nI (uUp u (uD u)) := by rw [gI_s, upd_n (by omega), gI_s, upd_n (by omega), m52, M.2.1]
                rw [f1, ea]
                have f4 : gI (sI (sI (sI σ1 52 (54 + 2 * uD u) (nI (uUp u (uD u)))) 52 (54 + 2 * uD u + 1) (nI (uLo u (uD u)))) 52 1 (nI a')) 52 2 = nI (uLo u (uD u)) := by rw [gI_s, upd_n (by omega), gI_s, upd_n (by omega), f2]
                rw [f4, eb, bnd_s]
                have f5 : gI (sI (sI (sI (sI σ1 52 (54 + 2 * uD u) (nI (uUp u (uD u)))) 52 (54 + 2 * uD u + 1) (nI (uLo u (uD u)))) 52 1 (nI a')) 52 2 (nI b')) 52 3 = nI (uD u) := by rw [gI_s, upd_n (by omega), gI_s, upd_n (by omega), gI_s, upd_n (by omega), f3]
                rw [f5, nI_1, gI_s, upd_n (show (1 : Nat) ≠ 3 by decide), gI_s, upd_n (show (1 : Nat) ≠ 2 by decide), gI_s, upd_s, upd_n (show (2 : Nat) ≠ 3 by decide), upd_s]
              obtain ⟨σ2, m1, m2, m3⟩ := m
              have o : onlyI (fun q => (15 ≤ q ∧ q ≤ 18) ∨ q = lnd σ ∨ (lnd σ + 2 ≤ q ∧ q ≤ lnd σ + 5) ∨ q = 52) σ σ2 := (k1.mono (by omega)).tr (m2.mono (by omega))
              have eR : gR σ2 = gR σ := by funext q; show σ2.2.2.1 q = σ.2.2.1 q; rw [o.2]
              have el : lnd σ2 = lnd σ := by unfold lnd; rw [eR]
              have es : spr σ2 = spr σ := by unfold spr; rw [eR]
              refine ⟨σ1, _, σ2, c1, m1, (o.keepB (by omega)).rel h (h.1.of o.2) ⟨by rw [el, es]; exact h.2.2.2.2.1.1, Or.inr ?_⟩ (h.2.2.2.2.2.of2 (fun q _ i _ => by rw [eR]) (o.keepS (by omega)) (fun q a b => o.1 q (by omega)) (o.1 53 (by omega)) (o.1 54 (by omega)))⟩
              rw [el]
              obtain ⟨a1, a2, a3, a4, a5, a6, a7, a8⟩ := C
              obtain ⟨d0, d1, d2, d3, d4, d5, d6, d7, d8⟩ := M
              obtain ⟨v1, v2, v3, v4, v5, v6⟩ := V
              have lS : ∀ d, d ≤ uD u → lsum (uD u + 1, uS u, uP u, (fun d => if d = uD u + 1 then a' else uUp u d), (fun d => if d = uD u + 1 then b' else uLo u d), uSo u, uWo u, uRi u, uPr u, uPx u) d = lsum u d := fun d hd => sumN_congr (fun k hk => by
                show gts u k (if k + 1 = uD u + 1 then a' else uUp u (k + 1)) (if k + 1 = uD u + 1 then b' else uLo u (k + 1)) = _
                rw [if_neg (by omega), if_neg (by omega)])
              have rS : ∀ d, d ≤ uD u → rsum (uD u + 1, uS u, uP u, (fun d => if d = uD u + 1 then a' else uUp u d), (fun d => if d = uD u + 1 then b' else uLo u d), uSo u, uWo u, uRi u, uPr u, uPx u) d = rsum u d := fun d hd => sumN_congr (fun k hk => by
                show alls u k - gts u k (if k + 1 = uD u + 1 then a' else uUp u (k + 1)) (if k + 1 = uD u + 1 then b' else uLo u (k + 1)) = _
                rw [if_neg (by omega), if_neg (by omega)])
              have lS1 : lsum (uD u + 1, uS u, uP u, (fun d => if d = uD u + 1 then a' else uUp u d), (fun d => if d = uD u + 1 then b' else uLo u d), uSo u, uWo u, uRi u, uPr u, uPx u) (uD u + 1) = lsum u (uD u) + gts u (uD u) a' b' := by
                rw [← lS _ (Nat.le_refl _)]
                show _ + gts u (uD u) (if uD u + 1 = uD u + 1 then a' else uUp u (uD u + 1)) (if uD u + 1 = uD u + 1 then b' else uLo u (uD u + 1)) = _
                rw [if_pos rfl, if_pos rfl]
                rfl
              have rS1 : rsum (uD u + 1, uS u, uP u, (fun d => if d = uD u + 1 then a' else uUp u d), (fun d => if d = uD u + 1 then b' else uLo u d), uSo u, uWo u, uRi u, uPr u, uPx u) (uD u + 1) = rsum u (uD u) + (alls u (uD u) - gts u (uD u) a' b') := by
                rw [← rS _ (Nat.le_refl _)]
                show _ + (alls u (uD u) - gts u (uD u) (if uD u + 1 = uD u + 1 then a' else uUp u (uD u + 1)) (if uD u + 1 = uD u + 1 then b' else uLo u (uD u + 1))) = _
                rw [if_pos rfl, if_pos rfl]
                rfl
              have pg : gI σ2 (lnd σ) = upd (gI σ (lnd σ)) 10 (nI (uD u + 1)) := by rw [m2.1 _ (by omega), w3, g2.1 _ (by omega)]
              have p2' : gI σ2 (lnd σ + 2) = upd (gI σ (lnd σ + 2)) (uD u + 1) (nI a') := by rw [m2.1 _ (by omega), w4, g2.1 _ (by omega)]
              have p3' : gI σ2 (lnd σ + 3) = upd (gI σ (lnd σ + 3)) (uD u + 1) (nI b') := by rw [m2.1 _ (by omega), w5, g2.1 _ (by omega)]
              obtain ⟨-, -, l1, l2⟩ := a7 (uD u) (Nat.le_refl _)
              have p4' : gI σ2 (lnd σ + 4) = upd (gI σ (lnd σ + 4)) (uD u + 1) (nI (lsum u (uD u) + gts u (uD u) a' b')) := by rw [m2.1 _ (by omega), w6, g2.1 _ (by omega), l1, nI_add]
              have p5' : gI σ2 (lnd σ + 5) = upd (gI σ (lnd σ + 5)) (uD u + 1) (nI (rsum u (uD u) + (alls u (uD u) - gts u (uD u) a' b'))) := by rw [m2.1 _ (by omega), w7, g2.1 _ (by omega), l2, nI_add]
              refine ⟨(uD u + 1, uS u, uP u, (fun d => if d = uD u + 1 then a' else uUp u d), (fun d => if d = uD u + 1 then b' else uLo u d), uSo u, uWo u, uRi u, uPr u, uPx u), ⟨by show uD u + 1 ≤ 12; omega, v2, v3, fun d hd => ?_, v5, v6⟩, ⟨?_, ?_, ?_, ?_, ?_, ?_, ?_, fun i hi => ?_⟩, ⟨?_, ?_, ?_, ?_, ?_, ?_, ?_, ?_, ?_⟩⟩
              · have hd : d ≤ uD u + 1 := hd
                show opn u 0 (if d = uD u + 1 then a' else uUp u d) ∧ opn u 1 (if d = uD u + 1 then b' else uLo u d)
                by_cases hd2 : d = uD u + 1
                · rw [if_pos hd2, if_pos hd2]
                  exact ⟨oa, ob⟩
                · rw [if_neg hd2, if_neg hd2]
                  exact v4 d (by omega)
              · rw [pg, upd_n (by decide)]; exact a1
              · rw [pg, upd_n (by decide)]; exact a2
              · rw [pg, upd_n (by decide)]; exact a3
              · rw [pg, upd_s]; rfl
              · rw [pg, upd_n (by decide)]; exact a5
              · rw [pg, upd_n (by decide)]; exact a6
              · intro d hd
                have hd : d ≤ uD u + 1 := hd
                show gI σ2 (lnd σ + 2) d = nI (if d = uD u + 1 then a' else uUp u d) ∧ gI σ2 (lnd σ + 3) d = nI (if d = uD u + 1 then b' else uLo u d) ∧ _
                rw [p2', p3', p4', p5']
                by_cases hd2 : d = uD u + 1
                · subst hd2
                  rw [upd_s, upd_s, upd_s, upd_s, if_pos rfl, if_pos rfl, lS1, rS1]
                  exact ⟨rfl, rfl, rfl, rfl⟩
                · rw [upd_n hd2, upd_n hd2, upd_n hd2, upd_n hd2, if_neg hd2, if_neg hd2, lS d (by omega), rS d (by omega)]
                  exact a7 d (by omega)
              · exact (a8 i hi).of2 (by rw [eR]) (o.keepS (by omega))
              · rw [m3, upd_n (by omega), upd_n (by omega), upd_n (by omega), upd_n (by omega), upd_n (by omega)]; exact d0
              · rw [m3, upd_n (by omega), upd_n (by omega), upd_s]
                show nI a' = nI (if uD u + 1 = uD u + 1 then a' else _)
                rw [if_pos rfl]
              · rw [m3, upd_n (by omega), upd_s]
                show nI b' = nI (if uD u + 1 = uD u + 1 then b' else _)
                rw [if_pos rfl]
              · rw [m3, upd_s]; rfl
              · rw [m3, upd_n (by omega), upd_n (by omega), upd_n (by omega), upd_n (by omega), upd_n (by omega)]; exact d4
              · rw [m3, upd_n (by omega), upd_n (by omega), upd_n (by omega), upd_n (by omega), upd_n (by omega)]; exact d5
              · intro i hi
                have hi' : i < uS u := hi
                have q : ∀ k, 6 ≤ k → k < 42 → gI σ2 52 k = gI σ 52 k := fun k k1 k2 => by rw [m3, upd_n (by omega), upd_n (by omega), upd_n (by omega), upd_n (by omega), upd_n (by omega)]
                rw [q _ (by omega) (by omega), q _ (by omega) (by omega), q _ (by omega) (by omega)]
                exact d6 i hi
              · intro p hp
                have hp' : p < uP u := hp
                have q : ∀ k, 42 ≤ k → k < 54 → gI σ2 52 k = gI σ 52 k := fun k k1 k2 => by rw [m3, upd_n (by omega), upd_n (by omega), upd_n (by omega), upd_n (by omega), upd_n (by omega)]
                rw [q _ (by omega) (by omega), q _ (by omega) (by omega)]
                exact d7 p hp
              · intro d hd
                have hd : d < uD u + 1 := hd
                show _ = nI (if d = uD u + 1 then a' else uUp u d) ∧ _ = nI (if d = uD u + 1 then b' else uLo u d)
                rw [if_neg (by omega), if_neg (by omega), m3]
                by_cases hd2 : d = uD u
                · subst hd2
                  rw [upd_n (by omega), upd_n (by omega), upd_n (by omega), upd_n (by omega), upd_s, upd_n (by omega), upd_n (by omega), upd_n (by omega), upd_s]
                  exact ⟨rfl, rfl⟩
                · rw [upd_n (by omega), upd_n (by omega), upd_n (by omega), upd_n (by omega), upd_n (by omega), upd_n (by omega), upd_n (by omega), upd_n (by omega), upd_n (by omega), upd_n (by omega)]
                  exact d8 d (by omega)
      · refine sim_bad h ?_ ?_
        · unfold f_X11_day
          rw [a, if_neg n10, e_mvC1 h1, bd1_s, if_neg n10, e_mvC0 h2, bd1_s, if_pos rfl]
        · show f_X12_day _ _ _ = _
          unfold f_X12_day
          rw [b, bd1_s, if_neg n10, e_mvM1 h1, bd1_s, if_neg n10, e_mvM0 h2, bd1_s, if_pos rfl]
    · refine sim_bad h ?_ ?_
      · unfold f_X11_day
        rw [a, if_neg n10, e_mvC0 h1, bd1_s, if_pos rfl]
      · show f_X12_day _ _ _ = _
        unfold f_X12_day
        rw [b, bd1_s, if_neg n10, e_mvM0 h1, bd1_s, if_pos rfl]
