/-! ===== frames, also where STRIPS are made ===== -/
def keepS (σ σ' : Hp) : Prop := ∀ q, 67 ≤ q → gK σ q ≠ 99 → gI σ' q = gI σ q ∧ gK σ' q = gK σ q
theorem keepS.rf {σ : Hp} : keepS σ σ := fun _ _ _ => ⟨rfl, rfl⟩
theorem keepS.tr {a b c : Hp} (h : keepS a b) (k : keepS b c) : keepS a c := fun q h1 h2 => by
  obtain ⟨e1, e2⟩ := h q h1 h2
  obtain ⟨e3, e4⟩ := k q h1 (by rw [e2]; exact h2)
  exact ⟨e3.trans e1, e4.trans e2⟩
theorem onlyI.keepS {S : Nat → Prop} {σ σ' : Hp} (o : onlyI S σ σ') (hS : ∀ q, S q → q < 67) : keepS σ σ' := fun q h1 h2 => ⟨o.1 q (fun z => by have := hS q z; omega), by show σ'.2.2.2.1 q = σ.2.2.2.1 q; rw [o.2]⟩
theorem kc99 (so : Nat) : kcode so ≠ 99 := by
  unfold kcode
  repeat' split
  all_goals decide
theorem stripC.of2 {σ σ' : Hp} {g : Nat} {u : GD} {i : Nat} (hR : gR σ' (g + 1) i = gR σ (g + 1) i) (hS : keepS σ σ') (h : stripC σ g u i) : stripC σ' g u i := by
  obtain ⟨q, h1, h2, h3, h4, h5, h6⟩ := h
  obtain ⟨e1, e2⟩ := hS q h2 (by rw [h3]; exact kc99 _)
  exact ⟨q, by rw [hR]; exact h1, h2, by rw [e2]; exact h3, by rw [e1]; exact h4, by rw [e1]; exact h5, by rw [e1]; exact h6⟩
theorem CGw.of2 {σ σ' : Hp} {g : Nat} {u : GD} {L R : Nat → Nat} (hS12 : uS u ≤ 12) (hR : ∀ i, i < 12 → gR σ' (g + 1) i = gR σ (g + 1) i) (hS : keepS σ σ') (h0 : gI σ' g = gI σ g) (h2 : gI σ' (g + 2) = gI σ (g + 2)) (h3 : gI σ' (g + 3) = gI σ (g + 3)) (h4 : gI σ' (g + 4) = gI σ (g + 4)) (h5 : gI σ' (g + 5) = gI σ (g + 5)) (h : CGw σ g u L R) : CGw σ' g u L R := by
  obtain ⟨a1, a2, a3, a4, a5, a6, a7, a8⟩ := h
  exact ⟨by rw [h0]; exact a1, by rw [h0]; exact a2, by rw [h0]; exact a3, by rw [h0]; exact a4, by rw [h0]; exact a5, by rw [h0]; exact a6, by rw [h2, h3, h4, h5]; exact a7, fun i hi => (a8 i hi).of2 (hR i (by omega)) hS⟩
theorem CG.of2 {σ σ' : Hp} {g : Nat} {u : GD} (hS12 : uS u ≤ 12) (hR : ∀ i, i < 12 → gR σ' (g + 1) i = gR σ (g + 1) i) (hS : keepS σ σ') (h0 : gI σ' g = gI σ g) (h2 : gI σ' (g + 2) = gI σ (g + 2)) (h3 : gI σ' (g + 3) = gI σ (g + 3)) (h4 : gI σ' (g + 4) = gI σ (g + 4)) (h5 : gI σ' (g + 5) = gI σ (g + 5)) (h : CG σ g u) : CG σ' g u := CGw.of2 hS12 hR hS h0 h2 h3 h4 h5 h
theorem RG.of2 {σ σ' : Hp} {g : Nat} {t : Nat → Int32} (hR : ∀ i, i < 12 → gR σ' (g + 1) i = gR σ (g + 1) i) (hS : keepS σ σ') (hI : ∀ q, g ≤ q → q ≤ g + 5 → gI σ' q = gI σ q) (h : RG σ g t) : RG σ' g t := by
  obtain ⟨u, a1, a2, a3⟩ := h
  exact ⟨u, a1, a2.of2 a1.2.1 hR hS (hI _ (by omega) (by omega)) (hI _ (by omega) (by omega)) (hI _ (by omega) (by omega)) (hI _ (by omega) (by omega)) (hI _ (by omega) (by omega)), a3⟩
theorem RImg.of2 {σ σ' : Hp} (hR : ∀ q, q = 28 ∨ q = 34 → ∀ i, i < 12 → gR σ' q i = gR σ q i) (hS : keepS σ σ') (hI : ∀ q, 27 ≤ q → q ≤ 38 → gI σ' q = gI σ q) (h53 : gI σ' 53 = gI σ 53) (h54 : gI σ' 54 = gI σ 54) (h : RImg σ) : RImg σ' := by
  obtain ⟨h1, h2⟩ := h
  unfold RImg
  rw [h53, h54, hI 27 (by omega) (by omega), hI 33 (by omega) (by omega)]
  exact ⟨h1.imp id (fun z => ⟨z.1, z.2.of2 (hR 28 (Or.inl rfl)) hS (fun q a b => hI q (by omega) (by omega))⟩), h2.imp id (fun z => ⟨z.1, z.2.of2 (hR 34 (Or.inr rfl)) hS (fun q a b => hI q (by omega) (by omega))⟩)⟩
theorem RLand.of2 {σ σ' : Hp} (h0 : gR σ' 0 = gR σ 0) (hR : ∀ q, q = 40 ∨ q = 46 → ∀ i, i < 12 → gR σ' q i = gR σ q i) (hS : keepS σ σ') (hI : ∀ q, 39 ≤ q → q ≤ 50 → gI σ' q = gI σ q) (h52 : gI σ' 52 = gI σ 52) (h : RLand σ) : RLand σ' := by
  have el : lnd σ' = lnd σ := by unfold lnd; rw [h0]
  have es : spr σ' = spr σ := by unfold spr; rw [h0]
  obtain ⟨h1, h2⟩ := h
  refine ⟨by rw [el, es]; exact h1, ?_⟩
  rw [el, h52]
  have hb : lnd σ = 39 ∨ lnd σ = 45 := by rcases h1 with h | h <;> omega
  rcases h2 with B | B
  · left
    unfold Bare at B ⊢
    rw [hI (lnd σ) (by omega) (by omega), hI (lnd σ + 2) (by omega) (by omega), hI (lnd σ + 3) (by omega) (by omega)]
    exact B
  · right
    exact B.of2 (hR _ (by omega)) hS (fun q a b => hI q (by omega) (by omega))
/-- rows, tape, finding, fault and trace stay -/
def keepB (σ σ' : Hp) : Prop := (∀ q, q ≤ 14 ∨ q = 25 ∨ q = 26 ∨ (55 ≤ q ∧ q ≤ 58) ∨ q = 66 → gI σ' q = gI σ q) ∧ ∀ k, k = 6 ∨ k = 8 ∨ k = 15 ∨ k = 25 → gI σ' 51 k = gI σ 51 k
theorem keepB.rf {σ : Hp} : keepB σ σ := ⟨fun _ _ => rfl, fun _ _ => rfl⟩
theorem keepB.tr {a b c : Hp} (h : keepB a b) (k : keepB b c) : keepB a c := ⟨fun q hq => (k.1 q hq).trans (h.1 q hq), fun q hq => (k.2 q hq).trans (h.2 q hq)⟩
theorem keepB.rel {σ σ' : Hp} (k : keepB σ σ') (h : Rel σ) (hT : RTop σ') (hL : RLand σ') (hI : RImg σ') : Rel σ' := by
  obtain ⟨b1, b2, b3, b4, b5, b6⟩ := h
  exact ⟨hT, b2.of (fun q hq => k.1 q (by omega)), b3.of (by rw [k.1 13 (by omega)]) (k.2 8 (by omega)) (k.1 14 (by omega)) (k.1 58 (by omega)), b4.of (by rw [k.1 0 (by omega)]) (k.2 6 (by omega)) (by rw [k.1 13 (by omega)]) (k.2 15 (by omega)) (by rw [k.1 25 (by omega)]) (k.2 25 (by omega)) (k.1 26 (by omega)) (k.1 66 (by omega)), hL, hI⟩
theorem onlyI.keepB {S : Nat → Prop} {σ σ' : Hp} (o : onlyI S σ σ') (hS : ∀ q, S q → ¬ (q ≤ 14 ∨ q = 25 ∨ q = 26 ∨ q = 51 ∨ (55 ≤ q ∧ q ≤ 58) ∨ q = 66)) : keepB σ σ' := ⟨fun q hq => o.1 q (fun z => hS q z (by omega)), fun k _ => by rw [o.1 51 (fun z => hS 51 z (by omega))]⟩
theorem op_undo {σ : Hp} (h : Rel σ) : Sim (f_X11_undo σ) (fun s => f_X12_undo s) := by
  have hG := h.2.2.2.2.1.g
  have hb : lnd σ = 39 ∨ lnd σ = 45 := by rcases h.2.2.2.2.1.1 with h | h <;> omega
  rcases h.2.2.2.2.1.2 with B | ⟨u, V, C, M⟩
  · obtain ⟨b1, b2, b3, b4, b5, b6, b7, b8, b9, b10, b11, b12⟩ := B
    refine sim_state h ?_ ?_
    · unfold f_X11_undo
      rw [b4, if_neg (by decide)]
    · show f_X12_undo _ = _
      unfold f_X12_undo f_X12_isGround
      rw [b7]
      rfl
  · have hD := V.1
    have ig : ∀ s : Hp, gI s 52 = gI σ 52 → f_X12_isGround s = some 1 := fun s e => by unfold f_X12_isGround; rw [e, M.1]; rfl
    by_cases h0 : uD u = 0
    · refine sim_state h ?_ ?_
      · unfold f_X11_undo
        rw [C.2.2.2.1, h0, if_neg (by decide)]
      · show f_X12_undo _ = _
        unfold f_X12_undo
        rw [ig σ rfl, bd1_s, if_neg n10, M.2.2.2.1, h0, if_pos (show nI 0 = 0 from rfl)]
    · have e1 : nI (uD u) - 1 = nI (uD u - 1) := by rw [show (1 : Int32) = nI 1 from rfl, pk_sub (by omega)]
      have c : ∃ σ1, f_X11_undo σ = some (σ1, nI (uD u - 1)) ∧ onlyI (fun q => q = lnd σ) σ σ1 ∧ gI σ1 (lnd σ) = upd (gI σ (lnd σ)) 10 (nI (uD u - 1)) := by
        refine ⟨sI σ (lnd σ) 10 (nI (uD u - 1)), ?_, onlyI.rf.st rfl, gI_s _ _ _ _⟩
        unfold f_X11_undo
        rw [C.2.2.2.1, if_pos (show (1 : Int32) ≤ nI (uD u) from nI_le (a := 1) (by omega) (by omega)), e1, show lnd (sI σ (lnd σ) 10 (nI (uD u - 1))) = lnd σ from rfl, gI_s, upd_s]
      obtain ⟨σ1, c1, c2, c3⟩ := c
      have m52 : gI σ1 52 = gI σ 52 := c2.1 52 (by omega)
      obtain ⟨p1, p2⟩ := M.2.2.2.2.2.2.2.2 (uD u - 1) (by omega)
      have m : ∃ σ2, f_X12_undo σ1 = some (σ2, nI (uD u - 1)) ∧ onlyI (fun q => q = 52) σ1 σ2 ∧ gI σ2 52 = upd (upd (upd (gI σ1 52) 3 (nI (uD u - 1))) 1 (nI (uUp u (uD u - 1)))) 2 (nI (uLo u (uD u - 1))) := by
        have i1 : (54 : Int32) + 2 * nI (uD u - 1) = nI (54 + 2 * (uD u - 1)) := by rw [show (54 : Int32) = nI 54 from rfl, show (2 : Int32) = nI 2 from rfl, pk_mul, nI_add]
        refine ⟨sI (sI (sI σ1 52 3 (nI (uD u - 1))) 52 1 (nI (uUp u (uD u - 1)))) 52 2 (nI (uLo u (uD u - 1))), ?_, ((onlyI.rf.st (by omega)).st (by omega)).st (by omega), by rw [gI_s, gI_s, gI_s]⟩
        unfold f_X12_undo
        rw [ig σ1 m52, bd1_s, if_neg n10, m52, M.2.2.2.1, if_neg (nI_ne0 (by omega) (by omega)), e1]
        simp only [gI_s, upd_s]
        rw [i1, chk_s (nI_inb (by omega) (by decide)), nI_cl (by omega), upd_n (by omega), m52, p1, bnd_s]
        simp only [gI_s, upd_s]
        rw [upd_n (show (3 : Nat) ≠ 1 by decide), upd_s, i1, nI_1, chk_s (nI_inb (by omega) (by decide)), nI_cl (by omega), upd_n (by omega), upd_n (by omega), m52, p2, bnd_s]
        simp only [gI_s]
        rw [upd_n (show (3 : Nat) ≠ 2 by decide), upd_n (show (3 : Nat) ≠ 1 by decide), upd_s]
      obtain ⟨σ2, m1, m2, m3⟩ := m
      have o : onlyI (fun q => q = lnd σ ∨ q = 52) σ σ2 := (c2.mono (fun _ z => Or.inl z)).tr (m2.mono (fun _ z => Or.inr z))
      have eR : gR σ2 = gR σ := by funext q; show σ2.2.2.1 q = σ.2.2.1 q; rw [o.2]
      have el : lnd σ2 = lnd σ := by unfold lnd; rw [eR]
      have es : spr σ2 = spr σ := by unfold spr; rw [eR]
      refine ⟨σ1, _, σ2, c1, m1, (o.keepB (by omega)).rel h (h.1.of o.2) ⟨by rw [el, es]; exact h.2.2.2.2.1.1, Or.inr ?_⟩ (h.2.2.2.2.2.of2 (fun q _ i _ => by rw [eR]) (o.keepS (by omega)) (fun q a b => o.1 q (by omega)) (o.1 53 (by omega)) (o.1 54 (by omega)))⟩
      rw [el]
      obtain ⟨a1, a2, a3, a4, a5, a6, a7, a8⟩ := C
      obtain ⟨d0, d1, d2, d3, d4, d5, d6, d7, d8⟩ := M
      obtain ⟨v1, v2, v3, v4, v5, v6⟩ := V
      have ego : gI σ2 (lnd σ) = upd (gI σ (lnd σ)) 10 (nI (uD u - 1)) := by rw [m2.1 _ (by omega), c3]
      refine ⟨(uD u - 1, u.2), ⟨by show uD u - 1 ≤ 12; omega, v2, v3, fun d hd => v4 d (by have : d ≤ uD u - 1 := hd; omega), v5, v6⟩, ⟨?_, ?_, ?_, ?_, ?_, ?_, ?_, fun i hi => ?_⟩, ⟨?_, ?_, ?_, ?_, ?_, ?_, ?_, ?_, ?_⟩⟩
      · rw [ego, upd_n (by decide)]; exact a1
      · rw [ego, upd_n (by decide)]; exact a2
      · rw [ego, upd_n (by decide)]; exact a3
      · rw [ego, upd_s]; rfl
      · rw [ego, upd_n (by decide)]; exact a5
      · rw [ego, upd_n (by decide)]; exact a6
      · intro d hd
        have hd : d ≤ uD u - 1 := hd
        rw [o.1 (lnd σ + 2) (by omega), o.1 (lnd σ + 3) (by omega), o.1 (lnd σ + 4) (by omega), o.1 (lnd σ + 5) (by omega)]
        exact a7 d (by omega)
      · exact (a8 i hi).of2 (by rw [eR]) (o.keepS (by omega))
      · rw [m3, m52, upd_n (by decide), upd_n (by decide), upd_n (by decide)]; exact d0
      · rw [m3, upd_n (by decide), upd_s]; rfl
      · rw [m3, upd_s]; rfl
      · rw [m3, upd_n (by decide), upd_n (by decide), upd_s]; rfl
      · rw [m3, m52, upd_n (by decide), upd_n (by decide), upd_n (by decide)]; exact d4
      · rw [m3, m52, upd_n (by decide), upd_n (by decide), upd_n (by decide)]; exact d5
      · intro i hi
        rw [m3, m52, upd_n (by omega), upd_n (by omega), upd_n (by omega), upd_n (by omega), upd_n (by omega), upd_n (by omega), upd_n (by omega), upd_n (by omega), upd_n (by omega)]
        exact d6 i hi
      · intro p hp
        rw [m3, m52, upd_n (by omega), upd_n (by omega), upd_n (by omega), upd_n (by omega), upd_n (by omega), upd_n (by omega)]
        exact d7 p hp
      · intro d hd
        have hd : d < uD u - 1 := hd
        rw [m3, m52, upd_n (by omega), upd_n (by omega), upd_n (by omega), upd_n (by omega), upd_n (by omega), upd_n (by omega)]
        exact d8 d (by omega)
