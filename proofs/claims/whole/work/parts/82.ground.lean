/-! ===== ground ===== -/
theorem gR_of {σ σ' : Hp} (e : σ'.2.2 = σ.2.2) : gR σ' = gR σ := by funext q; show σ'.2.2.1 q = σ.2.2.1 q; rw [e]
theorem gK_of {σ σ' : Hp} (e : σ'.2.2 = σ.2.2) : gK σ' = gK σ := by funext q; show σ'.2.2.2.1 q = σ.2.2.2.1 q; rw [e]
theorem lnd_R {σ σ' : Hp} (e : gR σ' = gR σ) : lnd σ' = lnd σ := by unfold lnd; rw [e]
theorem spr_R {σ σ' : Hp} (e : gR σ' = gR σ) : spr σ' = spr σ := by unfold spr; rw [e]
/-- all that reading leaves, but for the land -/
theorem rd_rel {σ σ1 σ2 : Hp} {g f : Nat} {res : Rs} {r : Int32} (h : Rel σ) (hg : g = 39 ∨ g = 45) (F : (∀ q, q < 67 → q ≠ 13 → ¬ (g ≤ q ∧ q ≤ g + 5) → gI σ1 q = gI σ q) ∧ keepS σ σ1 ∧ (∀ q, q ≠ g + 1 → q ≠ 0 → gR σ1 q = gR σ q) ∧ RTop σ1) (h1 : gI σ1 13 1 = 0) (M : MOut res σ1 σ2 r) (e6 : gI σ2 13 6 = gI σ2 51 15) (hL : RLand σ2) : Rel σ2 := by
  obtain ⟨b1, b2, b3, b4, b5, b6⟩ := h
  obtain ⟨m1, m2, m3, m4, m5⟩ := M
  obtain ⟨f1, f2, f3, f4⟩ := F
  have eI : ∀ q, q < 67 → q ≠ 13 → q ≠ 51 → q ≠ 52 → q ≠ 59 → ¬ (g ≤ q ∧ q ≤ g + 5) → gI σ2 q = gI σ q := fun q p1 p2 p3 p4 p5 p6 => (m1 q p3 p4 p5).trans (f1 q p1 p2 p6)
  have kS : keepS σ σ2 := f2.tr (fun q q1 _ => ⟨m1 q (by omega) (by omega) (by omega), by rw [gK_of m3]⟩)
  have eR := gR_of m3
  refine ⟨f4.of3 m3, b2.of (fun q hq => eI q (by omega) (by omega) (by omega) (by omega) (by omega) (by omega)), ⟨0, by omega, by rw [m1 13 (by decide) (by decide) (by decide), h1]; rfl, by rw [m4]; rfl, fun i hi => by omega⟩, ?_, hL, b6.of2 (fun q hq i _ => by rw [eR, f3 q (by omega) (by omega)]) kS (fun q a b => eI q (by omega) (by omega) (by omega) (by omega) (by omega) (by omega)) (eI 53 (by omega) (by omega) (by omega) (by omega) (by omega) (by omega)) (eI 54 (by omega) (by omega) (by omega) (by omega) (by omega) (by omega))⟩
  obtain ⟨c1, c2, n, c3, c4, c5, c6⟩ := b4
  have e51 : ∀ k, k = 6 ∨ k = 25 → gI σ2 51 k = gI σ 51 k := fun k hk => by rw [m2 k hk, f1 51 (by omega) (by omega) (by omega)]
  refine ⟨by rw [eI 0 (by omega) (by omega) (by omega) (by omega) (by omega) (by omega), e51 6 (by omega)]; exact c1, e6, n, c3, by rw [eI 25 (by omega) (by omega) (by omega) (by omega) (by omega) (by omega)]; exact c4, by rw [e51 25 (by omega)]; exact c5, fun i hi => by rw [eI 26 (by omega) (by omega) (by omega) (by omega) (by omega) (by omega), eI 66 (by omega) (by omega) (by omega) (by omega) (by omega) (by omega)]; exact c6 i hi⟩
theorem op_ground {σ : Hp} (h : Rel σ) : Sim (f_X11_ground σ) (fun s => f_X12_ground s) := by
  have hls := h.2.2.2.2.1.1
  have hg : spr σ = 39 ∨ spr σ = 45 := by rcases hls with h | h <;> omega
  have hgG : isG (spr σ) := by rcases hg with h | h <;> rw [h] <;> decide
  obtain ⟨n, hn, t1, t2, t3⟩ := h.2.2.1
  have tb : ∀ i, i < n → ∃ b, b < 256 ∧ (gI σ 58 i).toInt.toNat = b ∧ gI σ 58 i = nI b ∧ gI σ 14 i = sb b := fun i hi => by
    obtain ⟨b, b1, b2, b3⟩ := t3 i hi
    exact ⟨b, b1, by rw [b2, nI_toInt (by omega), Int.toNat_natCast], b2, b3⟩
  have C : CT σ ((fun i => (gI σ 58 i).toInt.toNat), n) := ⟨hn, t1, fun i hi => by
    obtain ⟨b, b1, b2, b3, b4⟩ := tb i hi
    show (gI σ 58 i).toInt.toNat < 256 ∧ gI σ 14 i = sb (gI σ 58 i).toInt.toNat
    rw [b2]
    exact ⟨b1, b4⟩⟩
  have M : MT σ ((fun i => (gI σ 58 i).toInt.toNat), n) := ⟨hn, t2, fun i hi => by
    obtain ⟨b, b1, b2, b3, b4⟩ := tb i hi
    show (gI σ 58 i).toInt.toNat < 256 ∧ gI σ 58 i = nI (gI σ 58 i).toInt.toNat
    rw [b2]
    exact ⟨b1, b3⟩⟩
  generalize ((fun i => (gI σ 58 i).toInt.toNat), n) = T at C M
  obtain ⟨s1, r, c1, F, h1, cc⟩ := e_cRead (g := spr σ) hgG h.1 C
  obtain ⟨f1, f2, f3, f4⟩ := id F
  have e0 : gR s1 0 = gR σ 0 := f3 0 (by omega)
  have el : lnd s1 = lnd σ := by unfold lnd; rw [e0]
  have es : spr s1 = spr σ := by unfold spr; rw [e0]
  unfold f_X11_ground
  rw [c1, bd2_s]
  rcases cc with ⟨rfl, f, s, p1, p2, p3, p4, p5⟩ | ⟨rfl, u, p1, V, D, e13, CGu⟩
  · rw [if_pos rfl, p4.2]
    obtain ⟨σ2, r2, m1, m2⟩ := e_mRead (M.of (by rw [f1 51 (by omega) (by omega) (by omega)]) (f1 58 (by omega) (by omega) (by omega)))
    obtain ⟨n1, n2, n3, n4, n5⟩ := id m2
    rcases n5 with ⟨f', s', q1, q2, q3, q4⟩ | ⟨u, q1, -⟩
    · rw [p5] at q1
      cases q1
      refine ⟨s1, _, σ2, rfl, by rw [← q2]; exact m1, rd_rel (f := f) h hg ⟨f1, f2, fun q a _ => f3 q a, f4⟩ h1 m2 (by rw [n1 13 (by decide) (by decide) (by decide), p4.1, q3]) ?_⟩
      have eR := gR_of n3
      have el2 : lnd σ2 = lnd σ := by unfold lnd; rw [eR, e0]
      have es2 : spr σ2 = spr σ := by unfold spr; rw [eR, e0]
      refine ⟨by rw [el2, es2]; exact hls, ?_⟩
      rw [el2, q4, f1 52 (by omega) (by omega) (by omega)]
      have eI : ∀ q, lnd σ ≤ q → q ≤ lnd σ + 5 → gI σ2 q = gI σ q := fun q a b => by rw [n1 q (by omega) (by omega) (by omega), f1 q (by omega) (by omega) (by omega)]
      rcases h.2.2.2.2.1.2 with B | B
      · left
        unfold Bare at B ⊢
        rw [eI (lnd σ) (by omega) (by omega), eI (lnd σ + 2) (by omega) (by omega), eI (lnd σ + 3) (by omega) (by omega)]
        exact B
      · right
        exact B.of2 (fun i _ => by rw [eR, f3 (lnd σ + 1) (by omega)]) (f2.tr (fun q q1 _ => ⟨n1 q (by omega) (by omega) (by omega), by rw [gK_of n3]⟩)) eI
    · rw [p5] at q1
      cases q1
  · rw [if_neg n10, el, es]
    have o3 : ∀ q, gI (sR (sR s1 0 6 (some (spr σ))) 0 7 (some (lnd σ))) q = gI s1 q := fun q => rfl
    have l1 : lnd (sR (sR s1 0 6 (some (spr σ))) 0 7 (some (lnd σ))) = spr σ := by
      unfold lnd
      rw [gR_s, up_ne (by decide), gR_s, up_self]
      rfl
    have l2 : spr (sR (sR s1 0 6 (some (spr σ))) 0 7 (some (lnd σ))) = lnd σ := by
      unfold spr
      rw [gR_s, up_self]
      rfl
    have rn : ∀ q, q ≠ 0 → gR (sR (sR s1 0 6 (some (spr σ))) 0 7 (some (lnd σ))) q = gR s1 q := fun q hq => by rw [gR_n hq, gR_n hq]
    have T1 : RTop (sR (sR s1 0 6 (some (spr σ))) 0 7 (some (lnd σ))) := by
      obtain ⟨a1, a2, a3⟩ := f4
      exact ⟨a1, a2, fun g' hg' k hk => by rw [rn (g' + 1) (by omega)]; exact a3 g' hg' k hk⟩
    rw [l1, o3, CGu.2.1]
    obtain ⟨σ2, r2, m1, m2⟩ := e_mRead (σ := sR (sR s1 0 6 (some (spr σ))) 0 7 (some (lnd σ))) (T := T) (M.of (by rw [o3, f1 51 (by omega) (by omega) (by omega)]) (by rw [o3, f1 58 (by omega) (by omega) (by omega)]))
    obtain ⟨n1, n2, n3, n4, n5⟩ := id m2
    rcases n5 with ⟨f', s', q1, -⟩ | ⟨u', q1, q2, q3, q4⟩
    · rw [p1] at q1
      cases q1
    · rw [p1] at q1
      cases q1
      have eR := gR_of n3
      have kS : keepS s1 σ2 := fun q q1 _ => ⟨n1 q (by omega) (by omega) (by omega), by rw [gK_of n3]; rfl⟩
      refine ⟨_, _, σ2, rfl, by rw [← q2]; exact m1, rd_rel (σ1 := sR (sR s1 0 6 (some (spr σ))) 0 7 (some (lnd σ))) (f := 0) h hg ⟨fun q a b c => f1 q a b c, f2, fun q a b => by rw [rn q b, f3 q a], T1⟩ h1 m2 ?_ ⟨?_, Or.inr ⟨u, V, ?_, q4⟩⟩⟩
      · rw [n1 13 (by decide) (by decide) (by decide), q3, o3, o3, f1 51 (by omega) (by omega) (by omega)]
        rw [e13]
        exact h.2.2.2.1.2.1
      · have l1' : lnd σ2 = spr σ := (lnd_R eR).trans l1
        have l2' : spr σ2 = lnd σ := (spr_R eR).trans l2
        rw [l1', l2']
        rcases hls with ⟨a, b⟩ | ⟨a, b⟩
        · exact Or.inr ⟨b, a⟩
        · exact Or.inl ⟨b, a⟩
      · have l1' : lnd σ2 = spr σ := (lnd_R eR).trans l1
        rw [l1']
        exact CGu.of2 V.2.1 (fun i _ => by rw [eR, rn (spr σ + 1) (by omega)]) kS (n1 _ (by omega) (by omega) (by omega)) (n1 _ (by omega) (by omega) (by omega)) (n1 _ (by omega) (by omega) (by omega)) (n1 _ (by omega) (by omega) (by omega)) (n1 _ (by omega) (by omega) (by omega))
