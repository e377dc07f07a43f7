/-! ===== the class reads a ground ===== -/
def COut (fv : Int32) (g : Nat) (res : Rs) (σ σ' : Hp) (r : Int32) : Prop := RF g σ σ' ∧ gI σ' 13 1 = 0 ∧ ((r = 0 ∧ ∃ f s, 1 ≤ f ∧ f ≤ 3 ∧ s ≤ 400 ∧ Flt σ' f s ∧ res = .inl (f, s)) ∨ (r = 1 ∧ ∃ u, res = .inr u ∧ VG u ∧ uD u = 0 ∧ gI σ' 13 6 = fv ∧ CG σ' g u))
theorem COut.tr {fv : Int32} {g : Nat} {res : Rs} {a b c : Hp} {r : Int32} (h : RF g a b) (k : COut fv g res b c r) : COut fv g res a c r := ⟨h.tr k.1, k.2⟩
theorem e_17F {fv : Int32} {g m i f s : Nat} {σ s2 : Hp} (hg : isG g) (hi : i < 400) (F : RF g σ s2) (h5 : gI s2 g 5 = 0) (f1 : 1 ≤ f) (f2 : f ≤ 3) (f3 : s ≤ 400) (f4 : Flt s2 f s) : ∃ σ' r, f_X5_readsInto_17 g (m + 1) s2 0 (nI i) = some (σ', r) ∧ COut fv g (.inl (f, s)) σ σ' r := by
  have hb : 27 ≤ g ∧ g ≤ 45 := by rcases hg with h | h | h | h <;> omega
  refine ⟨sI s2 13 1 0, 0, ?_, F.tr (RF.only hg F.2.2.2 ((onlyI.rf (S := fun q => q = 13)).st rfl) (by omega)), by rw [gI_s, upd_s], Or.inl ⟨rfl, f, s, f1, f2, f3, ⟨by rw [gI_s, upd_n (by decide)]; exact f4.1, by rw [gI_s, upd_n (by decide)]; exact f4.2⟩, rfl⟩⟩
  rw [f_X5_readsInto_17, if_neg (show ¬ (400 : Int32) ≤ nI i from nI_ge (b := 400) hi (by decide)), if_pos rfl, gI_n (show g ≠ 13 by omega), h5, chk_s (Or.inl rfl)]
theorem e_17E {g m i : Nat} {σ : Hp} (hg : isG g) (hi : i < 400) (h5 : gI σ g 5 = 1) : f_X5_readsInto_17 g (m + 1) σ 1 (nI i) = some (sI σ 13 1 0, 1) := by
  have hb : 27 ≤ g ∧ g ≤ 45 := by rcases hg with h | h | h | h <;> omega
  rw [f_X5_readsInto_17, if_neg (show ¬ (400 : Int32) ≤ nI i from nI_ge (b := 400) hi (by decide)), if_neg n10, h5, if_neg n10, gI_n (show g ≠ 13 by omega), h5, chk_s (Or.inr rfl)]
theorem e_cMain {fv : Int32} {g : Nat} {T : Tp} (hg : isG g) : ∀ (n m i : Nat) (u : GD) (p : Nat) (σ : Hp), n < m → i + n < 399 → 18 < n + uP u + uS u → RTop σ → CP fv σ T p → VG u → uD u = 0 → CR σ g u → ∃ σ' r, f_X5_readsInto_17 g m σ 1 (nI i) = some (σ', r) ∧ COut fv g (pMain T n u p) σ σ' r := by
  have hb : 27 ≤ g ∧ g ≤ 45 := by rcases hg with h | h | h | h <;> omega
  intro n
  induction n with
  | zero =>
    intro m i u p σ _ _ h3 _ _ V
    have := V.2.1
    have := V.2.2.1
    omega
  | succ n ih =>
    intro m0 i u p σ h1 h2 h3 hT P V D R
    have hS := V.2.1
    obtain ⟨m, rfl⟩ : ∃ m, m0 = m + 1 + 1 := ⟨m0 - 2, by omega⟩
    obtain ⟨s1, n1, n2, C1, K1, P1, h400⟩ := P.tok
    have hk := tK_le (T := T) (p := p)
    have R1 : CR s1 g u := R.o13 hg hS n2
    have T1 : RTop s1 := hT.of n2.2
    have F1 : RF g σ s1 := RF.only hg hT n2 (by omega)
    have hp : pMain T (n + 1) u p = if tK T p = 0 then .inr u else if isWd T 1 p = true ∧ uS u = 0 then pPond T u p (fun u p => pMain T n u p) else if isWd T 2 p = true then pStrip T u p (fun u p => pMain T n u p) else .inl (1, tS T p) := rfl
    rw [f_X5_readsInto_17, if_neg (show ¬ (400 : Int32) ≤ nI i from nI_ge (b := 400) (by omega) (by decide)), if_neg n10, R.1, if_pos rfl, n1, bd1_s, K1.2.1, hp, nI_1]
    by_cases h0 : tK T p = 0
    · have eg : gI (sI (sI s1 g 5 1) 13 1 0) g = upd (gI s1 g) 5 1 := by rw [gI_n (by omega), gI_s]
      have en : ∀ q, q ≠ g → q ≠ 13 → gI (sI (sI s1 g 5 1) 13 1 0) q = gI s1 q := fun q q1 q2 => by rw [gI_n q2, gI_n q1]
      rw [if_pos (by rw [h0]; rfl), if_pos h0, e_17E hg (by omega) (by rw [gI_s, upd_s])]
      obtain ⟨a1, a2, a3, a4, a5, a6, a7, a8⟩ := R1
      have o : onlyI (fun q => q = g ∨ q = 13) s1 (sI (sI s1 g 5 1) 13 1 0) := ((onlyI.rf (S := fun q => q = g ∨ q = 13)).st (Or.inl rfl)).st (Or.inr rfl)
      refine ⟨_, 1, rfl, F1.tr (RF.only hg T1 o (by omega)), by rw [gI_s, upd_s], Or.inr ⟨rfl, u, rfl, V, D, by rw [gI_s, upd_n (by decide), gI_n (by omega)]; exact P1.2.2.2, ?_, ?_, ?_, ?_, ?_, ?_, fun d hd => ?_, fun j hj => stripC.of2 (σ := s1) rfl (o.keepS (by omega)) (a8 j hj)⟩⟩
      · rw [eg, upd_s]
      · rw [eg, upd_n (by decide)]; exact a2
      · rw [eg, upd_n (by decide)]; exact a3
      · rw [eg, upd_n (by decide), D]; exact a4
      · rw [eg, upd_n (by decide)]; exact a5
      · rw [eg, upd_n (by decide)]; exact a6
      · have d0 : d = 0 := by omega
        subst d0
        rw [en (g + 2) (by omega) (by omega), en (g + 3) (by omega) (by omega), en (g + 4) (by omega) (by omega), en (g + 5) (by omega) (by omega)]
        exact a7
    · have w1 := e_isW (w := 1) (by decide) P.2.2.1 C1 K1
      have w2 := e_isW (w := 2) (by decide) P.2.2.1 C1 K1
      rw [if_neg (by show ¬ nI (tK T p) = nI 0; rw [nI_eq (by omega) (by decide)]; exact h0), if_neg h0, w1, bd1_s, w2, bd1_s, R1.2.1]
      have strip : isWd T 2 p = true → ∃ σ' r, (bd2 (f_X5_readStrip s1 g) fun s3 r4 => f_X5_readsInto_17 g (m + 1) s3 r4 (nI (i + 1))) = some (σ', r) ∧ COut fv g (pStrip T u p (fun u p => pMain T n u p)) σ σ' r := by
        intro _
        obtain ⟨s3, F3, C3, g3, ⟨a1, f, s, f1, f2, f3, f4, f5⟩ | ⟨a1, so, wo, ri, p', b1, b2, b3, b4, P3, R3, b7⟩⟩ := e_cStrip hg T1 C1 K1 P1 h400 V R1
        · rw [a1, bd2_s, f5]
          exact e_17F hg (by omega) (F1.tr F3) g3 f1 f2 f3 f4
        · rw [a1, bd2_s, b7]
          obtain ⟨σ', r, c1, c2⟩ := ih (m + 1) (i + 1) (adS u so wo ri) p' s3 (by omega) (by omega) (by show 18 < n + uP u + (uS u + 1); omega) F3.2.2.2 P3 (adS_V V b1 b2 b3 b4) D R3
          exact ⟨σ', r, c1, c2.tr (F1.tr F3)⟩
      have tail : ∃ σ' r, (if bI (isWd T 2 p) = 0 then (bd2 (f_X5_fail s1 1) fun s2 r3 => f_X5_readsInto_17 g (m + 1) s2 r3 (nI (i + 1))) else (bd2 (f_X5_readStrip s1 g) fun s3 r4 => f_X5_readsInto_17 g (m + 1) s3 r4 (nI (i + 1)))) = some (σ', r) ∧ COut fv g (if isWd T 2 p = true then pStrip T u p (fun u p => pMain T n u p) else .inl (1, tS T p)) σ σ' r := by
        cases hW2 : isWd T 2 p with
        | true =>
          rw [if_neg (by decide), if_pos rfl]
          exact strip hW2
        | false =>
          obtain ⟨s2, f1, f2, f3, f4⟩ := e_fail (f := 1) C1 K1.2.2.1
          rw [if_pos (by decide), if_neg (by decide), show f_X5_fail s1 1 = _ from f1, bd2_s]
          exact e_17F hg (by omega) (F1.tr (RF.only hg T1 f2 (by omega))) (by rw [f2.1 g (by omega)]; exact R1.1) (by omega) (by omega) h400 f4
      cases hW1 : isWd T 1 p with
      | false =>
        rw [if_pos (by decide), if_neg (show ¬ (false = true ∧ uS u = 0) from fun z => Bool.noConfusion z.1)]
        exact tail
      | true =>
        rw [if_neg (by decide)]
        by_cases hs0 : uS u = 0
        · rw [if_pos (by rw [hs0]; rfl), if_pos ⟨rfl, hs0⟩]
          obtain ⟨s3, o3, C3, g3, ⟨a1, f, s, f1, f2, f3, f4, f5⟩ | ⟨a1, r, x, p', b1, b2, b3, b4, P3, R3, b7⟩⟩ := e_cPond hg C1 K1 P1 h400 V R1
          · rw [a1, bd2_s, f5]
            exact e_17F hg (by omega) (F1.tr (RF.only hg T1 o3 (by omega))) g3 f1 f2 f3 f4
          · rw [a1, bd2_s, b7]
            obtain ⟨σ', r', c1, c2⟩ := ih (m + 1) (i + 1) (adP u r x) p' s3 (by omega) (by omega) (by show 18 < n + (uP u + 1) + uS u; omega) (T1.of o3.2) P3 (adP_V V D b1 b2 b3 b4) D R3
            exact ⟨σ', r', c1, c2.tr (F1.tr (RF.only hg T1 o3 (by omega)))⟩
        · rw [if_neg (by show ¬ nI (uS u) = nI 0; rw [nI_eq (by omega) (by decide)]; exact hs0), if_neg (show ¬ (true = true ∧ uS u = 0) from fun z => hs0 z.2)]
          exact tail
def gu0 (a b : Nat) : GD := (0, 0, 0, (fun _ => a), (fun _ => b), (fun _ => 1), (fun _ => 0), (fun _ => 0), (fun _ => 0), (fun _ => 0))
theorem gu0_V {a b : Nat} (ha : a ≤ 12) (hb : b ≤ 12) : VG (gu0 a b) := ⟨Nat.zero_le _, Nat.zero_le _, Nat.zero_le _, fun d _ => ⟨⟨ha, fun p hp => absurd hp (Nat.not_lt_zero p)⟩, ⟨hb, fun p hp => absurd hp (Nat.not_lt_zero p)⟩⟩, fun i hi => absurd hi (Nat.not_lt_zero i), fun p hp => absurd hp (Nat.not_lt_zero p)⟩
def pAll (T : Tp) : Rs := pFence T 0 (fun a b p => pMain T 30 (gu0 a b) p)
theorem e_cRead {σ : Hp} {g : Nat} {T : Tp} (hg : isG g) (hT : RTop σ) (C : CT σ T) : ∃ σ' r, f_X5_readsInto σ g = some (σ', r) ∧ COut (gI σ 13 6) g (pAll T) σ σ' r := by
  have hb : 27 ≤ g ∧ g ≤ 45 := by rcases hg with h | h | h | h <;> omega
  have beg : ∃ s1, f_X4_begin (sI σ 13 2 0) g = some s1 ∧ onlyI (fun q => q = 13 ∨ (g ≤ q ∧ q ≤ g + 5)) σ s1 ∧ gI s1 13 = upd (gI σ 13) 2 0 ∧ gI s1 g 5 = 0 ∧ gI s1 g 6 = 0 ∧ gI s1 g 7 = 0 ∧ gI s1 g 8 = 8191 ∧ gI s1 g 9 = 8191 ∧ gI s1 g 10 = 0 ∧ gI s1 (g + 4) 0 = 0 ∧ gI s1 (g + 5) 0 = 0 := by
    unfold f_X4_begin
    rw [bnd_s, bnd_s]
    refine ⟨_, rfl, (((((((((((onlyI.rf (S := fun q => q = 13 ∨ (g ≤ q ∧ q ≤ g + 5))).st (by omega)).st (by omega)).st (by omega)).st (by omega)).st (by omega)).st (by omega)).st (by omega)).st (by omega)).st (by omega)).st (by omega)).st (by omega), ?_, ?_, ?_, ?_, ?_, ?_, ?_, ?_, ?_⟩
    all_goals simp (disch := omega) only [gI_n, gI_s, upd_n, upd_s]
  obtain ⟨s1, b1, o1, b13, b5, b6, b7, b8, b9, b10, b44, b55⟩ := beg
  have T1 : RTop s1 := hT.of o1.2
  have F1 : RF g σ s1 := RF.only hg hT o1 (by omega)
  have P1 : CP (gI σ 13 6) s1 T 0 := ⟨C.of (by rw [b13, upd_n (by decide)]) (o1.1 14 (by omega)), by rw [b13, upd_s]; rfl, Nat.zero_le _, by rw [b13, upd_n (by decide)]⟩
  unfold f_X5_readsInto pAll
  rw [b1, bd1_s]
  obtain ⟨s2, o2, C2, ⟨a1, f, s, f1, f2, f3, f4, f5⟩ | ⟨a1, a, b, p', ha, hbb, P2, a4, a5, a6⟩⟩ := e_cFence hg P1
  · rw [a1, bd2_s, f5]
    exact e_17F (m := 511) (i := 0) hg (by omega) (F1.tr (RF.only hg T1 o2 (by omega))) (by rw [o2.1 g (by omega)]; exact b5) f1 f2 f3 f4
  · rw [a1, bd2_s, a6]
    have F2 : RF g σ s2 := F1.tr (RF.only hg T1 o2 (by omega))
    have R2 : CR s2 g (gu0 a b) := by
      have eg : gI s2 g = gI s1 g := o2.1 g (by omega)
      refine ⟨by rw [eg]; exact b5, by rw [eg]; exact b6, by rw [eg]; exact b7, by rw [eg]; exact b10, fun x hx => ?_, fun x hx => ?_, ⟨a4, a5, by rw [o2.1 (g + 4) (by omega)]; exact b44, by rw [o2.1 (g + 5) (by omega)]; exact b55⟩, fun i hi => absurd hi (Nat.not_lt_zero i)⟩
      · rw [eg, b8]
        exact ⟨fun _ => ⟨hx, fun p hp => absurd hp (Nat.not_lt_zero p)⟩, fun _ => bit_all x hx⟩
      · rw [eg, b9]
        exact ⟨fun _ => ⟨hx, fun p hp => absurd hp (Nat.not_lt_zero p)⟩, fun _ => bit_all x hx⟩
    obtain ⟨σ', r, c1, c2⟩ := e_cMain hg 30 fu 0 (gu0 a b) p' s2 (by decide) (by omega) (by show 18 < 30 + 0 + 0; omega) F2.2.2.2 P2 (gu0_V ha hbb) rfl R2
    exact ⟨σ', r, c1, c2.tr F2⟩
