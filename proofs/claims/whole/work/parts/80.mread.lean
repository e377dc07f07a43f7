/-! ===== the model reads a ground ===== -/
def onlyQ (σ σ' : Hp) : Prop := (∀ q, q ≠ 51 → q ≠ 59 → gI σ' q = gI σ q) ∧ (∀ k, ¬ (9 ≤ k ∧ k ≤ 12) → k ≠ 14 → gI σ' 51 k = gI σ 51 k) ∧ σ'.2.2 = σ.2.2
theorem onlyQ.rf {σ : Hp} : onlyQ σ σ := ⟨fun _ _ _ => rfl, fun _ _ _ => rfl, rfl⟩
theorem onlyQ.tr {a b c : Hp} (h : onlyQ a b) (k : onlyQ b c) : onlyQ a c := ⟨fun q h1 h2 => (k.1 q h1 h2).trans (h.1 q h1 h2), fun q h1 h2 => (k.2.1 q h1 h2).trans (h.2.1 q h1 h2), k.2.2.trans h.2.2⟩
theorem onlyQ.rd {a b : Hp} {k : Nat} {v : Int32} (h : onlyQ a b) : onlyQ a (sI b 59 k v) := ⟨fun q h1 h2 => (gI_n h2).trans (h.1 q h1 h2), fun k h1 h2 => by rw [gI_n (by decide)]; exact h.2.1 k h1 h2, h.2.2⟩
theorem onlyN.Q {a b : Hp} (h : onlyN a b) : onlyQ a b := ⟨fun q h1 _ => h.1 q h1, fun k h1 _ => h.2.1 k h1, h.2.2⟩
theorem onlyQ.f14 {a b : Hp} {v : Int32} (h : onlyQ a b) : onlyQ a (sI b 51 14 v) := ⟨fun q h1 h2 => (gI_n h1).trans (h.1 q h1 h2), fun k h1 h2 => by rw [gI_s, upd_n h2]; exact h.2.1 k h1 h2, h.2.2⟩
def MS (σ : Hp) (T : Tp) (p : Nat) : Prop := MT σ T ∧ MK σ T p ∧ gI σ 51 14 = 0 ∧ p ≤ T.2
def MF (σ : Hp) (f s : Nat) : Prop := gI σ 51 14 = nI f ∧ (1 ≤ f ∧ f ≤ 3) ∧ gI σ 51 10 = nI s
theorem MF.n0 {σ : Hp} {f s : Nat} (h : MF σ f s) : ¬ gI σ 51 14 = 0 := by
  rw [h.1]
  exact nI_ne0 (by have := h.2.1; omega) (by have := h.2.1; omega)
theorem e_mustF {σ : Hp} {f s : Nat} (h : MF σ f s) (x y : Int32) : f_X12_must σ x y = some σ := by
  unfold f_X12_must
  rw [if_neg h.n0]
theorem e_must1 (σ : Hp) (y : Int32) : f_X12_must σ 1 y = some σ := by
  unfold f_X12_must
  by_cases h : gI σ 51 14 = 0
  · rw [if_pos h, if_neg n10]
  · rw [if_neg h]
theorem e_must0 {σ : Hp} (h : gI σ 51 14 = 0) (y : Int32) : f_X12_must σ 0 y = some (sI σ 51 14 y) := by
  unfold f_X12_must
  rw [if_pos h, if_pos rfl]
theorem e_goF {σ : Hp} {f s : Nat} (h : MF σ f s) : f_X12_goesOn σ = some σ := by
  unfold f_X12_goesOn
  rw [if_neg h.n0]
theorem MS.flt {σ : Hp} {T : Tp} {p f : Nat} (h : MS σ T p) (hf : 1 ≤ f ∧ f ≤ 3) : MF (sI σ 51 14 (nI f)) f (tS T p) := ⟨by rw [gI_s, upd_s], hf, by rw [gI_s, upd_n (by decide)]; exact h.2.1.2.1⟩
theorem e_goS {σ : Hp} {T : Tp} {p : Nat} (h : MS σ T p) : ∃ σ', f_X12_goesOn σ = some σ' ∧ onlyN σ σ' ∧ MS σ' T (tE T p) := by
  obtain ⟨m1, m2, m3, m4⟩ := h
  have hE := (tE_le m4).2
  obtain ⟨s1, n1, n2, n3⟩ := e_mnext hE m1 m2.1
  refine ⟨s1, ?_, n2, m1.only n2, n3, by rw [n2.2.1 14 (by omega)]; exact m3, hE⟩
  unfold f_X12_goesOn
  rw [if_pos m3, n1, bd1_s]
theorem in_01 (σ : Hp) (x a b : Int32) : f_X12_in σ x a b = some 0 ∨ f_X12_in σ x a b = some 1 := by
  unfold f_X12_in
  by_cases h : x < a
  · rw [if_pos h]
    exact Or.inl rfl
  · rw [if_neg h]
    by_cases k : b < x
    · rw [if_pos k]
      exact Or.inl rfl
    · rw [if_neg k]
      exact Or.inr rfl
/-- behind a fault nothing is read -/
theorem e_14F {s1 : Hp} {f s : Nat} (h : MF s1 f s) (x1 x2 : Int32) : (bd1 (f_X12_in s1 (gI s1 51 12) 0 x1) fun r1 => if r1 = 0 then (bd1 (f_X12_must s1 0 2) fun s2 => bnd (gI s2 51 12) fun v1 => bd1 (f_X12_goesOn s2) fun s3 => some (s3, v1)) else (if (gI s1 51 12) = x2 then (bd1 (f_X12_must s1 0 2) fun s4 => bnd (gI s4 51 12) fun v2 => bd1 (f_X12_goesOn s4) fun s5 => some (s5, v2)) else (bd1 (f_X12_must s1 1 2) fun s6 => bnd (gI s6 51 12) fun v3 => bd1 (f_X12_goesOn s6) fun s7 => some (s7, v3)))) = some (s1, gI s1 51 12) := by
  have g := e_goF h
  rcases in_01 s1 (gI s1 51 12) 0 x1 with q | q
  · rw [q, bd1_s, if_pos rfl, e_mustF h, bd1_s, bnd_s, g, bd1_s]
  · rw [q, bd1_s, if_neg n10]
    by_cases k : gI s1 51 12 = x2
    · rw [if_pos k, e_mustF h, bd1_s, bnd_s, g, bd1_s]
    · rw [if_neg k, e_mustF h, bd1_s, bnd_s, g, bd1_s]
theorem e_numF {σ : Hp} {f s : Nat} (h : MF σ f s) (x1 x2 : Int32) : f_X12_readNumber σ x1 x2 = some (σ, gI σ 51 12) := by
  unfold f_X12_readNumber f_X12_readNumber_14
  rw [e_mustF h, bd1_s, e_mustF h 0 1, bd1_s, e_14F h]
  by_cases k : gI σ 51 11 = 2
  · rw [if_pos k]
  · rw [if_neg k]
theorem e_stopF {σ : Hp} {f s : Nat} (h : MF σ f s) : f_X12_readStop σ = some σ := by
  unfold f_X12_readStop
  rw [e_mustF h, bd1_s, e_mustF h, bd1_s, e_goF h, bd1_s]
  by_cases k : gI σ 51 11 = 3
  · rw [if_pos k]
  · rw [if_neg k]
theorem e_mNum {σ : Hp} {T : Tp} {p most but : Nat} {bI' : Int32} (S : MS σ T p) (hm : most ≤ 999) (hb : ∀ v, v ≤ 999 → (nI v = bI' ↔ v = but)) : ∃ σ', onlyQ σ σ' ∧ gI σ' 59 = gI σ 59 ∧ ((∃ v f, f_X12_readNumber σ (nI most) bI' = some (σ', v) ∧ MF σ' f (tS T p) ∧ ∀ k, pNum T p most but k = .inl (f, tS T p)) ∨ (f_X12_readNumber σ (nI most) bI' = some (σ', nI (tV T p)) ∧ MS σ' T (tE T p) ∧ tV T p ≤ most ∧ tV T p ≠ but ∧ ∀ k, pNum T p most but k = k (tV T p) (tE T p))) := by
  obtain ⟨m1, m2, m3, m4⟩ := id S
  have hk := tK_le (T := T) (p := p)
  have hv := tV_le (T := T) (p := p)
  by_cases h2 : tK T p = 2
  · have e12 := m2.2.2.2.1 h2
    have pre : f_X12_readNumber σ (nI most) bI' = f_X12_readNumber_14 σ (nI most) bI' 1 := by
      unfold f_X12_readNumber
      rw [m2.2.2.1, if_pos (by rw [h2]; rfl)]
    by_cases h3 : tV T p ≤ most
    · have q : f_X12_in σ (nI (tV T p)) 0 (nI most) = some 1 := e_in1 (a := 0) (by rw [nI_toInt (by omega)]; show (0 : Int) ≤ _; omega) (by rw [nI_toInt (by omega), nI_toInt (by omega)]; omega)
      by_cases h4 : tV T p = but
      · refine ⟨sI σ 51 14 (nI 2), onlyQ.rf.f14, gI_n (by decide), Or.inl ⟨gI (sI σ 51 14 (nI 2)) 51 12, 2, ?_, S.flt (by omega), fun k => pNum_2 h2 (Or.inr h4)⟩⟩
        rw [pre]
        unfold f_X12_readNumber_14
        rw [e_must1, bd1_s, e12, q, bd1_s, if_neg n10, if_pos ((hb _ hv).mpr h4), e_must0 m3, bd1_s, bnd_s]
        show (bd1 (f_X12_goesOn (sI σ 51 14 (nI 2))) fun s5 => some (s5, gI (sI σ 51 14 (nI 2)) 51 12)) = _
        rw [e_goF (S.flt (f := 2) (by omega)), bd1_s]
      · obtain ⟨s1, g1, g2, g3⟩ := e_goS S
        refine ⟨s1, g2.Q, g2.1 59 (by decide), Or.inr ⟨?_, g3, h3, h4, fun k => pNum_ok h2 h3 h4⟩⟩
        rw [pre]
        unfold f_X12_readNumber_14
        rw [e_must1, bd1_s, e12, q, bd1_s, if_neg n10, if_neg (fun z => h4 ((hb _ hv).mp z)), e_must1, bd1_s, bnd_s, e12, g1, bd1_s]
    · have q : f_X12_in σ (nI (tV T p)) 0 (nI most) = some 0 := e_in0 (a := 0) (Or.inr (by rw [nI_toInt (by omega), nI_toInt (by omega)]; omega))
      refine ⟨sI σ 51 14 (nI 2), onlyQ.rf.f14, gI_n (by decide), Or.inl ⟨gI (sI σ 51 14 (nI 2)) 51 12, 2, ?_, S.flt (by omega), fun k => pNum_2 h2 (Or.inl (by omega))⟩⟩
      rw [pre]
      unfold f_X12_readNumber_14
      rw [e_must1, bd1_s, e12, q, bd1_s, if_pos rfl, e_must0 m3, bd1_s, bnd_s]
      show (bd1 (f_X12_goesOn (sI σ 51 14 (nI 2))) fun s5 => some (s5, gI (sI σ 51 14 (nI 2)) 51 12)) = _
      rw [e_goF (S.flt (f := 2) (by omega)), bd1_s]
  · refine ⟨sI σ 51 14 (nI 1), onlyQ.rf.f14, gI_n (by decide), Or.inl ⟨gI (sI σ 51 14 (nI 1)) 51 12, 1, ?_, S.flt (by omega), fun k => pNum_1 h2⟩⟩
    unfold f_X12_readNumber f_X12_readNumber_14
    rw [m2.2.2.1, if_neg (by show ¬ nI (tK T p) = nI 2; rw [nI_eq (by omega) (by decide)]; exact h2), e_must0 m3, bd1_s]
    exact e_14F (S.flt (f := 1) (by omega)) _ _
theorem e_mStop {σ : Hp} {T : Tp} {p : Nat} (S : MS σ T p) : ∃ σ', onlyQ σ σ' ∧ gI σ' 59 = gI σ 59 ∧ f_X12_readStop σ = some σ' ∧ ((MF σ' 1 (tS T p) ∧ ∀ k, pSign T p k = .inl (1, tS T p)) ∨ (MS σ' T (tE T p) ∧ ∀ k, pSign T p k = k (tE T p))) := by
  obtain ⟨m1, m2, m3, m4⟩ := id S
  have hk := tK_le (T := T) (p := p)
  by_cases h : tK T p = 3
  · obtain ⟨s1, g1, g2, g3⟩ := e_goS S
    refine ⟨s1, g2.Q, g2.1 59 (by decide), ?_, Or.inr ⟨g3, fun k => if_pos h⟩⟩
    unfold f_X12_readStop
    rw [m2.2.2.1, if_pos (by rw [h]; rfl), e_must1, bd1_s, g1, bd1_s]
  · refine ⟨sI σ 51 14 (nI 1), onlyQ.rf.f14, gI_n (by decide), ?_, Or.inl ⟨S.flt (by omega), fun k => if_neg h⟩⟩
    unfold f_X12_readStop
    rw [m2.2.2.1, if_neg (by show ¬ nI (tK T p) = nI 3; rw [nI_eq (by omega) (by decide)]; exact h), e_must0 m3, bd1_s]
    show (bd1 (f_X12_goesOn (sI σ 51 14 (nI 1))) fun s2 => some s2) = _
    rw [e_goF (S.flt (f := 1) (by omega)), bd1_s]
theorem MF.rd {σ : Hp} {f s k : Nat} {v : Int32} (h : MF σ f s) : MF (sI σ 59 k v) f s := by
  unfold MF
  rw [gI_n (by decide)]
  exact h
theorem MS.rd {σ : Hp} {T : Tp} {p k : Nat} {v : Int32} (h : MS σ T p) : MS (sI σ 59 k v) T p := by
  obtain ⟨m1, m2, m3, m4⟩ := h
  refine ⟨m1.of (by rw [gI_n (by decide)]) (gI_n (by decide)), ?_, by rw [gI_n (by decide)]; exact m3, m4⟩
  unfold MK
  rw [gI_n (by decide)]
  exact m2
theorem b_none : ∀ v, v ≤ 999 → (nI v = -1000000 ↔ v = 1000) := fun v hv => ⟨fun z => absurd z (nI_nN (by omega)), fun z => by omega⟩
theorem e_mFence {σ : Hp} {T : Tp} {p : Nat} (S : MS σ T p) : ∃ σ', onlyQ σ σ' ∧ f_X12_readFence σ = some σ' ∧ ((∃ f s, MF σ' f s ∧ ∀ k, pFence T p k = .inl (f, s)) ∨ (∃ a b p', a ≤ 12 ∧ b ≤ 12 ∧ MS σ' T p' ∧ gI σ' 59 = upd (upd (gI σ 59) 1 (nI a)) 2 (nI b) ∧ ∀ k, pFence T p k = k a b p')) := by
  obtain ⟨m1, m2, m3, m4⟩ := id S
  have w : f_X12_isName σ 439788397413 = some (bI (isWd T 0 p)) := e_mW (w := 0) (by decide) m4 m2
  unfold f_X12_readFence
  rw [w, bd1_s]
  cases hW : isWd T 0 p with
  | false =>
    have F := S.flt (f := 1) (by omega)
    rw [show bI false = 0 from rfl, e_must0 m3, bd1_s]
    show ∃ σ', onlyQ σ σ' ∧ (bd1 (f_X12_goesOn (sI σ 51 14 (nI 1))) _) = some σ' ∧ _
    rw [e_goF F, bd1_s, e_numF F, bd2_s, e_numF F.rd, bd2_s, e_stopF F.rd.rd, bd1_s]
    refine ⟨_, onlyQ.rf.f14.rd.rd, rfl, Or.inl ⟨1, _, F.rd.rd, fun k => ?_⟩⟩
    unfold pFence
    rw [hW, if_neg (by decide)]
  | true =>
    obtain ⟨s2, g1, g2, S2⟩ := e_goS S
    rw [show bI true = 1 from rfl, e_must1, bd1_s, g1, bd1_s]
    obtain ⟨s3, o3, r3, ⟨v, f, a1, a2, a3⟩ | ⟨a1, S3, a3, a4, a5⟩⟩ := e_mNum S2 (most := 12) (but := 1000) (bI' := -1000000) (by omega) b_none
    · rw [show f_X12_readNumber s2 12 (-1000000) = _ from a1, bd2_s, e_numF a2.rd, bd2_s, e_stopF a2.rd.rd, bd1_s]
      refine ⟨_, (g2.Q.tr o3).rd.rd, rfl, Or.inl ⟨f, _, a2.rd.rd, fun k => ?_⟩⟩
      unfold pFence
      rw [hW, if_pos rfl]
      exact a3 _
    · rw [show f_X12_readNumber s2 12 (-1000000) = _ from a1, bd2_s]
      obtain ⟨s4, o4, r4, ⟨v, f, b1, b2, b3⟩ | ⟨b1, S4, b3, b4, b5⟩⟩ := e_mNum (σ := sI s3 59 1 (nI (tV T (tE T p)))) S3.rd (most := 12) (but := 1000) (bI' := -1000000) (by omega) b_none
      · rw [show f_X12_readNumber (sI s3 59 1 (nI (tV T (tE T p)))) 12 (-1000000) = _ from b1, bd2_s, e_stopF b2.rd, bd1_s]
        refine ⟨_, ((g2.Q.tr o3).rd.tr o4).rd, rfl, Or.inl ⟨f, _, b2.rd, fun k => ?_⟩⟩
        unfold pFence
        rw [hW, if_pos rfl, a5]
        exact b3 _
      · rw [show f_X12_readNumber (sI s3 59 1 (nI (tV T (tE T p)))) 12 (-1000000) = _ from b1, bd2_s]
        obtain ⟨s5, o5, r5, c1, ⟨c2, c3⟩ | ⟨S5, c3⟩⟩ := e_mStop (σ := sI s4 59 2 (nI (tV T (tE T (tE T p))))) S4.rd
        · rw [c1, bd1_s]
          refine ⟨s5, (((g2.Q.tr o3).rd.tr o4).rd).tr o5, rfl, Or.inl ⟨1, _, c2, fun k => ?_⟩⟩
          unfold pFence
          rw [hW, if_pos rfl, a5, b5]
          exact c3 _
        · rw [c1, bd1_s]
          refine ⟨s5, (((g2.Q.tr o3).rd.tr o4).rd).tr o5, rfl, Or.inr ⟨tV T (tE T p), tV T (tE T (tE T p)), _, a3, b3, S5, ?_, fun k => ?_⟩⟩
          · rw [r5, gI_s, r4, gI_s, r3, g2.1 59 (by decide)]
          · unfold pFence
            rw [hW, if_pos rfl, a5, b5]
            exact c3 _
/-! the ground that is being read -/
def MR (σ : Hp) (u : GD) : Prop := MG (upd (gI σ 59) 0 1) u
theorem MR.of {σ σ' : Hp} {u : GD} (e : gI σ' 59 = gI σ 59) (h : MR σ u) : MR σ' u := by
  unfold MR
  rw [e]
  exact h
theorem MR.k {σ : Hp} {u : GD} (h : MR σ u) : gI σ 59 1 = nI (uUp u (uD u)) ∧ gI σ 59 2 = nI (uLo u (uD u)) ∧ gI σ 59 4 = nI (uS u) ∧ gI σ 59 5 = nI (uP u) := by
  obtain ⟨d0, d1, d2, d3, d4, d5, -⟩ := h
  rw [upd_n (by decide)] at d1 d2 d4 d5
  exact ⟨d1, d2, d4, d5⟩
theorem e_55F {σ : Hp} {f s : Nat} (h : MF σ f s) (x1 t0 t1 : Int32) : f_X12_readPond_55 σ x1 t0 t1 = some σ := by
  unfold f_X12_readPond_55
  rw [e_numF h, bd2_s, e_stopF h, bd1_s, if_neg h.n0]
theorem e_mPond {σ : Hp} {T : Tp} {p : Nat} {u : GD} (S : MS σ T p) (V : VG u) (D : uD u = 0) (R : MR σ u) : ∃ σ', onlyQ σ σ' ∧ f_X12_readPond σ = some σ' ∧ ((∃ f s, MF σ' f s ∧ ∀ k, pPond T u p k = .inl (f, s)) ∨ (∃ r x p', uP u < 6 ∧ r ≤ 1 ∧ x ≤ 12 ∧ (x ≠ if r = 0 then uUp u 0 else uLo u 0) ∧ MS σ' T p' ∧ MR σ' (adP u r x) ∧ ∀ k, pPond T u p k = k (adP u r x) p')) := by
  obtain ⟨m1, m2, m3, m4⟩ := id S
  have hP := V.2.2.1
  have hS := V.2.1
  unfold f_X12_readPond
  rw [R.k.2.2.2]
  by_cases h6 : 6 ≤ uP u
  · have F := S.flt (f := 3) (by omega)
    rw [if_pos (show (6 : Int32) ≤ nI (uP u) from nI_le (a := 6) h6 (by omega))]
    unfold f_X12_readPond_17
    rw [e_must0 m3, bd1_s]
    show ∃ σ', onlyQ σ σ' ∧ (bd1 (f_X12_goesOn (sI σ 51 14 (nI 3))) _) = some σ' ∧ _
    rw [e_goF F, bd1_s, e_numF F, bd2_s, e_55F F, e_55F F]
    refine ⟨_, onlyQ.rf.f14, by split <;> rfl, Or.inl ⟨3, _, F, fun k => ?_⟩⟩
    unfold pPond
    rw [if_pos h6]
  · rw [if_neg (show ¬ (6 : Int32) ≤ nI (uP u) from nI_ge (b := 6) (by omega) (by decide))]
    unfold f_X12_readPond_17
    obtain ⟨s2, g1, g2, S2⟩ := e_goS S
    rw [e_must1, bd1_s, g1, bd1_s]
    obtain ⟨s3, o3, r3, ⟨v, f, a1, a2, a3⟩ | ⟨a1, S3, a3, a4, a5⟩⟩ := e_mNum S2 (most := 1) (but := 1000) (bI' := -1000000) (by omega) b_none
    · rw [show f_X12_readNumber s2 1 (-1000000) = _ from a1, bd2_s, e_55F a2, e_55F a2]
      refine ⟨s3, g2.Q.tr o3, by split <;> rfl, Or.inl ⟨f, _, a2, fun k => ?_⟩⟩
      unfold pPond
      rw [if_neg h6]
      exact a3 _
    · rw [show f_X12_readNumber s2 1 (-1000000) = _ from a1, bd2_s]
      have R3 : MR s3 u := R.of (by rw [r3, g2.1 59 (by decide)])
      have k3 := R3.k
      rw [D] at k3
      have sel : (if nI (tV T (tE T p)) = 0 then f_X12_readPond_55 s3 (nI (tV T (tE T p))) (gI s3 59 1) 12 else f_X12_readPond_55 s3 (nI (tV T (tE T p))) (gI s3 59 2) 12) = f_X12_readPond_55 s3 (nI (tV T (tE T p))) (nI (if tV T (tE T p) = 0 then uUp u 0 else uLo u 0)) 12 := by
        rcases (show tV T (tE T p) = 0 ∨ tV T (tE T p) = 1 by omega) with z | z
        · rw [z, if_pos (show nI 0 = 0 from rfl), if_pos rfl, k3.1]
        · rw [z, if_neg (show ¬ nI 1 = 0 by decide), if_neg (by decide), k3.2.1]
      have e12 : (if tV T (tE T p) = 0 then uUp u 0 else uLo u 0) ≤ 12 := by
        have := (V.2.2.2.1 0 (Nat.zero_le _)).1.1
        have := (V.2.2.2.1 0 (Nat.zero_le _)).2.1
        split <;> omega
      rw [sel]
      unfold f_X12_readPond_55
      obtain ⟨s4, o4, r4, ⟨v, f, b1, b2, b3⟩ | ⟨b1, S4, b3, b4, b5⟩⟩ := e_mNum S3 (most := 12) (but := if tV T (tE T p) = 0 then uUp u 0 else uLo u 0) (bI' := nI (if tV T (tE T p) = 0 then uUp u 0 else uLo u 0)) (by omega) (fun v hv => nI_eq (by omega) (by omega))
      · rw [show f_X12_readNumber s3 12 _ = _ from b1, bd2_s, e_stopF b2, bd1_s, if_neg b2.n0]
        refine ⟨s4, (g2.Q.tr o3).tr o4, rfl, Or.inl ⟨f, _, b2, fun k => ?_⟩⟩
        unfold pPond
        rw [if_neg h6, a5]
        exact b3 _
      · rw [show f_X12_readNumber s3 12 _ = _ from b1, bd2_s]
        obtain ⟨s5, o5, r5, c1, ⟨c2, c3⟩ | ⟨S5, c3⟩⟩ := e_mStop S4
        · rw [c1, bd1_s, if_neg c2.n0]
          refine ⟨s5, ((g2.Q.tr o3).tr o4).tr o5, rfl, Or.inl ⟨1, _, c2, fun k => ?_⟩⟩
          unfold pPond
          rw [if_neg h6, a5, b5]
          exact c3 _
        · have R5 : MR s5 u := R3.of (by rw [r5, r4])
          have k5 := R5.k.2.2.2
          have i1 : (42 : Int32) + 2 * nI (uP u) = nI (42 + 2 * uP u) := by rw [show (42 : Int32) = nI 42 from rfl, show (2 : Int32) = nI 2 from rfl, pk_mul, nI_add]
          have k6 : ∀ v, gI (sI s5 59 (42 + 2 * uP u) v) 59 5 = nI (uP u) := fun v => by rw [gI_s, upd_n (by omega)]; exact k5
          have k7 : ∀ v w, gI (sI (sI s5 59 (42 + 2 * uP u) v) 59 (42 + 2 * uP u + 1) w) 59 5 = nI (uP u) := fun v w => by rw [gI_s, upd_n (by omega)]; exact k6 v
          rw [c1, bd1_s, if_pos S5.2.2.1, k5, i1, chk_s (nI_inb (by omega) (by decide)), nI_cl (by omega), k6, i1, nI_1, chk_s (nI_inb (by omega) (by decide)), nI_cl (by omega), bnd_s, k7, nI_1]
          refine ⟨_, (((g2.Q.tr o3).tr o4).tr o5).rd.rd.rd, rfl, Or.inr ⟨tV T (tE T p), tV T (tE T (tE T p)), _, by omega, a3, b3, b4, S5.rd.rd.rd, ?_, fun k => ?_⟩⟩
          · unfold MR at R5 ⊢
            rw [gI_s, gI_s, gI_s]
            obtain ⟨d0, d1, d2, d3, d4, d5, d6, d7, d8⟩ := R5
            have e : ∀ k, k ≠ 42 + 2 * uP u → k ≠ 42 + 2 * uP u + 1 → k ≠ 5 → upd (upd (upd (upd (gI s5 59) (42 + 2 * uP u) (nI (tV T (tE T p)))) (42 + 2 * uP u + 1) (nI (tV T (tE T (tE T p))))) 5 (nI (uP u + 1))) 0 1 k = upd (gI s5 59) 0 1 k := fun k q1 q2 q3 => by
              by_cases q0 : k = 0
              · rw [q0, upd_s, upd_s]
              · rw [upd_n q0, upd_n q3, upd_n q2, upd_n q1, upd_n q0]
            refine ⟨by rw [upd_s], by rw [e _ (by omega) (by omega) (by omega)]; exact d1, by rw [e _ (by omega) (by omega) (by omega)]; exact d2, by rw [e _ (by omega) (by omega) (by omega)]; exact d3, by rw [e _ (by omega) (by omega) (by omega)]; exact d4, ?_, fun j hj => ?_, fun j hj => ?_, fun d hd => ?_⟩
            · rw [upd_n (by decide), upd_s]; rfl
            · have hj' : j < uS u := hj
              rw [e _ (by omega) (by omega) (by omega), e _ (by omega) (by omega) (by omega), e _ (by omega) (by omega) (by omega)]
              exact d6 j hj
            · have hj : j < uP u + 1 := hj
              show _ = nI (if j = uP u then tV T (tE T p) else uPr u j) ∧ _ = nI (if j = uP u then tV T (tE T (tE T p)) else uPx u j)
              by_cases q : j = uP u
              · subst q
                rw [if_pos rfl, if_pos rfl, upd_n (by omega), upd_n (by omega), upd_n (by omega), upd_s, upd_n (by omega), upd_n (by omega), upd_s]
                exact ⟨rfl, rfl⟩
              · rw [if_neg q, if_neg q, e _ (by omega) (by omega) (by omega), e _ (by omega) (by omega) (by omega)]
                exact d7 j (by omega)
            · have hd : d < uD u := hd
              omega
          · unfold pPond
            rw [if_neg h6, a5, b5]
            exact c3 _
