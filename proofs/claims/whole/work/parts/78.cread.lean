/-! ===== the class: ponds, strips ===== -/
/-- the GROUND that is being read -/
def CR (σ : Hp) (g : Nat) (u : GD) : Prop := gI σ g 5 = 0 ∧ gI σ g 6 = nI (uS u) ∧ gI σ g 7 = nI (uP u) ∧ gI σ g 10 = 0 ∧ (∀ x, x ≤ 12 → (bitI (gI σ g 8) x ↔ opn u 0 x)) ∧ (∀ x, x ≤ 12 → (bitI (gI σ g 9) x ↔ opn u 1 x)) ∧ (gI σ (g + 2) 0 = nI (uUp u 0) ∧ gI σ (g + 3) 0 = nI (uLo u 0) ∧ gI σ (g + 4) 0 = 0 ∧ gI σ (g + 5) 0 = 0) ∧ ∀ i, i < uS u → stripC σ g u i
theorem CR.of {σ σ' : Hp} {g : Nat} {u : GD} (hS12 : uS u ≤ 12) (hR : ∀ i, i < 12 → gR σ' (g + 1) i = gR σ (g + 1) i) (hS : keepS σ σ') (h0 : gI σ' g = gI σ g) (h2 : gI σ' (g + 2) = gI σ (g + 2)) (h3 : gI σ' (g + 3) = gI σ (g + 3)) (h4 : gI σ' (g + 4) = gI σ (g + 4)) (h5 : gI σ' (g + 5) = gI σ (g + 5)) (h : CR σ g u) : CR σ' g u := by
  obtain ⟨a1, a2, a3, a4, a5, a6, a7, a8⟩ := h
  exact ⟨by rw [h0]; exact a1, by rw [h0]; exact a2, by rw [h0]; exact a3, by rw [h0]; exact a4, by rw [h0]; exact a5, by rw [h0]; exact a6, by rw [h2, h3, h4, h5]; exact a7, fun i hi => (a8 i hi).of2 (hR i (by omega)) hS⟩
theorem CR.o13 {σ σ' : Hp} {g : Nat} {u : GD} (hg : isG g) (hS12 : uS u ≤ 12) (o : onlyI (fun q => q = 13) σ σ') (h : CR σ g u) : CR σ' g u := by
  have hb : 27 ≤ g ∧ g ≤ 45 := by rcases hg with h | h | h | h <;> omega
  exact h.of hS12 (fun i _ => by show σ'.2.2.1 _ _ = σ.2.2.1 _ _; rw [o.2]) (o.keepS (by omega)) (o.1 _ (by omega)) (o.1 _ (by omega)) (o.1 _ (by omega)) (o.1 _ (by omega)) (o.1 _ (by omega))
theorem CR.end0 {σ : Hp} {g : Nat} {u : GD} (h : CR σ g u) : f_X4_endOn σ g 0 = some (nI (uUp u 0)) := by
  unfold f_X4_endOn
  rw [if_pos rfl, h.2.2.2.1, chk_s (by decide)]
  show some (gI σ (g + 2) 0) = _
  rw [h.2.2.2.2.2.2.1.1]
theorem CR.end1 {σ : Hp} {g : Nat} {u : GD} (h : CR σ g u) : f_X4_endOn σ g 1 = some (nI (uLo u 0)) := by
  unfold f_X4_endOn
  rw [if_neg n10, h.2.2.2.1, chk_s (by decide)]
  show some (gI σ (g + 3) 0) = _
  rw [h.2.2.2.2.2.2.1.2.1]
theorem e_addP {σ : Hp} {g : Nat} {u : GD} (hg : isG g) (V : VG u) (R : CR σ g u) {r x : Nat} (hr : r ≤ 1) (hx : x ≤ 12) : ∃ σ', f_X4_addPond σ g (nI r) (nI x) = some σ' ∧ onlyI (fun q => q = g) σ σ' ∧ CR σ' g (adP u r x) := by
  have hb : 27 ≤ g ∧ g ≤ 45 := by rcases hg with h | h | h | h <;> omega
  obtain ⟨a1, a2, a3, a4, a5, a6, a7, a8⟩ := R
  unfold f_X4_addPond
  rcases (show r = 0 ∨ r = 1 by omega) with rfl | rfl
  · rw [if_pos (show nI 0 = 0 from rfl), bnd_s, gI_s, upd_n (show (7 : Nat) ≠ 8 by decide), a3, nI_1]
    have o : onlyI (fun q => q = g) σ (sI (sI σ g 8 (gI σ g 8 &&& ((1 <<< (nI x &&& 31)) ^^^ (-1)))) g 7 (nI (uP u + 1))) := ((onlyI.rf (S := fun q => q = g)).st rfl).st rfl
    refine ⟨_, rfl, o, ?_, ?_, ?_, ?_, fun y hy => ?_, fun y hy => ?_, ?_, fun i hi => stripC.of2 (σ := σ) rfl (o.keepS (by omega)) (a8 i hi)⟩
    · rw [gI_s, upd_n (by decide), gI_s, upd_n (by decide)]; exact a1
    · rw [gI_s, upd_n (by decide), gI_s, upd_n (by decide)]; exact a2
    · rw [gI_s, upd_s]; rfl
    · rw [gI_s, upd_n (by decide), gI_s, upd_n (by decide)]; exact a4
    · rw [gI_s, upd_n (by decide), gI_s, upd_s, bit_clr hx hy, a5 y hy, adP_opn]
      exact ⟨fun z => ⟨z.1, fun q => z.2 q.2⟩, fun z => ⟨z.1, fun q => z.2 ⟨rfl, q⟩⟩⟩
    · rw [gI_s, upd_n (by decide), gI_s, upd_n (by decide), a6 y hy, adP_opn]
      exact ⟨fun z => ⟨z, fun q => by have := q.1; omega⟩, fun z => z.1⟩
    · rw [o.1 (g + 2) (by omega), o.1 (g + 3) (by omega), o.1 (g + 4) (by omega), o.1 (g + 5) (by omega)]
      exact a7
  · rw [if_neg (show ¬ nI 1 = 0 by decide), bnd_s, gI_s, upd_n (show (7 : Nat) ≠ 9 by decide), a3, nI_1]
    have o : onlyI (fun q => q = g) σ (sI (sI σ g 9 (gI σ g 9 &&& ((1 <<< (nI x &&& 31)) ^^^ (-1)))) g 7 (nI (uP u + 1))) := ((onlyI.rf (S := fun q => q = g)).st rfl).st rfl
    refine ⟨_, rfl, o, ?_, ?_, ?_, ?_, fun y hy => ?_, fun y hy => ?_, ?_, fun i hi => stripC.of2 (σ := σ) rfl (o.keepS (by omega)) (a8 i hi)⟩
    · rw [gI_s, upd_n (by decide), gI_s, upd_n (by decide)]; exact a1
    · rw [gI_s, upd_n (by decide), gI_s, upd_n (by decide)]; exact a2
    · rw [gI_s, upd_s]; rfl
    · rw [gI_s, upd_n (by decide), gI_s, upd_n (by decide)]; exact a4
    · rw [gI_s, upd_n (by decide), gI_s, upd_n (by decide), a5 y hy, adP_opn]
      exact ⟨fun z => ⟨z, fun q => by have := q.1; omega⟩, fun z => z.1⟩
    · rw [gI_s, upd_n (by decide), gI_s, upd_s, bit_clr hx hy, a6 y hy, adP_opn]
      exact ⟨fun z => ⟨z.1, fun q => z.2 q.2⟩, fun z => ⟨z.1, fun q => z.2 ⟨rfl, q⟩⟩⟩
    · rw [o.1 (g + 2) (by omega), o.1 (g + 3) (by omega), o.1 (g + 4) (by omega), o.1 (g + 5) (by omega)]
      exact a7
theorem CT.on {S : Nat → Prop} {σ σ' : Hp} {T : Tp} (o : onlyI S σ σ') (h1 : ¬ S 13) (h2 : ¬ S 14) (h : CT σ T) : CT σ' T := h.of (by rw [o.1 13 h1]) (o.1 14 h2)
theorem CP.on {fv : Int32} {S : Nat → Prop} {σ σ' : Hp} {T : Tp} {p : Nat} (o : onlyI S σ σ') (h1 : ¬ S 13) (h2 : ¬ S 14) (h : CP fv σ T p) : CP fv σ' T p := ⟨h.1.on o h1 h2, by rw [o.1 13 h1]; exact h.2.1, h.2.2.1, by rw [o.1 13 h1]; exact h.2.2.2⟩
theorem e_cPond {fv : Int32} {σ : Hp} {g p : Nat} {u : GD} {T : Tp} (hg : isG g) (C : CT σ T) (K : CK σ T p) (P : CP fv σ T (tE T p)) (h400 : tS T p ≤ 400) (V : VG u) (R : CR σ g u) : ∃ σ', onlyI (fun q => q = 13 ∨ q = g) σ σ' ∧ CT σ' T ∧ gI σ' g 5 = 0 ∧ ((f_X5_readPond σ g = some (σ', 0) ∧ ∃ f s, 1 ≤ f ∧ f ≤ 3 ∧ s ≤ 400 ∧ Flt σ' f s ∧ ∀ k, pPond T u p k = .inl (f, s)) ∨ (f_X5_readPond σ g = some (σ', 1) ∧ ∃ r x p', uP u < 6 ∧ r ≤ 1 ∧ x ≤ 12 ∧ (x ≠ if r = 0 then uUp u 0 else uLo u 0) ∧ CP fv σ' T p' ∧ CR σ' g (adP u r x) ∧ ∀ k, pPond T u p k = k (adP u r x) p')) := by
  have hb : 27 ≤ g ∧ g ≤ 45 := by rcases hg with h | h | h | h <;> omega
  have hS := V.2.1
  have hP := V.2.2.1
  by_cases h6 : uP u < 6
  · have c6 : nI (uP u) < 6 := nI_lt (b := 6) h6 (by decide)
    obtain ⟨s2, o2, C2, h2, ⟨a1, f, f1, f2, f3, f4⟩ | ⟨a1, P2, a3, a4, a5, a6⟩⟩ := e_cNum P (most := 1) (by omega)
    · refine ⟨s2, o2.mono (by omega), C2, by rw [o2.1 g (by omega)]; exact R.1, Or.inl ⟨?_, f, _, f1, f2, h2, f3, fun k => ?_⟩⟩
      · unfold f_X5_readPond
        rw [R.2.2.1, if_pos c6, show f_X5_readNumber σ 1 = _ from a1, bd2_s, if_pos rfl]
      · unfold pPond
        rw [if_neg (by omega)]
        exact f4 _ _
    · obtain ⟨s3, o3, C3, h3, ⟨b1, f, f1, f2, f3, f4⟩ | ⟨b1, P3, b3, b4, b5, b6⟩⟩ := e_cNum P2 (most := 12) (by omega)
      · refine ⟨s3, (o2.tr o3).mono (by omega), C3, by rw [(o2.tr o3).1 g (by omega)]; exact R.1, Or.inl ⟨?_, f, _, f1, f2, h3, f3, fun k => ?_⟩⟩
        · unfold f_X5_readPond
          rw [R.2.2.1, if_pos c6, show f_X5_readNumber σ 1 = _ from a1, bd2_s, if_neg n10, bnd_s, show f_X5_readNumber s2 12 = _ from b1, bd2_s, if_pos rfl]
        · unfold pPond
          rw [if_neg (by omega), pNum_ok a6 a5 (by omega)]
          exact f4 _ _
      · have R3 : CR s3 g u := R.o13 hg hS (o2.tr o3)
        have en : f_X4_endOn s3 g (nI (tV T (tE T p))) = some (nI (if tV T (tE T p) = 0 then uUp u 0 else uLo u 0)) := by
          rcases (show tV T (tE T p) = 0 ∨ tV T (tE T p) = 1 by omega) with z | z
          · rw [z, if_pos rfl]
            exact R3.end0
          · rw [z, if_neg (by decide)]
            exact R3.end1
        have e12 : (if tV T (tE T p) = 0 then uUp u 0 else uLo u 0) ≤ 12 := by
          have := (V.2.2.2.1 0 (Nat.zero_le _)).1.1
          have := (V.2.2.2.1 0 (Nat.zero_le _)).2.1
          split <;> omega
        by_cases hend : tV T (tE T (tE T p)) = if tV T (tE T p) = 0 then uUp u 0 else uLo u 0
        · obtain ⟨s4, f1, f2, f3, f4⟩ := e_fail (f := 2) C3 b3
          refine ⟨s4, ((o2.tr o3).tr f2).mono (by omega), f3, by rw [((o2.tr o3).tr f2).1 g (by omega)]; exact R.1, Or.inl ⟨?_, 2, _, by omega, by omega, h3, f4, fun k => ?_⟩⟩
          · unfold f_X5_readPond
            rw [R.2.2.1, if_pos c6, show f_X5_readNumber σ 1 = _ from a1, bd2_s, if_neg n10, bnd_s, show f_X5_readNumber s2 12 = _ from b1, bd2_s, if_neg n10, a4, en, bd1_s, b4, if_pos (by rw [hend]), show f_X5_fail s3 2 = _ from f1, bd2_s, chk_s (Or.inl rfl)]
          · unfold pPond
            rw [if_neg (by omega), pNum_ok a6 a5 (by omega)]
            exact pNum_2 b6 (Or.inr hend)
        · obtain ⟨s4, d1, d2, R4⟩ := e_addP hg V R3 (r := tV T (tE T p)) (x := tV T (tE T (tE T p))) a5 b5
          have P4 : CP fv s4 T (tE T (tE T (tE T p))) := P3.on d2 (by omega) (by omega)
          have o4 : onlyI (fun q => q = 13 ∨ q = g) σ s4 := ((o2.tr o3).mono (by omega)).tr (d2.mono (by omega))
          obtain ⟨s5, o5, C5, h5, ⟨c1, c2, c3⟩ | ⟨c1, P5, c3⟩⟩ := e_cSign P4
          · refine ⟨s5, o4.tr (o5.mono (by omega)), C5, by rw [o5.1 g (by omega)]; exact R4.1, Or.inl ⟨?_, 1, _, by omega, by omega, h5, c2, fun k => ?_⟩⟩
            · unfold f_X5_readPond
              rw [R.2.2.1, if_pos c6, show f_X5_readNumber σ 1 = _ from a1, bd2_s, if_neg n10, bnd_s, show f_X5_readNumber s2 12 = _ from b1, bd2_s, if_neg n10, a4, en, bd1_s, b4, if_neg (by rw [nI_eq (by omega) (by omega)]; exact hend), d1, bd1_s, c1, bd2_s, chk_s (Or.inl rfl)]
            · unfold pPond
              rw [if_neg (by omega), pNum_ok a6 a5 (by omega), pNum_ok b6 b5 hend]
              exact c3 _
          · refine ⟨s5, o4.tr (o5.mono (by omega)), C5, by rw [o5.1 g (by omega)]; exact R4.1, Or.inr ⟨?_, tV T (tE T p), tV T (tE T (tE T p)), _, h6, a5, b5, hend, P5, R4.o13 hg hS o5, fun k => ?_⟩⟩
            · unfold f_X5_readPond
              rw [R.2.2.1, if_pos c6, show f_X5_readNumber σ 1 = _ from a1, bd2_s, if_neg n10, bnd_s, show f_X5_readNumber s2 12 = _ from b1, bd2_s, if_neg n10, a4, en, bd1_s, b4, if_neg (by rw [nI_eq (by omega) (by omega)]; exact hend), d1, bd1_s, c1, bd2_s, chk_s (Or.inr rfl)]
            · unfold pPond
              rw [if_neg (by omega), pNum_ok a6 a5 (by omega), pNum_ok b6 b5 hend]
              exact c3 _
  · obtain ⟨s2, f1, f2, f3, f4⟩ := e_fail (f := 3) C K.2.2.1
    refine ⟨s2, f2.mono (by omega), f3, by rw [f2.1 g (by omega)]; exact R.1, Or.inl ⟨?_, 3, _, by omega, by omega, h400, f4, fun k => ?_⟩⟩
    · unfold f_X5_readPond
      rw [R.2.2.1, if_neg (show ¬ nI (uP u) < 6 from nI_nlt (b := 6) (by omega) (by omega)), show f_X5_fail σ 3 = _ from f1, bd2_s, chk_s (Or.inl rfl)]
    · unfold pPond
      rw [if_pos (by omega)]
theorem e_sort {σ : Hp} {T : Tp} {p : Nat} (hp : p ≤ T.2) (C : CT σ T) (K : CK σ T p) : f_X5_sortTold σ = some (if srt T p = 0 then -1 else nI (srt T p - 1)) := by
  unfold f_X5_sortTold srt
  rw [e_isW (w := 3) (by decide) hp C K, bd1_s, e_isW (w := 4) (by decide) hp C K, bd1_s, e_isW (w := 5) (by decide) hp C K, bd1_s, e_isW (w := 6) (by decide) hp C K, bd1_s, e_isW (w := 7) (by decide) hp C K, bd1_s]
  cases isWd T 3 p <;> cases isWd T 4 p <;> cases isWd T 5 p <;> cases isWd T 6 p <;> cases isWd T 7 p <;> rfl
/-- what reading leaves -/
def RF (g : Nat) (σ σ' : Hp) : Prop := (∀ q, q < 67 → q ≠ 13 → ¬ (g ≤ q ∧ q ≤ g + 5) → gI σ' q = gI σ q) ∧ keepS σ σ' ∧ (∀ q, q ≠ g + 1 → gR σ' q = gR σ q) ∧ RTop σ'
theorem RF.rf {g : Nat} {σ : Hp} (hT : RTop σ) : RF g σ σ := ⟨fun _ _ _ _ => rfl, keepS.rf, fun _ _ => rfl, hT⟩
theorem RF.tr {g : Nat} {a b c : Hp} (h : RF g a b) (k : RF g b c) : RF g a c := ⟨fun q h1 h2 h3 => (k.1 q h1 h2 h3).trans (h.1 q h1 h2 h3), h.2.1.tr k.2.1, fun q hq => (k.2.2.1 q hq).trans (h.2.2.1 q hq), k.2.2.2⟩
theorem RF.only {g : Nat} {S : Nat → Prop} {σ σ' : Hp} (hg : isG g) (hT : RTop σ) (o : onlyI S σ σ') (hS : ∀ q, S q → q = 13 ∨ (g ≤ q ∧ q ≤ g + 5)) : RF g σ σ' := by
  have hb : 27 ≤ g ∧ g ≤ 45 := by rcases hg with h | h | h | h <;> omega
  exact ⟨fun q h1 h2 h3 => o.1 q (fun z => (hS q z).elim h2 h3), o.keepS (fun q z => by have := hS q z; omega), fun q _ => by show σ'.2.2.1 q = σ.2.2.1 q; rw [o.2], hT.of o.2⟩
theorem e_addS {σ : Hp} {g : Nat} {u : GD} (hg : isG g) (hT : RTop σ) (V : VG u) (R : CR σ g u) (h12 : uS u < 12) {so wo ri q : Nat} (hso : 1 ≤ so ∧ so ≤ 5) (hq : 67 ≤ q) (k1 : gK σ q = kcode so) (k2 : gI σ q 0 = nI (uS u)) (k3 : gI σ q 1 = nI wo) (k4 : gI σ q 2 = nI ri) : ∃ σ', f_X4_addStrip σ g (some q) = some σ' ∧ RF g σ σ' ∧ (∀ p, p ≠ g → gI σ' p = gI σ p) ∧ CR σ' g (adS u so wo ri) := by
  have hb : 27 ≤ g ∧ g ≤ 45 := by rcases hg with h | h | h | h <;> omega
  have okq := okS_k hq hso k1
  obtain ⟨a1, a2, a3, a4, a5, a6, a7, a8⟩ := R
  unfold f_X4_addStrip
  rw [opc_s, a2, if_neg (show ¬ (12 : Int32) ≤ nI (uS u) from nI_ge (b := 12) (by omega) (by decide)), chk_s (nI_inb (by omega) (by decide)), chk_s okq, bnd_s, nI_cl (by omega), show gI (sR σ (g + 1) (uS u) (some q)) g 6 = nI (uS u) from a2, nI_1]
  have eI : ∀ p, p ≠ g → gI (sI (sR σ (g + 1) (uS u) (some q)) g 6 (nI (uS u + 1))) p = gI σ p := fun p hp => by rw [gI_n hp]; rfl
  have eg : gI (sI (sR σ (g + 1) (uS u) (some q)) g 6 (nI (uS u + 1))) g = upd (gI σ g) 6 (nI (uS u + 1)) := gI_s _ _ _ _
  have eR1 : gR (sI (sR σ (g + 1) (uS u) (some q)) g 6 (nI (uS u + 1))) (g + 1) = va_up (gR σ (g + 1)) (uS u) (some q) := gR_s σ (g + 1) (uS u) (some q)
  have eRn : ∀ p, p ≠ g + 1 → gR (sI (sR σ (g + 1) (uS u) (some q)) g 6 (nI (uS u + 1))) p = gR σ p := fun p hp => gR_n (σ := σ) hp
  refine ⟨_, rfl, ⟨fun p h1 h2 h3 => eI p (by omega), fun p h1 h2 => ⟨eI p (by omega), rfl⟩, eRn, ?_⟩, eI, ?_, ?_, ?_, ?_, ?_, ?_, ?_, fun i hi => ?_⟩
  · obtain ⟨t1, t2, t3⟩ := hT
    refine ⟨t1, t2, fun g' hg' k hk => ?_⟩
    by_cases e : g' = g
    · subst e
      rw [eR1]
      by_cases e2 : k = uS u
      · rw [e2, up_self]
        exact Or.inr okq
      · rw [up_ne e2]
        exact t3 g' hg' k hk
    · rw [eRn (g' + 1) (by omega)]
      exact t3 g' hg' k hk
  · rw [eg, upd_n (by decide)]; exact a1
  · rw [eg, upd_s]; rfl
  · rw [eg, upd_n (by decide)]; exact a3
  · rw [eg, upd_n (by decide)]; exact a4
  · rw [eg, upd_n (by decide)]; exact a5
  · rw [eg, upd_n (by decide)]; exact a6
  · rw [eI (g + 2) (by omega), eI (g + 3) (by omega), eI (g + 4) (by omega), eI (g + 5) (by omega)]; exact a7
  · have hi : i < uS u + 1 := hi
    by_cases e : i = uS u
    · subst e
      refine ⟨q, by rw [eR1, up_self], hq, ?_, ?_, ?_, ?_⟩
      · show gK σ q = kcode (if uS u = uS u then so else _)
        rw [if_pos rfl]
        exact k1
      · rw [eI q (by omega)]
        exact k2
      · rw [eI q (by omega)]
        show gI σ q 1 = nI (if uS u = uS u then wo else _)
        rw [if_pos rfl]
        exact k3
      · rw [eI q (by omega)]
        show gI σ q 2 = nI (if uS u = uS u then ri else _)
        rw [if_pos rfl]
        exact k4
    · obtain ⟨q', b1, b2, b3, b4, b5, b6⟩ := a8 i (by omega)
      refine ⟨q', by rw [eR1, up_ne e]; exact b1, b2, ?_, by rw [eI q' (by omega)]; exact b4, ?_, ?_⟩
      · show gK σ q' = kcode (if i = uS u then so else uSo u i)
        rw [if_neg e]
        exact b3
      · rw [eI q' (by omega)]
        show gI σ q' 1 = nI (if i = uS u then wo else uWo u i)
        rw [if_neg e]
        exact b5
      · rw [eI q' (by omega)]
        show gI σ q' 2 = nI (if i = uS u then ri else uRi u i)
        rw [if_neg e]
        exact b6
theorem newS.RF {g : Nat} {σ σ' : Hp} {k : Nat} {v0 v1 v2 : Int32} (hg : isG g) (hT : RTop σ) (h : newS σ σ' k v0 v1 v2) : RF g σ σ' := by
  have h67 := hT.1
  exact ⟨fun q h1 _ _ => h.1 q (by omega), h.fr.keepS hT, fun q _ => by rw [h.2.2.1], h.fr.top hT⟩
theorem e_cStrip {fv : Int32} {σ : Hp} {g p : Nat} {u : GD} {T : Tp} (hg : isG g) (hT : RTop σ) (C : CT σ T) (K : CK σ T p) (P : CP fv σ T (tE T p)) (h400 : tS T p ≤ 400) (V : VG u) (R : CR σ g u) : ∃ σ', RF g σ σ' ∧ CT σ' T ∧ gI σ' g 5 = 0 ∧ ((f_X5_readStrip σ g = some (σ', 0) ∧ ∃ f s, 1 ≤ f ∧ f ≤ 3 ∧ s ≤ 400 ∧ Flt σ' f s ∧ ∀ k, pStrip T u p k = .inl (f, s)) ∨ (f_X5_readStrip σ g = some (σ', 1) ∧ ∃ so wo ri p', uS u < 12 ∧ (1 ≤ so ∧ so ≤ 5) ∧ wo ≤ 99 ∧ ri ≤ 11 ∧ CP fv σ' T p' ∧ CR σ' g (adS u so wo ri) ∧ ∀ k, pStrip T u p k = k (adS u so wo ri) p')) := by
  have hb : 27 ≤ g ∧ g ≤ 45 := by rcases hg with h | h | h | h <;> omega
  have hS := V.2.1
  by_cases h12 : uS u < 12
  · have c12 : nI (uS u) < 12 := nI_lt (b := 12) h12 (by decide)
    obtain ⟨s1, n1, n2, C1, K1, P1, h1⟩ := P.tok
    have so5 := srt_le (T := T) (p := tE T p)
    have st := e_sort P.2.2.1 C1 K1
    by_cases h0 : srt T (tE T p) = 0
    · rw [if_pos h0] at st
      obtain ⟨s2, f1, f2, f3, f4⟩ := e_fail (f := 1) C1 K1.2.2.1
      refine ⟨s2, RF.only hg hT (n2.tr f2) (by omega), f3, by rw [(n2.tr f2).1 g (by omega)]; exact R.1, Or.inl ⟨?_, 1, _, by omega, by omega, h1, f4, fun k => ?_⟩⟩
      · unfold f_X5_readStrip
        rw [R.2.1, if_pos c12, n1, bd1_s, st, bd1_s, if_neg (by decide), show f_X5_fail s1 1 = _ from f1, bd2_s, chk_s (Or.inl rfl)]
      · unfold pStrip
        rw [if_neg (by omega), if_pos h0]
    · rw [if_neg h0] at st
      have cs : (0 : Int32) ≤ nI (srt T (tE T p) - 1) := nI_nneg (by omega)
      obtain ⟨s2, o2, C2, h2, ⟨a1, f, f1, f2, f3, f4⟩ | ⟨a1, P2, a3, a4, a5, a6⟩⟩ := e_cNum P1 (most := 99) (by omega)
      · refine ⟨s2, RF.only hg hT (n2.tr o2) (by omega), C2, by rw [(n2.tr o2).1 g (by omega)]; exact R.1, Or.inl ⟨?_, f, _, f1, f2, h2, f3, fun k => ?_⟩⟩
        · unfold f_X5_readStrip
          rw [R.2.1, if_pos c12, n1, bd1_s, st, bd1_s, if_pos cs, show f_X5_readNumber s1 99 = _ from a1, bd2_s, if_pos rfl]
        · unfold pStrip
          rw [if_neg (by omega), if_neg h0]
          exact f4 _ _
      · obtain ⟨s3, o3, C3, h3, ⟨b1, f, f1, f2, f3, f4⟩ | ⟨b1, P3, b3, b4, b5, b6⟩⟩ := e_cNum P2 (most := 11) (by omega)
        · refine ⟨s3, RF.only hg hT ((n2.tr o2).tr o3) (by omega), C3, by rw [((n2.tr o2).tr o3).1 g (by omega)]; exact R.1, Or.inl ⟨?_, f, _, f1, f2, h3, f3, fun k => ?_⟩⟩
          · unfold f_X5_readStrip
            rw [R.2.1, if_pos c12, n1, bd1_s, st, bd1_s, if_pos cs, show f_X5_readNumber s1 99 = _ from a1, bd2_s, if_neg n10, bnd_s, show f_X5_readNumber s2 11 = _ from b1, bd2_s, if_pos rfl]
          · unfold pStrip
            rw [if_neg (by omega), if_neg h0, pNum_ok a6 a5 (by have := tV_le (T := T) (p := tE T (tE T p)); omega)]
            exact f4 _ _
        · have o3' := (n2.tr o2).tr o3
          have T3 : RTop s3 := hT.of o3'.2
          have R3 : CR s3 g u := R.o13 hg hS o3'
          obtain ⟨s4, e1, e2⟩ := e_new (σ := s3) T3.1 (t := srt T (tE T p) - 1) (by omega) (nI (uS u)) (nI (tV T (tE T (tE T p)))) (nI (tV T (tE T (tE T (tE T p)))))
          rw [show srt T (tE T p) - 1 + 1 = srt T (tE T p) by omega] at e2
          have F4 : RF g s3 s4 := e2.RF hg T3
          have t67 := T3.1
          have e4 : ∀ q, q < 67 → gI s4 q = gI s3 q := fun q hq => e2.1 q (by omega)
          have R4 : CR s4 g u := R3.of hS (fun i _ => by rw [e2.2.2.1]) F4.2.1 (e4 _ (by omega)) (e4 _ (by omega)) (e4 _ (by omega)) (e4 _ (by omega)) (e4 _ (by omega))
          obtain ⟨s5, d1, d2, d3, R5⟩ := e_addS (so := srt T (tE T p)) (wo := tV T (tE T (tE T p))) (ri := tV T (tE T (tE T (tE T p)))) hg F4.2.2.2 V R4 h12 ⟨by omega, so5⟩ T3.1 e2.2.2.2.2.1 e2.2.2.2.2.2.1 e2.2.2.2.2.2.2.1 e2.2.2.2.2.2.2.2
          have P5 : CP fv s5 T (tE T (tE T (tE T (tE T p)))) := ⟨P3.1.of (by rw [d3 13 (by omega), e4 13 (by omega)]) (by rw [d3 14 (by omega), e4 14 (by omega)]), by rw [d3 13 (by omega), e4 13 (by omega)]; exact P3.2.1, P3.2.2.1, by rw [d3 13 (by omega), e4 13 (by omega)]; exact P3.2.2.2⟩
          have F5 : RF g σ s5 := ((RF.only hg hT o3' (by omega)).tr F4).tr d2
          have pre : ∀ z, (bd2 (f_X5_readSign s5) fun s6 r5 => chk (r5 = 0 ∨ r5 = 1) <| some (s6, r5)) = z → f_X5_readStrip σ g = z := fun z hz => by
            unfold f_X5_readStrip
            rw [R.2.1, if_pos c12, n1, bd1_s, st, bd1_s, if_pos cs, show f_X5_readNumber s1 99 = _ from a1, bd2_s, if_neg n10, bnd_s, show f_X5_readNumber s2 11 = _ from b1, bd2_s, if_neg n10, R3.2.1, a4, b4, e1, bd2_s, d1, bd1_s]
            exact hz
          have ppre : ∀ k, pStrip T u p k = pSign T (tE T (tE T (tE T (tE T p)))) (fun p' => k (adS u (srt T (tE T p)) (tV T (tE T (tE T p))) (tV T (tE T (tE T (tE T p))))) p') := fun k => by
            unfold pStrip
            rw [if_neg (by omega), if_neg h0, pNum_ok a6 a5 (by have := tV_le (T := T) (p := tE T (tE T p)); omega), pNum_ok b6 b5 (by have := tV_le (T := T) (p := tE T (tE T (tE T p))); omega)]
          obtain ⟨s6, o6, C6, h6, ⟨c1, c2, c3⟩ | ⟨c1, P6, c3⟩⟩ := e_cSign P5
          · refine ⟨s6, F5.tr (RF.only hg F5.2.2.2 o6 (by omega)), C6, by rw [o6.1 g (by omega)]; exact R5.1, Or.inl ⟨pre _ (by rw [c1, bd2_s, chk_s (Or.inl rfl)]), 1, _, by omega, by omega, h6, c2, fun k => by rw [ppre]; exact c3 _⟩⟩
          · refine ⟨s6, F5.tr (RF.only hg F5.2.2.2 o6 (by omega)), C6, by rw [o6.1 g (by omega)]; exact R5.1, Or.inr ⟨pre _ (by rw [c1, bd2_s, chk_s (Or.inr rfl)]), srt T (tE T p), _, _, _, h12, ⟨by omega, so5⟩, a5, b5, P6, R5.o13 hg (by show uS u + 1 ≤ 12; omega) o6, fun k => by rw [ppre]; exact c3 _⟩⟩
  · obtain ⟨s2, f1, f2, f3, f4⟩ := e_fail (f := 3) C K.2.2.1
    refine ⟨s2, RF.only hg hT f2 (by omega), f3, by rw [f2.1 g (by omega)]; exact R.1, Or.inl ⟨?_, 3, _, by omega, by omega, h400, f4, fun k => ?_⟩⟩
    · unfold f_X5_readStrip
      rw [R.2.1, if_neg (show ¬ nI (uS u) < 12 from nI_nlt (b := 12) (by omega) (by omega)), show f_X5_fail σ 3 = _ from f1, bd2_s, chk_s (Or.inl rfl)]
    · unfold pStrip
      rw [if_pos (by omega)]
