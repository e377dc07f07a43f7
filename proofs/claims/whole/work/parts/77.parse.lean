/-! ===== how a ground is told ===== -/
abbrev Rs : Type := (Nat × Nat) ⊕ GD
def pNum (T : Tp) (p most but : Nat) (k : Nat → Nat → Rs) : Rs := if tK T p = 2 then (if most < tV T p ∨ tV T p = but then .inl (2, tS T p) else k (tV T p) (tE T p)) else .inl (1, tS T p)
def pSign (T : Tp) (p : Nat) (k : Nat → Rs) : Rs := if tK T p = 3 then k (tE T p) else .inl (1, tS T p)
def pFence (T : Tp) (p : Nat) (k : Nat → Nat → Nat → Rs) : Rs := if isWd T 0 p = true then pNum T (tE T p) 12 1000 (fun a p => pNum T p 12 1000 (fun b p => pSign T p (fun p => k a b p))) else .inl (1, tS T p)
def adP (u : GD) (r x : Nat) : GD := (uD u, uS u, uP u + 1, uUp u, uLo u, uSo u, uWo u, uRi u, (fun j => if j = uP u then r else uPr u j), (fun j => if j = uP u then x else uPx u j))
def adS (u : GD) (so wo ri : Nat) : GD := (uD u, uS u + 1, uP u, uUp u, uLo u, (fun j => if j = uS u then so else uSo u j), (fun j => if j = uS u then wo else uWo u j), (fun j => if j = uS u then ri else uRi u j), uPr u, uPx u)
def pPond (T : Tp) (u : GD) (p : Nat) (k : GD → Nat → Rs) : Rs := if 6 ≤ uP u then .inl (3, tS T p) else pNum T (tE T p) 1 1000 (fun r p => pNum T p 12 (if r = 0 then uUp u 0 else uLo u 0) (fun x p => pSign T p (fun p => k (adP u r x) p)))
def srt (T : Tp) (p : Nat) : Nat := if isWd T 3 p = true then 1 else if isWd T 4 p = true then 2 else if isWd T 5 p = true then 3 else if isWd T 6 p = true then 4 else if isWd T 7 p = true then 5 else 0
def pStrip (T : Tp) (u : GD) (p0 : Nat) (k : GD → Nat → Rs) : Rs := if 12 ≤ uS u then .inl (3, tS T p0) else if srt T (tE T p0) = 0 then .inl (1, tS T (tE T p0)) else pNum T (tE T (tE T p0)) 99 1000 (fun wo p => pNum T p 11 1000 (fun ri p => pSign T p (fun p => k (adS u (srt T (tE T p0)) wo ri) p)))
def pMain (T : Tp) : Nat → GD → Nat → Rs
  | 0, _, _ => .inl (0, 0)
  | n + 1, u, p => if tK T p = 0 then .inr u else if isWd T 1 p = true ∧ uS u = 0 then pPond T u p (fun u p => pMain T n u p) else if isWd T 2 p = true then pStrip T u p (fun u p => pMain T n u p) else .inl (1, tS T p)
theorem pNum_ok {T : Tp} {p most but : Nat} {k : Nat → Nat → Rs} (h1 : tK T p = 2) (h2 : tV T p ≤ most) (h3 : tV T p ≠ but) : pNum T p most but k = k (tV T p) (tE T p) := by
  unfold pNum
  rw [if_pos h1, if_neg (fun z => z.elim (fun y => by omega) h3)]
theorem pNum_2 {T : Tp} {p most but : Nat} {k : Nat → Nat → Rs} (h1 : tK T p = 2) (h2 : most < tV T p ∨ tV T p = but) : pNum T p most but k = .inl (2, tS T p) := by
  unfold pNum
  rw [if_pos h1, if_pos h2]
theorem pNum_1 {T : Tp} {p most but : Nat} {k : Nat → Nat → Rs} (h1 : ¬ tK T p = 2) : pNum T p most but k = .inl (1, tS T p) := by
  unfold pNum
  rw [if_neg h1]
theorem srt_le {T : Tp} {p : Nat} : srt T p ≤ 5 := by
  unfold srt
  repeat' split
  all_goals omega
theorem adP_opn {u : GD} {r x r' y : Nat} : opn (adP u r x) r' y ↔ opn u r' y ∧ ¬ (r = r' ∧ x = y) := by
  show (y ≤ 12 ∧ ∀ p, p < uP u + 1 → ¬ ((if p = uP u then r else uPr u p) = r' ∧ (if p = uP u then x else uPx u p) = y)) ↔ (y ≤ 12 ∧ ∀ p, p < uP u → ¬ (uPr u p = r' ∧ uPx u p = y)) ∧ ¬ (r = r' ∧ x = y)
  constructor
  · rintro ⟨h1, h2⟩
    refine ⟨⟨h1, fun p hp => ?_⟩, ?_⟩
    · have := h2 p (by omega)
      rw [if_neg (by omega), if_neg (by omega)] at this
      exact this
    · have := h2 (uP u) (by omega)
      rw [if_pos rfl, if_pos rfl] at this
      exact this
  · rintro ⟨⟨h1, h2⟩, h3⟩
    refine ⟨h1, fun p hp => ?_⟩
    by_cases q : p = uP u
    · rw [if_pos q, if_pos q]
      exact h3
    · rw [if_neg q, if_neg q]
      exact h2 p (by omega)
theorem adP_V {u : GD} (V : VG u) (D : uD u = 0) {r x : Nat} (hP : uP u < 6) (hr : r ≤ 1) (hx : x ≤ 12) (hn : x ≠ if r = 0 then uUp u 0 else uLo u 0) : VG (adP u r x) := by
  obtain ⟨v1, v2, v3, v4, v5, v6⟩ := V
  refine ⟨v1, v2, by show uP u + 1 ≤ 6; omega, fun d hd => ?_, v5, fun p hp => ?_⟩
  · have hd : d ≤ uD u := hd
    have d0 : d = 0 := by omega
    subst d0
    show opn (adP u r x) 0 (uUp u 0) ∧ opn (adP u r x) 1 (uLo u 0)
    rw [adP_opn, adP_opn]
    obtain ⟨o1, o2⟩ := v4 0 (by omega)
    refine ⟨⟨o1, fun z => ?_⟩, o2, fun z => ?_⟩
    · rw [if_pos z.1] at hn
      exact hn z.2
    · rw [if_neg (by omega)] at hn
      exact hn z.2
  · have hp : p < uP u + 1 := hp
    show (if p = uP u then r else uPr u p) ≤ 1 ∧ (if p = uP u then x else uPx u p) ≤ 12
    by_cases q : p = uP u
    · rw [if_pos q, if_pos q]
      exact ⟨hr, hx⟩
    · rw [if_neg q, if_neg q]
      exact v6 p (by omega)
theorem adS_V {u : GD} (V : VG u) {so wo ri : Nat} (hS : uS u < 12) (h1 : 1 ≤ so ∧ so ≤ 5) (h2 : wo ≤ 99) (h3 : ri ≤ 11) : VG (adS u so wo ri) := by
  obtain ⟨v1, v2, v3, v4, v5, v6⟩ := V
  refine ⟨v1, by show uS u + 1 ≤ 12; omega, v3, v4, fun j hj => ?_, v6⟩
  have hj : j < uS u + 1 := hj
  show 1 ≤ (if j = uS u then so else uSo u j) ∧ (if j = uS u then so else uSo u j) ≤ 5 ∧ (if j = uS u then wo else uWo u j) ≤ 99 ∧ (if j = uS u then ri else uRi u j) ≤ 11
  by_cases q : j = uS u
  · rw [if_pos q, if_pos q, if_pos q]
    exact ⟨h1.1, h1.2, h2, h3⟩
  · rw [if_neg q, if_neg q, if_neg q]
    exact v5 j (by omega)
/-! ===== the class: numbers, signs, the fence ===== -/
def CP (fv : Int32) (σ : Hp) (T : Tp) (p : Nat) : Prop := CT σ T ∧ gI σ 13 2 = nI p ∧ p ≤ T.2 ∧ gI σ 13 6 = fv
def Flt (σ : Hp) (f s : Nat) : Prop := gI σ 13 6 = nI f ∧ gI σ 13 7 = nI s
theorem e_fail {s : Hp} {T : Tp} {f st : Nat} (C : CT s T) (h : gI s 13 4 = nI st) : ∃ s', f_X5_fail s (nI f) = some (s', 0) ∧ onlyI (fun q => q = 13) s s' ∧ CT s' T ∧ Flt s' f st := by
  refine ⟨sI (sI s 13 6 (nI f)) 13 7 (gI (sI s 13 6 (nI f)) 13 4), rfl, ((onlyI.rf (S := fun q => q = 13)).st rfl).st rfl, (C.st (by decide)).st (by decide), ?_, ?_⟩
  · rw [gI_s, upd_n (by decide), gI_s, upd_s]
  · rw [gI_s, upd_s, gI_s, upd_n (by decide), h]
theorem CP.tok {fv : Int32} {σ : Hp} {T : Tp} {p : Nat} (P : CP fv σ T p) : ∃ σ', f_X5_nextToken σ = some σ' ∧ onlyI (fun q => q = 13) σ σ' ∧ CT σ' T ∧ CK σ' T p ∧ CP fv σ' T (tE T p) ∧ tS T p ≤ 400 := by
  obtain ⟨s1, n1, n2, n3, K⟩ := e_next P.2.2.1 P.1 P.2.1
  have C1 : CT s1 T := P.1.of (n3 1 (by omega)) (n2.1 14 (by omega))
  have := tS_le P.2.2.1
  have := P.1.1
  exact ⟨s1, n1, n2, C1, K, ⟨C1, K.1, (tE_le P.2.2.1).2, (n3 6 (by omega)).trans P.2.2.2⟩, by omega⟩
theorem e_cNum {fv : Int32} {σ : Hp} {T : Tp} {p most : Nat} (P : CP fv σ T p) (hm : most ≤ 999) : ∃ σ', onlyI (fun q => q = 13) σ σ' ∧ CT σ' T ∧ tS T p ≤ 400 ∧ ((f_X5_readNumber σ (nI most) = some (σ', 0) ∧ ∃ f, 1 ≤ f ∧ f ≤ 3 ∧ Flt σ' f (tS T p) ∧ ∀ but k, pNum T p most but k = .inl (f, tS T p)) ∨ (f_X5_readNumber σ (nI most) = some (σ', 1) ∧ CP fv σ' T (tE T p) ∧ gI σ' 13 4 = nI (tS T p) ∧ gI σ' 13 5 = nI (tV T p) ∧ tV T p ≤ most ∧ tK T p = 2)) := by
  obtain ⟨s1, n1, n2, C1, K, P1, h400⟩ := P.tok
  have hk := tK_le (T := T) (p := p)
  have hv := tV_le (T := T) (p := p)
  by_cases h2 : tK T p = 2
  · by_cases h3 : tV T p ≤ most
    · refine ⟨s1, n2, C1, h400, Or.inr ⟨?_, P1, K.2.2.1, K.2.2.2 h2, h3, h2⟩⟩
      unfold f_X5_readNumber
      rw [n1, bd1_s, K.2.1, if_pos (by rw [h2]; rfl), K.2.2.2 h2, if_pos (nI_le h3 (by omega))]
    · obtain ⟨s2, f1, f2, f3, f4⟩ := e_fail (f := 2) C1 K.2.2.1
      refine ⟨s2, n2.tr f2, f3, h400, Or.inl ⟨?_, 2, by omega, by omega, f4, fun but k => pNum_2 h2 (Or.inl (by omega))⟩⟩
      unfold f_X5_readNumber
      rw [n1, bd1_s, K.2.1, if_pos (by rw [h2]; rfl), K.2.2.2 h2, if_neg (nI_ge (by omega) (by omega)), show f_X5_fail s1 2 = _ from f1, bd2_s, if_pos rfl]
  · obtain ⟨s2, f1, f2, f3, f4⟩ := e_fail (f := 1) C1 K.2.2.1
    refine ⟨s2, n2.tr f2, f3, h400, Or.inl ⟨?_, 1, by omega, by omega, f4, fun but k => pNum_1 h2⟩⟩
    unfold f_X5_readNumber
    rw [n1, bd1_s, K.2.1, if_neg (by show ¬ nI (tK T p) = nI 2; rw [nI_eq (by omega) (by decide)]; exact h2), show f_X5_fail s1 1 = _ from f1, bd2_s, chk_s (Or.inl rfl)]
theorem e_cSign {fv : Int32} {σ : Hp} {T : Tp} {p : Nat} (P : CP fv σ T p) : ∃ σ', onlyI (fun q => q = 13) σ σ' ∧ CT σ' T ∧ tS T p ≤ 400 ∧ ((f_X5_readSign σ = some (σ', 0) ∧ Flt σ' 1 (tS T p) ∧ ∀ k, pSign T p k = .inl (1, tS T p)) ∨ (f_X5_readSign σ = some (σ', 1) ∧ CP fv σ' T (tE T p) ∧ ∀ k, pSign T p k = k (tE T p))) := by
  obtain ⟨s1, n1, n2, C1, K, P1, h400⟩ := P.tok
  have hk := tK_le (T := T) (p := p)
  by_cases h2 : tK T p = 3
  · refine ⟨s1, n2, C1, h400, Or.inr ⟨?_, P1, fun k => if_pos h2⟩⟩
    unfold f_X5_readSign
    rw [n1, bd1_s, K.2.1, if_pos (by rw [h2]; rfl)]
  · obtain ⟨s2, f1, f2, f3, f4⟩ := e_fail (f := 1) C1 K.2.2.1
    refine ⟨s2, n2.tr f2, f3, h400, Or.inl ⟨?_, f4, fun k => if_neg h2⟩⟩
    unfold f_X5_readSign
    rw [n1, bd1_s, K.2.1, if_neg (by show ¬ nI (tK T p) = nI 3; rw [nI_eq (by omega) (by decide)]; exact h2), show f_X5_fail s1 1 = _ from f1, bd2_s, if_pos rfl]
theorem CP.st {fv : Int32} {σ : Hp} {T : Tp} {p q k : Nat} {v : Int32} (hq : q ≠ 13) (hq2 : q ≠ 14) (P : CP fv σ T p) : CP fv (sI σ q k v) T p := ⟨P.1.of (by rw [gI_n (Ne.symm hq)]) (gI_n (Ne.symm hq2)), by rw [gI_n (Ne.symm hq)]; exact P.2.1, P.2.2.1, by rw [gI_n (Ne.symm hq)]; exact P.2.2.2⟩
theorem e_cFence {fv : Int32} {σ : Hp} {g p : Nat} {T : Tp} (hg : isG g) (P : CP fv σ T p) : ∃ σ', onlyI (fun q => q = 13 ∨ q = g + 2 ∨ q = g + 3) σ σ' ∧ CT σ' T ∧ ((f_X5_readFence σ g = some (σ', 0) ∧ ∃ f s, 1 ≤ f ∧ f ≤ 3 ∧ s ≤ 400 ∧ Flt σ' f s ∧ ∀ k, pFence T p k = .inl (f, s)) ∨ (f_X5_readFence σ g = some (σ', 1) ∧ ∃ a b p', a ≤ 12 ∧ b ≤ 12 ∧ CP fv σ' T p' ∧ gI σ' (g + 2) 0 = nI a ∧ gI σ' (g + 3) 0 = nI b ∧ ∀ k, pFence T p k = k a b p')) := by
  have hb : 27 ≤ g ∧ g ≤ 45 := by rcases hg with h | h | h | h <;> omega
  obtain ⟨s1, n1, n2, C1, K, P1, h400⟩ := P.tok
  have w := e_isW (w := 0) (by decide) P.2.2.1 C1 K
  cases hW : isWd T 0 p with
  | false =>
    obtain ⟨s2, f1, f2, f3, f4⟩ := e_fail (f := 1) C1 K.2.2.1
    refine ⟨s2, (n2.tr f2).mono (by omega), f3, Or.inl ⟨?_, 1, tS T p, by omega, by omega, h400, f4, fun k => ?_⟩⟩
    · unfold f_X5_readFence
      rw [n1, bd1_s, w, hW, bd1_s, if_pos (by decide), show f_X5_fail s1 1 = _ from f1, bd2_s, chk_s (Or.inl rfl)]
    · unfold pFence
      rw [hW, if_neg (by decide)]
  | true =>
    obtain ⟨s2, o2, C2, h2, ⟨a1, f, f1, f2, f3, f4⟩ | ⟨a1, P2, a3, a4, a5, a6⟩⟩ := e_cNum P1 (most := 12) (by omega)
    · refine ⟨s2, (n2.tr o2).mono (by omega), C2, Or.inl ⟨?_, f, _, f1, f2, h2, f3, fun k => ?_⟩⟩
      · unfold f_X5_readFence
        rw [n1, bd1_s, w, hW, bd1_s, if_neg (by decide), show f_X5_readNumber s1 12 = _ from a1, bd2_s, if_pos rfl]
      · unfold pFence
        rw [hW, if_pos rfl]
        exact f4 _ _
    · obtain ⟨s3, o3, C3, h3, ⟨b1, f, f1, f2, f3, f4⟩ | ⟨b1, P3, b3, b4, b5, b6⟩⟩ := e_cNum P2 (most := 12) (by omega)
      · refine ⟨s3, ((n2.tr o2).tr o3).mono (by omega), C3, Or.inl ⟨?_, f, _, f1, f2, h3, f3, fun k => ?_⟩⟩
        · unfold f_X5_readFence
          rw [n1, bd1_s, w, hW, bd1_s, if_neg (by decide), show f_X5_readNumber s1 12 = _ from a1, bd2_s, if_neg n10, bnd_s, show f_X5_readNumber s2 12 = _ from b1, bd2_s, if_pos rfl]
        · unfold pFence
          rw [hW, if_pos rfl, pNum_ok a6 a5 (by omega)]
          exact f4 _ _
      · have P4 : CP fv (sI (sI s3 (g + 2) 0 (nI (tV T (tE T p)))) (g + 3) 0 (nI (tV T (tE T (tE T p))))) T (tE T (tE T (tE T p))) := (P3.st (by omega) (by omega)).st (by omega) (by omega)
        have o4 : onlyI (fun q => q = 13 ∨ q = g + 2 ∨ q = g + 3) σ (sI (sI s3 (g + 2) 0 (nI (tV T (tE T p)))) (g + 3) 0 (nI (tV T (tE T (tE T p))))) := ((((n2.tr o2).tr o3).mono (by omega)).st (by omega)).st (by omega)
        have pf : f_X4_putFence s3 g (gI s2 13 5) (gI s3 13 5) = some (sI (sI s3 (g + 2) 0 (nI (tV T (tE T p)))) (g + 3) 0 (nI (tV T (tE T (tE T p))))) := by
          unfold f_X4_putFence
          rw [a4, b4]
        obtain ⟨s5, o5, C5, h5, ⟨c1, c2, c3⟩ | ⟨c1, P5, c3⟩⟩ := e_cSign P4
        · refine ⟨s5, o4.tr (o5.mono (by omega)), C5, Or.inl ⟨?_, 1, _, by omega, by omega, h5, c2, fun k => ?_⟩⟩
          · unfold f_X5_readFence
            rw [n1, bd1_s, w, hW, bd1_s, if_neg (by decide), show f_X5_readNumber s1 12 = _ from a1, bd2_s, if_neg n10, bnd_s, show f_X5_readNumber s2 12 = _ from b1, bd2_s, if_neg n10, pf, bd1_s, c1, bd2_s, chk_s (Or.inl rfl)]
          · unfold pFence
            rw [hW, if_pos rfl, pNum_ok a6 a5 (by omega), pNum_ok b6 b5 (by omega)]
            exact c3 _
        · refine ⟨s5, o4.tr (o5.mono (by omega)), C5, Or.inr ⟨?_, _, _, _, a5, b5, P5, ?_, ?_, fun k => ?_⟩⟩
          · unfold f_X5_readFence
            rw [n1, bd1_s, w, hW, bd1_s, if_neg (by decide), show f_X5_readNumber s1 12 = _ from a1, bd2_s, if_neg n10, bnd_s, show f_X5_readNumber s2 12 = _ from b1, bd2_s, if_neg n10, pf, bd1_s, c1, bd2_s, chk_s (Or.inr rfl)]
          · rw [o5.1 (g + 2) (by omega), gI_n (by omega), gI_s, upd_s]
          · rw [o5.1 (g + 3) (by omega), gI_s, upd_s]
          · unfold pFence
            rw [hW, if_pos rfl, pNum_ok a6 a5 (by omega), pNum_ok b6 b5 (by omega)]
            exact c3 _
/-! bits of a rim -/
theorem b_1I : ∀ i, i < 32 → (1 : Int32).toBitVec.getLsbD i = decide (i = 0) := by decide +kernel
theorem s_x : ∀ x, x < 13 → ((nI x &&& 31).toBitVec.smod 32).toNat = x := by decide +kernel
theorem s_m : ∀ x, x < 13 → ∀ y, y < 13 → (((1 : Int32) <<< (nI x &&& 31)) ^^^ (-1)).toBitVec.getLsbD y = decide (x ≠ y) := by decide +kernel
theorem bit_iff {m : Int32} {x : Nat} (hx : x ≤ 12) : bitI m x ↔ m.toBitVec.getLsbD x = true := by
  have key : ∀ i, i < 32 → ((m >>> (nI x &&& 31)) &&& 1).toBitVec.getLsbD i = ((m.toBitVec.sshiftRight x).getLsbD i && decide (i = 0)) := by
    intro i hi
    rw [Int32.toBitVec_and, BitVec.getLsbD_and, b_1I i hi, Int32.toBitVec_shiftRight]
    show ((m.toBitVec.sshiftRight ((nI x &&& 31).toBitVec.smod 32).toNat).getLsbD i && _) = _
    rw [s_x x (by omega)]
  have z0 : (m.toBitVec.sshiftRight x).getLsbD 0 = m.toBitVec.getLsbD x := by
    rw [BitVec.getLsbD_sshiftRight, Nat.add_zero, if_pos (by omega)]
    rfl
  unfold bitI
  constructor
  · intro h
    have := key 0 (by decide)
    rw [h, b_1I 0 (by decide), z0] at this
    simpa using this.symm
  · intro h
    apply Int32.toBitVec_inj.1
    apply BitVec.eq_of_getLsbD_eq
    intro i hi
    rw [key i hi, b_1I i hi]
    by_cases q : i = 0
    · subst q
      rw [z0, h]
      rfl
    · simp [q]
theorem bit_clr {m : Int32} {x y : Nat} (hx : x ≤ 12) (hy : y ≤ 12) : bitI (m &&& ((1 <<< (nI x &&& 31)) ^^^ (-1))) y ↔ bitI m y ∧ x ≠ y := by
  rw [bit_iff hy, bit_iff hy, Int32.toBitVec_and, BitVec.getLsbD_and, s_m x (by omega) y (by omega), Bool.and_eq_true, decide_eq_true_iff]
theorem bit_all : ∀ x, x ≤ 12 → bitI 8191 x := by
  intro x hx
  have : ∀ y, y < 13 → (8191 : Int32).toBitVec.getLsbD y = true := by decide +kernel
  exact (bit_iff hx).mpr (this x (by omega))
