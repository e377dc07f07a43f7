/-! ===== a STRIP is made ===== -/
def newS (σ σ' : Hp) (k : Nat) (v0 v1 v2 : Int32) : Prop := (∀ q, q ≠ gT σ → gI σ' q = gI σ q) ∧ (∀ q, q ≠ gT σ → gK σ' q = gK σ q) ∧ gR σ' = gR σ ∧ gT σ' = gT σ + 1 ∧ gK σ' (gT σ) = k ∧ gI σ' (gT σ) 0 = v0 ∧ gI σ' (gT σ) 1 = v1 ∧ gI σ' (gT σ) 2 = v2
def newF (σ σ' : Hp) : Prop := (∀ q, q ≠ gT σ → ¬ (15 ≤ q ∧ q ≤ 24) → gI σ' q = gI σ q) ∧ (∀ q, q ≠ gT σ → gK σ' q = gK σ q) ∧ gR σ' = gR σ ∧ gT σ' = gT σ + 1
theorem newS.fr {σ σ' : Hp} {k : Nat} {v0 v1 v2 : Int32} (h : newS σ σ' k v0 v1 v2) : newF σ σ' := ⟨fun q hq _ => h.1 q hq, h.2.1, h.2.2.1, h.2.2.2.1⟩
theorem newF.keepS {σ σ' : Hp} (hT : RTop σ) (h : newF σ σ') : keepS σ σ' := fun q h1 h2 => by
  have hq : q ≠ gT σ := fun e => h2 (by rw [e]; exact hT.2.1 _ (Nat.le_refl _))
  exact ⟨h.1 q hq (by omega), h.2.1 q hq⟩
theorem newF.top {σ σ' : Hp} (hT : RTop σ) (h : newF σ σ') : RTop σ' := by
  obtain ⟨t1, t2, t3⟩ := hT
  obtain ⟨f1, f2, f3, f4⟩ := h
  refine ⟨by rw [f4]; omega, fun q hq => ?_, fun g hg k hk => ?_⟩
  · rw [f4] at hq
    rw [f2 q (by omega)]
    exact t2 q (by omega)
  · rw [f3]
    rcases t3 g hg k hk with z | ⟨z1, z2⟩
    · exact Or.inl z
    · refine Or.inr ⟨z1, ?_⟩
      have hq : (gR σ (g + 1) k).getD 0 ≠ gT σ := fun e => by
        rw [e, t2 _ (Nat.le_refl _)] at z2
        exact absurd z2 (by decide)
      rw [f2 _ hq]
      exact z2
theorem newF.rel {σ σ' : Hp} (h : Rel σ) (f : newF σ σ') : Rel σ' := by
  have hT := h.1.1
  have kS := f.keepS h.1
  have e : ∀ q, q < 67 → ¬ (15 ≤ q ∧ q ≤ 24) → gI σ' q = gI σ q := fun q h1 h2 => f.1 q (by omega) h2
  have kB : keepB σ σ' := ⟨fun q hq => e q (by omega) (by omega), fun k _ => by rw [e 51 (by omega) (by omega)]⟩
  exact kB.rel h (f.top h.1) (h.2.2.2.2.1.of2 (by rw [f.2.2.1]) (fun q _ i _ => by rw [f.2.2.1]) kS (fun q a b => e q (by omega) (by omega)) (e 52 (by omega) (by omega))) (h.2.2.2.2.2.of2 (fun q _ i _ => by rw [f.2.2.1]) kS (fun q a b => e q (by omega) (by omega)) (e 53 (by omega) (by omega)) (e 54 (by omega) (by omega)))
theorem e_init9 {σ : Hp} {q : Nat} {x1 x2 x3 : Int32} (hq : okS σ q) : f_X9_init σ q x1 x2 x3 = some (sI (sI (sI σ q 0 x1) q 1 x2) q 2 x3) := by
  unfold f_X9_init
  rw [chk_s (show okS (sI σ q 0 x1) q from hq), chk_s (show okS (sI (sI σ q 0 x1) q 1 x2) q from hq)]
theorem nS_new {σ : Hp} (hT : 67 ≤ gT σ) {k : Nat} (hk : okK k) (v0 v1 v2 : Int32) : okS (nS σ k) (gT σ) ∧ newS σ (sI (sI (sI (nS σ k) (gT σ) 0 v0) (gT σ) 1 v1) (gT σ) 2 v2) k v0 v1 v2 := by
  have eK : gK (nS σ k) (gT σ) = k := up_self
  refine ⟨⟨hT, by rw [eK]; exact hk⟩, fun q hq => ?_, fun q hq => ?_, rfl, rfl, eK, ?_, ?_, ?_⟩
  · rw [gI_n hq, gI_n hq, gI_n hq]
    exact up_ne hq
  · exact up_ne hq
  · rw [gI_s, upd_n (by decide), gI_s, upd_n (by decide), gI_s, upd_s]
  · rw [gI_s, upd_n (by decide), gI_s, upd_s]
  · rw [gI_s, upd_s]
theorem e_new {σ : Hp} (hT : 67 ≤ gT σ) {t : Nat} (ht : t ≤ 4) (v0 v1 v2 : Int32) : ∃ σ', f_X11_newStrip σ (nI t) v0 v1 v2 = some (σ', some (gT σ)) ∧ newS σ σ' (kcode (t + 1)) v0 v1 v2 := by
  unfold f_X11_newStrip f_X0_init f_X7_init f_X2_init f_X1_init f_X3_init
  rcases (show t = 0 ∨ t = 1 ∨ t = 2 ∨ t = 3 ∨ t = 4 by omega) with rfl | rfl | rfl | rfl | rfl
  · obtain ⟨a, b⟩ := nS_new hT (k := 1) (by decide) v0 v1 v2
    rw [if_pos (show nI 0 = 0 from rfl), chk_s a, e_init9 a]
    exact ⟨_, rfl, b⟩
  · obtain ⟨a, b⟩ := nS_new hT (k := 0) (by decide) v0 v1 v2
    rw [if_neg (show ¬ nI 1 = 0 by decide), if_pos (show nI 1 = 1 from rfl), chk_s a, e_init9 a]
    exact ⟨_, rfl, b⟩
  · obtain ⟨a, b⟩ := nS_new hT (k := 7) (by decide) v0 v1 v2
    rw [if_neg (show ¬ nI 2 = 0 by decide), if_neg (show ¬ nI 2 = 1 by decide), if_pos (show nI 2 = 2 from rfl), chk_s a, e_init9 a]
    exact ⟨_, rfl, b⟩
  · obtain ⟨a, b⟩ := nS_new hT (k := 3) (by decide) v0 v1 v2
    rw [if_neg (show ¬ nI 3 = 0 by decide), if_neg (show ¬ nI 3 = 1 by decide), if_neg (show ¬ nI 3 = 2 by decide), if_pos (show nI 3 = 3 from rfl), chk_s a, e_init9 a]
    exact ⟨_, rfl, b⟩
  · obtain ⟨a, b⟩ := nS_new hT (k := 2) (by decide) v0 v1 v2
    rw [if_neg (show ¬ nI 4 = 0 by decide), if_neg (show ¬ nI 4 = 1 by decide), if_neg (show ¬ nI 4 = 2 by decide), if_neg (show ¬ nI 4 = 3 by decide), if_pos (show nI 4 = 4 from rfl), chk_s a, e_init9 a]
    exact ⟨_, rfl, b⟩
theorem e_new0 {σ : Hp} {x v0 v1 v2 : Int32} (h : ¬ inb x 5) : f_X11_newStrip σ x v0 v1 v2 = some (σ, none) := by
  have ne : ∀ t, t < 5 → ¬ x = nI t := fun t ht e => h (by rw [e]; exact nI_inb ht (by decide))
  unfold f_X11_newStrip
  rw [if_neg (show ¬ x = 0 from ne 0 (by omega)), if_neg (show ¬ x = 1 from ne 1 (by omega)), if_neg (show ¬ x = 2 from ne 2 (by omega)), if_neg (show ¬ x = 3 from ne 3 (by omega)), if_neg (show ¬ x = 4 from ne 4 (by omega))]
/-! ===== sow ===== -/
def swu (u : GD) (i so wo ri : Nat) : GD := (uD u, uS u, uP u, uUp u, uLo u, (fun j => if j = i then so else uSo u j), (fun j => if j = i then wo else uWo u j), (fun j => if j = i then ri else uRi u j), uPr u, uPx u)
theorem swu_V {u : GD} (V : VG u) {i so wo ri : Nat} (hs : 1 ≤ so ∧ so ≤ 5) (hw : wo ≤ 99) (hr : ri ≤ 11) : VG (swu u i so wo ri) := by
  obtain ⟨v1, v2, v3, v4, v5, v6⟩ := V
  refine ⟨v1, v2, v3, v4, fun j hj => ?_, v6⟩
  show 1 ≤ (if j = i then so else uSo u j) ∧ (if j = i then so else uSo u j) ≤ 5 ∧ (if j = i then wo else uWo u j) ≤ 99 ∧ (if j = i then ri else uRi u j) ≤ 11
  by_cases h : j = i
  · rw [if_pos h, if_pos h, if_pos h]
    exact ⟨hs.1, hs.2, hw, hr⟩
  · rw [if_neg h, if_neg h, if_neg h]
    exact v5 j hj
theorem swu_C {σ : Hp} {g : Nat} {u : GD} {L R : Nat → Nat} (C : CGw σ g u L R) {i so wo ri q : Nat} (hq : 67 ≤ q) (k1 : gK σ q = kcode so) (k2 : gI σ q 0 = nI i) (k3 : gI σ q 1 = nI wo) (k4 : gI σ q 2 = nI ri) : CGw (sR σ (g + 1) i (some q)) g (swu u i so wo ri) L R := by
  obtain ⟨a1, a2, a3, a4, a5, a6, a7, a8⟩ := C
  refine ⟨a1, a2, a3, a4, a5, a6, a7, fun j hj => ?_⟩
  by_cases h : j = i
  · subst h
    refine ⟨q, by rw [gR_s, up_self], hq, ?_, k2, ?_, ?_⟩
    · show gK σ q = kcode (if j = j then so else uSo u j)
      rw [if_pos rfl]
      exact k1
    · show gI σ q 1 = nI (if j = j then wo else uWo u j)
      rw [if_pos rfl]
      exact k3
    · show gI σ q 2 = nI (if j = j then ri else uRi u j)
      rw [if_pos rfl]
      exact k4
  · obtain ⟨p, b1, b2, b3, b4, b5, b6⟩ := a8 j hj
    refine ⟨p, by rw [gR_s, up_ne h]; exact b1, b2, ?_, b4, ?_, ?_⟩
    · show gK σ p = kcode (if j = i then so else uSo u j)
      rw [if_neg h]
      exact b3
    · show gI σ p 1 = nI (if j = i then wo else uWo u j)
      rw [if_neg h]
      exact b5
    · show gI σ p 2 = nI (if j = i then ri else uRi u j)
      rw [if_neg h]
      exact b6
theorem swu_M {t : Nat → Int32} {u : GD} (M : MG t u) {i so wo ri : Nat} (V : VG u) (hi : i < uS u) : MG (upd (upd (upd t (6 + 3 * i) (nI so)) (6 + 3 * i + 1) (nI wo)) (6 + 3 * i + 2) (nI ri)) (swu u i so wo ri) := by
  have hS := V.2.1
  have hP := V.2.2.1
  have hD := V.1
  have e : ∀ k, ¬ (6 + 3 * i ≤ k ∧ k ≤ 6 + 3 * i + 2) → upd (upd (upd t (6 + 3 * i) (nI so)) (6 + 3 * i + 1) (nI wo)) (6 + 3 * i + 2) (nI ri) k = t k := fun k hk => by rw [upd_n (by omega), upd_n (by omega), upd_n (by omega)]
  obtain ⟨d0, d1, d2, d3, d4, d5, d6, d7, d8⟩ := M
  refine ⟨by rw [e _ (by omega)]; exact d0, by rw [e _ (by omega)]; exact d1, by rw [e _ (by omega)]; exact d2, by rw [e _ (by omega)]; exact d3, by rw [e _ (by omega)]; exact d4, by rw [e _ (by omega)]; exact d5, fun j hj => ?_, fun p hp => ?_, fun d hd => ?_⟩
  · show _ = nI (if j = i then so else uSo u j) ∧ _ = nI (if j = i then wo else uWo u j) ∧ _ = nI (if j = i then ri else uRi u j)
    by_cases h : j = i
    · subst h
      rw [if_pos rfl, if_pos rfl, if_pos rfl, upd_n (show 6 + 3 * j ≠ 6 + 3 * j + 2 by omega), upd_n (show 6 + 3 * j ≠ 6 + 3 * j + 1 by omega), upd_s, upd_n (show 6 + 3 * j + 1 ≠ 6 + 3 * j + 2 by omega), upd_s, upd_s]
      exact ⟨rfl, rfl, rfl⟩
    · rw [if_neg h, if_neg h, if_neg h, e _ (by omega), e _ (by omega), e _ (by omega)]
      exact d6 j hj
  · have hp : p < uP u := hp
    rw [e _ (by omega), e _ (by omega)]
    exact d7 p hp
  · have hd : d < uD u := hd
    rw [e _ (by omega), e _ (by omega)]
    exact d8 d hd
theorem e_rg1 {s : Hp} {x : Int32} {N : Nat} (hN : N < 1000) (h : inb x (N + 1)) : f_X12_in s x 0 (nI N) = some 1 := e_in1 (a := 0) (show (0 : Int) ≤ x.toInt from h.1) (by rw [nI_toInt (by omega)]; have := h.2; omega)
theorem e_rg0 {s : Hp} {x : Int32} {N : Nat} (hN : N < 1000) (h : ¬ inb x (N + 1)) : f_X12_in s x 0 (nI N) = some 0 := e_in0 (a := 0) (show x.toInt < (0 : Int) ∨ (nI N).toInt < x.toInt by rw [nI_toInt (by omega)]; unfold inb at h; omega)
theorem e_msow0 {s : Hp} {x1 x2 x3 x4 x5 x6 : Int32} (b : f_X12_isStrip s x1 = some 1) (hn : ¬ (inb x2 5 ∧ inb x3 100 ∧ inb x4 12 ∧ (1 ≤ x5.toInt ∧ x5.toInt ≤ 12) ∧ inb x6 2)) : f_X12_sow s x1 x2 x3 x4 x5 x6 = some (s, -1000001) := by
  unfold f_X12_sow
  rw [b, bd1_s, if_neg n10]
  by_cases h2 : inb x2 5
  · rw [show f_X12_in s x2 0 4 = some 1 from e_rg1 (N := 4) (by omega) h2, bd1_s, if_neg n10]
    by_cases h3 : inb x3 100
    · rw [show f_X12_in s x3 0 99 = some 1 from e_rg1 (N := 99) (by omega) h3, bd1_s, if_neg n10]
      by_cases h4 : inb x4 12
      · rw [show f_X12_in s x4 0 11 = some 1 from e_rg1 (N := 11) (by omega) h4, bd1_s, if_neg n10]
        by_cases h5 : 1 ≤ x5.toInt ∧ x5.toInt ≤ 12
        · rw [e_spM1 h5, bd1_s, if_neg n10, e_i00 (fun z => hn ⟨h2, h3, h4, h5, z⟩), bd1_s, if_pos rfl]
        · rw [e_spM0 h5, bd1_s, if_pos rfl]
      · rw [show f_X12_in s x4 0 11 = some 0 from e_rg0 (N := 11) (by omega) h4, bd1_s, if_pos rfl]
    · rw [show f_X12_in s x3 0 99 = some 0 from e_rg0 (N := 99) (by omega) h3, bd1_s, if_pos rfl]
  · rw [show f_X12_in s x2 0 4 = some 0 from e_rg0 (N := 4) (by omega) h2, bd1_s, if_pos rfl]
theorem e_putS {σ : Hp} {g S i q : Nat} (h : gI σ g 6 = nI S) (hS : S ≤ 12) (hi : i < S) : f_X4_putStrip σ g (nI i) q = some (sR σ (g + 1) i (some q)) := by
  unfold f_X4_putStrip
  rw [if_neg (nI_pos (by omega)), h, if_neg (nI_ge hi (by omega)), chk_s (nI_inb (by omega) (by decide)), nI_cl (by omega)]
/-- the model's sow, all told as it must be -/
theorem e_msow1 {σ : Hp} {u : GD} (V : VG u) (M : MG (gI σ 52) u) {i t wo ri m : Nat} (hi : i < uS u) (ht : t ≤ 4) (hwo : wo ≤ 99) (hri : ri ≤ 11) (hm1 : 1 ≤ m) (hm : m ≤ 12) {x6 : Int32} (h6 : inb x6 2) : ∃ σ', onlyM σ σ' ∧ f_X12_sow σ (nI i) (nI t) (nI wo) (nI ri) (nI m) x6 = bd1 (f_X12_told σ' (lN (Vg (swu u i (t + 1) wo ri) (dys u m) (uD u) (uUp u (uD u)) (uLo u (uD u))) - lN (Vg u (dys u m) (uD u) (uUp u (uD u)) (uLo u (uD u)))) x6) fun r9 => some (σ', r9) := by
  have hS := V.2.1
  obtain ⟨σa, ma, fa, -⟩ := e_gameM V M hm1 hm
  have ea : gI σa 52 = gI σ 52 := fa.1 52 (by decide)
  have Ma : MG (gI σa 52) u := by rw [ea]; exact M
  have V' := swu_V V (i := i) (so := t + 1) (wo := wo) (ri := ri) (by omega) hwo hri
  have Mb : MG (gI (sI (sI (sI σa 52 (6 + 3 * i) (nI (t + 1))) 52 (6 + 3 * i + 1) (nI wo)) 52 (6 + 3 * i + 2) (nI ri)) 52) (swu u i (t + 1) wo ri) := by
    rw [gI_s, gI_s, gI_s]
    exact swu_M Ma V hi
  obtain ⟨σb, mb, fb, -⟩ := e_gameM V' Mb hm1 hm
  have mb : f_X12_gameOf (sI (sI (sI σa 52 (6 + 3 * i) (nI (t + 1))) 52 (6 + 3 * i + 1) (nI wo)) 52 (6 + 3 * i + 2) (nI ri)) (nI m) = some (σb, lN (Vg (swu u i (t + 1) wo ri) (dys u m) (uD u) (uUp u (uD u)) (uLo u (uD u)))) := mb
  have i1 : (6 : Int32) + 3 * nI i = nI (6 + 3 * i) := by rw [show (6 : Int32) = nI 6 from rfl, show (3 : Int32) = nI 3 from rfl, pk_mul, nI_add]
  have i3 : nI (6 + 3 * i) + 2 = nI (6 + 3 * i + 2) := by rw [show (2 : Int32) = nI 2 from rfl, nI_add]
  have in0 : inb (nI (6 + 3 * i)) 78 := nI_inb (by omega) (by decide)
  have in1 : inb (nI (6 + 3 * i + 1)) 78 := nI_inb (by omega) (by decide)
  have in2 : inb (nI (6 + 3 * i + 2)) 78 := nI_inb (by omega) (by decide)
  refine ⟨sI (sI (sI σb 52 (6 + 3 * i) (gI σa 52 (6 + 3 * i))) 52 (6 + 3 * i + 1) (gI σa 52 (6 + 3 * i + 1))) 52 (6 + 3 * i + 2) (gI σa 52 (6 + 3 * i + 2)), ⟨fun q hq => ?_, fun k hk => ?_, ?_⟩, ?_⟩
  · by_cases h52 : q = 52
    · subst h52
      rw [gI_s, gI_s, gI_s, fb.1 52 (by decide), gI_s, gI_s, gI_s, ← ea]
      funext k
      by_cases k0 : k = 6 + 3 * i
      · rw [k0, upd_n (by omega), upd_n (by omega), upd_s]
      · by_cases k1 : k = 6 + 3 * i + 1
        · rw [k1, upd_n (by omega), upd_s]
        · by_cases k2 : k = 6 + 3 * i + 2
          · rw [k2, upd_s]
          · rw [upd_n k2, upd_n k1, upd_n k0, upd_n k2, upd_n k1, upd_n k0]
    · rw [gI_n h52, gI_n h52, gI_n h52, fb.1 q hq, gI_n h52, gI_n h52, gI_n h52, fa.1 q hq]
  · rw [gI_n (by decide), gI_n (by decide), gI_n (by decide), fb.2.1 k hk, gI_n (by decide), gI_n (by decide), gI_n (by decide), fa.2.1 k hk]
  · exact fb.2.2.trans fa.2.2
  · unfold f_X12_sow
    rw [e_str1 M.2.2.2.2.1 hS hi, bd1_s, if_neg n10, show f_X12_in σ (nI t) 0 4 = some 1 from e_rg1 (N := 4) (by omega) (nI_inb (by omega) (by decide)), bd1_s, if_neg n10, show f_X12_in σ (nI wo) 0 99 = some 1 from e_rg1 (N := 99) (by omega) (nI_inb (by omega) (by decide)), bd1_s, if_neg n10, show f_X12_in σ (nI ri) 0 11 = some 1 from e_rg1 (N := 11) (by omega) (nI_inb (by omega) (by decide)), bd1_s, if_neg n10, e_spM1 (x := nI m) (by rw [nI_toInt (by omega)]; omega), bd1_s, if_neg n10, e_i01 h6, bd1_s, if_neg n10, ma, bd2_s, i1, bnd_s, nI_1 (6 + 3 * i), i3, nI_cl (show 6 + 3 * i < 2147483648 by omega), nI_cl (show 6 + 3 * i + 1 < 2147483648 by omega), nI_cl (show 6 + 3 * i + 2 < 2147483648 by omega), chk_s in0, bnd_s, chk_s in1, bnd_s, chk_s in2, bnd_s, chk_s in0, chk_s in1, bnd_s, chk_s in2, nI_1 t, mb, bd2_s, bnd_s, chk_s in0, chk_s in1, bnd_s, chk_s in2]
theorem op_sow {σ : Hp} (h : Rel σ) (x1 x2 x3 x4 x5 x6 : Int32) : Sim (f_X11_sow σ x1 x2 x3 x4 x5 x6) (fun s => f_X12_sow s x1 x2 x3 x4 x5 x6) := by
  have hG := h.2.2.2.2.1.g
  have hb : lnd σ = 39 ∨ lnd σ = 45 := by rcases h.2.2.2.2.1.1 with h | h <;> omega
  have hT := h.1.1
  rcases land_strip h x1 with ⟨a, b⟩ | ⟨u, i, q, rfl, hi, V, C, M, a, b, r2, r3, r4, r5, r6, ok⟩
  · refine sim_bad h ?_ ?_
    · unfold f_X11_sow
      rw [a]
      rfl
    · show f_X12_sow _ _ _ _ _ _ _ = _
      unfold f_X12_sow
      rw [b]
      rfl
  · have hS := V.2.1
    by_cases h34 : inb x3 100 ∧ inb x4 12
    · obtain ⟨h3, h4⟩ := h34
      obtain ⟨wo, hwo, rfl⟩ := inb_nI h3 (by decide)
      obtain ⟨ri, hri, rfl⟩ := inb_nI h4 (by decide)
      have w1 : ¬ (99 : Int32) < nI wo := nI_nlt (a := 99) (by omega) (by decide)
      have w2 : nI ri < 12 := nI_lt (b := 12) (by omega) (by decide)
      by_cases h2 : inb x2 5
      · obtain ⟨t, ht, rfl⟩ := inb_nI h2 (by decide)
        obtain ⟨s1, n1, n2⟩ := e_new (σ := σ) hT (t := t) (by omega) (nI i) (nI wo) (nI ri)
        have kS := n2.fr.keepS h.1
        have e1 : ∀ q, q < 67 → gI s1 q = gI σ q := fun q hq => n2.1 q (by omega)
        have M1 : MG (gI s1 52) u := by rw [e1 52 (by omega)]; exact M
        by_cases h56 : (1 ≤ x5.toInt ∧ x5.toInt ≤ 12) ∧ inb x6 2
        · obtain ⟨h5, h6⟩ := h56
          obtain ⟨m, hm1, hm, rfl⟩ := sp_nI h5
          obtain ⟨p1, p2⟩ := V.up
          have hq1 : gR σ (lnd σ + 1) i = some q := by
            have := a
            rw [e_told1 C.2.1 hS hi] at this
            exact Option.some.inj this
          have hqT : q ≠ gT σ := fun z => by
            rw [z, h.1.2.1 _ (Nat.le_refl _)] at r3
            exact kc99 _ r3.symm
          have l1 : lnd s1 = lnd σ := by unfold lnd; rw [n2.2.2.1]
          have C1 : CG s1 (lnd σ) u := C.of2 hS (fun j _ => by rw [n2.2.2.1]) kS (e1 _ (by omega)) (e1 _ (by omega)) (e1 _ (by omega)) (e1 _ (by omega)) (e1 _ (by omega))
          obtain ⟨s2, c1, c2, -, -, -⟩ := e_gameC hG V C1 (m := m) hm
          have C2 := C1.only c2 hG (by omega)
          have l2 : lnd s2 = lnd σ := (lnd_o c2).trans l1
          have K2 : gK s2 = gK s1 := by funext p; show s2.2.2.2.1 p = s1.2.2.2.1 p; rw [c2.2]
          have T2 : gI s2 (gT σ) = gI s1 (gT σ) := c2.1 _ (by omega)
          have C3 := swu_C (i := i) (so := t + 1) (wo := wo) (ri := ri) (q := gT σ) C2 hT (by rw [K2]; exact n2.2.2.2.2.1) (by rw [T2]; exact n2.2.2.2.2.2.1) (by rw [T2]; exact n2.2.2.2.2.2.2.1) (by rw [T2]; exact n2.2.2.2.2.2.2.2)
          have V' := swu_V V (i := i) (so := t + 1) (wo := wo) (ri := ri) (by omega) (by omega) (by omega)
          obtain ⟨s4, c3, c4, -, -, -⟩ := e_gameC hG V' C3 (m := m) hm
          have c3 : f_X8_gameOf (sR s2 (lnd σ + 1) i (some (gT σ))) (lnd σ) (nI m) = some (s4, nI (Vg (swu u i (t + 1) wo ri) (dys u m) (uD u) (uUp u (uD u)) (uLo u (uD u)))) := c3
          have l3 : lnd (sR s2 (lnd σ + 1) i (some (gT σ))) = lnd σ := by
            rw [← l2]
            unfold lnd
            rw [gR_n (by omega)]
          have l4 : lnd s4 = lnd σ := (lnd_o c4).trans l3
          have K4 : gK s4 = gK s1 := by funext p; show s4.2.2.2.1 p = s1.2.2.2.1 p; rw [c4.2]; show s2.2.2.2.1 p = _; rw [c2.2]
          have R4 : gR s4 = gR (sR s2 (lnd σ + 1) i (some (gT σ))) := by funext p; show s4.2.2.1 p = _; rw [c4.2]; rfl
          have R2 : gR s2 = gR σ := by funext p; show s2.2.2.1 p = _; rw [c2.2]; show gR s1 p = _; rw [n2.2.2.1]
          have C4 := C3.only c4 hG (by omega)
          have fr : newF σ (sR s4 (lnd σ + 1) i (some q)) := by
            refine ⟨fun p h1 h2 => ?_, fun p h1 => ?_, ?_, ?_⟩
            · show gI s4 p = gI σ p
              rw [c4.1 p (by omega)]
              show gI s2 p = gI σ p
              rw [c2.1 p (by omega), n2.1 p h1]
            · show gK s4 p = gK σ p
              rw [K4, n2.2.1 p h1]
            · funext p
              by_cases hp : p = lnd σ + 1
              · subst hp
                rw [gR_s, R4, gR_s, R2]
                funext j
                by_cases hj : j = i
                · rw [hj, up_self, hq1]
                · rw [up_ne hj, up_ne hj]
              · rw [gR_n hp, R4, gR_n hp, R2]
            · show s4.2.2.2.2 = gT σ + 1
              rw [c4.2]
              show s2.2.2.2.2 = _
              rw [c2.2]
              exact n2.2.2.2.1
          have rel5 := newF.rel h fr
          have M5 : MG (gI (sR s4 (lnd σ + 1) i (some q)) 52) u := by rw [fr.1 52 (by omega) (by omega)]; exact M
          obtain ⟨σ2, m1, m2⟩ := e_msow1 V M5 (t := t) (wo := wo) (ri := ri) (m := m) hi (by omega) (by omega) (by omega) hm1 hm h6
          obtain ⟨r, f1, f2⟩ := fr_sub (σ := sR s4 (lnd σ + 1) i (some q)) (σ' := σ2) (Vg_lt V' (k := dys u m) (d := uD u) dys_le p1 p2) (Vg_lt V (k := dys u m) (d := uD u) dys_le p1 p2) x6
          refine ⟨sR s4 (lnd σ + 1) i (some q), r, σ2, ?_, ?_, rel_M rel5 m1⟩
          · unfold f_X11_sow
            rw [a, bd1_s, opc_s, if_neg (nI_pos (by omega)), if_neg w1, if_neg (nI_pos (by omega)), if_pos w2, n1, bd2_s, opc_s, e_spC1 h5, bd1_s, if_neg n10, e_ud1 h6, bd1_s, if_neg n10, l1, c1, bd2_s, chk_s (show okS s2 (gT σ) from okS_k hT (so := t + 1) (by omega) (by rw [K2]; exact n2.2.2.2.2.1)), l2, e_putS C2.2.1 hS hi, bd1_s, l3, c3, bd2_s, chk_s (show okS s4 q from okS_k r2 ⟨(V.2.2.2.2.1 i hi).1, (V.2.2.2.2.1 i hi).2.1⟩ (by rw [K4, n2.2.1 q hqT]; exact r3)), l4, e_putS (S := uS u) C4.2.1 hS hi, bd1_s, f1, bd1_s]
          · show f_X12_sow _ _ _ _ _ _ _ = _
            rw [m2, f2, bd1_s]
        · refine ⟨s1, -1000001, s1, ?_, ?_, newF.rel h n2.fr⟩
          · unfold f_X11_sow
            rw [a, bd1_s, opc_s, if_neg (nI_pos (by omega)), if_neg w1, if_neg (nI_pos (by omega)), if_pos w2, n1, bd2_s, opc_s]
            by_cases h5 : 1 ≤ x5.toInt ∧ x5.toInt ≤ 12
            · rw [e_spC1 h5, bd1_s, if_neg n10, e_ud0 (fun z => h56 ⟨h5, z⟩), bd1_s, if_pos rfl]
            · rw [e_spC0 h5, bd1_s, if_pos rfl]
          · exact e_msow0 (e_str1 M1.2.2.2.2.1 hS hi) (fun z => h56 z.2.2.2)
      · refine sim_bad h ?_ (e_msow0 b (fun z => h2 z.1))
        unfold f_X11_sow
        rw [a, bd1_s, opc_s, if_neg (nI_pos (by omega)), if_neg w1, if_neg (nI_pos (by omega)), if_pos w2, e_new0 h2, bd2_s, opc_n]
    · refine sim_bad h ?_ (e_msow0 b (fun z => h34 ⟨z.2.1, z.2.2.1⟩))
      unfold f_X11_sow
      rw [a, bd1_s, opc_s]
      by_cases h3 : inb x3 100
      · have k1 : ¬ x3 < 0 := by rw [tI_lt]; show ¬ x3.toInt < 0; have := h3.1; omega
        have k2 : ¬ (99 : Int32) < x3 := by rw [tI_lt]; show ¬ 99 < x3.toInt; have := h3.2; omega
        rw [if_neg k1, if_neg k2]
        by_cases k : x4 < 0
        · rw [if_pos k]
        · rw [if_neg k, if_neg (by rw [tI_lt]; show ¬ x4.toInt < 12; intro z; rw [tI_lt] at k; have k : ¬ x4.toInt < 0 := k; exact h34 ⟨h3, by omega, by omega⟩)]
      · by_cases k : x3 < 0
        · rw [if_pos k]
        · rw [if_neg k, if_pos (by rw [tI_lt]; show 99 < x3.toInt; rw [tI_lt] at k; have k : ¬ x3.toInt < 0 := k; unfold inb at h3; omega)]
