/-! ===== image, restore ===== -/
/-- g is what g2 was -/
def BC (g g2 : Nat) (σ σ' : Hp) : Prop := σ'.2.1 = σ.2.1 ∧ σ'.2.2.2 = σ.2.2.2 ∧ (∀ q, q ≠ g + 1 → gR σ' q = gR σ q) ∧ (∀ q, ¬ (q = g ∨ (g + 2 ≤ q ∧ q ≤ g + 5)) → gI σ' q = gI σ q) ∧ (∀ k, 5 ≤ k → k ≤ 10 → gI σ' g k = gI σ g2 k) ∧ (∀ j, 2 ≤ j → j ≤ 5 → ∀ k, k < 13 → gI σ' (g + j) k = gI σ (g2 + j) k)
theorem cp13 {f h : Nat → Int32} {k : Nat} (hk : k < 13) : va_cpy f h (0 : Int32).toNatClampNeg (0 : Int32).toNatClampNeg (13 : Int32).toNatClampNeg k = f k := by
  show va_cpy f h 0 0 13 k = f k
  rw [pk_cpy_in (by omega) (by omega), Nat.zero_add, Nat.sub_zero]
theorem isG_far {g g2 : Nat} (hg : isG g) (hg2 : isG g2) (h : g ≠ g2) : g + 6 ≤ g2 ∨ g2 + 6 ≤ g := by
  rcases hg with rfl | rfl | rfl | rfl <;> rcases hg2 with rfl | rfl | rfl | rfl <;> omega
theorem e_becT {g g2 : Nat} (hd : g + 6 ≤ g2 ∨ g2 + 6 ≤ g) (n : Nat) (σ : Hp) (h5 : gI σ g2 5 = 0 ∨ gI σ g2 5 = 1) : ∃ σ', f_X4_become_2 g g2 (n + 1) σ (nI 12) = some σ' ∧ BC g g2 σ σ' ∧ gR σ' (g + 1) = gR σ (g + 1) := by
  rw [f_X4_become_2, if_pos (by decide), bnd_s, bnd_s, bnd_s, bnd_s]
  generalize e1 : rI σ (g + 2) _ = s1
  generalize e2 : rI s1 (g + 3) _ = s2
  generalize e3 : rI s2 (g + 4) _ = s3
  generalize e4 : rI s3 (g + 5) _ = s4
  have o : onlyI (fun q => g + 2 ≤ q ∧ q ≤ g + 5) σ s4 := by
    rw [← e4, ← e3, ← e2, ← e1]
    exact (((onlyI.rf.row (by omega)).row (by omega)).row (by omega)).row (by omega)
  have r : ∀ j, 2 ≤ j → j ≤ 5 → ∀ k, k < 13 → gI s4 (g + j) k = gI σ (g2 + j) k := by
    intro j j1 j2 k hk
    rcases (show j = 2 ∨ j = 3 ∨ j = 4 ∨ j = 5 by omega) with rfl | rfl | rfl | rfl
    · rw [← e4, gI_rIn (by omega), ← e3, gI_rIn (by omega), ← e2, gI_rIn (by omega), ← e1, gI_rI, cp13 hk]
    · rw [← e4, gI_rIn (by omega), ← e3, gI_rIn (by omega), ← e2, gI_rI, cp13 hk, ← e1, gI_rIn (by omega)]
    · rw [← e4, gI_rIn (by omega), ← e3, gI_rI, cp13 hk, ← e2, gI_rIn (by omega), ← e1, gI_rIn (by omega)]
    · rw [← e4, gI_rI, cp13 hk, ← e3, gI_rIn (by omega), ← e2, gI_rIn (by omega), ← e1, gI_rIn (by omega)]
  clear e1 e2 e3 e4
  have g2e : gI s4 g2 = gI σ g2 := o.1 g2 (by omega)
  rw [chk_s (by rw [g2e]; exact h5), bnd_s, bnd_s, bnd_s]
  have o2 : onlyI (fun q => q = g) s4 (sI (sI (sI (sI (sI (sI s4 g 5 (gI s4 g2 5)) g 6 (gI (sI s4 g 5 (gI s4 g2 5)) g2 6)) g 7 (gI (sI (sI s4 g 5 (gI s4 g2 5)) g 6 (gI (sI s4 g 5 (gI s4 g2 5)) g2 6)) g2 7)) g 8 (gI (sI (sI (sI s4 g 5 (gI s4 g2 5)) g 6 (gI (sI s4 g 5 (gI s4 g2 5)) g2 6)) g 7 (gI (sI (sI s4 g 5 (gI s4 g2 5)) g 6 (gI (sI s4 g 5 (gI s4 g2 5)) g2 6)) g2 7)) g2 8)) g 9 (gI (sI (sI (sI (sI s4 g 5 (gI s4 g2 5)) g 6 (gI (sI s4 g 5 (gI s4 g2 5)) g2 6)) g 7 (gI (sI (sI s4 g 5 (gI s4 g2 5)) g 6 (gI (sI s4 g 5 (gI s4 g2 5)) g2 6)) g2 7)) g 8 (gI (sI (sI (sI s4 g 5 (gI s4 g2 5)) g 6 (gI (sI s4 g 5 (gI s4 g2 5)) g2 6)) g 7 (gI (sI (sI s4 g 5 (gI s4 g2 5)) g 6 (gI (sI s4 g 5 (gI s4 g2 5)) g2 6)) g2 7)) g2 8)) g2 9)) g 10 (gI (sI (sI (sI (sI (sI s4 g 5 (gI s4 g2 5)) g 6 (gI (sI s4 g 5 (gI s4 g2 5)) g2 6)) g 7 (gI (sI (sI s4 g 5 (gI s4 g2 5)) g 6 (gI (sI s4 g 5 (gI s4 g2 5)) g2 6)) g2 7)) g 8 (gI (sI (sI (sI s4 g 5 (gI s4 g2 5)) g 6 (gI (sI s4 g 5 (gI s4 g2 5)) g2 6)) g 7 (gI (sI (sI s4 g 5 (gI s4 g2 5)) g 6 (gI (sI s4 g 5 (gI s4 g2 5)) g2 6)) g2 7)) g2 8)) g 9 (gI (sI (sI (sI (sI s4 g 5 (gI s4 g2 5)) g 6 (gI (sI s4 g 5 (gI s4 g2 5)) g2 6)) g 7 (gI (sI (sI s4 g 5 (gI s4 g2 5)) g 6 (gI (sI s4 g 5 (gI s4 g2 5)) g2 6)) g2 7)) g 8 (gI (sI (sI (sI s4 g 5 (gI s4 g2 5)) g 6 (gI (sI s4 g 5 (gI s4 g2 5)) g2 6)) g 7 (gI (sI (sI s4 g 5 (gI s4 g2 5)) g 6 (gI (sI s4 g 5 (gI s4 g2 5)) g2 6)) g2 7)) g2 8)) g2 9)) g2 10)) := (((((onlyI.rf.st (by omega)).st (by omega)).st (by omega)).st (by omega)).st (by omega)).st (by omega)
  have o3 := (o.mono (T := fun q => q = g ∨ (g + 2 ≤ q ∧ q ≤ g + 5)) (by omega)).tr (o2.mono (by omega))
  refine ⟨_, rfl, ⟨by rw [o3.2], by rw [o3.2], fun q _ => by show _ = σ.2.2.1 q; rw [← o3.2]; rfl, o3.1, fun k k1 k2 => ?_, fun j j1 j2 k hk => ?_⟩, by show _ = σ.2.2.1 _; rw [← o3.2]; rfl⟩
  · have ne : g2 ≠ g := by omega
    rcases (show k = 5 ∨ k = 6 ∨ k = 7 ∨ k = 8 ∨ k = 9 ∨ k = 10 by omega) with rfl | rfl | rfl | rfl | rfl | rfl <;> simp (disch := omega) only [gI_n, gI_s, upd_s, upd_n] <;> rw [g2e]
  · rw [o2.1 _ (by omega)]
    exact r j j1 j2 k hk
theorem e_bec {g g2 : Nat} (hd : g + 6 ≤ g2 ∨ g2 + 6 ≤ g) : ∀ (n k : Nat) (σ : Hp), k ≤ 12 → 12 < k + n → (gI σ g2 5 = 0 ∨ gI σ g2 5 = 1) → (∀ i, i < 12 → okO σ (gR σ (g2 + 1) i)) → ∃ σ', f_X4_become_2 g g2 n σ (nI k) = some σ' ∧ BC g g2 σ σ' ∧ (∀ i, k ≤ i → i < 12 → gR σ' (g + 1) i = gR σ (g2 + 1) i) ∧ ∀ i, ¬ (k ≤ i ∧ i < 12) → gR σ' (g + 1) i = gR σ (g + 1) i := by
  intro n
  induction n with
  | zero =>
    intro k σ h1 h2
    omega
  | succ n ih =>
    intro k σ h1 h2 h5 ho
    by_cases hk : k = 12
    · subst hk
      obtain ⟨σ', a, b, c⟩ := e_becT hd n σ h5
      exact ⟨σ', a, b, fun i x y => by omega, fun i _ => by rw [c]⟩
    · rw [f_X4_become_2, if_neg (show ¬ (12 : Int32) ≤ nI k from nI_ge (b := 12) (by omega) (by decide)), chk_s (nI_inb (by omega) (by decide)), chk_s (nI_inb (by omega) (by decide)), nI_cl (by omega), chk_s (ho k (by omega)), bnd_s, nI_1]
      have r2 : gR (sR σ (g + 1) k (gR σ (g2 + 1) k)) (g2 + 1) = gR σ (g2 + 1) := gR_n (by omega)
      obtain ⟨σ', a, ⟨b1, b2, b3, b4, b5, b6⟩, c, d⟩ := ih (k + 1) (sR σ (g + 1) k (gR σ (g2 + 1) k)) (by omega) (by omega) h5 (fun i hi => by rw [r2]; exact ho i hi)
      refine ⟨σ', a, ⟨b1, b2, fun q hq => (b3 q hq).trans (gR_n hq), b4, b5, b6⟩, fun i i1 i2 => ?_, fun i hi => ?_⟩
      · by_cases hik : i = k
        · subst hik
          rw [d i (by omega), gR_s, up_self]
        · rw [c i (by omega) i2, r2]
      · rw [d i (by omega), gR_s, up_ne (by omega)]
theorem e_become {g g2 : Nat} {σ : Hp} (hg : isG g) (hg2 : isG g2) (hne : g ≠ g2) (hT : RTop σ) (h5 : gI σ g2 5 = 0 ∨ gI σ g2 5 = 1) : ∃ σ', f_X4_become σ g g2 = some σ' ∧ BC g g2 σ σ' ∧ ∀ i, i < 12 → gR σ' (g + 1) i = gR σ (g2 + 1) i := by
  obtain ⟨σ', a, b, c, d⟩ := e_bec (isG_far hg hg2 hne) fu 0 σ (by omega) (by decide) h5 (fun i hi => hT.2.2 g2 hg2 i hi)
  exact ⟨σ', a, b, fun i hi => c i (by omega) hi⟩
theorem BC.keepS {g g2 : Nat} {σ σ' : Hp} (hg : isG g) (h : BC g g2 σ σ') : keepS σ σ' := fun q h1 _ => by
  have hb : 27 ≤ g ∧ g ≤ 45 := by rcases hg with h | h | h | h <;> omega
  exact ⟨h.2.2.2.1 q (by omega), by show σ'.2.2.2.1 q = σ.2.2.2.1 q; rw [h.2.1]⟩
theorem BC.top {g g2 : Nat} {σ σ' : Hp} (hg : isG g) (hg2 : isG g2) (h : BC g g2 σ σ') (hr : ∀ i, i < 12 → gR σ' (g + 1) i = gR σ (g2 + 1) i) (hT : RTop σ) : RTop σ' := by
  have eT : gT σ' = gT σ := by show σ'.2.2.2.2 = σ.2.2.2.2; rw [h.2.1]
  have eK : gK σ' = gK σ := by funext q; show σ'.2.2.2.1 q = σ.2.2.2.1 q; rw [h.2.1]
  refine ⟨by rw [eT]; exact hT.1, by rw [eT, eK]; exact hT.2.1, fun x hx k hk => ?_⟩
  have e : ∀ r, okO σ r → okO σ' r := fun r hr => by
    unfold okO okS at hr ⊢
    rw [eK]
    exact hr
  by_cases hxg : x = g
  · subst hxg
    rw [hr k hk]
    exact e _ (hT.2.2 g2 hg2 k hk)
  · rw [h.2.2.1 (x + 1) (by omega)]
    exact e _ (hT.2.2 x hx k hk)
theorem BC.cg {g g2 : Nat} {σ σ' : Hp} {u : GD} (hg : isG g) (V : VG u) (h : BC g g2 σ σ') (hr : ∀ i, i < 12 → gR σ' (g + 1) i = gR σ (g2 + 1) i) (C : CG σ g2 u) : CG σ' g u := by
  have hS := V.2.1
  have hD := V.1
  have ks := h.keepS hg
  obtain ⟨-, -, -, -, h5, h6⟩ := h
  obtain ⟨a1, a2, a3, a4, a5, a6, a7, a8⟩ := C
  refine ⟨by rw [h5 5 (by omega) (by omega)]; exact a1, by rw [h5 6 (by omega) (by omega)]; exact a2, by rw [h5 7 (by omega) (by omega)]; exact a3, by rw [h5 10 (by omega) (by omega)]; exact a4, by rw [h5 8 (by omega) (by omega)]; exact a5, by rw [h5 9 (by omega) (by omega)]; exact a6, fun d hd => ?_, fun i hi => ?_⟩
  · rw [h6 2 (by omega) (by omega) d (by omega), h6 3 (by omega) (by omega) d (by omega), h6 4 (by omega) (by omega) d (by omega), h6 5 (by omega) (by omega) d (by omega)]
    exact a7 d hd
  · obtain ⟨q, r1, r2, r3, r4, r5, r6⟩ := a8 i hi
    obtain ⟨e1, e2⟩ := ks q r2 (by rw [r3]; exact kc99 _)
    exact ⟨q, by rw [hr i (by omega)]; exact r1, r2, by rw [e2]; exact r3, by rw [e1]; exact r4, by rw [e1]; exact r5, by rw [e1]; exact r6⟩
theorem MG.cg {t t' : Nat → Int32} {u : GD} (V : VG u) (h : ∀ i, i < 78 → t' i = t i) (M : MG t u) : MG t' u := by
  have hS := V.2.1
  have hD := V.1
  have hP := V.2.2.1
  obtain ⟨d0, d1, d2, d3, d4, d5, d6, d7, d8⟩ := M
  refine ⟨by rw [h _ (by omega)]; exact d0, by rw [h _ (by omega)]; exact d1, by rw [h _ (by omega)]; exact d2, by rw [h _ (by omega)]; exact d3, by rw [h _ (by omega)]; exact d4, by rw [h _ (by omega)]; exact d5, fun i hi => ?_, fun p hp => ?_, fun d hd => ?_⟩
  · rw [h _ (by omega), h _ (by omega), h _ (by omega)]; exact d6 i hi
  · rw [h _ (by omega), h _ (by omega)]; exact d7 p hp
  · rw [h _ (by omega), h _ (by omega)]; exact d8 d hd
theorem c78 (j k : Nat) : (78 * nI j) + nI k = nI (78 * j + k) := by
  rw [show (78 : Int32) = nI 78 from rfl, pk_mul, nI_add]
theorem e_img24 {j : Nat} (hj : j < 2) : ∀ (n k : Nat) (σ : Hp), k ≤ 78 → 78 < k + n → ∃ f, f_X12_image_24 (nI j) n σ (nI k) = some (sI (rI σ 53 f) 54 j 1, 1) ∧ (∀ i, k ≤ i → i < 78 → f (78 * j + i) = gI σ 52 i) ∧ ∀ i, ¬ (78 * j + k ≤ i ∧ i < 78 * j + 78) → f i = gI σ 53 i := by
  intro n
  induction n with
  | zero =>
    intro k σ h1 h2
    omega
  | succ n ih =>
    intro k σ h1 h2
    rw [f_X12_image_24]
    by_cases hk : k = 78
    · subst hk
      rw [if_pos (by decide), chk_s (nI_inb hj (by decide)), nI_cl (by omega)]
      exact ⟨gI σ 53, by rw [rI_id]; rfl, fun i a b => by omega, fun _ _ => rfl⟩
    · rw [if_neg (show ¬ (78 : Int32) ≤ nI k from nI_ge (b := 78) (by omega) (by decide)), chk_s (nI_inb (by omega) (by decide)), c78, chk_s (nI_inb (by omega) (by decide)), bnd_s, nI_cl (by omega), nI_cl (by omega), nI_1]
      obtain ⟨f, e1, e2, e3⟩ := ih (k + 1) (sI σ 53 (78 * j + k) (gI σ 52 k)) (by omega) (by omega)
      refine ⟨f, by rw [e1]; unfold sI; rw [rI_rI], fun i a b => ?_, fun i a => ?_⟩
      · by_cases hi : i = k
        · rw [e3 _ (by omega), gI_s, hi, upd_s]
        · rw [e2 i (by omega) b, gI_n (by decide)]
      · rw [e3 i (by omega), gI_s, upd_n (by omega)]
theorem e_res26 {j : Nat} (hj : j < 2) : ∀ (n k : Nat) (σ : Hp), k ≤ 78 → 78 < k + n → ∃ f, f_X12_restore_26 (nI j) n σ (nI k) = some (rI σ 52 f, 1) ∧ (∀ i, k ≤ i → i < 78 → f i = gI σ 53 (78 * j + i)) ∧ ∀ i, ¬ (k ≤ i ∧ i < 78) → f i = gI σ 52 i := by
  intro n
  induction n with
  | zero =>
    intro k σ h1 h2
    omega
  | succ n ih =>
    intro k σ h1 h2
    rw [f_X12_restore_26]
    by_cases hk : k = 78
    · subst hk
      rw [if_pos (by decide)]
      exact ⟨gI σ 52, by rw [rI_id], fun i a b => by omega, fun _ _ => rfl⟩
    · rw [if_neg (show ¬ (78 : Int32) ≤ nI k from nI_ge (b := 78) (by omega) (by decide)), c78, chk_s (nI_inb (by omega) (by decide)), chk_s (nI_inb (by omega) (by decide)), bnd_s, nI_cl (by omega), nI_cl (by omega), nI_1]
      obtain ⟨f, e1, e2, e3⟩ := ih (k + 1) (sI σ 52 k (gI σ 53 (78 * j + k))) (by omega) (by omega)
      refine ⟨f, by rw [e1]; unfold sI; rw [rI_rI], fun i a b => ?_, fun i a => ?_⟩
      · by_cases hi : i = k
        · rw [e3 _ (by omega), gI_s, hi, upd_s]
        · rw [e2 i (by omega) b, gI_n (by decide)]
      · rw [e3 i (by omega), gI_s, upd_n (by omega)]
theorem e_imgOf {σ : Hp} {j : Nat} (hj : j < 2) : f_X11_imageOf σ (nI j) = some (27 + 6 * j) ∧ isG (27 + 6 * j) := by
  unfold f_X11_imageOf
  rcases (show j = 0 ∨ j = 1 by omega) with rfl | rfl
  · exact ⟨rfl, Or.inl rfl⟩
  · exact ⟨rfl, Or.inr (Or.inl rfl)⟩
theorem RImg.slot {σ : Hp} (h : RImg σ) {j : Nat} (hj : j < 2) : gI σ (27 + 6 * j) 5 = 0 ∧ gI σ 54 j = 0 ∨ gI σ 54 j = 1 ∧ RG σ (27 + 6 * j) (fun i => gI σ 53 (78 * j + i)) := by
  rcases (show j = 0 ∨ j = 1 by omega) with rfl | rfl
  · rcases h.1 with a | ⟨a, b⟩
    · exact Or.inl a
    · refine Or.inr ⟨a, ?_⟩
      have e : (fun i => gI σ 53 (78 * 0 + i)) = fun i => gI σ 53 i := by funext i; rw [Nat.mul_zero, Nat.zero_add]
      rw [e]
      exact b
  · exact h.2
theorem RImg.ofslots {σ : Hp} (h : ∀ j, j < 2 → gI σ (27 + 6 * j) 5 = 0 ∧ gI σ 54 j = 0 ∨ gI σ 54 j = 1 ∧ RG σ (27 + 6 * j) (fun i => gI σ 53 (78 * j + i))) : RImg σ := by
  refine ⟨?_, h 1 (by omega)⟩
  have := h 0 (by omega)
  have e : (fun i => gI σ 53 (78 * 0 + i)) = fun i => gI σ 53 i := by funext i; rw [Nat.mul_zero, Nat.zero_add]
  rw [e] at this
  exact this
theorem x01 {x : Int32} (h : ¬ inb x 2) : x < 0 ∨ (¬ x < 0 ∧ ¬ x ≤ 1) := by
  by_cases h1 : x < 0
  · exact Or.inl h1
  · refine Or.inr ⟨h1, ?_⟩
    rw [tI_lt] at h1
    have h1 : ¬ x.toInt < 0 := h1
    rw [tI_le]
    show ¬ x.toInt ≤ 1
    unfold inb at h
    omega
theorem op_image {σ : Hp} (h : Rel σ) (x1 : Int32) : Sim (f_X11_image σ x1) (fun s => f_X12_image s x1) := by
  have hG := h.2.2.2.2.1.g
  have hb : lnd σ = 39 ∨ lnd σ = 45 := by rcases h.2.2.2.2.1.1 with h | h <;> omega
  by_cases hx : inb x1 2
  · obtain ⟨j, hj, rfl⟩ := inb_nI hx (by decide)
    have n1 : nI j ≤ 1 := nI_le (b := 1) (by omega) (by decide)
    obtain ⟨i1, i2⟩ := e_imgOf (σ := σ) hj
    rcases land_ground h with ⟨a, b⟩ | ⟨a, b, u, V, C, M⟩
    · refine sim_state h ?_ ?_
      · unfold f_X11_image
        rw [if_neg (nI_pos (by omega)), if_pos n1, a, if_pos rfl]
      · show f_X12_image _ _ = _
        unfold f_X12_image
        rw [e_i01 hx, bd1_s, if_neg n10, b, bd1_s, if_pos rfl]
    · obtain ⟨σ1, k1, k2, k3⟩ := e_become i2 hG (by omega) h.1 (Or.inr a)
      have c1 : f_X11_image σ (nI j) = some (σ1, 1) := by
        unfold f_X11_image
        rw [if_neg (nI_pos (by omega)), if_pos n1, a, if_neg n10, i1, bd1_s, chk_s i2, k1, bd1_s]
      have k4 := k2.2.2.2.1
      have m52 : gI σ1 52 = gI σ 52 := k4 52 (by omega)
      have m53 : gI σ1 53 = gI σ 53 := k4 53 (by omega)
      have m54 : gI σ1 54 = gI σ 54 := k4 54 (by omega)
      obtain ⟨f, e1, e2, e3⟩ := e_img24 hj fu 0 σ1 (by omega) (by decide)
      have m1 : f_X12_image σ1 (nI j) = some (sI (rI σ1 53 f) 54 j 1, 1) := by
        unfold f_X12_image
        rw [e_i01 hx, bd1_s, if_neg n10, show f_X12_isGround σ1 = some 1 from (by unfold f_X12_isGround at b ⊢; rw [m52]; exact b), bd1_s, if_neg n10]
        exact e1
      generalize e : sI (rI σ1 53 f) 54 j 1 = σ2 at m1
      have o : onlyI (fun q => q = 53 ∨ q = 54) σ1 σ2 := by rw [← e]; exact (onlyI.rf.row (by omega)).st (by omega)
      have q53 : gI σ2 53 = f := by rw [← e, gI_n (by decide), gI_rI]
      have q54 : gI σ2 54 = upd (gI σ 54) j 1 := by rw [← e, gI_s, gI_rIn (by decide), m54]
      have eR : gR σ2 = gR σ1 := by funext q; show σ2.2.2.1 q = σ1.2.2.1 q; rw [o.2]
      have kS : keepS σ σ2 := (k2.keepS i2).tr (o.keepS (by omega))
      refine ⟨σ1, 1, σ2, c1, m1, keepB.rel (σ := σ) ⟨fun q hq => by rw [o.1 q (by omega)]; exact k4 q (by omega), fun k _ => by rw [o.1 51 (by omega), k4 51 (by omega)]⟩ h ((k2.top i2 hG k3 h.1).of o.2) (h.2.2.2.2.1.of2 (by rw [eR]; exact k2.2.2.1 0 (by omega)) (fun q hq i _ => by rw [eR, k2.2.2.1 q (by omega)]) kS (fun q q1 q2 => by rw [o.1 q (by omega), k4 q (by omega)]) (by rw [o.1 52 (by omega), m52])) (RImg.ofslots (fun t ht => ?_))⟩
      by_cases htj : t = j
      · subst htj
        refine Or.inr ⟨by rw [q54, upd_s], u, V, (k2.cg i2 V k3 C).of2 V.2.1 (fun i _ => by rw [eR]) (o.keepS (by omega)) (o.1 _ (by omega)) (o.1 _ (by omega)) (o.1 _ (by omega)) (o.1 _ (by omega)) (o.1 _ (by omega)), M.cg V (fun i hi => ?_)⟩
        rw [q53, e2 i (by omega) hi, m52]
      · have sl := h.2.2.2.2.2.slot ht
        rw [q54, upd_n htj, q53, o.1 _ (by omega), k4 _ (by omega)]
        refine sl.imp id (fun z => ⟨z.1, ?_⟩)
        have et : (fun i => f (78 * t + i)) = fun i => f (78 * t + i) := rfl
        obtain ⟨u', V', C', M'⟩ := z.2
        refine ⟨u', V', C'.of2 V'.2.1 (fun i _ => by rw [eR, k2.2.2.1 _ (by omega)]) kS (by rw [o.1 _ (by omega), k4 _ (by omega)]) (by rw [o.1 _ (by omega), k4 _ (by omega)]) (by rw [o.1 _ (by omega), k4 _ (by omega)]) (by rw [o.1 _ (by omega), k4 _ (by omega)]) (by rw [o.1 _ (by omega), k4 _ (by omega)]), M'.cg V' (fun i hi => ?_)⟩
        rw [e3 _ (by omega), m53]
  · rcases x01 hx with h1 | ⟨h1, h2⟩
    · refine sim_bad h ?_ ?_
      · unfold f_X11_image
        rw [if_pos h1]
      · show f_X12_image _ _ = _
        unfold f_X12_image
        rw [e_i00 hx, bd1_s, if_pos rfl]
    · refine sim_bad h ?_ ?_
      · unfold f_X11_image
        rw [if_neg h1, if_neg h2]
      · show f_X12_image _ _ = _
        unfold f_X12_image
        rw [e_i00 hx, bd1_s, if_pos rfl]
theorem op_restore {σ : Hp} (h : Rel σ) (x1 : Int32) : Sim (f_X11_restore σ x1) (fun s => f_X12_restore s x1) := by
  have hG := h.2.2.2.2.1.g
  have hb : lnd σ = 39 ∨ lnd σ = 45 := by rcases h.2.2.2.2.1.1 with h | h <;> omega
  by_cases hx : inb x1 2
  · obtain ⟨j, hj, rfl⟩ := inb_nI hx (by decide)
    have n1 : nI j ≤ 1 := nI_le (b := 1) (by omega) (by decide)
    obtain ⟨i1, i2⟩ := e_imgOf (σ := σ) hj
    rcases h.2.2.2.2.2.slot hj with ⟨a, b⟩ | ⟨b, u, V, C, M⟩
    · refine sim_state h ?_ ?_
      · unfold f_X11_restore
        rw [if_neg (nI_pos (by omega)), if_pos n1, i1, bd1_s, chk_s i2, a, if_pos rfl]
      · show f_X12_restore _ _ = _
        unfold f_X12_restore
        rw [e_i01 hx, bd1_s, if_neg n10, chk_s hx, nI_cl (by omega), b, if_pos rfl]
    · obtain ⟨σ1, k1, k2, k3⟩ := e_become hG i2 (by omega) h.1 (Or.inr C.1)
      have c1 : f_X11_restore σ (nI j) = some (σ1, 1) := by
        unfold f_X11_restore
        rw [if_neg (nI_pos (by omega)), if_pos n1, i1, bd1_s, chk_s i2, C.1, if_neg n10, bd1_s, chk_s i2, k1, bd1_s]
      have k4 := k2.2.2.2.1
      have m53 : gI σ1 53 = gI σ 53 := k4 53 (by omega)
      have m54 : gI σ1 54 = gI σ 54 := k4 54 (by omega)
      obtain ⟨f, e1, e2, e3⟩ := e_res26 hj fu 0 σ1 (by omega) (by decide)
      have m1 : f_X12_restore σ1 (nI j) = some (rI σ1 52 f, 1) := by
        unfold f_X12_restore
        rw [e_i01 hx, bd1_s, if_neg n10, chk_s hx, nI_cl (by omega), m54, b, if_neg n10]
        exact e1
      generalize e : rI σ1 52 f = σ2 at m1
      have o : onlyI (fun q => q = 52) σ1 σ2 := by rw [← e]; exact onlyI.rf.row (by omega)
      have q52 : gI σ2 52 = f := by rw [← e, gI_rI]
      have eR : gR σ2 = gR σ1 := by funext q; show σ2.2.2.1 q = σ1.2.2.1 q; rw [o.2]
      have kS : keepS σ σ2 := (k2.keepS hG).tr (o.keepS (by omega))
      have er0 : gR σ2 0 = gR σ 0 := by rw [eR]; exact k2.2.2.1 0 (by omega)
      have el : lnd σ2 = lnd σ := by unfold lnd; rw [er0]
      have es : spr σ2 = spr σ := by unfold spr; rw [er0]
      refine ⟨σ1, 1, σ2, c1, m1, keepB.rel (σ := σ) ⟨fun q hq => by rw [o.1 q (by omega)]; exact k4 q (by omega), fun k _ => by rw [o.1 51 (by omega), k4 51 (by omega)]⟩ h ((k2.top hG i2 k3 h.1).of o.2) ⟨by rw [el, es]; exact h.2.2.2.2.1.1, Or.inr ?_⟩ (h.2.2.2.2.2.of2 (fun q hq i _ => by rw [eR, k2.2.2.1 q (by omega)]) kS (fun q q1 q2 => by rw [o.1 q (by omega), k4 q (by omega)]) (by rw [o.1 53 (by omega), m53]) (by rw [o.1 54 (by omega), m54]))⟩
      rw [el]
      refine ⟨u, V, (k2.cg hG V k3 C).of2 V.2.1 (fun i _ => by rw [eR]) (o.keepS (by omega)) (o.1 _ (by omega)) (o.1 _ (by omega)) (o.1 _ (by omega)) (o.1 _ (by omega)) (o.1 _ (by omega)), M.cg V (fun i hi => ?_)⟩
      rw [q52, e2 i (by omega) hi, m53]
  · rcases x01 hx with h1 | ⟨h1, h2⟩
    · refine sim_bad h ?_ ?_
      · unfold f_X11_restore
        rw [if_pos h1]
      · show f_X12_restore _ _ = _
        unfold f_X12_restore
        rw [e_i00 hx, bd1_s, if_pos rfl]
    · refine sim_bad h ?_ ?_
      · unfold f_X11_restore
        rw [if_neg h1, if_neg h2]
      · show f_X12_restore _ _ = _
        unfold f_X12_restore
        rw [e_i00 hx, bd1_s, if_pos rfl]
