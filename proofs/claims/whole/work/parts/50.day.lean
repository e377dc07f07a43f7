/-! ===== reaped ===== -/
def asum (u : GD) (d : Nat) : Nat := sumN (fun k => alls u k) d
theorem lr_sum {u : GD} : ∀ {d : Nat}, (∀ k, k ≤ d → uUp u k ≤ 12 ∧ uLo u k ≤ 12) → lsum u d + rsum u d = asum u d := by
  intro d
  induction d with
  | zero => intro _; rfl
  | succ d ih =>
    intro h
    have e := ih (fun k hk => h k (by omega))
    have l := gts_alls (u := u) (d := d) (h (d + 1) (Nat.le_refl _)).1 (h (d + 1) (Nat.le_refl _)).2
    show (lsum u d + gts u d (uUp u (d + 1)) (uLo u (d + 1))) + (rsum u d + (alls u d - gts u d (uUp u (d + 1)) (uLo u (d + 1)))) = asum u d + alls u d
    omega
theorem asum_le {u : GD} (V : VG u) {d : Nat} (hd : d ≤ 12) : asum u d ≤ 790352640 := by
  have : asum u d ≤ d * 65862720 := sumN_le (fun i _ => alls_le V)
  have := Nat.mul_le_mul_right 65862720 hd
  omega
theorem VG.ends {u : GD} (V : VG u) : ∀ k, k ≤ uD u → uUp u k ≤ 12 ∧ uLo u k ≤ 12 := fun k hk => ⟨(V.2.2.2.1 k hk).1.1, (V.2.2.2.1 k hk).2.1⟩
theorem e_r107 {σ : Hp} {u : GD} (M : MG (gI σ 52) u) (V : VG u) {x1 : Int32} {y2 : Int64} {d A : Nat} (hd : d ≤ 100) {k8 : Int64 → Int64 → Int32 → Option Int64} : ∀ (n k : Nat), k ≤ uS u → uS u < k + n → f_X12_reapedBy_107 k8 σ x1 y2 (nI d) n (lN (A + sumN (fun i => crpI u d i * 55440) k)) (nI k) = k8 y2 (lN (A + alls u d)) (nI d + 1) := by
  have hS := V.2.1
  intro n
  induction n with
  | zero =>
    intro k h1 h2
    omega
  | succ n ih =>
    intro k h1 h2
    rw [f_X12_reapedBy_107, M.2.2.2.2.1]
    by_cases hk : k = uS u
    · rw [if_pos (by rw [hk]; exact nI_le (Nat.le_refl _) (by omega)), hk]
      rfl
    · have hlt : k < uS u := by omega
      have hcr : crpI u d k ≤ 99 := Nat.le_trans crp_le (V.2.2.2.2.1 k hlt).2.2.1
      rw [if_neg (nI_ge hlt (by omega)), show f_X12_cropOn σ (nI k) (nI d) = some (nI (crpI u d k)) from e_cropOn M V hlt hd, bd1_s, bnd_s, nI_l (by omega), show (55440 : Int64) = lN 55440 from rfl, lN_mul, lN_add, nI_1, Nat.add_assoc]
      exact ih (k + 1) (by omega) (by omega)
theorem e_reaped8 {σ : Hp} {u : GD} (M : MG (gI σ 52) u) (V : VG u) {x1 : Int32} : ∀ (n k : Nat), k ≤ uD u → uD u < k + n → f_X12_reapedBy_8 σ x1 n (lN (lsum u k)) (lN (asum u k)) (nI k) = if x1 = 0 then some (lN (lsum u (uD u))) else some (lN (asum u (uD u)) - lN (lsum u (uD u))) := by
  have hD := V.1
  intro n
  induction n with
  | zero =>
    intro k h1 h2
    omega
  | succ n ih =>
    intro k h1 h2
    rw [f_X12_reapedBy_8, M.2.2.2.1]
    by_cases hk : k = uD u
    · rw [if_pos (by rw [hk]; exact nI_le (Nat.le_refl _) (by omega)), hk]
    · have hlt : k < uD u := by omega
      obtain ⟨p1, p2⟩ := V.ends (k + 1) (by omega)
      have nx := ih (k + 1) (by omega) (by omega)
      have tail : ∀ k8 : Int64 → Int64 → Int32 → Option Int64, f_X12_reapedBy_107 k8 σ x1 (lN (lsum u (k + 1))) (nI k) fu (lN (asum u k)) 0 = k8 (lN (lsum u (k + 1))) (lN (asum u (k + 1))) (nI k + 1) := fun k8 => e_r107 (A := asum u k) M V (by omega) fu 0 (by omega) (by show uS u < 0 + 512; have := V.2.1; omega)
      have g := e_gets M V (d := k) (by omega) p1 p2
      rw [if_neg (nI_ge hlt (by omega)), nI_1]
      unfold f_X12_reapedBy_37 f_X12_reapedBy_71
      by_cases hl : k + 1 = uD u
      · rw [if_pos (by rw [hl]), if_neg n10, if_neg n10, M.2.1, M.2.2.1, ← hl, g, bd1_s, bnd_s, lN_add, show lsum u k + gts u k (uUp u (k + 1)) (uLo u (k + 1)) = lsum u (k + 1) from rfl, tail, nI_1, nx, hl]
      · obtain ⟨w1, w2⟩ := M.2.2.2.2.2.2.2.2 (k + 1) (by omega)
        have i1 : (54 : Int32) + 2 * nI k + 2 = nI (54 + 2 * (k + 1)) := by rw [show (54 : Int32) = nI 54 from rfl, show (2 : Int32) = nI 2 from rfl, pk_mul, nI_add, nI_add, show 54 + 2 * k + 2 = 54 + 2 * (k + 1) by omega]
        have i2 : (54 : Int32) + 2 * nI k + 3 = nI (54 + 2 * (k + 1) + 1) := by rw [show (54 : Int32) = nI 54 from rfl, show (2 : Int32) = nI 2 from rfl, show (3 : Int32) = nI 3 from rfl, pk_mul, nI_add, nI_add, show 54 + 2 * k + 3 = 54 + 2 * (k + 1) + 1 by omega]
        rw [if_neg (by rw [nI_eq (by omega) (by omega)]; exact hl), if_pos rfl, i1, chk_s (nI_inb (by omega) (by decide)), nI_cl (by omega), w1, if_pos rfl, i2, chk_s (nI_inb (by omega) (by decide)), nI_cl (by omega), w2, g, bd1_s, bnd_s, lN_add, show lsum u k + gts u k (uUp u (k + 1)) (uLo u (k + 1)) = lsum u (k + 1) from rfl, tail, nI_1, nx]
theorem nl_eq {n : Nat} (h : n < 2147483648) : (lN n).toInt = (nI n).toInt := by rw [lN_toInt h, nI_toInt h]
theorem upd01 (x : Int32) : (inb x 2 ∧ f_X11_isUpOrDown σ00 x = some 1) ∨ (¬ inb x 2 ∧ f_X11_isUpOrDown σ00 x = some 0) := by
  unfold f_X11_isUpOrDown
  by_cases h0 : x = 0
  · exact Or.inl ⟨by rw [h0]; decide, by rw [if_pos h0]⟩
  · by_cases h1 : x = 1
    · exact Or.inl ⟨by rw [h1]; decide, by rw [if_neg h0, if_pos h1]⟩
    · refine Or.inr ⟨fun z => ?_, by rw [if_neg h0, if_neg h1]⟩
      obtain ⟨j, hj, rfl⟩ := inb_nI z (by decide)
      rcases (show j = 0 ∨ j = 1 by omega) with rfl | rfl
      · exact h0 rfl
      · exact h1 rfl
theorem e_ud1 {σ : Hp} {x : Int32} (h : inb x 2) : f_X11_isUpOrDown σ x = some 1 := by
  rcases upd01 x with ⟨-, b⟩ | ⟨a, -⟩
  · exact b
  · exact absurd h a
theorem e_ud0 {σ : Hp} {x : Int32} (h : ¬ inb x 2) : f_X11_isUpOrDown σ x = some 0 := by
  rcases upd01 x with ⟨a, -⟩ | ⟨-, b⟩
  · exact absurd a h
  · exact b
theorem e_i01 {σ : Hp} {x : Int32} (h : inb x 2) : f_X12_in σ x 0 1 = some 1 := e_in1 (a := 0) (b := 1) (show (0 : Int) ≤ x.toInt from h.1) (show x.toInt ≤ (1 : Int) by have := h.2; omega)
theorem e_i00 {σ : Hp} {x : Int32} (h : ¬ inb x 2) : f_X12_in σ x 0 1 = some 0 := e_in0 (a := 0) (b := 1) (show x.toInt < (0 : Int) ∨ (1 : Int) < x.toInt by unfold inb at h; omega)
theorem op_reaped {σ : Hp} (h : Rel σ) (x1 x2 : Int32) : Same (f_X11_reaped σ x1 x2) (f_X12_reaped σ x1 x2) := by
  unfold f_X11_reaped f_X12_reaped
  rcases land_ground h with ⟨a, b⟩ | ⟨a, b, u, V, C, M⟩
  · rw [a, if_pos rfl, b, bd1_s, if_pos rfl]
    exact ⟨_, rfl, rfl⟩
  · rw [a, if_neg n10, b, bd1_s, if_neg n10]
    by_cases h1 : inb x1 2
    · rw [e_ud1 h1, bd1_s, if_neg n10, e_i01 h1, bd1_s, if_neg n10]
      by_cases h2 : inb x2 2
      · have hD := V.1
        have hl := asum_le V hD
        have hs := lr_sum V.ends
        obtain ⟨-, -, q1, q2⟩ := C.2.2.2.2.2.2.1 (uD u) (Nat.le_refl _)
        have er : f_X12_reapedBy σ x1 = _ := e_reaped8 M V (x1 := x1) fu 0 (by omega) (by show uD u < 0 + 512; omega)
        rw [e_ud1 h2, bd1_s, if_neg n10, e_i01 h2, bd1_s, if_neg n10, er]
        unfold f_X4_leftSoFar f_X4_rightSoFar
        rw [C.2.2.2.1, chk_s (nI_inb (by omega) (by decide)), chk_s (nI_inb (by omega) (by decide)), nI_cl (by omega), q1, q2, bd1_s, bd1_s]
        by_cases h0 : x1 = 0
        · rw [if_pos h0, if_pos h0, bd1_s]
          obtain ⟨r, e1, e2⟩ := e_frac (σ := σ) (σ' := σ) (nl_eq (show lsum u (uD u) < 2147483648 by omega)) (by rw [nI_toInt (by omega)]; omega) x2
          exact ⟨r, by rw [e1]; rfl, by rw [e2]; rfl⟩
        · rw [if_neg h0, if_neg h0, bd1_s, lN_sub (by omega), show asum u (uD u) - lsum u (uD u) = rsum u (uD u) by omega]
          obtain ⟨r, e1, e2⟩ := e_frac (σ := σ) (σ' := σ) (nl_eq (show rsum u (uD u) < 2147483648 by omega)) (by rw [nI_toInt (by omega)]; omega) x2
          exact ⟨r, by rw [e1]; rfl, by rw [e2]; rfl⟩
      · rw [e_ud0 h2, bd1_s, if_pos rfl, e_i00 h2, bd1_s, if_pos rfl]
        exact ⟨_, rfl, rfl⟩
    · rw [e_ud0 h1, bd1_s, if_pos rfl, e_i00 h1, bd1_s, if_pos rfl]
      exact ⟨_, rfl, rfl⟩
