theorem Wg_le {u : GD} (V : VG u) {uf ut lf lt : Nat} (hut : ut ≤ 12) : ∀ (k d a b : Nat), a ≤ ut → b ≤ 12 → Wg u uf ut lf lt k d a b ≤ k * 65862720 := by
  intro k
  induction k with
  | zero => intro d a b _ _; exact Nat.zero_le _
  | succ k ih =>
    intro d a b ha hb
    have st : ∀ x, x ≤ ut → mn3 (decide (lf < b)) (decide (b < lt)) (fun y => gts u d x y + Wg u uf ut lf lt k (d + 1) x y) b ≤ (k + 1) * 65862720 := by
      intro x hx
      refine Nat.le_trans mn3_le ?_
      have h1 := Nat.le_trans (gts_alls (u := u) (d := d) (show x ≤ 12 by omega) hb) (alls_le V)
      have h2 := ih (d + 1) x b hx hb
      show gts u d x b + Wg u uf ut lf lt k (d + 1) x b ≤ (k + 1) * 65862720
      omega
    exact mx3_le (fun h => st _ (by omega)) (st _ ha) (fun h => st _ (by have := of_decide_eq_true h; omega))
/-- the table of what is left, and the one where the left side has chosen -/
def T19 (σ : Hp) (u : GD) (uf ut lf lt k d : Nat) : Prop := ∀ x y, uf ≤ x → x ≤ ut → lf ≤ y → y ≤ lt → gI σ 19 (13 * x + y) = nI (Wg u uf ut lf lt k d x y)
def T21 (σ : Hp) (u : GD) (uf ut lf lt k d : Nat) : Prop := ∀ x y, uf ≤ x → x ≤ ut → lf ≤ y → y ≤ lt → gI σ 21 (13 * x + y) = nI (mn3 (decide (lf < y)) (decide (y < lt)) (fun y' => gts u d x y' + Wg u uf ut lf lt k (d + 1) x y') y)
theorem e_g30 {g : Nat} {u : GD} {L R : Nat → Nat} (hg : isG g) (V : VG u) {uf ut lf lt r : Nat} (hut : ut ≤ 12) (hlt : lt ≤ 12) (hu : uf ≤ uUp u (uD u)) (hu2 : uUp u (uD u) ≤ ut) (hl : lf ≤ uLo u (uD u)) (hl2 : uLo u (uD u) ≤ lt) (hr : uD u + r ≤ 12) : ∀ (n j : Nat) (σ : Hp), j < n → j ≤ r → CGw σ g u L R → gI σ 15 10 = nI uf → gI σ 15 11 = nI ut → gI σ 15 12 = nI lf → gI σ 15 13 = nI lt → T19 σ u uf ut lf lt (r - j) (uD u + j) → (j = 0 → 0 < r → T21 σ u uf ut lf lt (r - 1) (uD u)) →
    ∃ σ', f_X8_gameOf_30 g n σ (nI (uD u + j) - 1) = some (σ', nI (Wg u uf ut lf lt r (uD u) (uUp u (uD u)) (uLo u (uD u)))) ∧ onlyI (fun q => 15 ≤ q ∧ q ≤ 21) σ σ' ∧ (∀ k, k ≠ 3 → gI σ' 15 k = gI σ 15 k) ∧ T19 σ' u uf ut lf lt r (uD u) ∧ (0 < r → T21 σ' u uf ut lf lt (r - 1) (uD u)) := by
  have hD := V.1
  intro n
  induction n with
  | zero =>
    intro j σ h1
    omega
  | succ n ih =>
    intro j σ h1 h2 C h10 h11 h12 h13 t19 t21
    rw [f_X8_gameOf_30, C.2.2.2.1]
    cases j with
    | zero =>
      rw [if_pos (by rw [tI_lt, nI_m1 (by omega), nI_toInt (by omega)]; omega), e_end0 C V, bd1_s, e_end1 C V, bd1_s, c13, chk_s (nI_inb (by omega) (by decide)), nI_cl (by omega), t19 _ _ hu hu2 hl hl2]
      exact ⟨σ, rfl, onlyI.rf, fun _ _ => rfl, t19, t21 rfl⟩
    | succ j =>
      have ex : nI (uD u + (j + 1)) - 1 = nI (uD u + j) := by rw [show (1 : Int32) = nI 1 from rfl, pk_sub (by omega), show uD u + (j + 1) - 1 = uD u + j by omega]
      rw [ex, if_neg (nI_nlt (by omega) (by omega))]
      obtain ⟨s1, g1, g2, g3, g4⟩ := e_gather hg V C (d := uD u + j) (by omega)
      have k10 : gI s1 15 10 = nI uf := by rw [g3 10 (by omega)]; exact h10
      have k11 : gI s1 15 11 = nI ut := by rw [g3 11 (by omega)]; exact h11
      have k12 : gI s1 15 12 = nI lf := by rw [g3 12 (by omega)]; exact h12
      have k13 : gI s1 15 13 = nI lt := by rw [g3 13 (by omega)]; exact h13
      obtain ⟨f1, a1, a2, -⟩ := e_ad5 (d := uD u + j) (F := fun x y => Wg u uf ut lf lt (r - (j + 1)) (uD u + (j + 1)) x y) V hut hlt (show lf ≤ lt by omega) fu uf (ut + 1 - uf) s1 (by omega) (by show _ < 512; omega) g4 k11 k12 k13 (fun x y p1 p2 p3 p4 => by rw [g2.1 19 (by omega)]; exact t19 x y p1 p2 p3 p4)
      have bnd1 : ∀ x y, x ≤ ut → lf ≤ y → y ≤ lt → gts u (uD u + j) x y + Wg u uf ut lf lt (r - (j + 1)) (uD u + (j + 1)) x y < 2147483648 := by
        intro x y p1 p2 p3
        have q1 := Nat.le_trans (gts_alls (u := u) (d := uD u + j) (show x ≤ 12 by omega) (show y ≤ 12 by omega)) (alls_le V)
        have q2 := Wg_le V (uf := uf) (lf := lf) (lt := lt) hut (r - (j + 1)) (uD u + (j + 1)) x y p1 (by omega)
        have q3 : (r - (j + 1)) * 65862720 ≤ 12 * 65862720 := Nat.mul_le_mul_right _ (by omega)
        omega
      obtain ⟨f2, b1, b2, -⟩ := e_lr5 (F := fun x y => gts u (uD u + j) x y + Wg u uf ut lf lt (r - (j + 1)) (uD u + (j + 1)) x y) (lf := lf) (lt := lt) hut hlt (by omega) bnd1 fu uf (ut + 1 - uf) (rI s1 20 f1) (by omega) (by show _ < 512; omega) (by rw [gI_rIn (by decide)]; exact k11) (by rw [gI_rIn (by decide)]; exact k12) (by rw [gI_rIn (by decide)]; exact k13) (fun x y p1 p2 p3 p4 => by rw [gI_rI]; exact a2 x y p1 p2 p3 p4)
      obtain ⟨f3, c1, c2, -⟩ := e_ll5 (F := fun x y => mn3 (decide (lf < y)) (decide (y < lt)) (fun y' => gts u (uD u + j) x y' + Wg u uf ut lf lt (r - (j + 1)) (uD u + (j + 1)) x y') y) (uf := uf) (lf := lf) (lt := lt) hut hlt (by omega) (fun x y p1 p2 p3 p4 => Nat.lt_of_le_of_lt mn3_le (bnd1 x y p2 p3 p4)) fu uf (ut + 1 - uf) (rI (rI s1 20 f1) 21 f2) (by omega) (by show _ < 512; omega) (Nat.le_refl _) (by rw [gI_rIn (by decide), gI_rIn (by decide)]; exact k10) (by rw [gI_rIn (by decide), gI_rIn (by decide)]; exact k11) (by rw [gI_rIn (by decide), gI_rIn (by decide)]; exact k12) (by rw [gI_rIn (by decide), gI_rIn (by decide)]; exact k13) (fun x y p1 p2 p3 p4 => by rw [gI_rI]; exact b2 x y p1 p2 p3 p4)
      have o : onlyI (fun q => 15 ≤ q ∧ q ≤ 21) σ (rI (rI (rI s1 20 f1) 21 f2) 19 f3) := (((g2.mono (by omega)).row (by omega)).row (by omega)).row (by omega)
      have e15 : gI (rI (rI (rI s1 20 f1) 21 f2) 19 f3) 15 = gI s1 15 := by rw [gI_rIn (by decide), gI_rIn (by decide), gI_rIn (by decide)]
      have erj : r - j = r - (j + 1) + 1 := by omega
      obtain ⟨σ', d1, d2, d3, d4, d5⟩ := ih j (rI (rI (rI s1 20 f1) 21 f2) 19 f3) (by omega) (by omega) (C.only o hg (by omega)) (by rw [e15]; exact k10) (by rw [e15]; exact k11) (by rw [e15]; exact k12) (by rw [e15]; exact k13) (fun x y p1 p2 p3 p4 => by rw [gI_rI, c2 x y p1 p2 p3 p4, erj]; rfl) (fun j0 _ x y p1 p2 p3 p4 => by
        subst j0
        rw [gI_rIn (by decide), gI_rI, b2 x y p1 p2 p3 p4]
        rfl)
      refine ⟨σ', ?_, o.tr d2, fun k hk => by rw [d3 k hk, e15, g3 k hk], d4, d5⟩
      unfold f_X8_addDay f_X8_letRightChoose f_X8_letLeftChoose
      rw [g1, bd1_s, k10, bnd_s, a1, bd1_s, gI_rIn (show (15 : Nat) ≠ 20 by decide), k10, bnd_s, b1, bd1_s, gI_rIn (show (15 : Nat) ≠ 21 by decide), gI_rIn (show (15 : Nat) ≠ 20 by decide), k10, bnd_s, c1, bd1_s, m1_add]
      exact d1
