section
variable {u : GD} {d uf ut lf lt : Nat} {F : Nat → Nat → Nat}
theorem e_lr5 (hut : ut ≤ 12) (hlt : lt ≤ 12) (hl : lf ≤ lt) (hB : ∀ x' y', x' ≤ ut → lf ≤ y' → y' ≤ lt → F x' y' < 2147483648) : ∀ (n x k : Nat) (σ : Hp), x + k = ut + 1 → k < n → gI σ 15 11 = nI ut → gI σ 15 12 = nI lf → gI σ 15 13 = nI lt → (∀ x' y', x ≤ x' → x' ≤ ut → lf ≤ y' → y' ≤ lt → gI σ 20 (13 * x' + y') = nI (F x' y')) →
    ∃ f, f_X8_letRightChoose_5 n σ (nI x) = some (rI σ 21 f) ∧ (∀ x' y', x ≤ x' → x' ≤ ut → lf ≤ y' → y' ≤ lt → f (13 * x' + y') = nI (mn3 (decide (lf < y')) (decide (y' < lt)) (F x') y')) ∧ ∀ i, i < 13 * x → f i = gI σ 21 i := by
  intro n
  induction n with
  | zero =>
    intro x k σ h1 h2
    omega
  | succ n ih =>
    intro x k σ h1 h2 h11 h12 h13 hF
    rw [f_X8_letRightChoose_5, h11]
    cases k with
    | zero =>
      rw [if_pos (nI_lt (by omega) (by omega))]
      exact ⟨gI σ 21, by rw [rI_id], fun x' y' a b => by omega, fun _ _ => rfl⟩
    | succ k =>
      rw [if_neg (nI_nlt (by omega) (by omega)), bnd_s, h12]
      obtain ⟨f1, a1, a2, a3⟩ := e_lr18 (F := F) (lf := lf) (k5 := f_X8_letRightChoose_5 n) hlt (show x ≤ 12 by omega) (fun y' p q => hB x y' (by omega) p q) fu lf (lt + 1 - lf) σ (by omega) (by show _ < 512; omega) (Nat.le_refl _) h12 h13 (fun y' p q => hF x y' (by omega) (by omega) p q)
      obtain ⟨f, b1, b2, b3⟩ := ih (x + 1) k (rI σ 21 f1) (by omega) (by omega) (by rw [gI_rIn (by decide)]; exact h11) (by rw [gI_rIn (by decide)]; exact h12) (by rw [gI_rIn (by decide)]; exact h13) (fun x' y' p q r s => by rw [gI_rIn (by decide)]; exact hF x' y' (by omega) q r s)
      refine ⟨f, by rw [a1, b1, rI_rI], fun x' y' p q r s => ?_, fun i hi => ?_⟩
      · by_cases hx : x' = x
        · subst hx
          rw [b3 _ (by omega), gI_rI, a2 y' r s]
        · exact b2 x' y' (by omega) q r s
      · rw [b3 i (by omega), gI_rI, a3 i (by omega)]
theorem e_ll18 (hut : ut ≤ 12) (hlt : lt ≤ 12) {x : Nat} (hx : uf ≤ x) (hx2 : x ≤ ut) {k5 : Hp → Int32 → Option Hp} (hB : ∀ x' y', uf ≤ x' → x' ≤ ut → lf ≤ y' → y' ≤ lt → F x' y' < 2147483648) : ∀ (n y k : Nat) (σ : Hp), y + k = lt + 1 → k < n → lf ≤ y → gI σ 15 10 = nI uf → gI σ 15 11 = nI ut → gI σ 15 13 = nI lt → (∀ x' y', uf ≤ x' → x' ≤ ut → lf ≤ y' → y' ≤ lt → gI σ 21 (13 * x' + y') = nI (F x' y')) →
    ∃ f, f_X8_letLeftChoose_18 k5 (nI x) n σ (nI y) = k5 (rI σ 19 f) (nI (x + 1)) ∧ (∀ y', y ≤ y' → y' ≤ lt → f (13 * x + y') = nI (mx3 (decide (uf < x)) (decide (x < ut)) (fun x' => F x' y') x)) ∧ ∀ i, ¬ (13 * x + y ≤ i ∧ i ≤ 13 * x + lt) → f i = gI σ 19 i := by
  intro n
  induction n with
  | zero =>
    intro y k σ h1 h2
    omega
  | succ n ih =>
    intro y k σ h1 h2 hlf h10 h11 h13 hF
    rw [f_X8_letLeftChoose_18, h13]
    cases k with
    | zero =>
      rw [if_pos (nI_lt (by omega) (by omega)), nI_1]
      exact ⟨gI σ 19, by rw [rI_id], fun y' a b => by omega, fun _ _ => rfl⟩
    | succ k =>
      have cont : ∀ w, w = nI (mx3 (decide (uf < x)) (decide (x < ut)) (fun x' => F x' y) x) → ∃ f, f_X8_letLeftChoose_18 k5 (nI x) n (sI σ 19 (13 * x + y) w) (nI (y + 1)) = k5 (rI σ 19 f) (nI (x + 1)) ∧ (∀ y', y ≤ y' → y' ≤ lt → f (13 * x + y') = nI (mx3 (decide (uf < x)) (decide (x < ut)) (fun x' => F x' y') x)) ∧ ∀ i, ¬ (13 * x + y ≤ i ∧ i ≤ 13 * x + lt) → f i = gI σ 19 i := by
        intro w hw
        obtain ⟨f, e1, e2, e3⟩ := ih (y + 1) k (sI σ 19 (13 * x + y) w) (by omega) (by omega) (by omega) (by rw [gI_n (by decide)]; exact h10) (by rw [gI_n (by decide)]; exact h11) (by rw [gI_n (by decide)]; exact h13) (fun x' y' a b c e => by rw [gI_n (by decide)]; exact hF x' y' a b c e)
        refine ⟨f, by rw [e1, sI_20], fun y' a b => ?_, fun i hi => ?_⟩
        · by_cases hy : y' = y
          · rw [e3 _ (by omega), gI_s, hy, upd_s, hw]
          · exact e2 y' (by omega) b
        · rw [e3 i (by omega), gI_s, upd_n (by omega)]
      have i0 : inb (nI (13 * x + y)) 169 := nI_inb (by omega) (by decide)
      have b0 := hB x y hx hx2 hlf (by omega)
      rw [if_neg (nI_nlt (by omega) (by omega)), c13, chk_s i0, bnd_s, nI_cl (by omega), hF x y hx hx2 hlf (by omega), h10]
      have tail : ∀ (w : Nat), w < 2147483648 → (w = if decide (uf < x) then max (F x y) (F (x - 1) y) else F x y) → ∃ f, f_X8_letLeftChoose_64 k5 (f_X8_letLeftChoose_18 k5 (nI x) n) σ (nI x) (nI y) (nI w) = k5 (rI σ 19 f) (nI (x + 1)) ∧ (∀ y', y ≤ y' → y' ≤ lt → f (13 * x + y') = nI (mx3 (decide (uf < x)) (decide (x < ut)) (fun x' => F x' y') x)) ∧ ∀ i, ¬ (13 * x + y ≤ i ∧ i ≤ 13 * x + lt) → f i = gI σ 19 i := by
        intro w hw2 hw
        unfold f_X8_letLeftChoose_64
        rw [h11, c13]
        by_cases hy : x = ut
        · rw [if_pos (nI_le (by omega) (by omega)), chk_s i0, nI_cl (by omega), nI_1 y]
          refine cont _ ?_
          congr 1
          rw [hw]
          unfold mx3
          rw [decide_eq_false (show ¬ x < ut by omega)]
          by_cases q : uf < x
          · rw [decide_eq_true q]
            simp only [if_true, Bool.false_eq_true, if_false]
            omega
          · rw [decide_eq_false q]
            simp only [Bool.false_eq_true, if_false]
            omega
        · have b1 := hB (x + 1) y (by omega) (by omega) hlf (by omega)
          rw [if_neg (nI_ge (by omega) (by omega)), nI_1 x, c13, chk_s (nI_inb (by omega) (by decide)), bnd_s, chk_s i0, nI_cl (by omega), nI_cl (by omega), nI_1 y, hF (x + 1) y (by omega) (by omega) hlf (by omega), nI_max b1 hw2]
          refine cont _ ?_
          congr 1
          rw [hw]
          unfold mx3
          rw [decide_eq_true (show x < ut by omega)]
          by_cases q : uf < x
          · rw [decide_eq_true q]
            simp only [if_true]
            omega
          · rw [decide_eq_false q]
            simp only [if_true, Bool.false_eq_true, if_false]
            omega
      by_cases q : uf < x
      · have b1 := hB (x - 1) y (by omega) (by omega) hlf (by omega)
        rw [if_neg (nI_ge q (by omega)), show (1 : Int32) = nI 1 from rfl, pk_sub (by omega), c13, chk_s (nI_inb (by omega) (by decide)), bnd_s, nI_cl (by omega), hF (x - 1) y (by omega) (by omega) hlf (by omega), nI_max b1 b0]
        exact tail _ (by omega) (by rw [decide_eq_true q, if_pos rfl])
      · rw [if_pos (nI_le (by omega) (by omega))]
        exact tail _ b0 (by rw [decide_eq_false q]; rfl)
theorem e_ll5 (hut : ut ≤ 12) (hlt : lt ≤ 12) (hl : lf ≤ lt) (hB : ∀ x' y', uf ≤ x' → x' ≤ ut → lf ≤ y' → y' ≤ lt → F x' y' < 2147483648) : ∀ (n x k : Nat) (σ : Hp), x + k = ut + 1 → k < n → uf ≤ x → gI σ 15 10 = nI uf → gI σ 15 11 = nI ut → gI σ 15 12 = nI lf → gI σ 15 13 = nI lt → (∀ x' y', uf ≤ x' → x' ≤ ut → lf ≤ y' → y' ≤ lt → gI σ 21 (13 * x' + y') = nI (F x' y')) →
    ∃ f, f_X8_letLeftChoose_5 n σ (nI x) = some (rI σ 19 f) ∧ (∀ x' y', x ≤ x' → x' ≤ ut → lf ≤ y' → y' ≤ lt → f (13 * x' + y') = nI (mx3 (decide (uf < x')) (decide (x' < ut)) (fun x => F x y') x')) ∧ ∀ i, i < 13 * x → f i = gI σ 19 i := by
  intro n
  induction n with
  | zero =>
    intro x k σ h1 h2
    omega
  | succ n ih =>
    intro x k σ h1 h2 hx h10 h11 h12 h13 hF
    rw [f_X8_letLeftChoose_5, h11]
    cases k with
    | zero =>
      rw [if_pos (nI_lt (by omega) (by omega))]
      exact ⟨gI σ 19, by rw [rI_id], fun x' y' a b => by omega, fun _ _ => rfl⟩
    | succ k =>
      rw [if_neg (nI_nlt (by omega) (by omega)), bnd_s, h12]
      obtain ⟨f1, a1, a2, a3⟩ := e_ll18 (F := F) (lf := lf) (k5 := f_X8_letLeftChoose_5 n) hut hlt hx (show x ≤ ut by omega) hB fu lf (lt + 1 - lf) σ (by omega) (by show _ < 512; omega) (Nat.le_refl _) h10 h11 h13 hF
      obtain ⟨f, b1, b2, b3⟩ := ih (x + 1) k (rI σ 19 f1) (by omega) (by omega) (by omega) (by rw [gI_rIn (by decide)]; exact h10) (by rw [gI_rIn (by decide)]; exact h11) (by rw [gI_rIn (by decide)]; exact h12) (by rw [gI_rIn (by decide)]; exact h13) (fun x' y' p q r s => by rw [gI_rIn (by decide)]; exact hF x' y' p q r s)
      refine ⟨f, by rw [a1, b1, rI_rI], fun x' y' p q r s => ?_, fun i hi => ?_⟩
      · by_cases hxx : x' = x
        · subst hxx
          rw [b3 _ (by omega), gI_rI, a2 y' r s]
        · exact b2 x' y' (by omega) q r s
      · rw [b3 i (by omega), gI_rI, a3 i (by omega)]
end
