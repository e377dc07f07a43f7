/-! ===== the class's tables ===== -/
theorem c13 (x y : Nat) : (13 * nI x) + nI y = nI (13 * x + y) := by
  rw [show (13 : Int32) = nI 13 from rfl, pk_mul, nI_add]
theorem sI_20 {σ : Hp} {q i : Nat} {v : Int32} {f : Nat → Int32} : rI (sI σ q i v) q f = rI σ q f := by
  unfold sI
  rw [rI_rI]
theorem GA.row {σ : Hp} {u : GD} {d n q : Nat} {f : Nat → Int32} (hq : 19 ≤ q) (A : GA σ u d n) : GA (rI σ q f) u d n := A.of (by rw [gI_rIn (by omega)]) (fun p p1 p2 => gI_rIn (by omega))
theorem GA.st {σ : Hp} {u : GD} {d n q k : Nat} {v : Int32} (hq : 19 ≤ q) (A : GA σ u d n) : GA (sI σ q k v) u d n := GA.row hq A
section
variable {u : GD} {d uf ut lf lt : Nat} {F : Nat → Nat → Nat}
theorem e_ad18 (V : VG u) (hlt : lt ≤ 12) {x : Nat} (hx : x ≤ 12) {k5 : Hp → Int32 → Option Hp} : ∀ (n y k : Nat) (σ : Hp), y + k = lt + 1 → k < n → GA σ u d (uS u) → gI σ 15 13 = nI lt → (∀ y', y ≤ y' → y' ≤ lt → gI σ 19 (13 * x + y') = nI (F x y')) →
    ∃ f, f_X8_addDay_18 k5 (nI x) n σ (nI y) = k5 (rI σ 20 f) (nI (x + 1)) ∧ (∀ y', y ≤ y' → y' ≤ lt → f (13 * x + y') = nI (gts u d x y' + F x y')) ∧ ∀ i, ¬ (13 * x + y ≤ i ∧ i ≤ 13 * x + lt) → f i = gI σ 20 i := by
  intro n
  induction n with
  | zero =>
    intro y k σ h1 h2
    omega
  | succ n ih =>
    intro y k σ h1 h2 A h13 hF
    rw [f_X8_addDay_18, h13]
    cases k with
    | zero =>
      rw [if_pos (nI_lt (by omega) (by omega)), nI_1]
      exact ⟨gI σ 20, by rw [rI_id], fun y' a b => by omega, fun _ _ => rfl⟩
    | succ k =>
      rw [if_neg (nI_nlt (by omega) (by omega)), e_left V A hx (by omega), bd1_s, c13, chk_s (nI_inb (by omega) (by decide)), chk_s (nI_inb (by omega) (by decide)), bnd_s, nI_cl (by omega), hF y (by omega) (by omega), nI_add, nI_1 y]
      obtain ⟨f, e1, e2, e3⟩ := ih (y + 1) k (sI σ 20 (13 * x + y) (nI (gts u d x y + F x y))) (by omega) (by omega) (A.st (by omega)) (by rw [gI_n (by decide)]; exact h13) (fun y' a b => by rw [gI_n (by decide)]; exact hF y' (by omega) b)
      refine ⟨f, by rw [e1, sI_20], fun y' a b => ?_, fun i hi => ?_⟩
      · by_cases hy : y' = y
        · rw [e3 _ (by omega), gI_s, hy, upd_s]
        · exact e2 y' (by omega) b
      · rw [e3 i (by omega), gI_s, upd_n (by omega)]
theorem e_ad5 (V : VG u) (hut : ut ≤ 12) (hlt : lt ≤ 12) (hl : lf ≤ lt) : ∀ (n x k : Nat) (σ : Hp), x + k = ut + 1 → k < n → GA σ u d (uS u) → gI σ 15 11 = nI ut → gI σ 15 12 = nI lf → gI σ 15 13 = nI lt → (∀ x' y', x ≤ x' → x' ≤ ut → lf ≤ y' → y' ≤ lt → gI σ 19 (13 * x' + y') = nI (F x' y')) →
    ∃ f, f_X8_addDay_5 n σ (nI x) = some (rI σ 20 f) ∧ (∀ x' y', x ≤ x' → x' ≤ ut → lf ≤ y' → y' ≤ lt → f (13 * x' + y') = nI (gts u d x' y' + F x' y')) ∧ ∀ i, i < 13 * x → f i = gI σ 20 i := by
  intro n
  induction n with
  | zero =>
    intro x k σ h1 h2
    omega
  | succ n ih =>
    intro x k σ h1 h2 A h11 h12 h13 hF
    rw [f_X8_addDay_5, h11]
    cases k with
    | zero =>
      rw [if_pos (nI_lt (by omega) (by omega))]
      exact ⟨gI σ 20, by rw [rI_id], fun x' y' a b => by omega, fun _ _ => rfl⟩
    | succ k =>
      rw [if_neg (nI_nlt (by omega) (by omega)), bnd_s, h12]
      obtain ⟨f1, a1, a2, a3⟩ := e_ad18 (F := F) (k5 := f_X8_addDay_5 n) V hlt (show x ≤ 12 by omega) fu lf (lt + 1 - lf) σ (by omega) (by show _ < 512; omega) A h13 (fun y' p q => hF x y' (by omega) (by omega) p q)
      obtain ⟨f, b1, b2, b3⟩ := ih (x + 1) k (rI σ 20 f1) (by omega) (by omega) (A.row (by omega)) (by rw [gI_rIn (by decide)]; exact h11) (by rw [gI_rIn (by decide)]; exact h12) (by rw [gI_rIn (by decide)]; exact h13) (fun x' y' p q r s => by rw [gI_rIn (by decide)]; exact hF x' y' (by omega) q r s)
      refine ⟨f, by rw [a1, b1, rI_rI], fun x' y' p q r s => ?_, fun i hi => ?_⟩
      · by_cases hx : x' = x
        · subst hx
          rw [b3 _ (by omega), gI_rI, a2 y' r s]
        · exact b2 x' y' (by omega) q r s
      · rw [b3 i (by omega), gI_rI, a3 i (by omega)]
theorem nI_min {a b : Nat} (ha : a < 2147483648) (hb : b < 2147483648) : (if nI a < nI b then nI a else nI b) = nI (min b a) := by
  by_cases h : a < b
  · rw [if_pos (nI_lt h hb), Nat.min_eq_right (by omega)]
  · rw [if_neg (nI_nlt (by omega) ha), Nat.min_eq_left (by omega)]
theorem nI_max {a b : Nat} (ha : a < 2147483648) (hb : b < 2147483648) : (if nI b < nI a then nI a else nI b) = nI (max b a) := by
  by_cases h : b < a
  · rw [if_pos (nI_lt h ha), Nat.max_eq_right (by omega)]
  · rw [if_neg (nI_nlt (by omega) hb), Nat.max_eq_left (by omega)]
theorem e_lr18 (hlt : lt ≤ 12) {x : Nat} (hx : x ≤ 12) {k5 : Hp → Int32 → Option Hp} (hB : ∀ y', lf ≤ y' → y' ≤ lt → F x y' < 2147483648) : ∀ (n y k : Nat) (σ : Hp), y + k = lt + 1 → k < n → lf ≤ y → gI σ 15 12 = nI lf → gI σ 15 13 = nI lt → (∀ y', lf ≤ y' → y' ≤ lt → gI σ 20 (13 * x + y') = nI (F x y')) →
    ∃ f, f_X8_letRightChoose_18 k5 (nI x) n σ (nI y) = k5 (rI σ 21 f) (nI (x + 1)) ∧ (∀ y', y ≤ y' → y' ≤ lt → f (13 * x + y') = nI (mn3 (decide (lf < y')) (decide (y' < lt)) (F x) y')) ∧ ∀ i, ¬ (13 * x + y ≤ i ∧ i ≤ 13 * x + lt) → f i = gI σ 21 i := by
  intro n
  induction n with
  | zero =>
    intro y k σ h1 h2
    omega
  | succ n ih =>
    intro y k σ h1 h2 hlf h12 h13 hF
    rw [f_X8_letRightChoose_18, h13]
    cases k with
    | zero =>
      rw [if_pos (nI_lt (by omega) (by omega)), nI_1]
      exact ⟨gI σ 21, by rw [rI_id], fun y' a b => by omega, fun _ _ => rfl⟩
    | succ k =>
      have cont : ∀ w, w = nI (mn3 (decide (lf < y)) (decide (y < lt)) (F x) y) → ∃ f, f_X8_letRightChoose_18 k5 (nI x) n (sI σ 21 (13 * x + y) w) (nI (y + 1)) = k5 (rI σ 21 f) (nI (x + 1)) ∧ (∀ y', y ≤ y' → y' ≤ lt → f (13 * x + y') = nI (mn3 (decide (lf < y')) (decide (y' < lt)) (F x) y')) ∧ ∀ i, ¬ (13 * x + y ≤ i ∧ i ≤ 13 * x + lt) → f i = gI σ 21 i := by
        intro w hw
        obtain ⟨f, e1, e2, e3⟩ := ih (y + 1) k (sI σ 21 (13 * x + y) w) (by omega) (by omega) (by omega) (by rw [gI_n (by decide)]; exact h12) (by rw [gI_n (by decide)]; exact h13) (fun y' a b => by rw [gI_n (by decide)]; exact hF y' (by omega) b)
        refine ⟨f, by rw [e1, sI_20], fun y' a b => ?_, fun i hi => ?_⟩
        · by_cases hy : y' = y
          · rw [e3 _ (by omega), gI_s, hy, upd_s, hw]
          · exact e2 y' (by omega) b
        · rw [e3 i (by omega), gI_s, upd_n (by omega)]
      have i0 : inb (nI (13 * x + y)) 169 := nI_inb (by omega) (by decide)
      have b0 := hB y hlf (by omega)
      rw [if_neg (nI_nlt (by omega) (by omega)), c13, chk_s i0, bnd_s, nI_cl (by omega), hF y hlf (by omega), h12]
      have tail : ∀ (w : Nat), w < 2147483648 → (w = if decide (lf < y) then min (F x y) (F x (y - 1)) else F x y) → ∃ f, f_X8_letRightChoose_64 k5 (f_X8_letRightChoose_18 k5 (nI x) n) σ (nI x) (nI y) (nI w) = k5 (rI σ 21 f) (nI (x + 1)) ∧ (∀ y', y ≤ y' → y' ≤ lt → f (13 * x + y') = nI (mn3 (decide (lf < y')) (decide (y' < lt)) (F x) y')) ∧ ∀ i, ¬ (13 * x + y ≤ i ∧ i ≤ 13 * x + lt) → f i = gI σ 21 i := by
        intro w hw2 hw
        unfold f_X8_letRightChoose_64
        rw [h13, c13]
        by_cases hy : y = lt
        · rw [if_pos (nI_le (by omega) (by omega)), chk_s i0, nI_cl (by omega), nI_1 y]
          refine cont _ ?_
          congr 1
          rw [hw]
          unfold mn3
          rw [decide_eq_false (show ¬ y < lt by omega)]
          by_cases q : lf < y
          · rw [decide_eq_true q]
            simp only [if_true, Bool.false_eq_true, if_false]
            omega
          · rw [decide_eq_false q]
            simp only [Bool.false_eq_true, if_false]
            omega
        · have b1 := hB (y + 1) (by omega) (by omega)
          rw [if_neg (nI_ge (by omega) (by omega)), nI_1 (13 * x + y), chk_s (nI_inb (by omega) (by decide)), bnd_s, chk_s i0, nI_cl (by omega), nI_cl (by omega), nI_1 y, Nat.add_assoc, hF (y + 1) (by omega) (by omega), nI_min b1 hw2]
          refine cont _ ?_
          congr 1
          rw [hw]
          unfold mn3
          rw [decide_eq_true (show y < lt by omega)]
          by_cases q : lf < y
          · rw [decide_eq_true q]
            simp only [if_true]
            omega
          · rw [decide_eq_false q]
            simp only [if_true, Bool.false_eq_true, if_false]
            omega
      by_cases q : lf < y
      · have b1 := hB (y - 1) (by omega) (by omega)
        rw [if_neg (nI_ge q (by omega)), show (1 : Int32) = nI 1 from rfl, pk_sub (by omega), chk_s (nI_inb (by omega) (by decide)), bnd_s, nI_cl (by omega), show 13 * x + y - 1 = 13 * x + (y - 1) by omega, hF (y - 1) (by omega) (by omega), nI_min b1 b0]
        exact tail _ (by omega) (by rw [decide_eq_true q, if_pos rfl])
      · rw [if_pos (nI_le (by omega) (by omega))]
        exact tail _ b0 (by rw [decide_eq_false q]; rfl)
end
