/-! ===== best: pure ===== -/
theorem fm_last {l h : Bool} {H : Nat → Nat} {a : Nat} (c1 : ¬ (l = true ∧ H (a - 1) = mx3 l h H a)) (c2 : ¬ H a = mx3 l h H a) : h = true ∧ H (a + 1) = mx3 l h H a := by
  unfold mx3 at c1 c2 ⊢
  cases l <;> cases h <;> simp only [Bool.false_eq_true, if_false, if_true, false_and, true_and] at c1 c2 ⊢ <;> omega
theorem fm_congr {l h : Bool} {H H' : Nat → Nat} {a : Nat} (h1 : l = true → H (a - 1) = H' (a - 1)) (h2 : H a = H' a) (h3 : h = true → H (a + 1) = H' (a + 1)) : fst_mv l h H a = fst_mv l h H' a := by
  unfold fst_mv
  rw [mx3_congr rfl rfl h1 h2 h3, h2]
  cases l with
  | false => simp only [Bool.false_eq_true, false_and, if_false]
  | true => rw [h1 rfl]
def nxA (l h : Bool) (H : Nat → Nat) (a : Nat) : Nat := if l = true ∧ H (a - 1) = mx3 l h H a then a - 1 else if H a = mx3 l h H a then a else a + 1
theorem nx_spec {l h : Bool} {H : Nat → Nat} {a : Nat} (ha : a ≤ 1000) (hl : l = true → 1 ≤ a) : nI a + fst_mv l h H a = nI (nxA l h H a) ∧ H (nxA l h H a) = mx3 l h H a ∧ ((nxA l h H a + 1 = a ∧ l = true) ∨ nxA l h H a = a ∨ (nxA l h H a = a + 1 ∧ h = true)) := by
  unfold fst_mv nxA
  by_cases c1 : l = true ∧ H (a - 1) = mx3 l h H a
  · rw [if_pos c1, if_pos c1]
    have := hl c1.1
    exact ⟨by rw [m1_add, show (1 : Int32) = nI 1 from rfl, pk_sub (by omega)], c1.2, Or.inl ⟨by omega, c1.1⟩⟩
  · rw [if_neg c1, if_neg c1]
    by_cases c2 : H a = mx3 l h H a
    · rw [if_pos c2, if_pos c2]
      exact ⟨Int32.add_zero _, c2, Or.inr (Or.inl rfl)⟩
    · rw [if_neg c2, if_neg c2]
      obtain ⟨e1, e2⟩ := fm_last c1 c2
      exact ⟨nI_1 a, e2, Or.inr (Or.inr ⟨rfl, e1⟩)⟩
/-- where the lower end is behind each of the told moves -/
def bnx (u : GD) (b : Nat) (v : Int32) : Nat := if opB u 1 (nI b + v).toInt = true then (nI b + v).toInt.toNat else b
def bP (u : GD) (mv : Nat → Int32) : Nat → Nat
  | 0 => uLo u (uD u)
  | k + 1 => bnx u (bP u mv k) (mv k)
theorem bP_le {u : GD} (V : VG u) {mv : Nat → Int32} : ∀ k, bP u mv k ≤ 12 := by
  intro k
  induction k with
  | zero => exact V.up.2
  | succ k ih =>
    show bnx u (bP u mv k) (mv k) ≤ 12
    unfold bnx
    by_cases h : opB u 1 (nI (bP u mv k) + mv k).toInt = true
    · rw [if_pos h]
      have := opB_lo h
      omega
    · rw [if_neg h]
      exact ih
theorem bnx_t {u : GD} {b : Nat} {v : Int32} (h : opB u 1 (nI b + v).toInt = true) : nI b + v = nI (bnx u b v) := by
  obtain ⟨x, hx, e, -⟩ := opB_nI h
  unfold bnx
  rw [if_pos h, e, nI_toInt (by omega), Int.toNat_natCast]
theorem bnx_f {u : GD} {b : Nat} {v : Int32} (h : opB u 1 (nI b + v).toInt = false) : bnx u b v = b := by
  unfold bnx
  rw [h]
  rfl
/-- the most from place a on, k days from the i-th on -/
def bsG (u : GD) (e : Nat → Nat) : Nat → Nat → Nat → Nat
  | 0, _, _ => 0
  | k + 1, i, a => mx3 (opB u 0 ((a : Int) - 1)) (opB u 0 ((a : Int) + 1)) (fun x => gts u (uD u + i) x (e i) + bsG u e k (i + 1) x) a
def bsW (u : GD) (e : Nat → Nat) (lo hi : Nat) : Nat → Nat → Nat → Nat
  | 0, _, _ => 0
  | k + 1, i, a => mx3 (decide (lo < a)) (decide (a < hi)) (fun x => gts u (uD u + i) x (e i) + bsW u e lo hi k (i + 1) x) a
def Kg (u : GD) (e : Nat → Nat) (k i x : Nat) : Nat := gts u (uD u + i) x (e i) + bsG u e k (i + 1) x
def Kw (u : GD) (e : Nat → Nat) (lo hi k i x : Nat) : Nat := gts u (uD u + i) x (e i) + bsW u e lo hi k (i + 1) x
theorem bsG_s {u : GD} {e : Nat → Nat} {k i a : Nat} : bsG u e (k + 1) i a = mx3 (opB u 0 ((a : Int) - 1)) (opB u 0 ((a : Int) + 1)) (Kg u e k i) a := rfl
theorem bsW_s {u : GD} {e : Nat → Nat} {lo hi k i a : Nat} : bsW u e lo hi (k + 1) i a = mx3 (decide (lo < a)) (decide (a < hi)) (Kw u e lo hi k i) a := rfl
section
variable {u : GD} {e : Nat → Nat}
theorem bsG_le (V : VG u) (he : ∀ i, e i ≤ 12) : ∀ (k i a : Nat), a ≤ 12 → bsG u e k i a ≤ k * 65862720 := by
  intro k
  induction k with
  | zero => intro i a _; exact Nat.zero_le _
  | succ k ih =>
    intro i a ha
    have st : ∀ x, x ≤ 12 → gts u (uD u + i) x (e i) + bsG u e k (i + 1) x ≤ (k + 1) * 65862720 := by
      intro x hx
      have h1 := Nat.le_trans (gts_alls (u := u) (d := uD u + i) hx (he i)) (alls_le V)
      have h2 := ih (i + 1) x hx
      omega
    exact mx3_le (fun h => st _ (by have := opB_lo h; omega)) (st _ ha) (fun h => st _ (by have := opB_lo h; omega))
theorem bsW_le (V : VG u) (he : ∀ i, e i ≤ 12) {lo hi : Nat} (hh : hi ≤ 12) : ∀ (k i a : Nat), a ≤ hi → bsW u e lo hi k i a ≤ k * 65862720 := by
  intro k
  induction k with
  | zero => intro i a _; exact Nat.zero_le _
  | succ k ih =>
    intro i a ha
    have st : ∀ x, x ≤ hi → gts u (uD u + i) x (e i) + bsW u e lo hi k (i + 1) x ≤ (k + 1) * 65862720 := by
      intro x hx
      have h1 := Nat.le_trans (gts_alls (u := u) (d := uD u + i) (show x ≤ 12 by omega) (he i)) (alls_le V)
      have h2 := ih (i + 1) x hx
      omega
    exact mx3_le (fun h => st _ (by omega)) (st _ ha) (fun h => st _ (by have := of_decide_eq_true h; omega))
theorem Kg_lt (V : VG u) (he : ∀ i, e i ≤ 12) {k i x : Nat} (hk : k ≤ 12) (hx : x ≤ 12) : Kg u e k i x < 1000000000 := by
  have h1 := Nat.le_trans (gts_alls (u := u) (d := uD u + i) hx (he i)) (alls_le V)
  have h2 := bsG_le V he k (i + 1) x hx
  have h3 : k * 65862720 ≤ 12 * 65862720 := Nat.mul_le_mul_right _ hk
  show gts u (uD u + i) x (e i) + bsG u e k (i + 1) x < _
  omega
theorem Kw_lt (V : VG u) (he : ∀ i, e i ≤ 12) {lo hi : Nat} (hh : hi ≤ 12) {k i x : Nat} (hk : k ≤ 12) (hx : x ≤ hi) : Kw u e lo hi k i x < 1000000000 := by
  have h1 := Nat.le_trans (gts_alls (u := u) (d := uD u + i) (show x ≤ 12 by omega) (he i)) (alls_le V)
  have h2 := bsW_le V he (lo := lo) hh k (i + 1) x hx
  have h3 : k * 65862720 ≤ 12 * 65862720 := Nat.mul_le_mul_right _ hk
  show gts u (uD u + i) x (e i) + bsW u e lo hi k (i + 1) x < _
  omega
theorem bsW_G {r a : Nat} (ha : opB u 0 (a : Int) = true) : ∀ (k i x : Nat), dn (opB u 0) r a ≤ x → x ≤ ups (opB u 0) r a → a + k ≤ x + r → x + k ≤ a + r → bsW u e (dn (opB u 0) r a) (ups (opB u 0) r a) k i x = bsG u e k i x := by
  intro k
  induction k with
  | zero => intro i x _ _ _ _; rfl
  | succ k ih =>
    intro i x h1 h2 h3 h4
    refine mx3_congr (reach_lo ha h1 h2 (by omega)) (reach_hi ha h1 h2 (by omega)) (fun z => ?_) ?_ (fun z => ?_)
    · have z := of_decide_eq_true z
      show _ + bsW u e _ _ k (i + 1) (x - 1) = _
      rw [ih (i + 1) (x - 1) (by omega) (by omega) (by omega) (by omega)]
    · show _ + bsW u e _ _ k (i + 1) x = _
      rw [ih (i + 1) x h1 h2 (by omega) (by omega)]
    · have z := of_decide_eq_true z
      show _ + bsW u e _ _ k (i + 1) (x + 1) = _
      rw [ih (i + 1) (x + 1) (by omega) (by omega) (by omega) (by omega)]
end
/-- the left end's places, and its moves -/
def aP (u : GD) (e : Nat → Nat) (r : Nat) : Nat → Nat
  | 0 => uUp u (uD u)
  | k + 1 => nxA (opB u 0 ((aP u e r k : Int) - 1)) (opB u 0 ((aP u e r k : Int) + 1)) (Kg u e (r - k - 1) k) (aP u e r k)
def aM (u : GD) (e : Nat → Nat) (r k : Nat) : Int32 := fst_mv (opB u 0 ((aP u e r k : Int) - 1)) (opB u 0 ((aP u e r k : Int) + 1)) (Kg u e (r - k - 1) k) (aP u e r k)
section
variable {u : GD} {e : Nat → Nat} {r : Nat}
theorem aP_nx (k : Nat) : aP u e r (k + 1) = nxA (opB u 0 ((aP u e r k : Int) - 1)) (opB u 0 ((aP u e r k : Int) + 1)) (Kg u e (r - k - 1) k) (aP u e r k) := rfl
theorem aP_spec (V : VG u) : ∀ k, k ≤ r → opB u 0 (aP u e r k : Int) = true ∧ aP u e r k ≤ 12 ∧ uUp u (uD u) ≤ aP u e r k + k ∧ aP u e r k ≤ uUp u (uD u) + k ∧ dn (opB u 0) r (uUp u (uD u)) ≤ aP u e r k ∧ aP u e r k ≤ ups (opB u 0) r (uUp u (uD u)) := by
  intro k
  induction k with
  | zero =>
    intro _
    exact ⟨V.open0, V.up.1, by show uUp u (uD u) ≤ uUp u (uD u) + 0; omega, by show uUp u (uD u) ≤ uUp u (uD u) + 0; omega, (dn_spec (u := u) (r := 0) r (uUp u (uD u))).1, (ups_spec (u := u) (r := 0) r (uUp u (uD u))).1⟩
  | succ k ih =>
    intro hk
    obtain ⟨i1, i2, i3, i4, i5, i6⟩ := ih (by omega)
    have ll := reach_lo V.open0 i5 i6 (show uUp u (uD u) < aP u e r k + r by omega)
    have lr := reach_hi V.open0 i5 i6 (show aP u e r k < uUp u (uD u) + r by omega)
    obtain ⟨-, -, c⟩ := nx_spec (l := opB u 0 ((aP u e r k : Int) - 1)) (h := opB u 0 ((aP u e r k : Int) + 1)) (H := Kg u e (r - k - 1) k) (a := aP u e r k) (by omega) (fun z => by have := opB_lo z; omega)
    rw [← aP_nx] at c
    rcases c with ⟨c1, c2⟩ | c1 | ⟨c1, c2⟩
    · have z := opB_lo c2
      have q : dn (opB u 0) r (uUp u (uD u)) < aP u e r k := of_decide_eq_true (by rw [ll]; exact c2)
      refine ⟨?_, by omega, by omega, by omega, by omega, by omega⟩
      rw [show ((aP u e r (k + 1) : Nat) : Int) = (aP u e r k : Int) - 1 by omega]
      exact c2
    · rw [c1]
      exact ⟨i1, i2, by omega, by omega, i5, i6⟩
    · have z := opB_lo c2
      have q : aP u e r k < ups (opB u 0) r (uUp u (uD u)) := of_decide_eq_true (by rw [lr]; exact c2)
      refine ⟨?_, by omega, by omega, by omega, by omega, by omega⟩
      rw [show ((aP u e r (k + 1) : Nat) : Int) = (aP u e r k : Int) + 1 by omega]
      exact c2
theorem aP_step (V : VG u) {k : Nat} (hk : k ≤ r) : nI (aP u e r k) + aM u e r k = nI (aP u e r (k + 1)) := by
  have s := aP_spec (e := e) V k hk
  exact (nx_spec (l := opB u 0 ((aP u e r k : Int) - 1)) (h := opB u 0 ((aP u e r k : Int) + 1)) (H := Kg u e (r - k - 1) k) (a := aP u e r k) (by omega) (fun z => by have := opB_lo z; omega)).1
/-- the class's choice on the way -/
theorem aM_w (V : VG u) {k : Nat} (hk : k < r) : fst_mv (decide (dn (opB u 0) r (uUp u (uD u)) < aP u e r k)) (decide (aP u e r k < ups (opB u 0) r (uUp u (uD u)))) (Kw u e (dn (opB u 0) r (uUp u (uD u))) (ups (opB u 0) r (uUp u (uD u))) (r - k - 1) k) (aP u e r k) = aM u e r k := by
  obtain ⟨i1, i2, i3, i4, i5, i6⟩ := aP_spec (e := e) (r := r) V k (by omega)
  have ll := reach_lo V.open0 i5 i6 (show uUp u (uD u) < aP u e r k + r by omega)
  have lr := reach_hi V.open0 i5 i6 (show aP u e r k < uUp u (uD u) + r by omega)
  have kk : ∀ x, dn (opB u 0) r (uUp u (uD u)) ≤ x → x ≤ ups (opB u 0) r (uUp u (uD u)) → aP u e r k ≤ x + 1 → x ≤ aP u e r k + 1 → Kw u e (dn (opB u 0) r (uUp u (uD u))) (ups (opB u 0) r (uUp u (uD u))) (r - k - 1) k x = Kg u e (r - k - 1) k x := by
    intro x h1 h2 h3 h4
    show _ + bsW u e _ _ _ _ _ = _
    rw [bsW_G V.open0 (r - k - 1) (k + 1) x h1 h2 (by omega) (by omega)]
    rfl
  unfold aM
  rw [← ll, ← lr]
  exact fm_congr (fun z => kk _ (by have := of_decide_eq_true z; omega) (by omega) (by omega) (by omega)) (kk _ i5 i6 (by omega) (by omega)) (fun z => kk _ (by omega) (by have := of_decide_eq_true z; omega) (by omega) (by omega))
end
