/-! ===== best: the class ===== -/
theorem e_fr10 {g tq : Nat} {u : GD} {L R : Nat → Nat} (hg : isG g) (V : VG u) {mv : Nat → Int32} {r : Nat} (hr : r ≤ 12) (htq : tq < 15) : ∀ (n k : Nat) (σ : Hp), k ≤ r → r < k + n → CGw σ g u L R → (∀ i, i < r → gI σ tq i = mv i) → ∃ σ', f_X8_followRight_10 g tq (nI r) n σ (nI (bP u mv k)) (nI k) = some σ' ∧ onlyI (fun q => q = 22) σ σ' ∧ (∀ i, k ≤ i → i < r → gI σ' 22 i = nI (bP u mv (i + 1))) ∧ ∀ i, i < k → gI σ' 22 i = gI σ 22 i := by
  intro n
  induction n with
  | zero =>
    intro k σ h1 h2
    omega
  | succ n ih =>
    intro k σ h1 h2 C hm
    rw [f_X8_followRight_10]
    by_cases hk : k = r
    · rw [if_pos (by rw [hk]; exact nI_le (Nat.le_refl _) (by omega))]
      exact ⟨σ, rfl, onlyI.rf, fun i a b => by omega, fun _ _ => rfl⟩
    · have i12 : inb (nI k) 12 := nI_inb (by omega) (by decide)
      have i40 : inb (nI k) 40 := nI_inb (by omega) (by decide)
      have go : ∃ σ', f_X8_followRight_10 g tq (nI r) n (sI σ 22 k (nI (bP u mv (k + 1)))) (nI (bP u mv (k + 1))) (nI (k + 1)) = some σ' ∧ onlyI (fun q => q = 22) σ σ' ∧ (∀ i, k ≤ i → i < r → gI σ' 22 i = nI (bP u mv (i + 1))) ∧ ∀ i, i < k → gI σ' 22 i = gI σ 22 i := by
        have o : onlyI (fun q => q = 22) σ (sI σ 22 k (nI (bP u mv (k + 1)))) := onlyI.rf.st rfl
        obtain ⟨σ', e1, e2, e3, e4⟩ := ih (k + 1) (sI σ 22 k (nI (bP u mv (k + 1)))) (by omega) (by omega) (C.only o hg (by omega)) (fun i hi => by rw [gI_n (by omega)]; exact hm i hi)
        refine ⟨σ', e1, o.tr e2, fun i a b => ?_, fun i hi => ?_⟩
        · by_cases hi : i = k
          · rw [e4 i (by omega), gI_s, hi, upd_s]
          · exact e3 i (by omega) b
        · rw [e4 i (by omega), gI_s, upd_n (by omega)]
      rw [if_neg (nI_ge (by omega) (by omega)), if_neg (show ¬ (40 : Int32) ≤ nI k from nI_ge (b := 40) (by omega) (by decide)), chk_s i40, nI_cl (by omega), hm k (by omega), e_open1 C, bd1_s, nI_1 k]
      cases o1 : opB u 1 (nI (bP u mv k) + mv k).toInt with
      | false =>
        rw [if_pos (by decide), chk_s i12]
        rw [show bP u mv (k + 1) = bP u mv k from bnx_f o1] at go
        exact go
      | true =>
        rw [if_neg (by decide), chk_s i40, bnd_s, chk_s i12, bnx_t o1]
        exact go
theorem e_mtm {σ : Hp} {lo hi a : Nat} {H : Nat → Nat} (h10 : gI σ 15 10 = nI lo) (h11 : gI σ 15 11 = nI hi) (hh : hi ≤ 12) (al : lo ≤ a) (ah : a ≤ hi) (t20 : ∀ x, lo ≤ x → x ≤ hi → gI σ 20 x = nI (H x)) (hB : ∀ x, x ≤ hi → H x < 2147483648) : f_X8_moveToMost σ (nI a) = some (fst_mv (decide (lo < a)) (decide (a < hi)) H a) := by
  have stp : ∀ (n : Nat) (w z : Int32) (x y : Nat), ¬ 1 < z → nI a + z = nI x → nI a + w = nI y → lo ≤ x → x ≤ hi → lo ≤ y → y ≤ hi → f_X8_moveToMost_18 σ (nI a) (n + 1) w z = if H x ≤ H y then f_X8_moveToMost_18 σ (nI a) n w (z + 1) else f_X8_moveToMost_18 σ (nI a) n z (z + 1) := by
    intro n w z x y hz hx hy x1 x2 y1 y2
    have b1 := hB x x2
    have b2 := hB y y2
    rw [f_X8_moveToMost_18, if_neg hz, h11, hx, hy, if_neg (nI_nlt x2 (by omega)), chk_s (nI_inb (by omega) (by decide)), chk_s (nI_inb (by omega) (by decide)), nI_cl (by omega), nI_cl (by omega), t20 x x1 x2, t20 y y1 y2]
    by_cases k : H x ≤ H y
    · rw [if_pos (nI_le k (by omega)), if_pos k]
    · rw [if_neg (nI_ge (by omega) (by omega)), if_neg k]
  have out : ∀ (n : Nat) (w : Int32), ¬ a < hi → f_X8_moveToMost_18 σ (nI a) (n + 1) w 1 = f_X8_moveToMost_18 σ (nI a) n w (1 + 1) := by
    intro n w q
    rw [f_X8_moveToMost_18, if_neg (by decide), h11, nI_1 a, if_pos (nI_lt (by omega) (by omega))]
  have fin : ∀ (n : Nat) (w : Int32), f_X8_moveToMost_18 σ (nI a) (n + 1) w (1 + 1) = some w := by
    intro n w
    rw [f_X8_moveToMost_18, if_pos (by decide)]
  have e0 : nI a + 0 = nI a := Int32.add_zero _
  have e1 : nI a + 1 = nI (a + 1) := nI_1 a
  unfold f_X8_moveToMost
  rw [h10]
  unfold fst_mv mx3
  by_cases q : lo < a
  · have em : nI a + (-1) = nI (a - 1) := by rw [m1_add, show (1 : Int32) = nI 1 from rfl, pk_sub (by omega)]
    rw [if_neg (nI_ge q (by omega)), bnd_s, show (-1 : Int32) + 1 = 0 from rfl, decide_eq_true q]
    show f_X8_moveToMost_18 σ (nI a) (509 + 1 + 1 + 1) (-1) 0 = _
    rw [stp _ (-1) 0 a (a - 1) (by decide) e0 em al ah (by omega) (by omega), show (0 : Int32) + 1 = 1 from rfl]
    by_cases k1 : H a ≤ H (a - 1)
    · rw [if_pos k1]
      by_cases q2 : a < hi
      · rw [stp _ (-1) 1 (a + 1) (a - 1) (by decide) e1 em (by omega) (by omega) (by omega) (by omega), fin, fin, decide_eq_true q2]
        simp only [if_true, true_and]
        by_cases k2 : H (a + 1) ≤ H (a - 1)
        · rw [if_pos k2, if_pos (by omega)]
        · rw [if_neg k2, if_neg (by omega), if_neg (by omega)]
      · rw [out _ _ q2, fin, decide_eq_false q2]
        simp only [if_true, true_and, Bool.false_eq_true, if_false]
        rw [if_pos (by omega)]
    · rw [if_neg k1]
      by_cases q2 : a < hi
      · rw [stp _ 0 1 (a + 1) a (by decide) e1 e0 (by omega) (by omega) al ah, fin, fin, decide_eq_true q2]
        simp only [if_true, true_and]
        by_cases k2 : H (a + 1) ≤ H a
        · rw [if_pos k2, if_neg (by omega), if_pos (by omega)]
        · rw [if_neg k2, if_neg (by omega), if_neg (by omega)]
      · rw [out _ _ q2, fin, decide_eq_false q2]
        simp only [if_true, true_and, Bool.false_eq_true, if_false]
        rw [if_neg (by omega), if_pos (by omega)]
  · rw [if_pos (nI_le (by omega) (by omega)), bnd_s, show (0 : Int32) + 1 = 1 from rfl, decide_eq_false q]
    show f_X8_moveToMost_18 σ (nI a) (510 + 1 + 1) 0 1 = _
    by_cases q2 : a < hi
    · rw [stp _ 0 1 (a + 1) a (by decide) e1 e0 (by omega) (by omega) al ah, fin, fin, decide_eq_true q2]
      simp only [if_true, Bool.false_eq_true, if_false, false_and]
      by_cases k2 : H (a + 1) ≤ H a
      · rw [if_pos k2, if_pos (by omega)]
      · rw [if_neg k2, if_neg (by omega)]
    · rw [out _ _ q2, fin, decide_eq_false q2]
      simp only [Bool.false_eq_true, if_false, false_and]
      rw [if_pos (by omega)]
section
variable {u : GD} {e : Nat → Nat} {lo hi : Nat}
theorem e_b59 (V : VG u) (he : ∀ i, e i ≤ 12) (hh : hi ≤ 12) {d i g tq : Nat} {x4 : Int32} (hi12 : i < 12) {F : Nat → Nat} {k36 : Hp → Int32 → Option (Hp × Int32)} : ∀ (n x k : Nat) (σ : Hp), x + k = hi + 1 → k < n → GA σ u d (uS u) → gI σ 15 10 = nI lo → gI σ 15 11 = nI hi → gI σ 22 i = nI (e i) → (∀ x', x ≤ x' → x' ≤ hi → gI σ 19 x' = nI (F x')) → ∃ f, f_X8_bestOf_59 k36 g tq x4 (nI i) n σ (nI x) = f_X8_bestOf_108 k36 g tq x4 (nI i) fu (rI σ 20 f) (nI lo) ∧ (∀ x', x ≤ x' → x' ≤ hi → f x' = nI (gts u d x' (e i) + F x')) ∧ ∀ j, j < x → f j = gI σ 20 j := by
  intro n
  induction n with
  | zero =>
    intro x k σ h1 h2
    omega
  | succ n ih =>
    intro x k σ h1 h2 A h10 h11 h22 hF
    rw [f_X8_bestOf_59, h11]
    cases k with
    | zero =>
      rw [if_pos (nI_lt (by omega) (by omega)), h10, bnd_s]
      exact ⟨gI σ 20, by rw [rI_id], fun x' a b => by omega, fun _ _ => rfl⟩
    | succ k =>
      have i0 : inb (nI x) 169 := nI_inb (by omega) (by decide)
      rw [if_neg (nI_nlt (by omega) (by omega)), chk_s (nI_inb (by omega) (by decide)), nI_cl (show i < 2147483648 by omega), h22, e_left V A (by omega) (he i), bd1_s, chk_s i0, chk_s i0, nI_cl (by omega), hF x (by omega) (by omega), nI_add, bnd_s, nI_1 x]
      obtain ⟨f, e1, e2, e3⟩ := ih (x + 1) k (sI σ 20 x (nI (gts u d x (e i) + F x))) (by omega) (by omega) (A.st (by omega)) (by rw [gI_n (by decide)]; exact h10) (by rw [gI_n (by decide)]; exact h11) (by rw [gI_n (by decide)]; exact h22) (fun x' a b => by rw [gI_n (by decide)]; exact hF x' (by omega) b)
      refine ⟨f, by rw [e1, sI_20], fun x' a b => ?_, fun j hj => ?_⟩
      · by_cases hx : x' = x
        · rw [e3 _ (by omega), gI_s, hx, upd_s]
        · exact e2 x' (by omega) b
      · rw [e3 j (by omega), gI_s, upd_n (by omega)]
theorem e_b108 (hh : hi ≤ 12) {i g tq : Nat} {x4 : Int32} (hi12 : i < 12) {H : Nat → Nat} (hB : ∀ x, x ≤ hi → H x < 2147483648) {k36 : Hp → Int32 → Option (Hp × Int32)} : ∀ (n x k : Nat) (σ : Hp), x + k = hi + 1 → k < n → lo ≤ x → gI σ 15 10 = nI lo → gI σ 15 11 = nI hi → (∀ x', lo ≤ x' → x' ≤ hi → gI σ 20 x' = nI (H x')) → ∃ σ', f_X8_bestOf_108 k36 g tq x4 (nI i) n σ (nI x) = k36 σ' (nI i - 1) ∧ onlyI (fun q => q = 19 ∨ q = 23) σ σ' ∧ (∀ x', x ≤ x' → x' ≤ hi → gI σ' 19 x' = nI (mx3 (decide (lo < x')) (decide (x' < hi)) H x')) ∧ (∀ x', x ≤ x' → x' ≤ hi → gI σ' 23 (13 * i + x') = fst_mv (decide (lo < x')) (decide (x' < hi)) H x') ∧ (∀ j, j < x → gI σ' 19 j = gI σ 19 j) ∧ ∀ j, ¬ (13 * i + x ≤ j ∧ j ≤ 13 * i + hi) → gI σ' 23 j = gI σ 23 j := by
  intro n
  induction n with
  | zero =>
    intro x k σ h1 h2
    omega
  | succ n ih =>
    intro x k σ h1 h2 hlo h10 h11 hF
    rw [f_X8_bestOf_108]
    cases k with
    | zero =>
      rw [h11, if_pos (nI_lt (by omega) (by omega)), m1_add]
      exact ⟨σ, rfl, onlyI.rf, fun x' a b => by omega, fun x' a b => by omega, fun _ _ => rfl, fun _ _ => rfl⟩
    | succ k =>
      have mt := e_mtm h10 h11 hh hlo (show x ≤ hi by omega) hF hB
      obtain ⟨n1, n2, n3⟩ := nx_spec (l := decide (lo < x)) (h := decide (x < hi)) (H := H) (a := x) (by omega) (fun z => by have := of_decide_eq_true z; omega)
      have nlo : lo ≤ nxA (decide (lo < x)) (decide (x < hi)) H x ∧ nxA (decide (lo < x)) (decide (x < hi)) H x ≤ hi := by
        rcases n3 with ⟨c1, c2⟩ | c1 | ⟨c1, c2⟩
        · have := of_decide_eq_true c2
          omega
        · omega
        · have := of_decide_eq_true c2
          omega
      rw [h11, if_neg (nI_nlt (by omega) (by omega)), mt, bd1_s, c13, chk_s (nI_inb (by omega) (by decide)), n1, chk_s (nI_inb (by omega) (by decide)), chk_s (nI_inb (by omega) (by decide)), bnd_s, nI_cl (show 13 * i + x < 2147483648 by omega), nI_cl (show x < 2147483648 by omega), nI_cl (show nxA (decide (lo < x)) (decide (x < hi)) H x < 2147483648 by omega), gI_n (show (20 : Nat) ≠ 23 by decide), hF _ nlo.1 nlo.2, n2, nI_1 x]
      have o : onlyI (fun q => q = 19 ∨ q = 23) σ (sI (sI σ 23 (13 * i + x) (fst_mv (decide (lo < x)) (decide (x < hi)) H x)) 19 x (nI (mx3 (decide (lo < x)) (decide (x < hi)) H x))) := (onlyI.rf.st (by omega)).st (by omega)
      obtain ⟨σ', e1, e2, e3, e4, e5, e6⟩ := ih (x + 1) k _ (by omega) (by omega) (by omega) (by rw [o.1 15 (by omega)]; exact h10) (by rw [o.1 15 (by omega)]; exact h11) (fun x' a b => by rw [o.1 20 (by omega)]; exact hF x' a b)
      refine ⟨σ', e1, o.tr e2, fun x' a b => ?_, fun x' a b => ?_, fun j hj => ?_, fun j hj => ?_⟩
      · by_cases hx : x' = x
        · rw [e5 x' (by omega), gI_s, hx, upd_s]
        · exact e3 x' (by omega) b
      · by_cases hx : x' = x
        · rw [e6 _ (by omega), gI_n (by decide), gI_s, hx, upd_s]
        · exact e4 x' (by omega) b
      · rw [e5 j (by omega), gI_s, upd_n (by omega), gI_n (by decide)]
      · rw [e6 j (by omega), gI_n (by decide), gI_s, upd_n (by omega)]
theorem e_b36 {g tq r : Nat} {L R : Nat → Nat} (hg : isG g) (V : VG u) (he : ∀ i, e i ≤ 12) (hh : hi ≤ 12) (hlh : lo ≤ hi) (hr : uD u + r ≤ 12) : ∀ (n j : Nat) (σ : Hp), j < n → j ≤ r → CGw σ g u L R → gI σ 15 10 = nI lo → gI σ 15 11 = nI hi → (∀ i, i < r → gI σ 22 i = nI (e i)) → (∀ x, lo ≤ x → x ≤ hi → gI σ 19 x = nI (bsW u e lo hi (r - j) j x)) → (∀ i x, j ≤ i → i < r → lo ≤ x → x ≤ hi → gI σ 23 (13 * i + x) = fst_mv (decide (lo < x)) (decide (x < hi)) (Kw u e lo hi (r - i - 1) i) x) →
    ∃ σ', f_X8_bestOf_36 g tq (nI r) n σ (nI j - 1) = (bd1 (f_X8_followChoices σ' g (nI r)) fun s1 => bd1 (f_X4_endOn s1 g 0) fun r1 => chk (inb r1 169) <| some (s1, gI s1 19 (r1.toNatClampNeg))) ∧ onlyI (fun q => 15 ≤ q ∧ q ≤ 24) σ σ' ∧ (∀ x, lo ≤ x → x ≤ hi → gI σ' 19 x = nI (bsW u e lo hi r 0 x)) ∧ (∀ i x, i < r → lo ≤ x → x ≤ hi → gI σ' 23 (13 * i + x) = fst_mv (decide (lo < x)) (decide (x < hi)) (Kw u e lo hi (r - i - 1) i) x) := by
  intro n
  induction n with
  | zero =>
    intro j σ h1
    omega
  | succ n ih =>
    intro j σ h1 h2 C h10 h11 h22 t19 t23
    rw [f_X8_bestOf_36]
    cases j with
    | zero =>
      rw [if_pos (by decide)]
      exact ⟨σ, rfl, onlyI.rf, t19, fun i x a b c => t23 i x (by omega) a b c⟩
    | succ j =>
      have hj : j < 12 := by omega
      obtain ⟨s1, g1, g2, g3, g4⟩ := e_gather hg V C (d := uD u + j) (by omega)
      obtain ⟨f, a1, a2, -⟩ := e_b59 (lo := lo) (hi := hi) (d := uD u + j) (i := j) (g := g) (tq := tq) (x4 := nI r) (F := fun x => bsW u e lo hi (r - (j + 1)) (j + 1) x) (k36 := f_X8_bestOf_36 g tq (nI r) n) V he hh hj fu lo (hi + 1 - lo) s1 (by omega) (by show _ < 512; omega) g4 (by rw [g3 10 (by decide)]; exact h10) (by rw [g3 11 (by decide)]; exact h11) (by rw [g2.1 22 (by omega)]; exact h22 j (by omega)) (fun x p1 p2 => by rw [g2.1 19 (by omega)]; exact t19 x p1 p2)
      have k10 : gI (rI s1 20 f) 15 10 = nI lo := by rw [gI_rIn (by decide), g3 10 (by decide)]; exact h10
      have k11 : gI (rI s1 20 f) 15 11 = nI hi := by rw [gI_rIn (by decide), g3 11 (by decide)]; exact h11
      have eK : ∀ x, Kw u e lo hi (r - (j + 1)) j x = gts u (uD u + j) x (e j) + bsW u e lo hi (r - (j + 1)) (j + 1) x := fun _ => rfl
      obtain ⟨s3, b1, b2, b3, b4, -, b6⟩ := e_b108 (lo := lo) (hi := hi) (i := j) (g := g) (tq := tq) (x4 := nI r) (H := Kw u e lo hi (r - (j + 1)) j) (k36 := f_X8_bestOf_36 g tq (nI r) n) hh hj (fun x hx => by have := Kw_lt V he (lo := lo) hh (k := r - (j + 1)) (i := j) (by omega) hx; omega) fu lo (hi + 1 - lo) (rI s1 20 f) (by omega) (by show _ < 512; omega) (Nat.le_refl _) k10 k11 (fun x p1 p2 => by rw [gI_rI, a2 x p1 p2, eK])
      have o : onlyI (fun q => 15 ≤ q ∧ q ≤ 24) σ s3 := ((g2.mono (by omega)).row (by omega)).tr (b2.mono (by omega))
      have e15 : ∀ k, k ≠ 3 → gI s3 15 k = gI σ 15 k := fun k hk => by rw [b2.1 15 (by omega), gI_rIn (by decide), g3 k hk]
      have erj : r - j = r - (j + 1) + 1 := by omega
      obtain ⟨σ', d1, d2, d3, d4⟩ := ih j s3 (by omega) (by omega) (C.only o hg (by omega)) (by rw [e15 10 (by decide)]; exact h10) (by rw [e15 11 (by decide)]; exact h11) (fun i hi2 => by rw [b2.1 22 (by omega), gI_rIn (by decide), g2.1 22 (by omega)]; exact h22 i hi2) (fun x p1 p2 => by rw [b3 x p1 p2, erj]; rfl) (fun i x p1 p2 p3 p4 => by
        by_cases hij : i = j
        · rw [hij, b4 x p3 p4, show r - j - 1 = r - (j + 1) by omega]
        · rw [b6 _ (by omega), gI_rIn (by decide), g2.1 23 (by omega)]
          exact t23 i x (by omega) p2 p3 p4)
      refine ⟨σ', ?_, o.tr d2, d3, d4⟩
      rw [nI_pred, if_neg (nI_pos (by omega)), C.2.2.2.1, nI_add, g1, bd1_s, g3 10 (by decide), h10, bnd_s, a1, b1]
      exact d1
end
theorem e_fc9 {u : GD} {e : Nat → Nat} (V : VG u) {g r : Nat} (hr : r ≤ 12) : ∀ (n k : Nat) (σ : Hp), k ≤ r → r < k + n → (∀ i x, i < r → dn (opB u 0) r (uUp u (uD u)) ≤ x → x ≤ ups (opB u 0) r (uUp u (uD u)) → gI σ 23 (13 * i + x) = fst_mv (decide (dn (opB u 0) r (uUp u (uD u)) < x)) (decide (x < ups (opB u 0) r (uUp u (uD u)))) (Kw u e (dn (opB u 0) r (uUp u (uD u))) (ups (opB u 0) r (uUp u (uD u))) (r - i - 1) i) x) → ∃ σ', f_X8_followChoices_9 g (nI r) n σ (nI (aP u e r k)) (nI k) = some σ' ∧ onlyI (fun q => q = 24) σ σ' ∧ (∀ i, k ≤ i → i < r → gI σ' 24 i = aM u e r i) ∧ ∀ i, i < k → gI σ' 24 i = gI σ 24 i := by
  intro n
  induction n with
  | zero =>
    intro k σ h1 h2
    omega
  | succ n ih =>
    intro k σ h1 h2 t23
    rw [f_X8_followChoices_9]
    by_cases hk : k = r
    · rw [if_pos (by rw [hk]; exact nI_le (Nat.le_refl _) (by omega))]
      exact ⟨σ, rfl, onlyI.rf, fun i a b => by omega, fun _ _ => rfl⟩
    · obtain ⟨i1, i2, i3, i4, i5, i6⟩ := aP_spec (e := e) V k h1
      have ik : inb (nI k) 12 := nI_inb (by omega) (by decide)
      rw [if_neg (nI_ge (by omega) (by omega)), c13, chk_s (nI_inb (by omega) (by decide)), chk_s ik, bnd_s, nI_cl (show 13 * k + aP u e r k < 2147483648 by omega), nI_cl (show k < 2147483648 by omega), t23 k _ (by omega) i5 i6, aM_w V (by omega), chk_s ik, gI_s, upd_s, bnd_s, aP_step V h1, nI_1 k]
      obtain ⟨σ', e1, e2, e3, e4⟩ := ih (k + 1) (sI σ 24 k (aM u e r k)) (by omega) (by omega) (fun i x p1 p2 p3 => by rw [gI_n (by decide)]; exact t23 i x p1 p2 p3)
      refine ⟨σ', e1, ((onlyI.rf (S := fun q => q = 24)).st rfl).tr e2, fun i a b => ?_, fun i hi => ?_⟩
      · by_cases hi : i = k
        · rw [e4 i (by omega), gI_s, hi, upd_s]
        · exact e3 i (by omega) b
      · rw [e4 i (by omega), gI_s, upd_n (by omega)]
theorem e_bestC {σ : Hp} {g tq : Nat} {u : GD} {L R : Nat → Nat} (hg : isG g) (V : VG u) (C : CGw σ g u L R) {m : Nat} (hm : m ≤ 12) (htq : tq < 15) {mv : Nat → Int32} (hmv : ∀ i, i < m → gI σ tq i = mv i) : ∃ σ', f_X8_bestOf σ g tq (nI m) = some (σ', nI (bsG u (fun i => bP u mv (i + 1)) (dys u m) 0 (uUp u (uD u)))) ∧ onlyI (fun q => 15 ≤ q ∧ q ≤ 24) σ σ' ∧ ∀ i, i < dys u m → gI σ' 24 i = aM u (fun i => bP u mv (i + 1)) (dys u m) i := by
  have hD := V.1
  have hr : uD u + dys u m ≤ 12 := by unfold dys; omega
  have hrm : dys u m ≤ m := by unfold dys; omega
  obtain ⟨p1, p2⟩ := V.up
  have he : ∀ i, (fun i => bP u mv (i + 1)) i ≤ 12 := fun i => bP_le V (i + 1)
  obtain ⟨s1, r1, r2, r3, RR⟩ := e_reach hg C V (m := dys u m) (by omega)
  have C1 := C.only r2 hg (by omega)
  have l1 := (dn_spec (u := u) (r := 0) (dys u m) (uUp u (uD u))).1
  have t1 := (ups_spec (u := u) (r := 0) (dys u m) (uUp u (uD u))).1
  have t5 := ups_12 (u := u) (r := 0) (m := dys u m) p1
  obtain ⟨s2, f1, f2, f3, -⟩ := e_fr10 hg V (mv := mv) (r := dys u m) (tq := tq) (by omega) htq fu 0 s1 (by omega) (by show _ < 0 + 512; omega) C1 (fun i hi => by rw [r2.1 tq (by omega)]; exact hmv i (by omega))
  have o3 : onlyI (fun q => 15 ≤ q ∧ q ≤ 24) σ (rI s2 19 (fun k => if k < 169 then 0 else gI s2 19 k)) := ((r2.mono (by omega)).tr (f2.mono (by omega))).row (by omega)
  have e15 : gI (rI s2 19 (fun k => if k < 169 then 0 else gI s2 19 k)) 15 = gI s1 15 := by rw [gI_rIn (by decide), f2.1 15 (by omega)]
  obtain ⟨s4, b1, b2, b3, b4⟩ := e_b36 (e := fun i => bP u mv (i + 1)) (tq := tq) hg V he t5 (Nat.le_trans l1 t1) hr fu (dys u m) (rI s2 19 (fun k => if k < 169 then 0 else gI s2 19 k)) (by show _ < 512; omega) (Nat.le_refl _) (C.only o3 hg (by omega)) (by rw [e15]; exact RR.1) (by rw [e15]; exact RR.2.1) (fun i hi => by rw [gI_rIn (by decide)]; exact f3 i (by omega) hi) (fun x q1 q2 => by
    rw [gI_rI, Nat.sub_self]
    show (if x < 169 then (0 : Int32) else _) = nI 0
    rw [if_pos (by omega)]
    rfl) (fun i x q1 q2 => by omega)
  obtain ⟨s5, c1, c2, c3, -⟩ := e_fc9 (e := fun i => bP u mv (i + 1)) V (g := g) (show dys u m ≤ 12 by omega) fu 0 s4 (by omega) (by show _ < 0 + 512; omega) b4
  have o5 : onlyI (fun q => 15 ≤ q ∧ q ≤ 24) σ s5 := (o3.tr b2).tr (c2.mono (by omega))
  refine ⟨s5, ?_, o5, fun i hi => c3 i (by omega) hi⟩
  have fc : f_X8_followChoices s4 g (nI (dys u m)) = some s5 := by
    unfold f_X8_followChoices
    rw [e_end0 (C.only (o3.tr b2) hg (by omega)) V, bd1_s]
    exact c1
  have fr : f_X8_followRight s1 g tq (nI (dys u m)) = some s2 := by
    unfold f_X8_followRight
    rw [e_end1 C1 V, bd1_s]
    exact f1
  unfold f_X8_bestOf
  rw [e_dysC C V hm, bd1_s, r1, bd1_s, fr, bd1_s, e_fill0 (by omega), bd1_s, bnd_s, b1, fc, bd1_s, e_end0 (C.only o5 hg (by omega)) V, bd1_s, chk_s (nI_inb (by omega) (by decide)), nI_cl (by omega), c2.1 19 (by omega), b3 _ l1 t1, bsW_G V.open0 (dys u m) 0 _ l1 t1 (Nat.le_refl _) (Nat.le_refl _)]
