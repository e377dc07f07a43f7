/-! ===== SHARE, in 55440ths ===== -/
theorem hy_nI : ∀ k, k < 13 → 1 ≤ k → hyI k = nI (55440 / (2 * k)) := by decide +kernel
theorem hy_full : ∀ k, k < 13 → 1 ≤ k → (2 * k) * (55440 / (2 * k)) = 55440 := by decide +kernel
theorem hy_le : ∀ k, k < 13 → 55440 / (2 * k) ≤ 27720 := by decide +kernel
theorem e_shareC {σ : Hp} {a b x : Nat} (ha : a ≤ 12) (hb : b ≤ 12) (hx : x ≤ 100) : f_X11_shareOf σ (nI a) (nI b) (nI x) = some (nI (shr x a b)) := by
  have e1 : (if nI b < nI a then nI b else nI a) = nI (min a b) := by
    by_cases h : b < a
    · rw [if_pos (nI_lt h (by omega)), Nat.min_eq_right (by omega)]
    · rw [if_neg (nI_nlt (by omega) (by omega)), Nat.min_eq_left (by omega)]
  have e2 : (if nI a < nI b then nI b else nI a) = nI (max a b) := by
    by_cases h : a < b
    · rw [if_pos (nI_lt h (by omega)), Nat.max_eq_right (by omega)]
    · rw [if_neg (nI_nlt (by omega) (by omega)), Nat.max_eq_left (by omega)]
  have h1 : min a b ≤ max a b := by omega
  have h2 : max a b ≤ 12 := by omega
  unfold f_X11_shareOf shr
  rw [bnd_s, bnd_s, bnd_s, e1, e2]
  generalize min a b = lo at h1 ⊢
  generalize max a b = hi at h1 h2 ⊢
  rw [pk_sub h1]
  by_cases k1 : hi ≤ x
  · rw [if_neg (nI_nlt k1 (by omega)), if_pos k1]
    rfl
  · rw [if_pos (nI_lt (by omega) (by omega)), if_neg k1]
    by_cases k2 : x < lo
    · rw [if_pos (nI_lt k2 (by omega)), if_pos k2]
      rfl
    · rw [if_neg (nI_nlt (by omega) (by omega)), if_neg k2, if_neg (show ¬ nI (hi - lo) < 1 from nI_nlt (b := 1) (by omega) (by omega)), if_pos (show nI (hi - lo) < 13 from nI_lt (b := 13) (by omega) (by decide)), chk_s (nI_inb (by omega) (by decide)), nI_cl (by omega), hy_nI _ (by omega) (by omega), pk_sub (by omega), show (2 : Int32) = nI 2 from rfl, pk_mul, show (1 : Int32) = nI 1 from rfl, pk_sub (by omega), pk_mul]
theorem e_share46 {σ : Hp} {x lo hi : Nat} (h1 : lo < hi) (h2 : hi ≤ 12) (hx : x ≤ 100) : ∀ (n k acc : Nat), lo ≤ k → k ≤ hi → hi < k + n → f_X12_shareOf_46 σ (nI x) (nI lo) (nI hi) n (nI acc) (nI k) = some (nI ((acc + (if x < k then 2 * (hi - k) else if x < hi then 2 * (hi - x) - 1 else 0)) * (55440 / (2 * (hi - lo))))) := by
  intro n
  induction n with
  | zero =>
    intro k acc a1 a2 a3
    omega
  | succ n ih =>
    intro k acc a1 a2 a3
    rw [f_X12_shareOf_46]
    have d : (2 : Int32) * (nI hi - nI lo) = nI (2 * (hi - lo)) := by rw [pk_sub (by omega), show (2 : Int32) = nI 2 from rfl, pk_mul]
    by_cases hk : k = hi
    · subst hk
      rw [if_pos (nI_le (Nat.le_refl _) (by omega)), d, chk_s (nI_ne0 (by omega) (by omega)), show (55440 : Int32) = nI 55440 from rfl, pk_div (by decide) (by omega) (by omega), pk_mul]
      congr 3
      by_cases q : x < k
      · rw [if_pos q, Nat.sub_self]
        rfl
      · rw [if_neg q, if_neg q]
        rfl
    · rw [if_neg (nI_ge (by omega) (by omega)), nI_1 k]
      by_cases q1 : k ≤ x
      · rw [if_pos (nI_le q1 (by omega))]
        by_cases q2 : k = x
        · rw [if_pos (by rw [q2]), bnd_s, nI_1 acc, ih (k + 1) (acc + 1) (by omega) (by omega) (by omega)]
          congr 3
          rw [if_pos (show x < k + 1 by omega), if_neg (show ¬ x < k by omega), if_pos (show x < hi by omega)]
          omega
        · rw [if_neg (by rw [nI_eq (by omega) (by omega)]; exact q2), bnd_s, show (0 : Int32) = nI 0 from rfl, nI_add, ih (k + 1) (acc + 0) (by omega) (by omega) (by omega)]
          congr 3
          rw [if_neg (show ¬ x < k + 1 by omega), if_neg (show ¬ x < k by omega)]
          rfl
      · rw [if_neg (nI_ge (by omega) (by omega)), bnd_s, show (2 : Int32) = nI 2 from rfl, nI_add, ih (k + 1) (acc + 2) (by omega) (by omega) (by omega)]
        congr 3
        rw [if_pos (show x < k + 1 by omega), if_pos (show x < k by omega)]
        omega
theorem e_shareM {σ : Hp} {a b x : Nat} (ha : a ≤ 12) (hb : b ≤ 12) (hx : x ≤ 100) : f_X12_shareOf σ (nI x) (nI a) (nI b) = some (nI (shr x a b)) := by
  have fin : ∀ lo hi, lo < hi → hi ≤ 12 → some (nI ((0 + (if x < lo then 2 * (hi - lo) else if x < hi then 2 * (hi - x) - 1 else 0)) * (55440 / (2 * (hi - lo))))) = some (nI (if hi ≤ x then 0 else if x < lo then 55440 else (2 * (hi - x) - 1) * (55440 / (2 * (hi - lo))))) := by
    intro lo hi h1 h2
    congr 2
    rw [Nat.zero_add]
    by_cases k1 : hi ≤ x
    · rw [if_neg (show ¬ x < lo by omega), if_neg (show ¬ x < hi by omega), if_pos k1, Nat.zero_mul]
    · rw [if_neg k1]
      by_cases k2 : x < lo
      · rw [if_pos k2, if_pos k2, hy_full _ (by omega) (by omega)]
      · rw [if_neg k2, if_neg k2, if_pos (show x < hi by omega)]
  unfold f_X12_shareOf f_X12_shareOf_27 shr
  by_cases h0 : a = b
  · subst h0
    rw [if_pos rfl, Nat.max_self, Nat.min_self]
    by_cases k1 : a ≤ x
    · rw [if_pos (nI_le k1 (by omega)), if_pos k1]
      rfl
    · rw [if_neg (nI_ge (by omega) (by omega)), if_neg k1, if_pos (show x < a by omega)]
      rfl
  · rw [if_neg (by rw [nI_eq (by omega) (by omega)]; exact h0)]
    by_cases h1 : b ≤ a
    · have e := e_share46 (σ := σ) (show b < a by omega) ha hx fu b 0 (Nat.le_refl _) h1 (by show a < b + 512; omega)
      rw [if_pos (nI_le h1 (by omega)), if_pos (nI_le h1 (by omega)), Nat.max_eq_left h1, Nat.min_eq_right h1, ← fin b a (by omega) ha]
      exact e
    · have e := e_share46 (σ := σ) (show a < b by omega) hb hx fu a 0 (Nat.le_refl _) (by omega) (by show b < a + 512; omega)
      rw [if_neg (nI_ge (by omega) (by omega)), if_neg (nI_ge (by omega) (by omega)), Nat.max_eq_right (by omega), Nat.min_eq_left (by omega), ← fin a b (by omega) hb]
      exact e
theorem shr_le {a b x : Nat} (ha : a ≤ 12) (hb : b ≤ 12) : shr x a b ≤ 55440 := by
  unfold shr
  by_cases k1 : max a b ≤ x
  · rw [if_pos k1]
    omega
  · rw [if_neg k1]
    by_cases k2 : x < min a b
    · rw [if_pos k2]
      omega
    · rw [if_neg k2]
      have e := hy_full (max a b - min a b) (by omega) (by omega)
      have : (2 * (max a b - x) - 1) * (55440 / (2 * (max a b - min a b))) ≤ (2 * (max a b - min a b)) * (55440 / (2 * (max a b - min a b))) := Nat.mul_le_mul_right _ (by omega)
      omega
theorem shr2_le {so a b x : Nat} (ha : a ≤ 12) (hb : b ≤ 12) : shr2 so x a b ≤ 55440 := by
  unfold shr2
  have := shr_le (x := x) ha hb
  repeat' split
  all_goals omega
/-! ===== a fraction in lowest terms ===== -/
theorem mod_half {b r k : Nat} (hb : b < 2 ^ (k + 1)) (hr : 0 < r) (hrb : r < b) : b % r < 2 ^ k := by
  have e : 2 ^ (k + 1) = 2 * 2 ^ k := by rw [Nat.pow_succ, Nat.mul_comm]
  by_cases h : r ≤ 2 ^ k
  · exact Nat.lt_of_lt_of_le (Nat.mod_lt _ hr) h
  · rw [Nat.mod_eq_sub_mod (by omega), Nat.mod_eq_of_lt (by omega)]
    omega
theorem mx1 {a : Nat} (ha : a < 2147483648) : (if 1 < nI a then nI a else 1) = nI (max 1 a) := by
  by_cases h : 1 < a
  · rw [if_pos (show (1 : Int32) < nI a from nI_lt (a := 1) h ha), Nat.max_eq_right (by omega)]
  · rw [if_neg (show ¬ (1 : Int32) < nI a from nI_nlt (b := a) (a := 1) (by omega) (by decide)), Nat.max_eq_left (by omega)]
    rfl
theorem e_cd7 {σ : Hp} : ∀ (k n a b c : Nat), b < 2 ^ k → a < 2147483648 → b < 2147483648 → c + 2 * k ≤ 64 → 2 * k < n → f_X11_commonDivisor_7 σ n (nI a) (nI b) (nI c) = some (nI (max 1 (Nat.gcd a b))) := by
  intro k
  induction k with
  | zero =>
    intro n a b c h1 h2 h3 h4 h5
    cases n with
    | zero => omega
    | succ n =>
      have hb : b = 0 := by simpa using h1
      subst hb
      rw [f_X11_commonDivisor_7, if_pos (show nI 0 = 0 from rfl), mx1 h2, Nat.gcd_zero_right]
      by_cases hc : (64 : Int32) ≤ nI c
      · rw [if_pos hc]
      · rw [if_neg hc]
  | succ k ih =>
    intro n a b c h1 h2 h3 h4 h5
    cases n with
    | zero => omega
    | succ n =>
      rw [f_X11_commonDivisor_7, if_neg (show ¬ (64 : Int32) ≤ nI c from nI_ge (b := 64) (by omega) (by decide))]
      by_cases hb : b = 0
      · subst hb
        rw [if_pos (show nI 0 = 0 from rfl), mx1 h2, Nat.gcd_zero_right]
      · rw [if_neg (nI_ne0 (by omega) h3), chk_s (nI_ne0 (by omega) h3), bnd_s, pk_rem h2 (by omega) h3, nI_1 c]
        have hm : a % b < b := Nat.mod_lt _ (by omega)
        cases n with
        | zero => omega
        | succ n =>
          rw [f_X11_commonDivisor_7, if_neg (show ¬ (64 : Int32) ≤ nI (c + 1) from nI_ge (b := 64) (by omega) (by decide))]
          by_cases hr : a % b = 0
          · rw [hr, if_pos (show nI 0 = 0 from rfl), mx1 h3, show Nat.gcd a b = b by rw [Nat.gcd_comm, Nat.gcd_rec, hr, Nat.gcd_zero_left]]
          · rw [if_neg (nI_ne0 (by omega) (by omega)), chk_s (nI_ne0 (by omega) (by omega)), bnd_s, pk_rem h3 (by omega) (by omega), nI_1 (c + 1), ih n (a % b) (b % (a % b)) (c + 1 + 1) (mod_half h1 (by omega) hm) (by omega) (Nat.lt_of_lt_of_le (Nat.mod_lt _ (by omega)) (by omega)) (by omega) (by omega)]
            congr 3
            rw [Nat.gcd_comm (a % b), ← Nat.gcd_rec (a % b) b, Nat.gcd_comm a b, Nat.gcd_rec b a]
theorem e_part {σ : Hp} {y0 y2 : Int64} {x4 : Int32} : ∀ (k n a b : Nat), b < 2 ^ k → a < 2 ^ 63 → b < 2 ^ 63 → 0 < Nat.gcd a b → 2 * k < n → f_X12_part_17 σ y0 y2 x4 n (lN a) (lN b) = some (if x4 = 0 then y0 / lN (Nat.gcd a b) else y2 / lN (Nat.gcd a b)) := by
  have fin : ∀ (n a : Nat), a < 2 ^ 63 → 0 < a → f_X12_part_17 σ y0 y2 x4 (n + 1) (lN a) (lN 0) = some (if x4 = 0 then y0 / lN a else y2 / lN a) := by
    intro n a h1 h2
    have hne : ¬ lN a = 0 := by
      show ¬ lN a = lN 0
      rw [pk_lEQ h1 (by decide)]
      omega
    rw [f_X12_part_17, if_pos (by rw [lg_cmp_eq]; rfl), chk_s hne, chk_s hne]
    by_cases hx : x4 = 0
    · rw [if_pos hx, if_pos hx]
    · rw [if_neg hx, if_neg hx]
  have st : ∀ (n a b : Nat), a < 2 ^ 63 → b < 2 ^ 63 → 0 < b → f_X12_part_17 σ y0 y2 x4 (n + 1) (lN a) (lN b) = f_X12_part_17 σ y0 y2 x4 n (lN b) (lN (a % b)) := by
    intro n a b h1 h2 h3
    have hne : ¬ lN b = 0 := by
      show ¬ lN b = lN 0
      rw [pk_lEQ h2 (by decide)]
      omega
    rw [f_X12_part_17, if_neg (by rw [lg_cmp_eq]; exact hne), chk_s hne, bnd_s, pk_lRem h1 h3 h2]
  intro k
  induction k with
  | zero =>
    intro n a b h1 h2 h3 h4 h5
    cases n with
    | zero => omega
    | succ n =>
      have hb : b = 0 := by simpa using h1
      subst hb
      rw [Nat.gcd_zero_right] at h4 ⊢
      exact fin n a h2 h4
  | succ k ih =>
    intro n a b h1 h2 h3 h4 h5
    cases n with
    | zero => omega
    | succ n =>
      by_cases hb : b = 0
      · subst hb
        rw [Nat.gcd_zero_right] at h4 ⊢
        exact fin n a h2 h4
      · have hm : a % b < b := Nat.mod_lt _ (by omega)
        rw [st n a b h2 h3 (by omega)]
        cases n with
        | zero => omega
        | succ n =>
          by_cases hr : a % b = 0
          · rw [hr, fin n b h3 (by omega), show Nat.gcd a b = b by rw [Nat.gcd_comm, Nat.gcd_rec, hr, Nat.gcd_zero_left]]
          · have eg : Nat.gcd (a % b) (b % (a % b)) = Nat.gcd a b := by rw [Nat.gcd_comm (a % b), ← Nat.gcd_rec (a % b) b, Nat.gcd_comm a b, Nat.gcd_rec b a]
            rw [st n b (a % b) h3 (by omega) (by omega), ih n (a % b) (b % (a % b)) (mod_half h1 (by omega) hm) (by omega) (Nat.lt_of_lt_of_le (Nat.mod_lt _ (by omega)) (by omega)) (by rw [eg]; exact h4) (by omega), eg]
theorem q_div (x : Int32) (g : Nat) (hg : g < 2147483648) : (x.toInt64 / lN g).toInt32 = x / nI g := by
  rw [tI_eq, Int64.toInt_toInt32, Int64.toInt_div, Int32.toInt_div, Int32.toInt_toInt64, lN_toInt hg, nI_toInt hg, Int.bmod_bmod_of_dvd (by decide)]
theorem e_frac {σ σ' : Hp} {x : Int32} {y : Int64} (h : y.toInt = x.toInt) (hx : -2147483648 < x.toInt) (s : Int32) : Same (f_X11_fraction σ x s) (f_X12_told σ' y s) := by
  have hy : y = x.toInt64 := by
    apply Int64.toInt_inj.mp
    rw [h, Int32.toInt_toInt64]
  have hi := tI_hi x
  have e1 : (if 0 ≤ x then x else 0 - x) = nI x.toInt.natAbs := by
    by_cases k : 0 ≤ x
    · rw [if_pos k, tI_eq, nI_toInt (by omega)]
      rw [tI_le] at k
      have k : 0 ≤ x.toInt := k
      omega
    · rw [if_neg k, tI_eq, nI_toInt (by omega)]
      rw [tI_le] at k
      have k : ¬ 0 ≤ x.toInt := k
      rw [tI_sub (by show _ ≤ 0 - x.toInt; omega) (by show 0 - x.toInt < _; omega)]
      show 0 - x.toInt = _
      omega
  have hg : 0 < Nat.gcd x.toInt.natAbs 55440 := Nat.gcd_pos_of_pos_right _ (by decide)
  have hg2 : Nat.gcd x.toInt.natAbs 55440 ≤ 55440 := Nat.gcd_le_right _ (by decide)
  have c : f_X11_commonDivisor σ (nI x.toInt.natAbs) 55440 = some (nI (Nat.gcd x.toInt.natAbs 55440)) := by
    have := e_cd7 (σ := σ) 16 fu x.toInt.natAbs 55440 0 (by decide) (by omega) (by decide) (by decide) (by decide)
    rw [Nat.max_eq_right hg] at this
    exact this
  have p : f_X12_part σ' y 55440 s = some (if s = 0 then y / lN (Nat.gcd x.toInt.natAbs 55440) else 55440 / lN (Nat.gcd x.toInt.natAbs 55440)) := by
    have q := e_part (σ := σ') (y0 := y) (y2 := 55440) (x4 := s) 16 fu x.toInt.natAbs 55440 (by decide) (by omega) (by decide) hg (by decide)
    unfold f_X12_part
    by_cases k : 0 ≤ lg_cmp y (0 : Int64)
    · rw [if_pos k]
      rw [lg_cmp_ge, Int64.le_iff_toInt_le, h] at k
      have k : 0 ≤ x.toInt := k
      have : y = lN x.toInt.natAbs := by
        apply Int64.toInt_inj.mp
        rw [h, lN_toInt (by omega)]
        omega
      rw [← q, ← this]
      rfl
    · rw [if_neg k, bnd_s]
      rw [lg_cmp_ge, Int64.le_iff_toInt_le, h] at k
      have k : ¬ 0 ≤ x.toInt := k
      have : -y = lN x.toInt.natAbs := by
        apply Int64.toInt_inj.mp
        rw [Int64.toInt_neg, h, lN_toInt (by omega), Int.bmod_eq_of_le (by omega) (by omega)]
        omega
      rw [← q, ← this]
      rfl
  unfold f_X11_fraction f_X12_told
  rw [e1, c, bd1_s, p, bd1_s]
  have hne := nI_ne0 hg (by omega)
  by_cases hs : s = 0
  · rw [if_pos hs, if_pos hs, chk_s hne]
    exact ⟨_, rfl, by rw [hy, q_div _ _ (by omega)]⟩
  · rw [if_neg hs, if_neg hs, chk_s hne]
    refine ⟨_, rfl, ?_⟩
    have := q_div 55440 (Nat.gcd x.toInt.natAbs 55440) (by omega)
    rw [← this]
    rfl
