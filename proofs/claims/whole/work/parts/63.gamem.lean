/-- the least over the open neighbours -/
theorem lN_neg1 {n : Nat} (h : n < 2 ^ 62) : ¬ lg_cmp (lN n) (0 : Int64) < 0 := by
  rw [lg_cmp_lt]
  show ¬ lN n < lN 0
  rw [pk_lLT (by omega) (by decide)]
  omega
theorem m1_neg : lg_cmp (-1 : Int64) (0 : Int64) < 0 := by decide
def mnO (o : Option Nat) (v : Nat) : Nat := match o with
  | none => v
  | some w => min w v
def oJ (o : Option Nat) : Int64 := match o with
  | none => -1
  | some w => lN w
theorem e_lv58 {σ : Hp} {x1 x2 z : Int32} {k9 : Int64 → Int32 → Option Int64} {o : Option Nat} (ho : ∀ w, o = some w → w < 2 ^ 62) {v : Nat} (hv : v < 2 ^ 62) : f_X12_leaves_58 k9 σ x1 x2 (oJ o) z (lN v) = k9 (oJ (some (mnO o v))) (z + 1) := by
  unfold f_X12_leaves_58
  rw [if_neg (lN_neg1 hv)]
  cases o with
  | none =>
    rw [if_pos (show lg_cmp (oJ none) 0 < 0 from m1_neg)]
    rfl
  | some w =>
    have hw := ho w rfl
    rw [if_neg (show ¬ lg_cmp (oJ (some w)) 0 < 0 from lN_neg1 hw)]
    show (if 0 ≤ lg_cmp (lN v) (lN w) then k9 (lN w) (z + 1) else k9 (lN v) (z + 1)) = k9 (lN (min w v)) (z + 1)
    by_cases q : w ≤ v
    · rw [if_pos (by rw [lg_cmp_ge, pk_lLE (by omega) (by omega)]; exact q), Nat.min_eq_left q]
    · rw [if_neg (by rw [lg_cmp_ge, pk_lLE (by omega) (by omega)]; exact q), Nat.min_eq_right (by omega)]
theorem e_lvS {σ : Hp} {x1 x2 z : Int32} {k9 : Int64 → Int32 → Option Int64} {y : Int64} : f_X12_leaves_58 k9 σ x1 x2 y z (-1) = k9 y (z + 1) := by
  unfold f_X12_leaves_58
  rw [if_pos m1_neg]
theorem e_lv9 {σ : Hp} {u : GD} (M : MG (gI σ 52) u) (V : VG u) {x b : Nat} (hx : x ≤ 12) (hb : b ≤ 12) {F : Nat → Nat} (hF : ∀ y : Nat, y ≤ 12 → F y < 2 ^ 62) (hT : ∀ y : Nat, y ≤ 12 → opB u 1 (y : Int) = true → gJ σ 60 (13 * x + y) + gJ σ 61 (13 * x + y) = lN (F y)) (n : Nat) {o : Option Nat} (ho : ∀ w, o = some w → w < 2 ^ 62) {z : Int32} (hz : z.toInt ≤ (b : Int) + 1) : f_X12_leaves_9 σ (nI x) (nI b) (n + 1) (oJ o) z = f_X12_leaves_9 σ (nI x) (nI b) n (oJ (if opB u 1 z.toInt = true then some (mnO o (F z.toInt.toNat)) else o)) (z + 1) := by
  rw [f_X12_leaves_9, if_neg (by rw [tI_lt, nI_a1 (by omega)]; omega), show f_X12_mayBe σ 1 z = _ from e_may M V (r := 1) (by omega) z, bd1_s]
  cases h : opB u 1 z.toInt with
  | false =>
    rw [if_pos (by decide), e_lvS, if_neg (by decide)]
  | true =>
    obtain ⟨y, hy, rfl, -⟩ := opB_nI h
    have ey : (nI y).toInt = (y : Int) := nI_toInt (by omega)
    rw [if_neg (by decide), c13, chk_s (nI_inb (by omega) (by decide)), chk_s (nI_inb (by omega) (by decide)), nI_cl (by omega), hT y hy (by rw [ey] at h; exact h), e_lv58 ho (hF y hy), if_pos rfl, ey, Int.toNat_natCast]
theorem e_leaves {σ : Hp} {u : GD} (M : MG (gI σ 52) u) (V : VG u) {x b : Nat} (hx : x ≤ 12) (hb : b ≤ 12) (ob : opB u 1 (b : Int) = true) {F : Nat → Nat} (hF : ∀ y : Nat, y ≤ 12 → F y < 2 ^ 62) (hT : ∀ y : Nat, y ≤ 12 → opB u 1 (y : Int) = true → gJ σ 60 (13 * x + y) + gJ σ 61 (13 * x + y) = lN (F y)) : f_X12_leaves σ (nI x) (nI b) = some (lN (mn3 (opB u 1 ((b : Int) - 1)) (opB u 1 ((b : Int) + 1)) F b)) := by
  have z0 : (nI b - 1).toInt = (b : Int) - 1 := nI_s1 (by omega)
  have z1 : nI b - 1 + 1 = nI b := by
    rw [tI_eq, tI_add (by rw [z0]; show _ ≤ (b : Int) - 1 + 1; omega) (by rw [z0]; show (b : Int) - 1 + 1 < _; omega), z0, nI_toInt (by omega)]
    show (b : Int) - 1 + 1 = b
    omega
  have zb : (nI b).toInt = (b : Int) := nI_toInt (by omega)
  have zb1 : (nI (b + 1)).toInt = (b : Int) + 1 := by rw [nI_toInt (by omega)]; omega
  unfold f_X12_leaves
  rw [bnd_s]
  show f_X12_leaves_9 σ (nI x) (nI b) (508 + 1 + 1 + 1 + 1) (oJ none) (nI b - 1) = _
  rw [e_lv9 M V hx hb hF hT _ (o := none) (fun w h => by cases h) (by rw [z0]; omega), z0, z1]
  unfold mn3
  cases h1 : opB u 1 ((b : Int) - 1) with
  | true =>
    have q := opB_lo h1
    have e1 : ((b : Int) - 1).toNat = b - 1 := by omega
    have f1 := hF (b - 1) (by omega)
    have f0 := hF b hb
    rw [if_pos rfl, e1, e_lv9 M V hx hb hF hT _ (fun w h => by cases h; exact f1) (by rw [zb]; omega), zb, ob, if_pos rfl, Int.toNat_natCast, nI_1, e_lv9 M V hx hb hF hT _ (fun w h => by cases h; show min (F (b - 1)) (F b) < _; omega) (by rw [zb1]; omega), zb1, nI_1]
    cases h2 : opB u 1 ((b : Int) + 1) with
    | true =>
      rw [if_pos rfl, show ((b : Int) + 1).toNat = b + 1 by omega, f_X12_leaves_9, nI_1, if_pos (nI_lt (by omega) (by omega))]
      simp only [if_true]
      rfl
    | false =>
      rw [if_neg (by decide), f_X12_leaves_9, nI_1, if_pos (nI_lt (by omega) (by omega))]
      simp only [if_true, Bool.false_eq_true, if_false]
      show some (lN (min (F (b - 1)) (F b))) = _
      congr 2
      omega
  | false =>
    have f0 := hF b hb
    rw [if_neg (by decide), e_lv9 M V hx hb hF hT _ (o := none) (fun w h => by cases h) (by rw [zb]; omega), zb, ob, if_pos rfl, Int.toNat_natCast, nI_1, e_lv9 M V hx hb hF hT _ (fun w h => by cases h; exact f0) (by rw [zb1]; omega), zb1, nI_1]
    cases h2 : opB u 1 ((b : Int) + 1) with
    | true =>
      rw [if_pos rfl, show ((b : Int) + 1).toNat = b + 1 by omega, f_X12_leaves_9, nI_1, if_pos (nI_lt (by omega) (by omega))]
      simp only [if_true, Bool.false_eq_true, if_false]
      show some (lN (min (F b) (F (b + 1)))) = _
      congr 2
      omega
    | false =>
      rw [if_neg (by decide), f_X12_leaves_9, nI_1, if_pos (nI_lt (by omega) (by omega))]
      simp only [Bool.false_eq_true, if_false]
      show some (lN (F b)) = _
      congr 2
      omega
