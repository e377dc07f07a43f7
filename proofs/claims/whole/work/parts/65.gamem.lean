theorem oM_oM {o : Option (Nat × Int32)} {d : Int32} : oM o (oM o d) = oM o d := by cases o <;> rfl
theorem hmS {σ : Hp} {o : Option (Nat × Int32)} {d : Int32} : gI (sI σ 51 23 (oM o d)) 51 23 = oM o (gI (sI σ 51 23 (oM o d)) 51 23) := by rw [gI_s, upd_s, oM_oM]
theorem chS_lt {o : Option (Nat × Int32)} {c : Bool} {v B : Nat} {z : Int32} (ho : ∀ p, o = some p → p.1 < B) (hv : c = true → v < B) : ∀ p, chS o c v z = some p → p.1 < B := by
  intro p hp
  cases c with
  | false => exact ho p hp
  | true =>
    have hv := hv rfl
    cases o with
    | none =>
      cases hp
      exact hv
    | some w =>
      obtain ⟨w, y⟩ := w
      have hp : (if v ≤ w then some (w, y) else some (v, z)) = some p := hp
      by_cases h : v ≤ w
      · rw [if_pos h] at hp
        cases hp
        exact ho _ rfl
      · rw [if_neg h] at hp
        cases hp
        exact hv
/-- the first move that reaches the most -/
def fst_mv (l h : Bool) (H : Nat → Nat) (a : Nat) : Int32 := if l = true ∧ H (a - 1) = mx3 l h H a then -1 else if H a = mx3 l h H a then 0 else 1
theorem chS_all (l h : Bool) (H : Nat → Nat) (a : Nat) : chS (chS (chS none l (H (a - 1)) (-1)) true (H a) 0) h (H (a + 1)) 1 = some (mx3 l h H a, fst_mv l h H a) := by
  unfold fst_mv mx3
  generalize H (a - 1) = x
  generalize H (a + 1) = z
  generalize H a = y
  cases l <;> cases h
  · show some (y, (0 : Int32)) = _
    simp only [Bool.false_eq_true, if_false, false_and, Nat.max_self, if_true]
  · show (if z ≤ y then some (y, (0 : Int32)) else some (z, 1)) = _
    simp only [Bool.false_eq_true, if_false, if_true, false_and, Nat.max_self]
    by_cases h : z ≤ y
    · rw [if_pos h, Nat.max_eq_left h, if_pos rfl]
    · rw [if_neg h, Nat.max_eq_right (show y ≤ z by omega), if_neg (show ¬ y = z by omega)]
  · show (if y ≤ x then some (x, (-1 : Int32)) else some (y, 0)) = _
    simp only [Bool.false_eq_true, if_false, if_true, true_and]
    rw [show max (max x y) y = max x y by omega]
    by_cases h : y ≤ x
    · rw [if_pos h, Nat.max_eq_left h, if_pos rfl]
    · rw [if_neg h, Nat.max_eq_right (show x ≤ y by omega), if_neg (show ¬ x = y by omega), if_pos rfl]
  · show chS (if y ≤ x then some (x, (-1 : Int32)) else some (y, 0)) true z 1 = _
    simp only [if_true, true_and]
    by_cases h : y ≤ x
    · rw [if_pos h]
      show (if z ≤ x then some (x, (-1 : Int32)) else some (z, 1)) = _
      rw [Nat.max_eq_left h]
      by_cases k : z ≤ x
      · rw [if_pos k, Nat.max_eq_left k, if_pos rfl]
      · rw [if_neg k, Nat.max_eq_right (show x ≤ z by omega), if_neg (show ¬ x = z by omega), if_neg (show ¬ y = z by omega)]
    · rw [if_neg h]
      show (if z ≤ y then some (y, (0 : Int32)) else some (z, 1)) = _
      rw [Nat.max_eq_right (show x ≤ y by omega)]
      by_cases k : z ≤ y
      · rw [if_pos k, Nat.max_eq_left k, if_neg (show ¬ x = y by omega), if_pos rfl]
      · rw [if_neg k, Nat.max_eq_right (show y ≤ z by omega), if_neg (show ¬ x = z by omega), if_neg (show ¬ y = z by omega)]
theorem e_chooses {σ : Hp} {u : GD} (M : MG (gI σ 52) u) (V : VG u) {a b : Nat} (ha : a ≤ 12) (oa : opB u 0 (a : Int) = true) {H : Nat → Nat} (hH : ∀ x : Nat, x ≤ 12 → H x < 2 ^ 62) (hL : ∀ (v : Int32) (x : Nat), x ≤ 12 → opB u 0 (x : Int) = true → f_X12_leaves (sI σ 51 23 v) (nI x) (nI b) = some (lN (H x))) : f_X12_chooses σ (nI a) (nI b) = some (sI σ 51 23 (fst_mv (opB u 0 ((a : Int) - 1)) (opB u 0 ((a : Int) + 1)) H a), lN (mx3 (opB u 0 ((a : Int) - 1)) (opB u 0 ((a : Int) + 1)) H a)) := by
  have z0 : (nI a + (-1)).toInt = (a : Int) - 1 := by rw [m1_add]; exact nI_s1 (by omega)
  have z1 : (nI a + 0).toInt = (a : Int) := by rw [Int32.add_zero]; exact nI_toInt (by omega)
  have z2 : (nI a + 1).toInt = (a : Int) + 1 := nI_a1 (by omega)
  have hL0 : ∀ x : Nat, x ≤ 12 → opB u 0 (x : Int) = true → f_X12_leaves σ (nI x) (nI b) = some (lN (H x)) := fun x hx ho => by
    have := hL (gI σ 51 23) x hx ho
    rw [sI_id] at this
    exact this
  have M' : ∀ v, MG (gI (sI σ 51 23 v) 52) u := fun v => by rw [gI_n (by decide)]; exact M
  have b1 : ∀ p, chS none (opB u 0 ((a : Int) - 1)) (H (a - 1)) (-1) = some p → p.1 < 2 ^ 62 := chS_lt (fun p h => by cases h) (fun _ => hH (a - 1) (by omega))
  have b2 : ∀ p, chS (chS none (opB u 0 ((a : Int) - 1)) (H (a - 1)) (-1)) true (H a) 0 = some p → p.1 < 2 ^ 62 := chS_lt b1 (fun _ => hH a ha)
  unfold f_X12_chooses
  show f_X12_chooses_7 (nI a) (nI b) (508 + 1 + 1 + 1 + 1) σ (oC none) (-1) = _
  rw [e_ch7 M V hH hL0 _ (o := none) (fun p h => by cases h) rfl (show (-1 : Int32).toInt ≤ 1 by decide), z0, show ((a : Int) - 1).toNat = a - 1 by omega, show (-1 : Int32) + 1 = 0 from rfl]
  rw [e_ch7 (M' _) V hH (hL _) _ b1 hmS (show (0 : Int32).toInt ≤ 1 by decide), z1, oa, Int.toNat_natCast, show (0 : Int32) + 1 = 1 from rfl, sI_sI]
  rw [e_ch7 (M' _) V hH (hL _) _ b2 hmS (show (1 : Int32).toInt ≤ 1 by decide), z2, show ((a : Int) + 1).toNat = a + 1 by omega, chS_all, sI_sI, f_X12_chooses_7, if_pos (by decide)]
  rfl
