/-! ===== the game's worth: all open neighbours, or those within a reach ===== -/
def mx3 (l h : Bool) (f : Nat → Nat) (a : Nat) : Nat := max (max (if l then f (a - 1) else f a) (f a)) (if h then f (a + 1) else f a)
def mn3 (l h : Bool) (f : Nat → Nat) (a : Nat) : Nat := min (min (if l then f (a - 1) else f a) (f a)) (if h then f (a + 1) else f a)
def Vg (u : GD) : Nat → Nat → Nat → Nat → Nat
  | 0, _, _, _ => 0
  | k + 1, d, a, b => mx3 (opB u 0 ((a : Int) - 1)) (opB u 0 ((a : Int) + 1)) (fun x => mn3 (opB u 1 ((b : Int) - 1)) (opB u 1 ((b : Int) + 1)) (fun y => gts u d x y + Vg u k (d + 1) x y) b) a
def Wg (u : GD) (uf ut lf lt : Nat) : Nat → Nat → Nat → Nat → Nat
  | 0, _, _, _ => 0
  | k + 1, d, a, b => mx3 (decide (uf < a)) (decide (a < ut)) (fun x => mn3 (decide (lf < b)) (decide (b < lt)) (fun y => gts u d x y + Wg u uf ut lf lt k (d + 1) x y) b) a
theorem mx3_le {l h : Bool} {f : Nat → Nat} {a B : Nat} (h1 : l = true → f (a - 1) ≤ B) (h2 : f a ≤ B) (h3 : h = true → f (a + 1) ≤ B) : mx3 l h f a ≤ B := by
  unfold mx3
  cases l <;> cases h <;> simp only [Bool.false_eq_true, if_false, if_true]
  · omega
  · have := h3 rfl
    omega
  · have := h1 rfl
    omega
  · have := h1 rfl
    have := h3 rfl
    omega
theorem mn3_le {l h : Bool} {f : Nat → Nat} {a : Nat} : mn3 l h f a ≤ f a := by
  unfold mn3
  omega
theorem mx3_congr {l l' h h' : Bool} {f g : Nat → Nat} {a : Nat} (hl : l = l') (hh : h = h') (h1 : l = true → f (a - 1) = g (a - 1)) (h2 : f a = g a) (h3 : h = true → f (a + 1) = g (a + 1)) : mx3 l h f a = mx3 l' h' g a := by
  subst hl
  subst hh
  unfold mx3
  rw [h2]
  cases l <;> cases h <;> simp only [Bool.false_eq_true, if_false, if_true]
  · rw [h3 rfl]
  · rw [h1 rfl]
  · rw [h1 rfl, h3 rfl]
theorem mn3_congr {l l' h h' : Bool} {f g : Nat → Nat} {a : Nat} (hl : l = l') (hh : h = h') (h1 : l = true → f (a - 1) = g (a - 1)) (h2 : f a = g a) (h3 : h = true → f (a + 1) = g (a + 1)) : mn3 l h f a = mn3 l' h' g a := by
  subst hl
  subst hh
  unfold mn3
  rw [h2]
  cases l <;> cases h <;> simp only [Bool.false_eq_true, if_false, if_true]
  · rw [h3 rfl]
  · rw [h1 rfl]
  · rw [h1 rfl, h3 rfl]
theorem Vg_le {u : GD} (V : VG u) : ∀ (k d a b : Nat), a ≤ 12 → b ≤ 12 → Vg u k d a b ≤ k * 65862720 := by
  intro k
  induction k with
  | zero => intro d a b _ _; exact Nat.zero_le _
  | succ k ih =>
    intro d a b ha hb
    have st : ∀ x, x ≤ 12 → mn3 (opB u 1 ((b : Int) - 1)) (opB u 1 ((b : Int) + 1)) (fun y => gts u d x y + Vg u k (d + 1) x y) b ≤ (k + 1) * 65862720 := by
      intro x hx
      refine Nat.le_trans mn3_le ?_
      have h1 := Nat.le_trans (gts_alls (u := u) (d := d) hx hb) (alls_le V)
      have h2 := ih (d + 1) x b hx hb
      show gts u d x b + Vg u k (d + 1) x b ≤ (k + 1) * 65862720
      omega
    exact mx3_le (fun h => st _ (by have := opB_lo h; omega)) (st _ ha) (fun h => st _ (by have := opB_lo h; omega))
/-- within a reach of r moves: a neighbour is open where it lies within the reach -/
theorem reach_lo {u : GD} {r m a x : Nat} (ha : opB u r (a : Int) = true) (h1 : dn (opB u r) m a ≤ x) (h2 : x ≤ ups (opB u r) m a) (h3 : a < x + m) : decide (dn (opB u r) m a < x) = opB u r ((x : Int) - 1) := by
  obtain ⟨l1, l2, l3, l4⟩ := dn_spec (u := u) (r := r) m a
  obtain ⟨t1, t2, t3, t4⟩ := ups_spec (u := u) (r := r) m a
  by_cases h : dn (opB u r) m a < x
  · rw [decide_eq_true h]
    rw [show (x : Int) - 1 = ((x - 1 : Nat) : Int) by omega]
    by_cases q : x - 1 < a
    · exact (l3 (x - 1) (by omega) q).symm
    · by_cases q2 : x - 1 = a
      · rw [q2, ha]
      · exact (t3 (x - 1) (by omega) (by omega)).symm
  · rw [decide_eq_false h]
    have e : x = dn (opB u r) m a := by omega
    rcases l4 with l4 | l4
    · omega
    · rw [← e] at l4
      exact l4.symm
theorem reach_hi {u : GD} {r m a x : Nat} (ha : opB u r (a : Int) = true) (h1 : dn (opB u r) m a ≤ x) (h2 : x ≤ ups (opB u r) m a) (h3 : x < a + m) : decide (x < ups (opB u r) m a) = opB u r ((x : Int) + 1) := by
  obtain ⟨l1, l2, l3, l4⟩ := dn_spec (u := u) (r := r) m a
  obtain ⟨t1, t2, t3, t4⟩ := ups_spec (u := u) (r := r) m a
  by_cases h : x < ups (opB u r) m a
  · rw [decide_eq_true h]
    rw [show (x : Int) + 1 = ((x + 1 : Nat) : Int) by omega]
    by_cases q : x + 1 < a
    · exact (l3 (x + 1) (by omega) q).symm
    · by_cases q2 : x + 1 = a
      · rw [q2, ha]
      · exact (t3 (x + 1) (by omega) (by omega)).symm
  · rw [decide_eq_false h]
    have e : x = ups (opB u r) m a := by omega
    rcases t4 with t4 | t4
    · omega
    · rw [← e] at t4
      exact t4.symm
theorem Wg_Vg {u : GD} {m a b : Nat} (ha : opB u 0 (a : Int) = true) (hb : opB u 1 (b : Int) = true) : ∀ (k d x y : Nat), dn (opB u 0) m a ≤ x → x ≤ ups (opB u 0) m a → dn (opB u 1) m b ≤ y → y ≤ ups (opB u 1) m b → a + k ≤ x + m → x + k ≤ a + m → b + k ≤ y + m → y + k ≤ b + m → Wg u (dn (opB u 0) m a) (ups (opB u 0) m a) (dn (opB u 1) m b) (ups (opB u 1) m b) k d x y = Vg u k d x y := by
  intro k
  induction k with
  | zero => intro d x y _ _ _ _ _ _ _ _; rfl
  | succ k ih =>
    intro d x y h1 h2 h3 h4 h5 h6 h7 h8
    have st : ∀ x', dn (opB u 0) m a ≤ x' → x' ≤ ups (opB u 0) m a → a + k ≤ x' + m → x' + k ≤ a + m → mn3 (decide (dn (opB u 1) m b < y)) (decide (y < ups (opB u 1) m b)) (fun y' => gts u d x' y' + Wg u (dn (opB u 0) m a) (ups (opB u 0) m a) (dn (opB u 1) m b) (ups (opB u 1) m b) k (d + 1) x' y') y = mn3 (opB u 1 ((y : Int) - 1)) (opB u 1 ((y : Int) + 1)) (fun y' => gts u d x' y' + Vg u k (d + 1) x' y') y := by
      intro x' q1 q2 q3 q4
      refine mn3_congr (reach_lo hb h3 h4 (by omega)) (reach_hi hb h3 h4 (by omega)) (fun z => ?_) ?_ (fun z => ?_)
      · have z := of_decide_eq_true z
        show _ + Wg u _ _ _ _ k (d + 1) x' (y - 1) = _
        rw [ih (d + 1) x' (y - 1) q1 q2 (by omega) (by omega) q3 q4 (by omega) (by omega)]
      · show _ + Wg u _ _ _ _ k (d + 1) x' y = _
        rw [ih (d + 1) x' y q1 q2 h3 h4 q3 q4 (by omega) (by omega)]
      · have z := of_decide_eq_true z
        show _ + Wg u _ _ _ _ k (d + 1) x' (y + 1) = _
        rw [ih (d + 1) x' (y + 1) q1 q2 (by omega) (by omega) q3 q4 (by omega) (by omega)]
    refine mx3_congr (reach_lo ha h1 h2 (by omega)) (reach_hi ha h1 h2 (by omega)) (fun z => ?_) ?_ (fun z => ?_)
    · have z := of_decide_eq_true z
      exact st (x - 1) (by omega) (by omega) (by omega) (by omega)
    · exact st x h1 h2 (by omega) (by omega)
    · have z := of_decide_eq_true z
      exact st (x + 1) (by omega) (by omega) (by omega) (by omega)
