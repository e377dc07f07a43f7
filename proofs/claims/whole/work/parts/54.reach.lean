/-! ===== how far an end may come ===== -/
def dn (p : Int → Bool) : Nat → Nat → Nat
  | 0, a => a
  | m + 1, a => if p ((a : Int) - 1) then dn p m (a - 1) else a
def ups (p : Int → Bool) : Nat → Nat → Nat
  | 0, a => a
  | m + 1, a => if p ((a : Int) + 1) then ups p m (a + 1) else a
theorem dn_f {p : Int → Bool} {m a : Nat} (h : p ((a : Int) - 1) = false) : dn p m a = a := by
  cases m with
  | zero => rfl
  | succ m => show (if p ((a : Int) - 1) then _ else a) = a; rw [h]; rfl
theorem opB_lo {u : GD} {r : Nat} {z : Int} (h : opB u r z = true) : 0 ≤ z ∧ z ≤ 12 := ⟨(opB_iff.mp h).1, (opB_iff.mp h).2.1⟩
theorem dn_spec {u : GD} {r : Nat} : ∀ (m a : Nat), dn (opB u r) m a ≤ a ∧ a ≤ dn (opB u r) m a + m ∧ (∀ x : Nat, dn (opB u r) m a ≤ x → x < a → opB u r (x : Int) = true) ∧ (a = dn (opB u r) m a + m ∨ opB u r ((dn (opB u r) m a : Int) - 1) = false) := by
  intro m
  induction m with
  | zero =>
    intro a
    exact ⟨Nat.le_refl _, Nat.le_refl _, fun x h1 h2 => by have h1 : a ≤ x := h1; omega, Or.inl rfl⟩
  | succ m ih =>
    intro a
    cases h : opB u r ((a : Int) - 1) with
    | false =>
      rw [dn_f h]
      exact ⟨Nat.le_refl _, by omega, fun x h1 h2 => by omega, Or.inr h⟩
    | true =>
      have h0 := (opB_lo h).1
      have e : dn (opB u r) (m + 1) a = dn (opB u r) m (a - 1) := by show (if opB u r ((a : Int) - 1) then _ else _) = _; rw [h]; rfl
      obtain ⟨i1, i2, i3, i4⟩ := ih (a - 1)
      rw [e]
      refine ⟨by omega, by omega, fun x h1 h2 => ?_, i4.imp (fun z => by omega) id⟩
      by_cases hx : x = a - 1
      · rw [hx, show ((a - 1 : Nat) : Int) = (a : Int) - 1 by omega]
        exact h
      · exact i3 x h1 (by omega)
theorem ups_spec {u : GD} {r : Nat} : ∀ (m a : Nat), a ≤ ups (opB u r) m a ∧ ups (opB u r) m a ≤ a + m ∧ (∀ x : Nat, a < x → x ≤ ups (opB u r) m a → opB u r (x : Int) = true) ∧ (ups (opB u r) m a = a + m ∨ opB u r ((ups (opB u r) m a : Int) + 1) = false) := by
  intro m
  induction m with
  | zero =>
    intro a
    exact ⟨Nat.le_refl _, Nat.le_refl _, fun x h1 h2 => by have h2 : x ≤ a := h2; omega, Or.inl rfl⟩
  | succ m ih =>
    intro a
    cases h : opB u r ((a : Int) + 1) with
    | false =>
      have e : ups (opB u r) (m + 1) a = a := by show (if opB u r ((a : Int) + 1) then _ else _) = _; rw [h]; rfl
      rw [e]
      exact ⟨Nat.le_refl _, by omega, fun x h1 h2 => by omega, Or.inr h⟩
    | true =>
      have e : ups (opB u r) (m + 1) a = ups (opB u r) m (a + 1) := by show (if opB u r ((a : Int) + 1) then _ else _) = _; rw [h]; rfl
      obtain ⟨i1, i2, i3, i4⟩ := ih (a + 1)
      rw [e]
      refine ⟨by omega, by omega, fun x h1 h2 => ?_, i4.imp (fun z => by omega) id⟩
      by_cases hx : x = a + 1
      · rw [hx, show ((a + 1 : Nat) : Int) = (a : Int) + 1 by omega]
        exact h
      · exact i3 x (by omega) h2
theorem ups_12 {u : GD} {r m a : Nat} (ha : a ≤ 12) : ups (opB u r) m a ≤ 12 := by
  obtain ⟨i1, i2, i3, i4⟩ := ups_spec (u := u) (r := r) m a
  by_cases h : a < ups (opB u r) m a
  · have := opB_lo (i3 _ h (Nat.le_refl _))
    omega
  · omega
theorem nI_s1 {a : Nat} (ha : a ≤ 1000) : (nI a - 1).toInt = (a : Int) - 1 := nI_m1 (by omega)
theorem nI_a1 {a : Nat} (ha : a ≤ 1000) : (nI a + 1).toInt = (a : Int) + 1 := by
  rw [nI_1, nI_toInt (by omega)]
  omega
theorem e_low9 {σ : Hp} {g r : Nat} {u : GD} {x1 : Int32} (ho : ∀ z, f_X4_isOpen σ g x1 z = some (bI (opB u r z.toInt))) {m : Nat} (hm : m ≤ 12) : ∀ (n k a t : Nat), t + k = m → k < n → a ≤ 12 → f_X4_lowestOn_9 g σ x1 (nI m) n (nI a) (nI t) = some (nI (dn (opB u r) k a)) := by
  intro n
  induction n with
  | zero =>
    intro k a t h1 h2
    omega
  | succ n ih =>
    intro k a t h1 h2 ha
    rw [f_X4_lowestOn_9]
    cases k with
    | zero =>
      rw [if_pos (nI_le (by omega) (by omega))]
      rfl
    | succ k =>
      rw [if_neg (nI_ge (by omega) (by omega)), ho, bd1_s, nI_s1 (by omega)]
      cases h : opB u r ((a : Int) - 1) with
      | false =>
        rw [if_pos (by decide), dn_f h]
      | true =>
        have h0 := (opB_lo h).1
        have e : dn (opB u r) (k + 1) a = dn (opB u r) k (a - 1) := by show (if opB u r ((a : Int) - 1) then _ else _) = _; rw [h]; rfl
        rw [if_neg (by decide), m1_add, show (1 : Int32) = nI 1 from rfl, pk_sub (by omega), nI_add, ih k (a - 1) (t + 1) (by omega) (by omega) (by omega), e]
theorem e_high9 {σ : Hp} {g r : Nat} {u : GD} {x1 : Int32} (ho : ∀ z, f_X4_isOpen σ g x1 z = some (bI (opB u r z.toInt))) {m : Nat} (hm : m ≤ 12) : ∀ (n k a t : Nat), t + k = m → k < n → a ≤ 12 → f_X4_highestOn_9 g σ x1 (nI m) n (nI a) (nI t) = some (nI (ups (opB u r) k a)) := by
  intro n
  induction n with
  | zero =>
    intro k a t h1 h2
    omega
  | succ n ih =>
    intro k a t h1 h2 ha
    rw [f_X4_highestOn_9]
    cases k with
    | zero =>
      rw [if_pos (nI_le (by omega) (by omega))]
      rfl
    | succ k =>
      rw [if_neg (nI_ge (by omega) (by omega)), ho, bd1_s, nI_a1 (by omega)]
      cases h : opB u r ((a : Int) + 1) with
      | false =>
        have e : ups (opB u r) (k + 1) a = a := by show (if opB u r ((a : Int) + 1) then _ else _) = _; rw [h]; rfl
        rw [if_pos (by decide), e]
      | true =>
        have h0 := (opB_lo h).2
        have e : ups (opB u r) (k + 1) a = ups (opB u r) k (a + 1) := by show (if opB u r ((a : Int) + 1) then _ else _) = _; rw [h]; rfl
        rw [if_neg (by decide), nI_1, nI_1, ih k (a + 1) (t + 1) (by omega) (by omega) (by omega), e]
theorem e_low0 {σ : Hp} {g : Nat} {u : GD} {L R : Nat → Nat} (C : CGw σ g u L R) (V : VG u) {m : Nat} (hm : m ≤ 12) : f_X4_lowestOn σ g 0 (nI m) = some (nI (dn (opB u 0) m (uUp u (uD u)))) := by
  unfold f_X4_lowestOn
  rw [e_end0 C V, bd1_s]
  exact e_low9 (e_open0 C) hm fu m _ 0 (by omega) (by show m < 512; omega) V.up.1
theorem e_low1 {σ : Hp} {g : Nat} {u : GD} {L R : Nat → Nat} (C : CGw σ g u L R) (V : VG u) {m : Nat} (hm : m ≤ 12) : f_X4_lowestOn σ g 1 (nI m) = some (nI (dn (opB u 1) m (uLo u (uD u)))) := by
  unfold f_X4_lowestOn
  rw [e_end1 C V, bd1_s]
  exact e_low9 (e_open1 C) hm fu m _ 0 (by omega) (by show m < 512; omega) V.up.2
theorem e_high0 {σ : Hp} {g : Nat} {u : GD} {L R : Nat → Nat} (C : CGw σ g u L R) (V : VG u) {m : Nat} (hm : m ≤ 12) : f_X4_highestOn σ g 0 (nI m) = some (nI (ups (opB u 0) m (uUp u (uD u)))) := by
  unfold f_X4_highestOn
  rw [e_end0 C V, bd1_s]
  exact e_high9 (e_open0 C) hm fu m _ 0 (by omega) (by show m < 512; omega) V.up.1
theorem e_high1 {σ : Hp} {g : Nat} {u : GD} {L R : Nat → Nat} (C : CGw σ g u L R) (V : VG u) {m : Nat} (hm : m ≤ 12) : f_X4_highestOn σ g 1 (nI m) = some (nI (ups (opB u 1) m (uLo u (uD u)))) := by
  unfold f_X4_highestOn
  rw [e_end1 C V, bd1_s]
  exact e_high9 (e_open1 C) hm fu m _ 0 (by omega) (by show m < 512; omega) V.up.2
/-- what findReach leaves -/
def RC (σ : Hp) (u : GD) (m : Nat) : Prop := gI σ 15 10 = nI (dn (opB u 0) m (uUp u (uD u))) ∧ gI σ 15 11 = nI (ups (opB u 0) m (uUp u (uD u))) ∧ gI σ 15 12 = nI (dn (opB u 1) m (uLo u (uD u))) ∧ gI σ 15 13 = nI (ups (opB u 1) m (uLo u (uD u)))
theorem RC.of {σ σ' : Hp} {u : GD} {m : Nat} (h : ∀ k, 10 ≤ k → k ≤ 13 → gI σ' 15 k = gI σ 15 k) (R : RC σ u m) : RC σ' u m := by
  unfold RC
  rw [h 10 (by omega) (by omega), h 11 (by omega) (by omega), h 12 (by omega) (by omega), h 13 (by omega) (by omega)]
  exact R
theorem e_reach {σ : Hp} {g : Nat} {u : GD} {L R : Nat → Nat} (hg : isG g) (C : CGw σ g u L R) (V : VG u) {m : Nat} (hm : m ≤ 12) : ∃ σ', f_X8_findReach σ g (nI m) = some σ' ∧ onlyI (fun q => q = 15) σ σ' ∧ (∀ k, ¬ (10 ≤ k ∧ k ≤ 13) → gI σ' 15 k = gI σ 15 k) ∧ RC σ' u m := by
  have o1 : ∀ v, onlyI (fun q => q = 15) σ (sI σ 15 10 v) := fun v => onlyI.rf.st (by omega)
  have o2 : ∀ v w, onlyI (fun q => q = 15) σ (sI (sI σ 15 10 v) 15 11 w) := fun v w => (o1 v).st (by omega)
  have o3 : ∀ v w x, onlyI (fun q => q = 15) σ (sI (sI (sI σ 15 10 v) 15 11 w) 15 12 x) := fun v w x => (o2 v w).st (by omega)
  refine ⟨sI (sI (sI (sI σ 15 10 (nI (dn (opB u 0) m (uUp u (uD u))))) 15 11 (nI (ups (opB u 0) m (uUp u (uD u))))) 15 12 (nI (dn (opB u 1) m (uLo u (uD u))))) 15 13 (nI (ups (opB u 1) m (uLo u (uD u)))), ?_, (o3 _ _ _).st (by omega), fun k hk => ?_, ?_, ?_, ?_, ?_⟩
  · unfold f_X8_findReach
    rw [e_low0 C V hm, bd1_s, e_high0 (C.only (o1 _) hg (by omega)) V hm, bd1_s, e_low1 (C.only (o2 _ _) hg (by omega)) V hm, bd1_s, e_high1 (C.only (o3 _ _ _) hg (by omega)) V hm, bd1_s]
  · rw [gI_s, upd_n (by omega), gI_s, upd_n (by omega), gI_s, upd_n (by omega), gI_s, upd_n (by omega)]
  · rw [gI_s, upd_n (by omega), gI_s, upd_n (by omega), gI_s, upd_n (by omega), gI_s, upd_s]
  · rw [gI_s, upd_n (by omega), gI_s, upd_n (by omega), gI_s, upd_s]
  · rw [gI_s, upd_n (by omega), gI_s, upd_s]
  · rw [gI_s, upd_s]
/-! ===== sure ===== -/
theorem e_least6 {σ : Hp} {r : Nat} {u : GD} (M : MG (gI σ 52) u) (V : VG u) (hr : r ≤ 1) {m : Nat} (hm : m ≤ 12) : ∀ (n k a t : Nat), t + k = m → k < n → a ≤ 12 → f_X12_leastBy_6 σ (nI r) (nI m) n (nI a) (nI t) = some (nI (dn (opB u r) k a)) := by
  intro n
  induction n with
  | zero =>
    intro k a t h1 h2
    omega
  | succ n ih =>
    intro k a t h1 h2 ha
    rw [f_X12_leastBy_6]
    cases k with
    | zero =>
      rw [if_pos (nI_le (by omega) (by omega))]
      rfl
    | succ k =>
      rw [if_neg (nI_ge (by omega) (by omega)), e_may M V hr, bd1_s, nI_s1 (by omega)]
      cases h : opB u r ((a : Int) - 1) with
      | false =>
        rw [if_pos (by decide), nI_1, ih k a (t + 1) (by omega) (by omega) ha, dn_f h, dn_f h]
      | true =>
        have h0 := (opB_lo h).1
        have e : dn (opB u r) (k + 1) a = dn (opB u r) k (a - 1) := by show (if opB u r ((a : Int) - 1) then _ else _) = _; rw [h]; rfl
        rw [if_neg (by decide), bnd_s, show (1 : Int32) = nI 1 from rfl, pk_sub (by omega), nI_add, ih k (a - 1) (t + 1) (by omega) (by omega) (by omega), e]
theorem sure_any {σ σ' : Hp} {x y : Int32} : ∀ (n : Nat) (z w : Int32), f_X12_sure_55 σ x y n z w = f_X12_sure_55 σ' x y n z w := by
  intro n
  induction n with
  | zero => intro z w; rfl
  | succ n ih =>
    intro z w
    rw [f_X12_sure_55, f_X12_sure_55]
    simp only [bnd_s, ih]
theorem sure_tab : ∀ a, a < 13 → ∀ b, b < 13 → f_X12_sure_55 σ00 (nI a) (nI b) 13 0 0 = some ((1 <<< (nI (min a b) &&& 31)) - 1) := by decide +kernel
theorem sure_fuel {σ : Hp} {x y : Int32} : ∀ (n : Nat) (z w r : Int32), f_X12_sure_55 σ x y n z w = some r → f_X12_sure_55 σ x y (n + 1) z w = some r := by
  intro n
  induction n with
  | zero => intro z w r h; cases h
  | succ n ih =>
    intro z w r h
    rw [f_X12_sure_55] at h ⊢
    unfold bnd at h ⊢
    by_cases h1 : 12 ≤ w
    · rw [if_pos h1] at h ⊢
      exact h
    · rw [if_neg h1] at h ⊢
      by_cases h2 : x ≤ w
      · rw [if_pos h2] at h ⊢
        exact ih _ _ _ h
      · rw [if_neg h2] at h ⊢
        by_cases h3 : y ≤ w
        · rw [if_pos h3] at h ⊢
          exact ih _ _ _ h
        · rw [if_neg h3] at h ⊢
          exact ih _ _ _ h
theorem sure_more {σ : Hp} {x y z w r : Int32} {n : Nat} (h : f_X12_sure_55 σ x y n z w = some r) : ∀ k, f_X12_sure_55 σ x y (n + k) z w = some r := by
  intro k
  induction k with
  | zero => exact h
  | succ k ih => exact sure_fuel _ _ _ _ ih
theorem e_spC1 {σ : Hp} {x : Int32} (h : 1 ≤ x.toInt ∧ x.toInt ≤ 12) : f_X11_isSpan σ x = some 1 := by
  unfold f_X11_isSpan
  rw [if_neg (by rw [tI_lt]; show ¬ x.toInt < 1; omega), if_neg (by rw [tI_lt]; show ¬ 12 < x.toInt; omega)]
theorem e_spC0 {σ : Hp} {x : Int32} (h : ¬ (1 ≤ x.toInt ∧ x.toInt ≤ 12)) : f_X11_isSpan σ x = some 0 := by
  unfold f_X11_isSpan
  by_cases h1 : x < 1
  · rw [if_pos h1]
  · rw [if_neg h1, if_pos (by rw [tI_lt]; rw [tI_lt] at h1; have h1 : ¬ x.toInt < 1 := h1; show 12 < x.toInt; omega)]
theorem e_spM1 {σ : Hp} {x : Int32} (h : 1 ≤ x.toInt ∧ x.toInt ≤ 12) : f_X12_in σ x 1 12 = some 1 := e_in1 (a := 1) (b := 12) (show (1 : Int) ≤ x.toInt from h.1) (show x.toInt ≤ (12 : Int) from h.2)
theorem e_spM0 {σ : Hp} {x : Int32} (h : ¬ (1 ≤ x.toInt ∧ x.toInt ≤ 12)) : f_X12_in σ x 1 12 = some 0 := e_in0 (a := 1) (b := 12) (show x.toInt < (1 : Int) ∨ (12 : Int) < x.toInt by omega)
theorem sp_nI {x : Int32} (h : 1 ≤ x.toInt ∧ x.toInt ≤ 12) : ∃ m : Nat, 1 ≤ m ∧ m ≤ 12 ∧ x = nI m := by
  obtain ⟨m, hm, rfl⟩ := inb_nI (x := x) (n := 13) ⟨by omega, by omega⟩ (by decide)
  rw [nI_toInt (by omega)] at h
  exact ⟨m, by omega, by omega, rfl⟩
theorem op_sure {σ : Hp} (h : Rel σ) (x1 : Int32) : Same (f_X11_sure σ x1) (f_X12_sure σ x1) := by
  unfold f_X11_sure f_X12_sure
  rcases land_ground h with ⟨a, b⟩ | ⟨a, b, u, V, C, M⟩
  · rw [a, if_pos rfl, b, bd1_s, if_pos rfl]
    exact ⟨_, rfl, rfl⟩
  · rw [a, if_neg n10, b, bd1_s, if_neg n10]
    by_cases hx : 1 ≤ x1.toInt ∧ x1.toInt ≤ 12
    · rw [e_spC1 hx, bd1_s, if_neg n10, e_spM1 hx, bd1_s, if_neg n10]
      obtain ⟨m, hm1, hm, rfl⟩ := sp_nI hx
      obtain ⟨p1, p2⟩ := V.up
      have l0 := (dn_spec (u := u) (r := 0) m (uUp u (uD u))).1
      have l1 := (dn_spec (u := u) (r := 1) m (uLo u (uD u))).1
      unfold f_X12_leastBy
      rw [e_low0 C V hm, bd1_s, e_low1 C V hm, bd1_s, bnd_s, M.2.1, M.2.2.1, show f_X12_leastBy_6 σ 0 (nI m) fu (nI (uUp u (uD u))) 0 = _ from e_least6 M V (r := 0) (by omega) hm fu m _ 0 (by omega) (by show m < 512; omega) p1, bd1_s, show f_X12_leastBy_6 σ 1 (nI m) fu (nI (uLo u (uD u))) 0 = _ from e_least6 M V (r := 1) (by omega) hm fu m _ 0 (by omega) (by show m < 512; omega) p2, bd1_s]
      generalize dn (opB u 0) m (uUp u (uD u)) = A at l0 ⊢
      generalize dn (opB u 1) m (uLo u (uD u)) = B at l1 ⊢
      have t := sure_tab A (by omega) B (by omega)
      rw [sure_any (σ' := σ)] at t
      have t := sure_more t 499
      refine ⟨_, rfl, ?_⟩
      rw [show fu = 13 + 499 from rfl, t]
      congr 3
      by_cases q : nI B < nI A
      · rw [if_pos q, Nat.min_eq_right (by rw [nI_ltI (by omega) (by omega)] at q; omega)]
      · rw [if_neg q, Nat.min_eq_left (by rw [nI_ltI (by omega) (by omega)] at q; omega)]
    · rw [e_spC0 hx, bd1_s, if_pos rfl, e_spM0 hx, bd1_s, if_pos rfl]
      exact ⟨_, rfl, rfl⟩
