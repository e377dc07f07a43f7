/-! ===== what both sides see of a GROUND ===== -/
def opB (u : GD) (r : Nat) (z : Int) : Bool := decide (0 ≤ z ∧ z ≤ 12 ∧ ∀ p, p < uP u → ¬ (uPr u p = r ∧ uPx u p = z.toNat))
def bI (b : Bool) : Int32 := if b then 1 else 0
theorem opB_iff {u : GD} {r : Nat} {z : Int} : opB u r z = true ↔ 0 ≤ z ∧ z ≤ 12 ∧ ∀ p, p < uP u → ¬ (uPr u p = r ∧ uPx u p = z.toNat) := decide_eq_true_iff
theorem opB_N {u : GD} {r x : Nat} (hx : x ≤ 12) : opB u r (x : Int) = true ↔ opn u r x := by
  rw [opB_iff]
  unfold opn
  rw [Int.toNat_natCast]
  constructor
  · intro h
    exact ⟨hx, h.2.2⟩
  · intro h
    exact ⟨by omega, by omega, h.2⟩
theorem e_open15 {σ : Hp} {g r : Nat} {u : GD} {m : Int32} (hm : ∀ x, x ≤ 12 → (bitI m x ↔ opn u r x)) (z : Int32) : f_X4_isOpen_15 g σ z m = some (bI (opB u r z.toInt)) := by
  unfold f_X4_isOpen_15
  by_cases h1 : z < 0
  · have : opB u r z.toInt = false := by
      rw [Bool.eq_false_iff]
      intro k
      have := (opB_iff.mp k).1
      rw [tI_lt] at h1
      have h1 : z.toInt < 0 := h1
      omega
    rw [if_pos h1, this]
    rfl
  · by_cases h2 : 13 ≤ z
    · have : opB u r z.toInt = false := by
        rw [Bool.eq_false_iff]
        intro k
        have := (opB_iff.mp k).2.1
        rw [tI_le] at h2
        have h2 : 13 ≤ z.toInt := h2
        omega
      rw [if_neg h1, if_pos h2, this]
      rfl
    · obtain ⟨x, hx, rfl⟩ := inb_nI (x := z) (n := 13) ⟨by rw [tI_lt] at h1; have h1 : ¬ z.toInt < 0 := h1; omega, by rw [tI_le] at h2; have h2 : ¬ 13 ≤ z.toInt := h2; omega⟩ (by decide)
      rw [if_neg h1, if_neg h2, nI_toInt (by omega)]
      have e := (hm x (by omega)).trans (opB_N (u := u) (r := r) (show x ≤ 12 by omega)).symm
      unfold bitI at e
      cases hb : opB u r (x : Int) with
      | true => rw [if_pos (e.mpr hb)]; rfl
      | false => rw [if_neg (fun k => by rw [e.mp k] at hb; cases hb)]; rfl
theorem e_open0 {σ : Hp} {g : Nat} {u : GD} {L R : Nat → Nat} (C : CGw σ g u L R) (z : Int32) : f_X4_isOpen σ g 0 z = some (bI (opB u 0 z.toInt)) := by
  unfold f_X4_isOpen
  rw [if_pos rfl]
  exact e_open15 C.2.2.2.2.1 z
theorem e_open1 {σ : Hp} {g : Nat} {u : GD} {L R : Nat → Nat} (C : CGw σ g u L R) (z : Int32) : f_X4_isOpen σ g 1 z = some (bI (opB u 1 z.toInt)) := by
  unfold f_X4_isOpen
  rw [if_neg n10]
  exact e_open15 C.2.2.2.2.2.1 z
theorem e_pond5 {σ : Hp} {u : GD} (M : MG (gI σ 52) u) (V : VG u) {r x : Nat} (hr : r ≤ 1) (hx : x ≤ 12) : ∀ (n p : Nat) (fl : Bool), p ≤ uP u → uP u < p + n → ∃ b : Bool, f_X12_isPond_5 σ (nI r) (nI x) n (bI fl) (nI p) = some (bI b) ∧ (b = true ↔ fl = true ∨ ∃ p', p ≤ p' ∧ p' < uP u ∧ uPr u p' = r ∧ uPx u p' = x) := by
  obtain ⟨-, -, -, -, -, m5, -, m7, -⟩ := M
  obtain ⟨-, -, v3, -, -, v6⟩ := V
  intro n
  induction n with
  | zero =>
    intro p fl h1 h2
    omega
  | succ n ih =>
    intro p fl h1 h2
    rw [f_X12_isPond_5, m5]
    by_cases hp : p = uP u
    · rw [if_pos (by rw [hp]; exact nI_le (Nat.le_refl _) (by omega))]
      refine ⟨fl, ?_, ?_⟩
      · rw [chk_s (by cases fl <;> decide)]
      · constructor
        · exact Or.inl
        · rintro (k | ⟨p', k1, k2, -, -⟩)
          · exact k
          · omega
    · have hlt : p < uP u := by omega
      rw [if_neg (nI_ge hlt (by omega)), nI_1]
      cases fl with
      | true =>
        rw [if_neg (by decide)]
        obtain ⟨b, e1, e2⟩ := ih (p + 1) true (by omega) (by omega)
        exact ⟨b, e1, e2.trans ⟨fun _ => Or.inl rfl, fun _ => Or.inl rfl⟩⟩
      | false =>
        have hz : nI 42 + nI 2 * nI p = nI (42 + 2 * p) := by rw [pk_mul, nI_add]
        have hz1 : (42 : Int32) + 2 * nI p = nI (42 + 2 * p) := hz
        obtain ⟨w1, w2⟩ := m7 p hlt
        obtain ⟨y1, y2⟩ := v6 p hlt
        obtain ⟨b, e1, e2⟩ := ih (p + 1) false (by omega) (by omega)
        obtain ⟨b', e1', e2'⟩ := ih (p + 1) true (by omega) (by omega)
        rw [if_pos (by decide), hz1, chk_s (nI_inb (by omega) (by decide)), nI_cl (by omega), w1, nI_1, chk_s (nI_inb (by omega) (by decide)), nI_cl (by omega), w2]
        by_cases q1 : uPr u p = r
        · rw [if_pos (by rw [q1])]
          by_cases q2 : uPx u p = x
          · rw [if_pos (by rw [q2])]
            exact ⟨b', e1', e2'.trans ⟨fun _ => Or.inr ⟨p, Nat.le_refl _, hlt, q1, q2⟩, fun _ => Or.inl rfl⟩⟩
          · rw [if_neg (by rw [nI_eq (by omega) (by omega)]; exact q2)]
            refine ⟨b, e1, e2.trans ?_⟩
            constructor
            · rintro (k | ⟨p', k1, k2, k3, k4⟩)
              · exact Or.inl k
              · exact Or.inr ⟨p', by omega, k2, k3, k4⟩
            · rintro (k | ⟨p', k1, k2, k3, k4⟩)
              · exact Or.inl k
              · have : p' ≠ p := fun z => q2 (by rw [← z]; exact k4)
                exact Or.inr ⟨p', by omega, k2, k3, k4⟩
        · rw [if_neg (by rw [nI_eq (by omega) (by omega)]; exact q1)]
          refine ⟨b, e1, e2.trans ?_⟩
          constructor
          · rintro (k | ⟨p', k1, k2, k3, k4⟩)
            · exact Or.inl k
            · exact Or.inr ⟨p', by omega, k2, k3, k4⟩
          · rintro (k | ⟨p', k1, k2, k3, k4⟩)
            · exact Or.inl k
            · have : p' ≠ p := fun z => q1 (by rw [← z]; exact k3)
              exact Or.inr ⟨p', by omega, k2, k3, k4⟩
theorem e_may {σ : Hp} {u : GD} (M : MG (gI σ 52) u) (V : VG u) {r : Nat} (hr : r ≤ 1) (z : Int32) : f_X12_mayBe σ (nI r) z = some (bI (opB u r z.toInt)) := by
  unfold f_X12_mayBe
  by_cases h : inb z 13
  · obtain ⟨x, hx, rfl⟩ := inb_nI h (by decide)
    obtain ⟨b, e1, e2⟩ := e_pond5 M V hr (show x ≤ 12 by omega) fu 0 false (by omega) (by show uP u < 0 + 512; have := V.2.2.1; omega)
    have e1 : f_X12_isPond_5 σ (nI r) (nI x) fu 0 0 = some (bI b) := e1
    rw [e_in1 (a := 0) (b := 12) (by rw [nI_toInt (by omega)]; show (0 : Int) ≤ x; omega) (by rw [nI_toInt (by omega)]; show (x : Int) ≤ 12; omega), bd1_s, if_neg n10]
    unfold f_X12_isPond
    rw [e1, bd1_s, nI_toInt (by omega)]
    have e3 := opB_N (u := u) (r := r) (show x ≤ 12 by omega)
    unfold opn at e3
    cases b with
    | true =>
      rw [if_neg (by decide)]
      have : opB u r (x : Int) = false := by
        rw [Bool.eq_false_iff]
        intro k
        rcases e2.mp rfl with k2 | ⟨p, -, k3, k4, k5⟩
        · cases k2
        · exact (e3.mp k).2 p k3 ⟨k4, k5⟩
      rw [this]
      rfl
    | false =>
      rw [if_pos (by decide)]
      have : opB u r (x : Int) = true := e3.mpr ⟨by omega, fun p hp k => by
        have := e2.mpr (Or.inr ⟨p, Nat.zero_le _, hp, k.1, k.2⟩)
        cases this⟩
      rw [this]
      rfl
  · have : opB u r z.toInt = false := by
      rw [Bool.eq_false_iff]
      intro k
      have := opB_iff.mp k
      unfold inb at h
      omega
    rw [e_in0 (a := 0) (b := 12) (by unfold inb at h; show z.toInt < 0 ∨ 12 < z.toInt; omega), bd1_s, if_pos rfl, this]
    rfl
theorem e_end0 {σ : Hp} {g : Nat} {u : GD} {L R : Nat → Nat} (C : CGw σ g u L R) (V : VG u) : f_X4_endOn σ g 0 = some (nI (uUp u (uD u))) := by
  unfold f_X4_endOn
  have := V.1
  rw [if_pos rfl, C.2.2.2.1, chk_s (nI_inb (by omega) (by decide)), nI_cl (by omega), (C.2.2.2.2.2.2.1 (uD u) (Nat.le_refl _)).1]
theorem e_end1 {σ : Hp} {g : Nat} {u : GD} {L R : Nat → Nat} (C : CGw σ g u L R) (V : VG u) : f_X4_endOn σ g 1 = some (nI (uLo u (uD u))) := by
  unfold f_X4_endOn
  have := V.1
  rw [if_neg n10, C.2.2.2.1, chk_s (nI_inb (by omega) (by decide)), nI_cl (by omega), (C.2.2.2.2.2.2.1 (uD u) (Nat.le_refl _)).2.1]
theorem e_told1 {σ : Hp} {g i S : Nat} (h : gI σ g 6 = nI S) (hS : S ≤ 12) (hi : i < S) : f_X4_toldStrip σ g (nI i) = some (gR σ (g + 1) i) := by
  unfold f_X4_toldStrip
  rw [if_neg (nI_pos (by omega)), h, if_neg (nI_ge hi (by omega)), if_neg (show ¬ (12 : Int32) ≤ nI i from nI_ge (b := 12) (by omega) (by decide)), chk_s (nI_inb (by omega) (by decide)), nI_cl (by omega)]
theorem e_told0 {σ : Hp} {g S : Nat} (h : gI σ g 6 = nI S) (hS : S ≤ 12) {x : Int32} (hx : ¬ inb x S) : f_X4_toldStrip σ g x = some none := by
  unfold f_X4_toldStrip
  by_cases h1 : x < 0
  · rw [if_pos h1]
  · rw [if_neg h1, h, if_pos (by rw [tI_le, nI_toInt (by omega)]; rw [tI_lt] at h1; have h1 : ¬ x.toInt < 0 := h1; unfold inb at hx; omega)]
theorem nI_m1 {N : Nat} (h : N ≤ 1000000) : (nI N - 1).toInt = (N : Int) - 1 := by
  rw [tI_sub (by rw [nI_toInt (by omega)]; show _ ≤ (N : Int) - 1; omega) (by rw [nI_toInt (by omega)]; show (N : Int) - 1 < _; omega), nI_toInt (by omega)]
  rfl
theorem e_str1 {σ : Hp} {i S : Nat} (h : gI σ 52 4 = nI S) (hS : S ≤ 12) (hi : i < S) : f_X12_isStrip σ (nI i) = some 1 := by
  unfold f_X12_isStrip
  rw [h, e_in1 (a := 0) (by rw [nI_toInt (by omega)]; show (0 : Int) ≤ i; omega) (by rw [nI_m1 (by omega), nI_toInt (by omega)]; omega), bd1_s, chk_s (Or.inr rfl)]
theorem e_str0 {σ : Hp} {S : Nat} (h : gI σ 52 4 = nI S) (hS : S ≤ 12) {x : Int32} (hx : ¬ inb x S) : f_X12_isStrip σ x = some 0 := by
  unfold f_X12_isStrip
  rw [h, e_in0 (a := 0) (by rw [nI_m1 (by omega)]; show x.toInt < 0 ∨ _; unfold inb at hx; omega), bd1_s, chk_s (Or.inl rfl)]
theorem e_sown {σ : Hp} {u : GD} (M : MG (gI σ 52) u) (V : VG u) {i : Nat} (hi : i < uS u) : f_X12_sown σ (nI i) 0 = some (nI (uSo u i)) ∧ f_X12_sown σ (nI i) 1 = some (nI (uWo u i)) ∧ f_X12_sown σ (nI i) 2 = some (nI (uRi u i)) := by
  obtain ⟨a, b, c⟩ := M.2.2.2.2.2.2.1 i hi
  have hS := V.2.1
  have e : (6 : Int32) + 3 * nI i = nI (6 + 3 * i) := by
    rw [show (6 : Int32) = nI 6 from rfl, show (3 : Int32) = nI 3 from rfl, pk_mul, nI_add]
  unfold f_X12_sown
  rw [e, show (0 : Int32) = nI 0 from rfl, show (1 : Int32) = nI 1 from rfl, show (2 : Int32) = nI 2 from rfl, nI_add, nI_add, nI_add, chk_s (nI_inb (by omega) (by decide)), chk_s (nI_inb (by omega) (by decide)), chk_s (nI_inb (by omega) (by decide)), nI_cl (by omega), nI_cl (by omega), nI_cl (by omega)]
  exact ⟨by rw [show 6 + 3 * i + 0 = 6 + 3 * i from rfl, a], by rw [b], by rw [c]⟩
theorem kc {so : Nat} (h : 1 ≤ so ∧ so ≤ 5) : (so = 1 ∧ kcode so = 1) ∨ (so = 2 ∧ kcode so = 0) ∨ (so = 3 ∧ kcode so = 7) ∨ (so = 4 ∧ kcode so = 3) ∨ (so = 5 ∧ kcode so = 2) := by
  obtain ⟨h1, h2⟩ := h
  rcases (show so = 1 ∨ so = 2 ∨ so = 3 ∨ so = 4 ∨ so = 5 by omega) with rfl | rfl | rfl | rfl | rfl
  · exact Or.inl ⟨rfl, rfl⟩
  · exact Or.inr (Or.inl ⟨rfl, rfl⟩)
  · exact Or.inr (Or.inr (Or.inl ⟨rfl, rfl⟩))
  · exact Or.inr (Or.inr (Or.inr (Or.inl ⟨rfl, rfl⟩)))
  · exact Or.inr (Or.inr (Or.inr (Or.inr ⟨rfl, rfl⟩)))
theorem e_cropC {σ : Hp} {q so wo ri d : Nat} (hso : 1 ≤ so ∧ so ≤ 5) (hK : gK σ q = kcode so) (h1 : gI σ q 1 = nI wo) (h2 : gI σ q 2 = nI ri) (hw : wo ≤ 99) (hr : ri ≤ 11) (hd : d ≤ 100) : v_Strip_cropOn σ q (nI d) = some (nI (crp so wo ri d)) := by
  have bean : f_X1_cropOn σ q (nI d) = some (nI (if d = ri then wo else 0)) := by
    unfold f_X1_cropOn
    rw [h1, h2]
    by_cases e : d = ri
    · rw [if_pos (by rw [e]), if_pos e]
    · rw [if_neg (by rw [nI_eq (by omega) (by omega)]; exact e), if_neg e]
      rfl
  have c12 : ∀ k, k = 1 ∨ k = 2 → crp k wo ri d = if d = ri then wo else 0 := by
    intro k hk
    unfold crp
    by_cases e : d < ri
    · rw [if_pos e, if_neg (by omega)]
    · rw [if_neg e, if_neg (by omega), if_neg (by omega)]
      by_cases e2 : d = ri
      · rw [if_pos e2, if_pos e2]
      · rw [if_neg e2, if_neg e2, if_neg (by omega)]
  unfold v_Strip_cropOn
  rcases kc hso with ⟨rfl, e⟩ | ⟨rfl, e⟩ | ⟨rfl, e⟩ | ⟨rfl, e⟩ | ⟨rfl, e⟩ <;> rw [hK, e]
  · rw [if_neg (by decide), if_pos rfl, bean, c12 1 (by omega)]
  · rw [if_pos rfl, bean, c12 2 (by omega)]
  · rw [if_neg (by decide), if_neg (by decide), if_neg (by decide), if_neg (by decide), if_pos rfl]
    unfold f_X7_cropOn crp
    rw [h1, h2]
    by_cases e1 : d < ri
    · rw [if_neg (nI_ge e1 (by omega)), if_pos e1]
      rfl
    · rw [if_pos (nI_le (by omega) (by omega)), if_neg e1, if_pos rfl, pk_sub (by omega), show (10 : Int32) = nI 10 from rfl, pk_mul]
      by_cases e2 : 10 * (d - ri) < wo
      · rw [pk_sub (by omega), if_pos (show (0 : Int32) < nI (wo - 10 * (d - ri)) from nI_lt (a := 0) (by omega) (by omega))]
      · rw [if_neg (by rw [tI_lt, pk_sub_toInt (by omega) (by omega)]; show ¬ (0 : Int) < _; omega), show wo - 10 * (d - ri) = 0 by omega]
        rfl
  · rw [if_neg (by decide), if_neg (by decide), if_neg (by decide), if_pos rfl]
    unfold f_X3_cropOn crp
    rw [h1, h2]
    by_cases e1 : d < ri
    · rw [if_pos (nI_lt e1 (by omega)), if_pos e1]
      rfl
    · rw [if_neg (nI_nlt (by omega) (by omega)), if_neg e1, if_neg (show ¬ (4 : Nat) = 3 by decide), if_pos (show (4 : Nat) = 4 from rfl), pk_sub (by omega), show (3 : Int32) = nI 3 from rfl, pk_rem (by omega) (by omega) (by decide)]
      by_cases e2 : (d - ri) % 3 = 0
      · rw [if_pos (by rw [e2]; rfl), if_pos e2, show (2 : Int32) = nI 2 from rfl, pk_div (by omega) (by omega) (by decide)]
      · rw [if_neg (nI_ne0 (by omega) (by omega)), if_neg e2]
        rfl
  · rw [if_neg (by decide), if_neg (by decide), if_pos rfl]
    unfold f_X2_cropOn crp
    rw [h1, h2, nI_1]
    by_cases e1 : d < ri
    · rw [if_neg (by rw [nI_eq (by omega) (by omega)]; omega), if_neg (by rw [nI_eq (by omega) (by omega)]; omega), if_pos e1]
      rfl
    · rw [if_neg e1, if_neg (show ¬ (5 : Nat) = 3 by decide), if_neg (show ¬ (5 : Nat) = 4 by decide)]
      by_cases e2 : d = ri
      · rw [if_pos (by rw [e2]), if_pos e2]
      · rw [if_neg (by rw [nI_eq (by omega) (by omega)]; exact e2), if_neg e2]
        by_cases e3 : d = ri + 1
        · rw [if_pos (by rw [e3]), if_pos ⟨e3, rfl⟩]
        · rw [if_neg (by rw [nI_eq (by omega) (by omega)]; exact e3), if_neg (fun z => e3 z.1)]
          rfl
theorem e_cropM {σ : Hp} {so wo ri d : Nat} (hso : 1 ≤ so ∧ so ≤ 5) (hw : wo ≤ 99) (hr : ri ≤ 11) (hd : d ≤ 100) : f_X12_cropOf σ (nI so) (nI wo) (nI ri) (nI d) = some (nI (crp so wo ri d)) := by
  unfold f_X12_cropOf crp
  rw [bnd_s]
  by_cases e1 : d < ri
  · rw [if_neg (by rw [tI_le, pk_sub_toInt (by omega) (by omega)]; show ¬ (0 : Int) ≤ _; omega), if_pos e1]
    rfl
  · have q3 : nI so = 3 ↔ so = 3 := nI_eq (b := 3) (by omega) (by omega)
    have q4 : nI so = 4 ↔ so = 4 := nI_eq (b := 4) (by omega) (by omega)
    have q5 : nI so = 5 ↔ so = 5 := nI_eq (b := 5) (by omega) (by omega)
    rw [pk_sub (by omega), if_pos (nI_pos' (by omega)), if_neg e1]
    by_cases e3 : so = 3
    · rw [if_pos (q3.mpr e3), if_pos e3, show (10 : Int32) = nI 10 from rfl, pk_mul]
      by_cases e2 : 10 * (d - ri) ≤ wo
      · rw [pk_sub (by omega), if_pos (nI_pos' (by omega))]
      · rw [if_neg (by rw [tI_le, pk_sub_toInt (by omega) (by omega)]; show ¬ (0 : Int) ≤ _; omega), show wo - 10 * (d - ri) = 0 by omega]
        rfl
    · rw [if_neg (fun z => e3 (q3.mp z)), if_neg e3]
      by_cases e4 : so = 4
      · rw [if_pos (q4.mpr e4), if_pos e4, show (3 : Int32) = nI 3 from rfl, pk_rem (by omega) (by omega) (by decide)]
        by_cases e2 : (d - ri) % 3 = 0
        · rw [if_pos (by rw [e2]; rfl), if_pos e2, show (2 : Int32) = nI 2 from rfl, pk_div (by omega) (by omega) (by decide)]
        · rw [if_neg (nI_ne0 (by omega) (by omega)), if_neg e2]
          rfl
      · rw [if_neg (fun z => e4 (q4.mp z)), if_neg e4]
        by_cases e5 : d = ri
        · rw [if_pos (by rw [e5, Nat.sub_self]; rfl), if_pos e5]
        · rw [if_neg (nI_ne0 (by omega) (by omega)), if_neg e5]
          by_cases e6 : d = ri + 1
          · rw [if_pos (by rw [e6, show ri + 1 - ri = 1 by omega]; rfl)]
            by_cases e7 : so = 5
            · rw [if_pos (q5.mpr e7), if_pos ⟨e6, e7⟩]
            · rw [if_neg (fun z => e7 (q5.mp z)), if_neg (fun z => e7 z.2)]
              rfl
          · rw [if_neg (show ¬ nI (d - ri) = 1 from (by show ¬ nI (d - ri) = nI 1; rw [nI_eq (by omega) (by omega)]; omega)), if_neg (fun z => e6 z.1)]
            rfl
theorem e_cropOn {σ : Hp} {u : GD} (M : MG (gI σ 52) u) (V : VG u) {i d : Nat} (hi : i < uS u) (hd : d ≤ 100) : f_X12_cropOn σ (nI i) (nI d) = some (nI (crp (uSo u i) (uWo u i) (uRi u i) d)) := by
  obtain ⟨a, b, c⟩ := e_sown M V hi
  obtain ⟨v1, v2, v3, v4⟩ := V.2.2.2.2.1 i hi
  unfold f_X12_cropOn
  rw [a, bd1_s, b, bd1_s, c, bd1_s, e_cropM ⟨v1, v2⟩ v3 v4 hd, bd1_s]
theorem crp_le {so wo ri d : Nat} : crp so wo ri d ≤ wo := by
  unfold crp
  repeat' split
  all_goals omega
