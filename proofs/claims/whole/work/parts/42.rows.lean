/-! ===== calls on ROWS ===== -/
theorem n10 : ¬ (1 : Int32) = 0 := by decide
theorem e_cRow1 {σ : Hp} {x : Int32} (h : inb x 8) : f_X11_isRow σ x = some 1 := by
  unfold f_X11_isRow
  rw [if_neg (by rw [tI_lt]; have := h.1; show ¬ x.toInt < 0; omega), if_neg (by rw [tI_le]; have := h.2; show ¬ 8 ≤ x.toInt; omega)]
theorem e_cRow0 {σ : Hp} {x : Int32} (h : ¬ inb x 8) : f_X11_isRow σ x = some 0 := by
  unfold f_X11_isRow
  by_cases h1 : x < 0
  · rw [if_pos h1]
  · rw [if_neg h1, if_pos (by rw [tI_le]; rw [tI_lt] at h1; have h1 : ¬ x.toInt < 0 := h1; show 8 ≤ x.toInt; unfold inb at h; omega)]
theorem e_in1 {σ : Hp} {x a b : Int32} (h : a.toInt ≤ x.toInt) (h2 : x.toInt ≤ b.toInt) : f_X12_in σ x a b = some 1 := by
  unfold f_X12_in
  rw [if_neg (by rw [tI_lt]; omega), if_neg (by rw [tI_lt]; omega)]
theorem e_in0 {σ : Hp} {x a b : Int32} (h : x.toInt < a.toInt ∨ b.toInt < x.toInt) : f_X12_in σ x a b = some 0 := by
  unfold f_X12_in
  by_cases h1 : x < a
  · rw [if_pos h1]
  · rw [if_neg h1, if_pos (by rw [tI_lt]; rw [tI_lt] at h1; omega)]
theorem e_mRow1 {σ : Hp} {x : Int32} (h : inb x 8) : f_X12_isRow σ x = some 1 := by
  unfold f_X12_isRow
  rw [e_in1 (a := 0) (b := 7) (show (0 : Int) ≤ x.toInt from h.1) (show x.toInt ≤ (7 : Int) by have := h.2; omega), bd1_s, chk_s (Or.inr rfl)]
theorem e_mRow0 {σ : Hp} {x : Int32} (h : ¬ inb x 8) : f_X12_isRow σ x = some 0 := by
  unfold f_X12_isRow
  rw [e_in0 (a := 0) (b := 7) (show x.toInt < (0 : Int) ∨ (7 : Int) < x.toInt by unfold inb at h; omega), bd1_s, chk_s (Or.inl rfl)]
theorem nI_nneg {n : Nat} (h : n < 2147483648) : (0 : Int32) ≤ nI n := nI_pos' h
theorem nI_nN {n : Nat} (h : n < 2147483648) : ¬ nI n = -1000000 := by
  rw [tI_eq, nI_toInt h]
  show ¬ (n : Int) = -1000000
  omega
/-- both sides put their finding away -/
theorem rel_found {σ : Hp} (h : Rel σ) (v : Int32) : Rel (sI (sI σ 0 8 v) 51 6 v) := by
  obtain ⟨a1, a2, a3, a4, a5, a6⟩ := h
  have o : onlyI (fun q => q = 0 ∨ q = 51) σ (sI (sI σ 0 8 v) 51 6 v) := (onlyI.rf.st (Or.inl rfl)).st (Or.inr rfl)
  have k : keepG σ (sI (sI σ 0 8 v) 51 6 v) := keepG.of o (by omega)
  refine ⟨a1, a2.of (fun q hq => o.1 q (by omega)), a3.of rfl rfl rfl rfl, ?_, k.land a5, k.img a6⟩
  obtain ⟨-, b2, b3⟩ := a4
  exact ⟨rfl, b2, b3⟩
theorem sim_bad {σ : Hp} (h : Rel σ) {c m} (hc : c = some (σ, -1000001)) (hm : m σ = some (σ, -1000001)) : Sim c m := ⟨σ, _, σ, hc, hm, h⟩
theorem sim_state {σ : Hp} (h : Rel σ) {c m} (hc : c = some (σ, -1000002)) (hm : m σ = some (σ, -1000002)) : Sim c m := ⟨σ, _, σ, hc, hm, h⟩
/-- the model looks at its own places alone -/
theorem e_miss0 {σ : Hp} {j : Nat} (hj : j < 8) {N : Nat} (hN : N ≤ 40) (h : gI σ 12 j = nI N) : f_X6_isMissing σ (nI j) = some 0 := by
  unfold f_X6_isMissing
  rw [chk_s (nI_inb hj (by decide)), nI_cl (by omega), h, if_pos (nI_nneg (by omega))]
theorem e_miss1 {σ : Hp} {j : Nat} (hj : j < 8) (h : gI σ 12 j = -1) : f_X6_isMissing σ (nI j) = some 1 := by
  unfold f_X6_isMissing
  rw [chk_s (nI_inb hj (by decide)), nI_cl (by omega), h, if_neg (by decide)]
theorem op_drop {σ : Hp} (h : Rel σ) (x1 : Int32) : Sim (f_X11_drop σ x1) (fun s => f_X12_drop s x1) := by
  by_cases hx : inb x1 8
  · have hr := h.2.1
    obtain ⟨j, hj, rfl⟩ := inb_nI hx (by decide)
    rcases hr.1 j hj with ⟨a, b⟩ | ⟨L, N, hL, hN, a1, a2, a3, a4⟩
    · refine ⟨sI σ 0 8 1, -1000010 - 1, sI (sI σ 0 8 1) 51 6 1, ?_, ?_, rel_found h 1⟩
      · unfold f_X11_drop
        rw [e_cRow1 hx, bd1_s, if_neg n10, e_miss1 hj a, bd1_s, if_neg n10]
        rfl
      · show f_X12_drop _ _ = _
        unfold f_X12_drop
        rw [e_mRow1 hx, bd1_s, if_neg n10, chk_s hx, nI_cl (by omega), if_pos (show gI (sI σ 0 8 1) 55 j = -1000000 from b)]
        rfl
    · refine ⟨sI (sI σ 12 j (-1)) 0 8 0, nI N, sI (sI (sI (sI σ 12 j (-1)) 0 8 0) 55 j (-1000000)) 51 6 0, ?_, ?_, ?_⟩
      · unfold f_X11_drop f_X6_remove
        rw [e_cRow1 hx, bd1_s, if_neg n10, e_miss0 hj hN a3, bd1_s, if_pos rfl, chk_s hx, bnd_s, chk_s hx, nI_cl (by omega), bd2_s, a3]
        rfl
      · show f_X12_drop _ _ = _
        unfold f_X12_drop
        rw [e_mRow1 hx, bd1_s, if_neg n10, chk_s hx, nI_cl (by omega), if_neg (show ¬ gI (sI (sI σ 12 j (-1)) 0 8 0) 55 j = -1000000 from (by show ¬ gI σ 55 j = -1000000; rw [a2]; exact nI_nN (by omega))), chk_s hx, chk_s hx]
        show some (_, gI σ 56 j) = _
        rw [a4]
      · obtain ⟨b1, b2, b3, b4, b5, b6⟩ := h
        have o : onlyI (fun q => q = 0 ∨ q = 51 ∨ q = 12 ∨ q = 55) σ (sI (sI (sI (sI σ 12 j (-1)) 0 8 0) 55 j (-1000000)) 51 6 0) := (((onlyI.rf.st (by omega)).st (by omega)).st (by omega)).st (by omega)
        have k := keepG.of o (by omega)
        refine ⟨b1, ?_, b3.of rfl rfl rfl rfl, ?_, k.land b5, k.img b6⟩
        · refine ⟨fun r hr9 => ?_, fun r i h1 h2 => ?_⟩
          · show (upd (gI σ 12) j (-1) r = -1 ∧ upd (gI σ 55) j (-1000000) r = -1000000) ∨ (∃ L N : Nat, L ≤ 2 ∧ N ≤ 40 ∧ gI σ 11 r = nI L ∧ upd (gI σ 55) j (-1000000) r = nI L ∧ upd (gI σ 12) j (-1) r = nI N ∧ gI σ 56 r = nI N)
            by_cases hrj : r = j
            · subst hrj
              exact Or.inl ⟨upd_s _ _ _, upd_s _ _ _⟩
            · rw [upd_n hrj, upd_n hrj]
              exact hr.1 r hr9
          · rw [o.1 (3 + r) (by omega)]
            exact hr.2 r i h1 h2
        · obtain ⟨-, c2, c3⟩ := b4
          exact ⟨rfl, c2, c3⟩
  · refine sim_bad h ?_ ?_
    · unfold f_X11_drop
      rw [e_cRow0 hx, bd1_s, if_pos rfl]
    · show f_X12_drop _ _ = _
      unfold f_X12_drop
      rw [e_mRow0 hx, bd1_s, if_pos rfl]

/-! a row that is written again and again -/
theorem rI_id (σ : Hp) (q : Nat) : rI σ q (gI σ q) = σ := by
  unfold rI gI
  have : va_up σ.1 q (σ.1 q) = σ.1 := by
    funext x
    by_cases hx : x = q
    · rw [hx, up_self]
    · rw [up_ne hx]
  rw [this]
theorem rI_rI (σ : Hp) (q : Nat) (f g : Nat → Int32) : rI (rI σ q f) q g = rI σ q g := by
  unfold rI
  have : va_up (va_up σ.1 q f) q g = va_up σ.1 q g := by
    funext x
    by_cases hx : x = q
    · rw [hx, up_self, up_self]
    · rw [up_ne hx, up_ne hx, up_ne hx]
  rw [this]
theorem sI_rI (σ : Hp) (q k : Nat) (f : Nat → Int32) (v : Int32) : sI (rI σ q f) q k v = rI σ q (upd f k v) := by
  unfold sI
  rw [gI_rI, rI_rI]
theorem c40 (j k : Nat) : (40 * nI j) + nI k = nI (40 * j + k) := by
  rw [show (40 : Int32) = nI 40 from rfl, pk_mul, nI_add]
theorem e_row52 {j : Nat} (hj : j < 8) (x3 : Int32) : ∀ (n k : Nat) (σ : Hp), k ≤ 40 → 40 < k + n → ∃ f, f_X12_row_52 (nI j) x3 n σ (nI k) = some (sI (rI σ 57 f) 51 6 0, x3) ∧ (∀ i, 40 * j + k ≤ i → i < 40 * j + 40 → f i = 0) ∧ ∀ i, ¬ (40 * j + k ≤ i ∧ i < 40 * j + 40) → f i = gI σ 57 i := by
  intro n
  induction n with
  | zero =>
    intro k σ h1 h2
    omega
  | succ n ih =>
    intro k σ h1 h2
    rw [f_X12_row_52]
    by_cases hk : k = 40
    · subst hk
      rw [if_pos (show (40 : Int32) ≤ nI 40 from nI_le (Nat.le_refl 40) (by decide))]
      exact ⟨gI σ 57, by rw [rI_id]; rfl, fun i a b => by omega, fun _ _ => rfl⟩
    · rw [if_neg (show ¬ (40 : Int32) ≤ nI k from nI_ge (b := 40) (by omega) (by decide)), c40, chk_s (nI_inb (by omega) (by decide)), nI_1, nI_cl (by omega)]
      obtain ⟨f, e1, e2, e3⟩ := ih (k + 1) (sI σ 57 (40 * j + k) 0) (by omega) (by omega)
      refine ⟨f, ?_, fun i a b => ?_, fun i a => ?_⟩
      · rw [e1]
        unfold sI
        rw [rI_rI]
      · by_cases hi : i = 40 * j + k
        · rw [e3 i (by omega), hi, gI_s, upd_s]
        · exact e2 i (by omega) b
      · rw [e3 i (by omega), gI_s, upd_n (by omega)]
theorem rel_rows {σ σ2 : Hp} (h : Rel σ) (o : onlyI (fun q => q = 0 ∨ (3 ≤ q ∧ q ≤ 12) ∨ q = 51 ∨ (55 ≤ q ∧ q ≤ 57)) σ σ2) (e1 : gI σ2 0 8 = gI σ2 51 6) (e2 : ∀ k, k ≠ 6 → gI σ2 51 k = gI σ 51 k) (hr : RRow σ2) : Rel σ2 := by
  obtain ⟨b1, b2, b3, b4, b5, b6⟩ := h
  have k := keepG.of o (by omega)
  refine ⟨b1.of o.2, hr, b3.of (by rw [o.1 13 (by omega)]) (e2 8 (by omega)) (o.1 14 (by omega)) (o.1 58 (by omega)), ?_, k.land b5, k.img b6⟩
  obtain ⟨-, c2, c3⟩ := b4
  refine ⟨e1, by rw [o.1 13 (by omega), e2 15 (by omega)]; exact c2, ?_⟩
  rw [o.1 25 (by omega), e2 25 (by omega), o.1 26 (by omega), o.1 66 (by omega)]
  exact c3
theorem rs_hit {σ2 : Hp} {r j L N : Nat} {a b c d : Nat → Int32} (hL : L ≤ 2) (hN : N ≤ 40) (h : r ≠ j → (b r = -1 ∧ c r = -1000000) ∨ (∃ L N : Nat, L ≤ 2 ∧ N ≤ 40 ∧ a r = nI L ∧ c r = nI L ∧ b r = nI N ∧ d r = nI N)) :
    (upd b j (nI N) r = -1 ∧ upd c j (nI L) r = -1000000) ∨ (∃ L' N' : Nat, L' ≤ 2 ∧ N' ≤ 40 ∧ upd a j (nI L) r = nI L' ∧ upd c j (nI L) r = nI L' ∧ upd b j (nI N) r = nI N' ∧ upd d j (nI N) r = nI N') := by
  by_cases hrj : r = j
  · subst hrj
    rw [upd_s, upd_s, upd_s, upd_s]
    exact Or.inr ⟨L, N, hL, hN, rfl, rfl, rfl, rfl⟩
  · rw [upd_n hrj, upd_n hrj, upd_n hrj, upd_n hrj]
    exact h hrj
theorem op_row {σ : Hp} (h : Rel σ) (x1 x2 x3 : Int32) : Sim (f_X11_row σ x1 x2 x3) (fun s => f_X12_row s x1 x2 x3) := by
  by_cases hx : inb x1 8
  · by_cases h1 : x2 < 0
    · refine sim_bad h ?_ ?_
      · unfold f_X11_row
        rw [e_cRow1 hx, bd1_s, if_neg n10, if_pos h1]
      · show f_X12_row _ _ _ _ = _
        unfold f_X12_row
        rw [e_mRow1 hx, bd1_s, if_neg n10, e_in0 (a := 0) (b := 2) (Or.inl (tI_lt.mp h1)), bd1_s, if_pos rfl]
    · by_cases h2 : 2 < x2
      · refine sim_bad h ?_ ?_
        · unfold f_X11_row
          rw [e_cRow1 hx, bd1_s, if_neg n10, if_neg h1, if_pos h2]
        · show f_X12_row _ _ _ _ = _
          unfold f_X12_row
          rw [e_mRow1 hx, bd1_s, if_neg n10, e_in0 (a := 0) (b := 2) (Or.inr (tI_lt.mp h2)), bd1_s, if_pos rfl]
      · have e2 : ∀ s : Hp, f_X12_in s x2 0 2 = some 1 := fun s => e_in1 (a := 0) (b := 2) (by rw [tI_lt] at h1; omega) (by rw [tI_lt] at h2; omega)
        by_cases h3 : x3 ≤ 40
        · by_cases h4 : 0 ≤ x3
          · obtain ⟨j, hj, rfl⟩ := inb_nI hx (by decide)
            obtain ⟨L, hL, rfl⟩ := inb_nI (x := x2) (n := 3) ⟨by rw [tI_lt] at h1; have h1 : ¬ x2.toInt < 0 := h1; omega, by rw [tI_lt] at h2; have h2 : ¬ 2 < x2.toInt := h2; omega⟩ (by decide)
            obtain ⟨N, hN, rfl⟩ := inb_nI (x := x3) (n := 41) ⟨by rw [tI_le] at h4; exact h4, by rw [tI_le] at h3; have h3 : x3.toInt ≤ 40 := h3; omega⟩ (by decide)
            have c : ∃ σ1, f_X11_row σ (nI j) (nI L) (nI N) = some (σ1, nI N) ∧ onlyI (fun q => q = 0 ∨ q = 11 ∨ q = 12 ∨ q = 3 + j) σ σ1 ∧ gI σ1 11 = upd (gI σ 11) j (nI L) ∧ gI σ1 12 = upd (gI σ 12) j (nI N) ∧ (∀ i, i < 40 → gI σ1 (3 + j) i = 0) ∧ gI σ1 0 8 = 0 := by
              refine ⟨sI (rI (sI (sI σ 11 j (nI L)) 12 j (nI N)) (3 + j) (fun k => if k < 40 then 0 else gI (sI (sI σ 11 j (nI L)) 12 j (nI N)) (3 + j) k)) 0 8 0, ?_, (((onlyI.rf.st (by omega)).st (by omega)).row (by omega)).st (by omega), ?_, ?_, fun i hi => ?_, rfl⟩
              · unfold f_X11_row f_X6_make
                rw [e_cRow1 hx, bd1_s, if_neg n10, if_neg h1, if_neg h2, if_pos h3, if_pos h4, chk_s hx, chk_s hx, chk_s hx, nI_cl (by omega), e_fill0 (by omega)]
                rfl
              · simp (disch := omega) only [gI_n, gI_rIn, gI_s]
              · simp (disch := omega) only [gI_n, gI_rIn, gI_s]
              · simp (disch := omega) only [gI_n, gI_rI]
                rw [if_pos hi]
            obtain ⟨σ1, c1, c2, c3, c4, c5, c6⟩ := c
            have m : ∃ σ2, f_X12_row σ1 (nI j) (nI L) (nI N) = some (σ2, nI N) ∧ onlyI (fun q => q = 51 ∨ q = 55 ∨ q = 56 ∨ q = 57) σ1 σ2 ∧ gI σ2 55 = upd (gI σ1 55) j (nI L) ∧ gI σ2 56 = upd (gI σ1 56) j (nI N) ∧ (∀ i, i < 40 → gI σ2 57 (40 * j + i) = 0) ∧ (∀ i, ¬ (40 * j ≤ i ∧ i < 40 * j + 40) → gI σ2 57 i = gI σ1 57 i) ∧ gI σ2 51 = upd (gI σ1 51) 6 0 := by
              obtain ⟨f, e3, e4, e5⟩ := e_row52 hj (nI N) fu 0 (sI (sI σ1 55 j (nI L)) 56 j (nI N)) (by omega) (by decide)
              refine ⟨sI (rI (sI (sI σ1 55 j (nI L)) 56 j (nI N)) 57 f) 51 6 0, ?_, (((onlyI.rf.st (by omega)).st (by omega)).row (by omega)).st (by omega), ?_, ?_, fun i hi => ?_, fun i hi => ?_, ?_⟩
              · unfold f_X12_row
                rw [e_mRow1 hx, bd1_s, if_neg n10, e2, bd1_s, if_neg n10, if_pos h3, if_pos h4, chk_s hx, chk_s hx, nI_cl (by omega)]
                exact e3
              · simp (disch := omega) only [gI_n, gI_rIn, gI_s]
              · simp (disch := omega) only [gI_n, gI_rIn, gI_s]
              · simp (disch := omega) only [gI_n, gI_rI]
                exact e4 _ (by omega) (by omega)
              · simp (disch := omega) only [gI_n, gI_rI]
                rw [e5 i (by omega)]
                simp (disch := omega) only [gI_n]
              · simp (disch := omega) only [gI_n, gI_rIn, gI_s]
            obtain ⟨σ2, m1, m2, m3, m4, m5, m6, m7⟩ := m
            refine ⟨σ1, nI N, σ2, c1, m1, rel_rows h ((c2.mono (by omega)).tr (m2.mono (by omega))) ?_ ?_ ⟨fun r hr => ?_, fun r i hr hi => ?_⟩⟩
            · rw [m7, upd_s, m2.1 0 (by omega), c6]
            · intro k hk
              rw [m7, upd_n hk, c2.1 51 (by omega)]
            · rw [m2.1 12 (by omega), m2.1 11 (by omega), m3, m4, c3, c4, c2.1 55 (by omega), c2.1 56 (by omega)]
              exact rs_hit (σ2 := σ) (by omega) (by omega) (fun _ => h.2.1.1 r hr)
            · rw [m2.1 (3 + r) (by omega)]
              by_cases hrj : r = j
              · subst hrj
                rw [c5 i hi, m5 i hi]
              · rw [m6 _ (by omega), c2.1 (3 + r) (by omega), c2.1 57 (by omega)]
                exact h.2.1.2 r i hr hi
          · refine ⟨sI σ 0 8 4, -1000010 - 4, sI (sI σ 0 8 4) 51 6 4, ?_, ?_, rel_found h 4⟩
            · unfold f_X11_row
              rw [e_cRow1 hx, bd1_s, if_neg n10, if_neg h1, if_neg h2, if_pos h3, if_neg h4]
              rfl
            · show f_X12_row _ _ _ _ = _
              unfold f_X12_row
              rw [e_mRow1 hx, bd1_s, if_neg n10, e2, bd1_s, if_neg n10, if_pos h3, if_neg h4]
              rfl
        · refine sim_bad h ?_ ?_
          · unfold f_X11_row
            rw [e_cRow1 hx, bd1_s, if_neg n10, if_neg h1, if_neg h2, if_neg h3]
          · show f_X12_row _ _ _ _ = _
            unfold f_X12_row
            rw [e_mRow1 hx, bd1_s, if_neg n10, e2, bd1_s, if_neg n10, if_neg h3]
  · refine sim_bad h ?_ ?_
    · unfold f_X11_row
      rw [e_cRow0 hx, bd1_s, if_pos rfl]
    · show f_X12_row _ _ _ _ = _
      unfold f_X12_row
      rw [e_mRow0 hx, bd1_s, if_pos rfl]

def nar (L : Nat) (x : Int32) : Int32 := if L = 0 then x.toInt8.toInt32 else if L = 1 then x.toInt16.toInt32 else x
theorem e_put {σ : Hp} {j k L : Nat} (hj : j < 8) (hk : k < 40) (hL : L ≤ 2) (h : gI σ 11 j = nI L) (x3 : Int32) : f_X6_put σ (nI j) (nI k) x3 = some (sI σ (3 + j) k (nar L x3), nar L x3) := by
  have i1 : inb (nI j) 8 := nI_inb hj (by decide)
  have i2 : inb (nI k) 40 := nI_inb hk (by decide)
  unfold f_X6_put
  rw [nI_cl (by omega), nI_cl (by omega), h, chk_s i1]
  rcases (show L = 0 ∨ L = 1 ∨ L = 2 by omega) with rfl | rfl | rfl
  · rw [if_pos (show nI 0 = 0 from rfl), bnd_s, chk_s i1, chk_s i2]
    rfl
  · rw [if_neg (by decide), chk_s i1, if_pos (show nI 1 = 1 from rfl), bnd_s, chk_s i1, chk_s i2]
    rfl
  · rw [if_neg (by decide), chk_s i1, if_neg (by decide), chk_s i1, chk_s i2]
    rfl
theorem op_set {σ : Hp} (h : Rel σ) (x1 x2 x3 : Int32) : Sim (f_X11_set σ x1 x2 x3) (fun s => f_X12_set s x1 x2 x3) := by
  by_cases hx : inb x1 8
  · obtain ⟨j, hj, rfl⟩ := inb_nI hx (by decide)
    rcases h.2.1.1 j hj with ⟨a, b⟩ | ⟨L, N, hL, hN, a1, a2, a3, a4⟩
    · refine ⟨sI σ 0 8 1, -1000010 - 1, sI (sI σ 0 8 1) 51 6 1, ?_, ?_, rel_found h 1⟩
      · unfold f_X11_set
        rw [e_cRow1 hx, bd1_s, if_neg n10, e_miss1 hj a, bd1_s, if_neg n10]
        rfl
      · show f_X12_set _ _ _ _ = _
        unfold f_X12_set
        rw [e_mRow1 hx, bd1_s, if_neg n10, chk_s hx, nI_cl (by omega), if_pos (show gI (sI σ 0 8 1) 55 j = -1000000 from b)]
        rfl
    · have es : (nI N - 1).toInt = (N : Int) - 1 := by
        rw [tI_sub (by rw [nI_toInt (by omega)]; show _ ≤ (N : Int) - 1; omega) (by rw [nI_toInt (by omega)]; show (N : Int) - 1 < _; omega), nI_toInt (by omega)]
        rfl
      by_cases hk : inb x2 N
      · obtain ⟨k, hkN, rfl⟩ := inb_nI hk (by omega)
        have c : ∃ σ1, f_X11_set σ (nI j) (nI k) x3 = some (σ1, nar L x3) ∧ onlyI (fun q => q = 0 ∨ q = 3 + j) σ σ1 ∧ gI σ1 (3 + j) = upd (gI σ (3 + j)) k (nar L x3) ∧ gI σ1 0 8 = 0 := by
          refine ⟨sI (sI σ (3 + j) k (nar L x3)) 0 8 0, ?_, (onlyI.rf.st (by omega)).st (by omega), ?_, ?_⟩
          · unfold f_X11_set f_X6_sizeOf
            rw [e_cRow1 hx, bd1_s, if_neg n10, e_miss0 hj hN a3, bd1_s, if_pos rfl, if_neg (nI_pos (by omega)), chk_s hx, bd1_s, nI_cl (by omega), a3, if_pos (nI_lt hkN (by omega)), e_put hj (by omega) hL a1]
            rfl
          · simp (disch := omega) only [gI_n, gI_s]
          · rw [gI_s, upd_s]
        obtain ⟨σ1, c1, c2, c3, c4⟩ := c
        have m : ∃ σ2, f_X12_set σ1 (nI j) (nI k) x3 = some (σ2, nar L x3) ∧ onlyI (fun q => q = 51 ∨ q = 57) σ1 σ2 ∧ gI σ2 57 = upd (gI σ1 57) (40 * j + k) (nar L x3) ∧ gI σ2 51 = upd (gI σ1 51) 6 0 := by
          refine ⟨sI (sI σ1 57 (40 * j + k) (nar L x3)) 51 6 0, ?_, (onlyI.rf.st (by omega)).st (by omega), ?_, ?_⟩
          · have a2' : gI σ1 55 j = nI L := by rw [c2.1 55 (by omega)]; exact a2
            have a4' : gI σ1 56 j = nI N := by rw [c2.1 56 (by omega)]; exact a4
            have i3 : inb (nI (40 * j + k)) 320 := nI_inb (by omega) (by decide)
            unfold f_X12_set
            rw [e_mRow1 hx, bd1_s, if_neg n10, chk_s hx, nI_cl (by omega), a2', if_neg (nI_nN (by omega)), chk_s hx, a4', e_in1 (a := 0) (by rw [nI_toInt (by omega)]; show (0 : Int) ≤ k; omega) (by rw [es, nI_toInt (by omega)]; omega), bd1_s, if_neg n10, chk_s hx, c40]
            rcases (show L = 0 ∨ L = 1 ∨ L = 2 by omega) with rfl | rfl | rfl
            · rw [if_pos (show nI 0 = 0 from rfl), bnd_s, chk_s i3, nI_cl (by omega)]
              rfl
            · rw [if_neg (by decide), chk_s hx, if_pos (show nI 1 = 1 from rfl), bnd_s, chk_s i3, nI_cl (by omega)]
              rfl
            · rw [if_neg (by decide), chk_s hx, if_neg (by decide), chk_s i3, nI_cl (by omega)]
              rfl
          · simp (disch := omega) only [gI_n, gI_s]
          · simp (disch := omega) only [gI_n, gI_s]
        obtain ⟨σ2, m1, m2, m3, m4⟩ := m
        refine ⟨σ1, nar L x3, σ2, c1, m1, rel_rows h ((c2.mono (by omega)).tr (m2.mono (by omega))) ?_ ?_ ⟨fun r hr => ?_, fun r i hr hi => ?_⟩⟩
        · rw [m4, upd_s, m2.1 0 (by omega), c4]
        · intro k hk
          rw [m4, upd_n hk, c2.1 51 (by omega)]
        · rw [m2.1 12 (by omega), m2.1 11 (by omega), m2.1 55 (by omega), m2.1 56 (by omega), c2.1 12 (by omega), c2.1 11 (by omega), c2.1 55 (by omega), c2.1 56 (by omega)]
          exact h.2.1.1 r hr
        · rw [m2.1 (3 + r) (by omega), m3]
          by_cases hrj : r = j
          · subst hrj
            rw [c3]
            by_cases hik : i = k
            · subst hik
              rw [upd_s, upd_s]
            · rw [upd_n hik, upd_n (by omega), c2.1 57 (by omega)]
              exact h.2.1.2 r i hr hi
          · rw [upd_n (by omega), c2.1 (3 + r) (by omega), c2.1 57 (by omega)]
            exact h.2.1.2 r i hr hi
      · refine ⟨sI σ 0 8 2, -1000010 - 2, sI (sI σ 0 8 2) 51 6 2, ?_, ?_, rel_found h 2⟩
        · unfold f_X11_set f_X6_sizeOf
          rw [e_cRow1 hx, bd1_s, if_neg n10, e_miss0 hj hN a3, bd1_s, if_pos rfl]
          by_cases h1 : x2 < 0
          · rw [if_pos h1]
            rfl
          · rw [if_neg h1, chk_s hx, bd1_s, nI_cl (by omega), a3, if_neg (by rw [tI_lt, nI_toInt (by omega)]; rw [tI_lt] at h1; have h1 : ¬ x2.toInt < 0 := h1; unfold inb at hk; omega)]
            rfl
        · show f_X12_set _ _ _ _ = _
          unfold f_X12_set
          rw [e_mRow1 hx, bd1_s, if_neg n10, chk_s hx, nI_cl (by omega), if_neg (show ¬ gI (sI σ 0 8 2) 55 j = -1000000 from (by show ¬ gI σ 55 j = -1000000; rw [a2]; exact nI_nN (by omega))), chk_s hx, show gI (sI σ 0 8 2) 56 j = nI N from a4, e_in0 (a := 0) (by rw [es]; show x2.toInt < 0 ∨ _; unfold inb at hk; omega), bd1_s, if_pos rfl]
          rfl
  · refine sim_bad h ?_ ?_
    · unfold f_X11_set
      rw [e_cRow0 hx, bd1_s, if_pos rfl]
    · show f_X12_set _ _ _ _ = _
      unfold f_X12_set
      rw [e_mRow0 hx, bd1_s, if_pos rfl]
