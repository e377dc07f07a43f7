/-! ===== calls on ROWS ===== -/
theorem n10 : ¬ (1 : Int32) = 0 := by decide
theorem e_cRow1 {σ : Hp} {x : Int32} (h : inb x 8) : f_X11_isRow σ x = some 1 := by
  unfold f_X11_isRow
  rw [if_neg (by rw [tI_lt]; have := h.1; show ¬ x.toInt < 0; omega), if_neg (by rw [tI_le]; have := h.2; show ¬ 8 ≤ x.toInt; omega)]
theorem e_cRow0 {σ : Hp} {x : Int32} (h : ¬ inb x 8) : f_X11_isRow σ x = some 0 := by
  unfold f_X11_isRow
  by_cases h1 : x < 0
  · rw [if_pos h1]
  · rw [if_neg h1, if_pos (by rw [tI_le]; rw [tI_lt] at h1; have h1 : ¬ x.toInt < 0 := h1; show 8 ≤ x.toInt; unfold inb at h; omega)]
theorem e_in1 {σ : Hp} {x a b : Int32} (h : a.toInt ≤ x.toInt) (h2 : x.toInt ≤ b.toInt) : f_X12_in σ x a b = some 1 := by
  unfold f_X12_in
  rw [if_neg (by rw [tI_lt]; omega), if_neg (by rw [tI_lt]; omega)]
theorem e_in0 {σ : Hp} {x a b : Int32} (h : x.toInt < a.toInt ∨ b.toInt < x.toInt) : f_X12_in σ x a b = some 0 := by
  unfold f_X12_in
  by_cases h1 : x < a
  · rw [if_pos h1]
  · rw [if_neg h1, if_pos (by rw [tI_lt]; rw [tI_lt] at h1; omega)]
theorem e_mRow1 {σ : Hp} {x : Int32} (h : inb x 8) : f_X12_isRow σ x = some 1 := by
  unfold f_X12_isRow
  rw [e_in1 (a := 0) (b := 7) (show (0 : Int) ≤ x.toInt from h.1) (show x.toInt ≤ (7 : Int) by have := h.2; omega), bd1_s, chk_s (Or.inr rfl)]
theorem e_mRow0 {σ : Hp} {x : Int32} (h : ¬ inb x 8) : f_X12_isRow σ x = some 0 := by
  unfold f_X12_isRow
  rw [e_in0 (a := 0) (b := 7) (show x.toInt < (0 : Int) ∨ (7 : Int) < x.toInt by unfold inb at h; omega), bd1_s, chk_s (Or.inl rfl)]
theorem nI_nneg {n : Nat} (h : n < 2147483648) : (0 : Int32) ≤ nI n := nI_pos' h
theorem nI_nN {n : Nat} (h : n < 2147483648) : ¬ nI n = -1000000 := by
  rw [tI_eq, nI_toInt h]
  show ¬ (n : Int) = -1000000
  omega
/-- both sides put their finding away -/
theorem rel_found {σ : Hp} (h : Rel σ) (v : Int32) : Rel (sI (sI σ 0 8 v) 51 6 v) := by
  obtain ⟨a1, a2, a3, a4, a5, a6⟩ := h
  have o : onlyI (fun q => q = 0 ∨ q = 51) σ (sI (sI σ 0 8 v) 51 6 v) := (onlyI.rf.st (Or.inl rfl)).st (Or.inr rfl)
  have k : keepG σ (sI (sI σ 0 8 v) 51 6 v) := keepG.of o (by omega)
  refine ⟨a1, a2.of (fun q hq => o.1 q (by omega)), a3.of rfl rfl rfl rfl, ?_, k.land a5, k.img a6⟩
  obtain ⟨-, b2, b3⟩ := a4
  exact ⟨rfl, b2, b3⟩
theorem sim_bad {σ : Hp} (h : Rel σ) {c m} (hc : c = some (σ, -1000001)) (hm : m σ = some (σ, -1000001)) : Sim c m := ⟨σ, _, σ, hc, hm, h⟩
theorem sim_state {σ : Hp} (h : Rel σ) {c m} (hc : c = some (σ, -1000002)) (hm : m σ = some (σ, -1000002)) : Sim c m := ⟨σ, _, σ, hc, hm, h⟩
/-- the model looks at its own places alone -/
theorem e_miss0 {σ : Hp} {j : Nat} (hj : j < 8) {N : Nat} (hN : N ≤ 40) (h : gI σ 12 j = nI N) : f_X6_isMissing σ (nI j) = some 0 := by
  unfold f_X6_isMissing
  rw [chk_s (nI_inb hj (by decide)), nI_cl (by omega), h, if_pos (nI_nneg (by omega))]
theorem e_miss1 {σ : Hp} {j : Nat} (hj : j < 8) (h : gI σ 12 j = -1) : f_X6_isMissing σ (nI j) = some 1 := by
  unfold f_X6_isMissing
  rw [chk_s (nI_inb hj (by decide)), nI_cl (by omega), h, if_neg (by decide)]
theorem op_drop {σ : Hp} (h : Rel σ) (x1 : Int32) : Sim (f_X11_drop σ x1) (fun s => f_X12_drop s x1) := by
  by_cases hx : inb x1 8
  · have hr := h.2.1
    obtain ⟨j, hj, rfl⟩ := inb_nI hx (by decide)
    rcases hr.1 j hj with ⟨a, b⟩ | ⟨L, N, hL, hN, a1, a2, a3, a4⟩
    · refine ⟨sI σ 0 8 1, -1000010 - 1, sI (sI σ 0 8 1) 51 6 1, ?_, ?_, rel_found h 1⟩
      · unfold f_X11_drop
        rw [e_cRow1 hx, bd1_s, if_neg n10, e_miss1 hj a, bd1_s, if_neg n10]
        rfl
      · show f_X12_drop _ _ = _
        unfold f_X12_drop
        rw [e_mRow1 hx, bd1_s, if_neg n10, chk_s hx, nI_cl (by omega), if_pos (show gI (sI σ 0 8 1) 55 j = -1000000 from b)]
        rfl
    · refine ⟨sI (sI σ 12 j (-1)) 0 8 0, nI N, sI (sI (sI (sI σ 12 j (-1)) 0 8 0) 55 j (-1000000)) 51 6 0, ?_, ?_, ?_⟩
      · unfold f_X11_drop f_X6_remove
        rw [e_cRow1 hx, bd1_s, if_neg n10, e_miss0 hj hN a3, bd1_s, if_pos rfl, chk_s hx, bnd_s, chk_s hx, nI_cl (by omega), bd2_s, a3]
        rfl
      · show f_X12_drop _ _ = _
        unfold f_X12_drop
        rw [e_mRow1 hx, bd1_s, if_neg n10, chk_s hx, nI_cl (by omega), if_neg (show ¬ gI (sI (sI σ 12 j (-1)) 0 8 0) 55 j = -1000000 from (by show ¬ gI σ 55 j = -1000000; rw [a2]; exact nI_nN (by omega))), chk_s hx, chk_s hx]
        show some (_, gI σ 56 j) = _
        rw [a4]
      · obtain ⟨b1, b2, b3, b4, b5, b6⟩ := h
        have o : onlyI (fun q => q = 0 ∨ q = 51 ∨ q = 12 ∨ q = 55) σ (sI (sI (sI (sI σ 12 j (-1)) 0 8 0) 55 j (-1000000)) 51 6 0) := (((onlyI.rf.st (by omega)).st (by omega)).st (by omega)).st (by omega)
        have k := keepG.of o (by omega)
        refine ⟨b1, ?_, b3.of rfl rfl rfl rfl, ?_, k.land b5, k.img b6⟩
        · refine ⟨fun r hr9 => ?_, fun r i h1 h2 => ?_⟩
          · show (upd (gI σ 12) j (-1) r = -1 ∧ upd (gI σ 55) j (-1000000) r = -1000000) ∨ (∃ L N : Nat, L ≤ 2 ∧ N ≤ 40 ∧ gI σ 11 r = nI L ∧ upd (gI σ 55) j (-1000000) r = nI L ∧ upd (gI σ 12) j (-1) r = nI N ∧ gI σ 56 r = nI N)
            by_cases hrj : r = j
            · subst hrj
              exact Or.inl ⟨upd_s _ _ _, upd_s _ _ _⟩
            · rw [upd_n hrj, upd_n hrj]
              exact hr.1 r hr9
          · rw [o.1 (3 + r) (by omega)]
            exact hr.2 r i h1 h2
        · obtain ⟨-, c2, c3⟩ := b4
          exact ⟨rfl, c2, c3⟩
  · refine sim_bad h ?_ ?_
    · unfold f_X11_drop
      rw [e_cRow0 hx, bd1_s, if_pos rfl]
    · show f_X12_drop _ _ = _
      unfold f_X12_drop
      rw [e_mRow0 hx, bd1_s, if_pos rfl]
