/-! the most over the open neighbours, and the first move that reaches it -/
theorem sI_sI (σ : Hp) (q k : Nat) (v w : Int32) : sI (sI σ q k v) q k w = sI σ q k w := by
  unfold sI
  rw [gI_rI, rI_rI]
  congr 1
  funext j
  by_cases h : j = k
  · rw [h, upd_s, upd_s]
  · rw [upd_n h, upd_n h, upd_n h]
theorem sI_id (σ : Hp) (q k : Nat) : sI σ q k (gI σ q k) = σ := by
  unfold sI
  have : upd (gI σ q) k (gI σ q k) = gI σ q := by
    funext j
    by_cases h : j = k
    · rw [h, upd_s]
    · rw [upd_n h]
  rw [this, rI_id]
/-- how the model's choice goes on: the best so far, and the move -/
def chS (o : Option (Nat × Int32)) (c : Bool) (v : Nat) (z : Int32) : Option (Nat × Int32) := if c then (match o with
  | none => some (v, z)
  | some (w, y) => if v ≤ w then some (w, y) else some (v, z)) else o
def oC (o : Option (Nat × Int32)) : Int64 := match o with
  | none => -1
  | some p => lN p.1
def oM (o : Option (Nat × Int32)) (d : Int32) : Int32 := match o with
  | none => d
  | some p => p.2
theorem c_m1 {o : Option (Nat × Int32)} (ho : ∀ p, o = some p → p.1 < 2 ^ 62) : lg_cmp (-1 : Int64) (oC o) ≤ 0 := by
  rw [lg_cmp_le]
  cases o with
  | none => exact Int64.le_refl _
  | some p =>
    have := ho p rfl
    show (-1 : Int64) ≤ lN p.1
    rw [Int64.le_iff_toInt_le, pk_lT (by omega)]
    show (-1 : Int) ≤ _
    omega
theorem e_ch7 {σ : Hp} {u : GD} (M : MG (gI σ 52) u) (V : VG u) {a b : Nat} {H : Nat → Nat} (hH : ∀ x : Nat, x ≤ 12 → H x < 2 ^ 62) (hL : ∀ x : Nat, x ≤ 12 → opB u 0 (x : Int) = true → f_X12_leaves σ (nI x) (nI b) = some (lN (H x))) (n : Nat) {o : Option (Nat × Int32)} (ho : ∀ p, o = some p → p.1 < 2 ^ 62) (hm : gI σ 51 23 = oM o (gI σ 51 23)) {z : Int32} (hz : z.toInt ≤ 1) : f_X12_chooses_7 (nI a) (nI b) (n + 1) σ (oC o) z = f_X12_chooses_7 (nI a) (nI b) n (sI σ 51 23 (oM (chS o (opB u 0 (nI a + z).toInt) (H (nI a + z).toInt.toNat) z) (gI σ 51 23))) (oC (chS o (opB u 0 (nI a + z).toInt) (H (nI a + z).toInt.toNat) z)) (z + 1) := by
  rw [f_X12_chooses_7, if_neg (by rw [tI_lt]; show ¬ (1 : Int) < _; omega), show f_X12_mayBe σ 0 (nI a + z) = _ from e_may M V (r := 0) (by omega) _, bd1_s]
  unfold f_X12_chooses_59
  cases h : opB u 0 (nI a + z).toInt with
  | false =>
    rw [if_pos (by decide), if_pos (c_m1 ho), if_pos (c_m1 ho)]
    show _ = f_X12_chooses_7 (nI a) (nI b) n (sI σ 51 23 (oM o (gI σ 51 23))) (oC o) (z + 1)
    rw [← hm]
  | true =>
    obtain ⟨x, hx, ex, -⟩ := opB_nI h
    have eN : (nI x).toInt = (x : Int) := nI_toInt (by omega)
    rw [ex, eN] at h
    rw [if_neg (by decide), ex, hL x hx h, bd1_s, eN, Int.toNat_natCast]
    have hv := hH x hx
    cases o with
    | none =>
      have q : ¬ lg_cmp (lN (H x)) (oC none) ≤ 0 := by
        rw [lg_cmp_le, Int64.le_iff_toInt_le, pk_lT (by omega)]
        show ¬ _ ≤ (-1 : Int)
        omega
      rw [if_neg q, if_neg q]
      rfl
    | some p =>
      have hp := ho p rfl
      have q : lg_cmp (lN (H x)) (oC (some p)) ≤ 0 ↔ H x ≤ p.1 := by
        rw [lg_cmp_le]
        exact pk_lLE (by omega) (by omega)
      by_cases w : H x ≤ p.1
      · have e : chS (some p) true (H x) z = some p := by
          show (if H x ≤ p.1 then some (p.1, p.2) else some (H x, z)) = some p
          rw [if_pos w]
        rw [if_pos (q.mpr w), if_pos (q.mpr w), e, ← hm]
      · have e : chS (some p) true (H x) z = some (H x, z) := by
          show (if H x ≤ p.1 then some (p.1, p.2) else some (H x, z)) = some (H x, z)
          rw [if_neg w]
        rw [if_neg (fun k => w (q.mp k)), if_neg (fun k => w (q.mp k)), e]
        rfl
