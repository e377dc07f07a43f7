/-! ===== numbers ===== -/
theorem tI_lt {x y : Int32} : x < y ↔ x.toInt < y.toInt := Int32.lt_iff_toInt_lt
theorem tI_le {x y : Int32} : x ≤ y ↔ x.toInt ≤ y.toInt := Int32.le_iff_toInt_le
theorem tI_eq {x y : Int32} : x = y ↔ x.toInt = y.toInt := Int32.toInt_inj.symm
theorem tI_lo (x : Int32) : -2147483648 ≤ x.toInt := Int32.le_toInt x
theorem tI_hi (x : Int32) : x.toInt < 2147483648 := Int32.toInt_lt x
theorem tI_bm {z : Int} (h1 : -2147483648 ≤ z) (h2 : z < 2147483648) : z.bmod (2 ^ 32) = z := by
  rw [Int.bmod_eq_of_le (by omega) (by omega)]
theorem tI_add {x y : Int32} (h1 : -2147483648 ≤ x.toInt + y.toInt) (h2 : x.toInt + y.toInt < 2147483648) : (x + y).toInt = x.toInt + y.toInt := by
  rw [Int32.toInt_add, tI_bm h1 h2]
theorem tI_sub {x y : Int32} (h1 : -2147483648 ≤ x.toInt - y.toInt) (h2 : x.toInt - y.toInt < 2147483648) : (x - y).toInt = x.toInt - y.toInt := by
  rw [Int32.toInt_sub, tI_bm h1 h2]
theorem tI_mul {x y : Int32} (h1 : -2147483648 ≤ x.toInt * y.toInt) (h2 : x.toInt * y.toInt < 2147483648) : (x * y).toInt = x.toInt * y.toInt := by
  rw [Int32.toInt_mul, tI_bm h1 h2]
theorem tI_cl (x : Int32) : x.toNatClampNeg = x.toInt.toNat := rfl
theorem inb_nI {x : Int32} {n : Nat} (h : inb x n) (hn : n ≤ 2147483648) : ∃ j : Nat, j < n ∧ x = nI j := by
  refine ⟨x.toInt.toNat, by omega, ?_⟩
  rw [tI_eq, nI_toInt (by have := tI_hi x; omega)]
  omega
theorem nI_inb {j n : Nat} (h : j < n) (hn : n ≤ 2147483648) : inb (nI j) n := by
  unfold inb
  rw [nI_toInt (by omega)]
  omega
theorem nI_cl {j : Nat} (h : j < 2147483648) : (nI j).toNatClampNeg = j := nI_clamp h
/-! ===== the heap's laws ===== -/
theorem gI_s (σ : Hp) (q k : Nat) (v : Int32) : gI (sI σ q k v) q = upd (gI σ q) k v := up_self
theorem gI_n {σ : Hp} {q p k : Nat} {v : Int32} (h : p ≠ q) : gI (sI σ q k v) p = gI σ p := up_ne h
theorem upd_s (f : Nat → Int32) (k : Nat) (v : Int32) : upd f k v k = v := if_pos rfl
theorem upd_n {f : Nat → Int32} {k j : Nat} {v : Int32} (h : j ≠ k) : upd f k v j = f j := if_neg h
theorem gI_rI (σ : Hp) (q : Nat) (f : Nat → Int32) : gI (rI σ q f) q = f := up_self
theorem gI_rIn {σ : Hp} {q p : Nat} {f : Nat → Int32} (h : p ≠ q) : gI (rI σ q f) p = gI σ p := up_ne h
theorem gJ_s (σ : Hp) (q k : Nat) (v : Int64) : gJ (sJ σ q k v) q = vp_updL (gJ σ q) k v := up_self
theorem gJ_n {σ : Hp} {q p k : Nat} {v : Int64} (h : p ≠ q) : gJ (sJ σ q k v) p = gJ σ p := up_ne h
theorem gR_s (σ : Hp) (q k : Nat) (v : Option Nat) : gR (sR σ q k v) q = va_up (gR σ q) k v := up_self
theorem gR_n {σ : Hp} {q p k : Nat} {v : Option Nat} (h : p ≠ q) : gR (sR σ q k v) p = gR σ p := up_ne h
/-- σ' is σ but for ints at the places of S -/
def onlyI (S : Nat → Prop) (σ σ' : Hp) : Prop := (∀ q, ¬ S q → gI σ' q = gI σ q) ∧ σ'.2 = σ.2
theorem onlyI.rf {S : Nat → Prop} {σ : Hp} : onlyI S σ σ := ⟨fun _ _ => rfl, rfl⟩
theorem onlyI.tr {S : Nat → Prop} {a b c : Hp} (h : onlyI S a b) (k : onlyI S b c) : onlyI S a c := ⟨fun q hq => (k.1 q hq).trans (h.1 q hq), k.2.trans h.2⟩
theorem onlyI.st {S : Nat → Prop} {a b : Hp} {q k : Nat} {v : Int32} (h : onlyI S a b) (hq : S q) : onlyI S a (sI b q k v) := ⟨fun p hp => (gI_n (fun e : p = q => hp (by rw [e]; exact hq))).trans (h.1 p hp), h.2⟩
theorem onlyI.row {S : Nat → Prop} {a b : Hp} {q : Nat} {f : Nat → Int32} (h : onlyI S a b) (hq : S q) : onlyI S a (rI b q f) := ⟨fun p hp => (gI_rIn (fun e : p = q => hp (by rw [e]; exact hq))).trans (h.1 p hp), h.2⟩
theorem onlyI.mono {S T : Nat → Prop} {a b : Hp} (h : onlyI S a b) (hst : ∀ q, S q → T q) : onlyI T a b := ⟨fun q hq => h.1 q (fun z => hq (hst q z)), h.2⟩
/-- evaluation -/
theorem bd1_s {α β : Type} {a : α} {k : α → Option β} : bd1 (some a) k = k a := rfl
theorem bd2_s {α β γ : Type} {a : α} {b : β} {k : α → β → Option γ} : bd2 (some (a, b)) k = k a b := rfl
theorem bnd_s {α β : Type} {a : α} {k : α → Option β} : bnd a k = k a := rfl
theorem chk_s {α : Type} {c : Prop} [Decidable c] {x : Option α} (h : c) : chk c x = x := if_pos h
theorem opc_n {β : Type} {n : Option β} {k : Nat → Option β} : opc none n k = n := rfl
theorem opc_s {β : Type} {n : Option β} {k : Nat → Option β} {q : Nat} : opc (some q) n k = k q := rfl
theorem fu_s : fu = 511 + 1 := rfl
/-! Arrays.fill: the whole row -/
theorem e_fill {q ln : Nat} {v : Int32} (hln : ln < 2147483648) : ∀ (n j : Nat) (σ : Hp), j ≤ ln → ln < j + n → f_fill_5 q ln v n σ (nI j) = some (rI σ q (fun k => if j ≤ k ∧ k < ln then v else gI σ q k)) := by
  intro n
  induction n with
  | zero =>
    intro j σ h1 h2
    omega
  | succ n ih =>
    intro j σ h1 h2
    rw [f_fill_5]
    by_cases hj : j = ln
    · subst hj
      rw [if_pos (show Int32.ofNat j ≤ nI j from nI_le (Nat.le_refl j) hln)]
      have e : (fun k => if j ≤ k ∧ k < j then v else gI σ q k) = gI σ q := by
        funext k
        rw [if_neg (by omega)]
      rw [e]
      have : rI σ q (gI σ q) = σ := by
        unfold rI gI
        have : va_up σ.1 q (σ.1 q) = σ.1 := by
          funext x
          by_cases hx : x = q
          · rw [hx, up_self]
          · rw [up_ne hx]
        rw [this]
      rw [this]
    · have hlt : j < ln := by omega
      rw [if_neg (show ¬ Int32.ofNat ln ≤ nI j from nI_ge hlt hln), chk_s (nI_inb hlt (by omega)), nI_1, nI_cl (by omega), ih (j + 1) _ (by omega) (by omega)]
      congr 1
      unfold sI
      have e1 : ∀ (f g : Nat → Int32), rI (rI σ q f) q g = rI σ q g := by
        intro f g
        unfold rI
        have : va_up (va_up σ.1 q f) q g = va_up σ.1 q g := by
          funext x
          by_cases hx : x = q
          · rw [hx, up_self, up_self]
          · rw [up_ne hx, up_ne hx, up_ne hx]
        rw [this]
      rw [e1, gI_rI]
      congr 1
      funext k
      by_cases hk : k = j
      · subst hk
        rw [if_neg (by omega), if_pos (by omega), upd_s]
      · rw [upd_n hk]
        by_cases h3 : j + 1 ≤ k ∧ k < ln
        · rw [if_pos h3, if_pos (by omega)]
        · rw [if_neg h3, if_neg (by omega)]
theorem e_fill0 {q ln : Nat} {v : Int32} {σ : Hp} (hln : ln ≤ 500) : f_fill σ q ln v = some (rI σ q (fun k => if k < ln then v else gI σ q k)) := by
  unfold f_fill
  rw [show (0 : Int32) = nI 0 from rfl, e_fill (by omega) fu 0 σ (by omega) (by show ln < 0 + 512; omega)]
  congr 2
  funext k
  by_cases h : k < ln
  · rw [if_pos ⟨Nat.zero_le _, h⟩, if_pos h]
  · rw [if_neg (fun z => h z.2), if_neg h]
