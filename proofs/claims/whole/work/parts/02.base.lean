/-! ===== the heap, as a value: places 0 .. 66 are laid by the two constructors, STRIPS come behind ===== -/
abbrev Hp : Type := (Nat → Nat → Int32) × (Nat → Nat → Int64) × (Nat → Nat → Option Nat) × (Nat → Nat) × Nat
def gI (σ : Hp) (q : Nat) : Nat → Int32 := σ.1 q
def gJ (σ : Hp) (q : Nat) : Nat → Int64 := σ.2.1 q
def gR (σ : Hp) (q : Nat) : Nat → Option Nat := σ.2.2.1 q
def gK (σ : Hp) (q : Nat) : Nat := σ.2.2.2.1 q
def gT (σ : Hp) : Nat := σ.2.2.2.2
def rI (σ : Hp) (q : Nat) (f : Nat → Int32) : Hp := (va_up σ.1 q f, σ.2)
def rJ (σ : Hp) (q : Nat) (f : Nat → Int64) : Hp := (σ.1, va_up σ.2.1 q f, σ.2.2)
def rR (σ : Hp) (q : Nat) (f : Nat → Option Nat) : Hp := (σ.1, σ.2.1, va_up σ.2.2.1 q f, σ.2.2.2)
def sI (σ : Hp) (q k : Nat) (v : Int32) : Hp := rI σ q (upd (gI σ q) k v)
def sJ (σ : Hp) (q k : Nat) (v : Int64) : Hp := rJ σ q (vp_updL (gJ σ q) k v)
def sR (σ : Hp) (q k : Nat) (v : Option Nat) : Hp := rR σ q (va_up (gR σ q) k v)
def nS (σ : Hp) (k : Nat) : Hp := (va_up σ.1 (gT σ) (fun _ => 0), σ.2.1, σ.2.2.1, va_up σ.2.2.2.1 (gT σ) k, gT σ + 1)
def lnd (σ : Hp) : Nat := (gR σ 0 6).getD 39
def spr (σ : Hp) : Nat := (gR σ 0 7).getD 45
abbrev isG (g : Nat) : Prop := g = 27 ∨ g = 33 ∨ g = 39 ∨ g = 45
/-- kind and length of each place: 0 .. 11 objects (by vwCl), 12 bytes, 13 ints, 14 longs, 15 booleans, 16 STRIPS, 17 rows of ints -/
def ptb : List (Nat × Nat) := [(10, 0), (6, 0), (17, 8), (13, 40), (13, 40), (13, 40), (13, 40), (13, 40), (13, 40), (13, 40), (13, 40), (13, 8), (13, 8), (5, 0), (12, 400), (8, 0), (13, 12), (13, 12), (15, 12), (13, 169), (13, 169), (13, 169), (13, 12), (13, 156), (13, 12), (9, 0), (13, 16), (4, 0), (16, 12), (13, 13), (13, 13), (13, 13), (13, 13), (4, 0), (16, 12), (13, 13), (13, 13), (13, 13), (13, 13), (4, 0), (16, 12), (13, 13), (13, 13), (13, 13), (13, 13), (4, 0), (16, 12), (13, 13), (13, 13), (13, 13), (13, 13), (11, 0), (13, 78), (13, 156), (15, 2), (13, 8), (13, 8), (13, 320), (13, 400), (13, 78), (14, 169), (14, 169), (14, 169), (13, 12), (14, 169), (13, 12), (13, 16)]
def kd (σ : Hp) (q : Nat) : Nat × Nat := if q < 67 then ptb.getD q (99, 0) else (gK σ q, 0)
def flds (b c q : Nat) (i : Nat → Int32) (j : Nat → Int64) (r : Nat → Option Nat) : List Value := match c with
  | 4 => [.ref (b + (q + 1)), .ref (b + (q + 2)), .ref (b + (q + 3)), .ref (b + (q + 4)), .ref (b + (q + 5)), .int (i 5), .int (i 6), .int (i 7), .int (i 8), .int (i 9), .int (i 10)]
  | 5 => [.ref (b + (q + 1)), .int (i 1), .int (i 2), .int (i 3), .int (i 4), .int (i 5), .int (i 6), .int (i 7)]
  | 6 => [.ref (b + (q + 1)), .ref (b + (q + 10)), .ref (b + (q + 11))]
  | 8 => [.ref (b + (q + 1)), .ref (b + (q + 2)), .ref (b + (q + 3)), .int (i 3), .ref (b + (q + 4)), .ref (b + (q + 5)), .ref (b + (q + 6)), .ref (b + (q + 7)), .ref (b + (q + 8)), .ref (b + (q + 9)), .int (i 10), .int (i 11), .int (i 12), .int (i 13), .int (i 14), .int (i 15)]
  | 9 => [.ref (b + (q + 1)), .int (i 1)]
  | 10 => [.ref (b + (q + 1)), .ref (b + (q + 13)), .ref (b + (q + 15)), .ref (b + (q + 25)), .ref (b + (q + 27)), .ref (b + (q + 33)), .ref (b + (r 6).getD 39), .ref (b + (r 7).getD 45), .int (i 8)]
  | 11 => [.ref (b + (q + 1)), .ref (b + (q + 2)), .ref (b + (q + 3)), .ref (b + (q + 4)), .ref (b + (q + 5)), .ref (b + (q + 6)), .int (i 6), .ref (b + (q + 7)), .int (i 8), .int (i 9), .int (i 10), .int (i 11), .int (i 12), .long (j 13), .int (i 14), .int (i 15), .ref (b + (q + 8)), .ref (b + (q + 9)), .ref (b + (q + 10)), .ref (b + (q + 11)), .ref (b + (q + 12)), .ref (b + (q + 13)), .ref (b + (q + 14)), .int (i 23), .ref (b + (q + 15)), .int (i 25)]
  | _ => [.int (i 0), .int (i 1), .int (i 2)]
def ce (b : Nat) (cy : Nat → ClassId) (kn : Nat × Nat) (q : Nat) (i : Nat → Int32) (j : Nat → Int64) (r : Nat → Option Nat) : va_E :=
  if kn.1 < 12 then .inr (kn.1, flds b kn.1 q i j r) else match kn.1 with
  | 12 => .inl (cy 0, kn.2, .inl i)
  | 13 => .inl (cy 1, kn.2, .inl i)
  | 14 => .inl (cy 2, kn.2, .inr (.inl j))
  | 15 => .inl (cy 3, kn.2, .inl i)
  | 16 => .inl (cy 4, kn.2, .inr (.inr (.inr (.inr (fun k => (r k).map (fun x => b + x))))))
  | 17 => .inl (cy 5, kn.2, .inr (.inr (.inr (.inr (fun k => if k < 8 then some (b + (3 + k)) else none)))))
  | _ => .inr (0, flds b 0 q i j r)
def wd (b : Nat) (cy : Nat → ClassId) (σ : Hp) : va_W := (List.range (gT σ)).map (fun q => (b + q, ce b cy (kd σ q) q (gI σ q) (gJ σ q) (gR σ q)))
def WF (σ : Hp) : Prop := 67 ≤ gT σ ∧ isG (lnd σ) ∧ isG (spr σ) ∧ ∀ q, gT σ ≤ q → gK σ q = 99
theorem wd_at {b : Nat} {cy : Nat → ClassId} {σ : Hp} {q : Nat} (h : q < gT σ) : (wd b cy σ)[q]? = some (b + q, ce b cy (kd σ q) q (gI σ q) (gJ σ q) (gR σ q)) := by
  unfold wd
  rw [List.getElem?_map, List.getElem?_range h]
  rfl
theorem wd_out {b : Nat} {cy : Nat → ClassId} {σ : Hp} {q : Nat} (h : ¬ q < gT σ) : (wd b cy σ)[q]? = none := by
  unfold wd
  rw [List.getElem?_eq_none]
  simp
  omega
theorem wd_len {b : Nat} {cy : Nat → ClassId} {σ : Hp} : (wd b cy σ).length = gT σ := by simp [wd]
theorem wd_set {b : Nat} {cy : Nat → ClassId} {σ σ' : Hp} {q : Nat} {e : va_E} (hq : q < gT σ) (hT : gT σ' = gT σ) (hK : ∀ x, kd σ' x = kd σ x) (hI : ∀ x, x ≠ q → gI σ' x = gI σ x) (hJ : ∀ x, x ≠ q → gJ σ' x = gJ σ x) (hR : ∀ x, x ≠ q → gR σ' x = gR σ x)
    (he : e = ce b cy (kd σ q) q (gI σ' q) (gJ σ' q) (gR σ' q)) : (wd b cy σ).set q (b + q, e) = wd b cy σ' := by
  apply List.ext_getElem?
  intro x
  by_cases hx : x < gT σ
  · rw [wd_at (σ := σ') (by rw [hT]; exact hx)]
    by_cases hxq : x = q
    · subst hxq
      rw [List.getElem?_set_self (by rw [wd_len]; exact hx), hK, he]
    · rw [List.getElem?_set_ne (Ne.symm hxq), wd_at hx, hK, hI x hxq, hJ x hxq, hR x hxq]
  · rw [wd_out (σ := σ') (by rw [hT]; exact hx)]
    by_cases hxq : x = q
    · exact absurd (hxq ▸ hq) hx
    · rw [List.getElem?_set_ne (Ne.symm hxq), wd_out hx]
theorem wd_D {b : Nat} {cy : Nat → ClassId} {σ : Hp} : va_D (fun q => b ≤ q) (wd b cy σ) := by
  have key : ∀ (i : Nat) (p : Nat × va_E), (wd b cy σ)[i]? = some p → p.1 = b + i := by
    intro i p h
    by_cases hi : i < gT σ
    · rw [wd_at hi] at h
      cases h
      rfl
    · rw [wd_out hi] at h
      cases h
  refine ⟨fun i j p q hi hj e => ?_, fun k q hk => ?_⟩
  · have h1 := key i p hi
    have h2 := key j q hj
    omega
  · have := key k q hk
    omega
theorem up_self {α : Type} {f : Nat → α} {k : Nat} {v : α} : va_up f k v k = v := if_pos rfl
theorem up_ne {α : Type} {f : Nat → α} {k x : Nat} {v : α} (h : x ≠ k) : va_up f k v x = f x := if_neg h
theorem wd_rI {b : Nat} {cy : Nat → ClassId} {σ : Hp} {q : Nat} {f : Nat → Int32} {e : va_E} (hq : q < gT σ) (he : e = ce b cy (kd σ q) q f (gJ σ q) (gR σ q)) : (wd b cy σ).set q (b + q, e) = wd b cy (rI σ q f) :=
  wd_set (σ' := rI σ q f) hq rfl (fun _ => rfl) (fun x hx => up_ne hx) (fun _ _ => rfl) (fun _ _ => rfl) (by rw [he]; show _ = ce b cy _ q (va_up σ.1 q f q) _ _; rw [up_self]; rfl)
theorem wd_rJ {b : Nat} {cy : Nat → ClassId} {σ : Hp} {q : Nat} {f : Nat → Int64} {e : va_E} (hq : q < gT σ) (he : e = ce b cy (kd σ q) q (gI σ q) f (gR σ q)) : (wd b cy σ).set q (b + q, e) = wd b cy (rJ σ q f) :=
  wd_set (σ' := rJ σ q f) hq rfl (fun _ => rfl) (fun _ _ => rfl) (fun x hx => up_ne hx) (fun _ _ => rfl) (by rw [he]; show _ = ce b cy _ q _ (va_up σ.2.1 q f q) _; rw [up_self]; rfl)
theorem wd_rR {b : Nat} {cy : Nat → ClassId} {σ : Hp} {q : Nat} {f : Nat → Option Nat} {e : va_E} (hq : q < gT σ) (he : e = ce b cy (kd σ q) q (gI σ q) (gJ σ q) f) : (wd b cy σ).set q (b + q, e) = wd b cy (rR σ q f) :=
  wd_set (σ' := rR σ q f) hq rfl (fun _ => rfl) (fun _ _ => rfl) (fun _ _ => rfl) (fun x hx => up_ne hx) (by rw [he]; show _ = ce b cy _ q _ _ (va_up σ.2.2.1 q f q); rw [up_self]; rfl)
theorem kd_lt {σ : Hp} {q c n : Nat} (hw : WF σ) (h : kd σ q = (c, n)) (hc : c ≠ 99) : q < gT σ := by
  unfold kd at h
  by_cases hq : q < 67
  · exact Nat.lt_of_lt_of_le hq hw.1
  · rw [if_neg hq] at h
    cases h
    exact Nat.not_le.mp (fun z => hc (hw.2.2.2 q z))
theorem ce_obj {b : Nat} {cy : Nat → ClassId} {c n q : Nat} {i : Nat → Int32} {j : Nat → Int64} {r : Nat → Option Nat} (h : c < 12) : ce b cy (c, n) q i j r = .inr (c, flds b c q i j r) := if_pos h
theorem isG_cases {P : Nat → Prop} {g : Nat} (h : isG g) (h1 : P 27) (h2 : P 33) (h3 : P 39) (h4 : P 45) : P g := by
  rcases h with rfl | rfl | rfl | rfl
  · exact h1
  · exact h2
  · exact h3
  · exact h4
theorem kd_G {σ : Hp} {g : Nat} (h : isG g) : kd σ g = (4, 0) := isG_cases (P := fun g => kd σ g = (4, 0)) h rfl rfl rfl rfl
theorem kd_G1 {σ : Hp} {g : Nat} (h : isG g) : kd σ (g + 1) = (16, 12) := isG_cases (P := fun g => kd σ (g + 1) = (16, 12)) h rfl rfl rfl rfl
theorem kd_G2 {σ : Hp} {g : Nat} (h : isG g) : kd σ (g + 2) = (13, 13) := isG_cases (P := fun g => kd σ (g + 2) = (13, 13)) h rfl rfl rfl rfl
theorem kd_G3 {σ : Hp} {g : Nat} (h : isG g) : kd σ (g + 3) = (13, 13) := isG_cases (P := fun g => kd σ (g + 3) = (13, 13)) h rfl rfl rfl rfl
theorem kd_G4 {σ : Hp} {g : Nat} (h : isG g) : kd σ (g + 4) = (13, 13) := isG_cases (P := fun g => kd σ (g + 4) = (13, 13)) h rfl rfl rfl rfl
theorem kd_G5 {σ : Hp} {g : Nat} (h : isG g) : kd σ (g + 5) = (13, 13) := isG_cases (P := fun g => kd σ (g + 5) = (13, 13)) h rfl rfl rfl rfl
def isW (q : Nat) : Prop := 3 ≤ q ∧ q < 11
theorem kd_W {σ : Hp} {q : Nat} (h : isW q) : kd σ q = (13, 40) := by
  obtain ⟨h1, h2⟩ := h
  rcases (show q = 3 ∨ q = 4 ∨ q = 5 ∨ q = 6 ∨ q = 7 ∨ q = 8 ∨ q = 9 ∨ q = 10 by omega) with rfl | rfl | rfl | rfl | rfl | rfl | rfl | rfl <;> rfl
abbrev okK (k : Nat) : Prop := k = 0 ∨ k = 1 ∨ k = 2 ∨ k = 3 ∨ k = 7
abbrev inb (i : Int32) (n : Nat) : Prop := 0 ≤ i.toInt ∧ i.toInt < (n : Int)
theorem inb_in {i : Int32} {n : Nat} (h : inb i n) : vp_in i n := vp_in_iff.mpr h
/-! ===== a method's own words, as functions of the heap: what may fall is checked ===== -/
def chk {α : Type} (c : Prop) [Decidable c] (x : Option α) : Option α := if c then x else none
def bnd {α β : Type} (a : α) (k : α → Option β) : Option β := k a
def bd1 {α β : Type} (x : Option α) (k : α → Option β) : Option β := match x with
  | none => none
  | some a => k a
def bd2 {α β γ : Type} (x : Option (α × β)) (k : α → β → Option γ) : Option γ := match x with
  | none => none
  | some a => k a.1 a.2
def opc {β : Type} (r : Option Nat) (n : Option β) (k : Nat → Option β) : Option β := match r with
  | none => n
  | some q => k q
theorem ok_c {α : Type} {c : Prop} [Decidable c] {x : Option α} {y : α} (h : chk c x = some y) : c ∧ x = some y := by
  unfold chk at h
  split at h
  · exact ⟨by assumption, h⟩
  · cases h
theorem ok_t {α : Type} {c : Prop} [Decidable c] {x z : Option α} {y : α} (hc : c) (h : (if c then x else z) = some y) : x = some y := by rw [if_pos hc] at h; exact h
theorem ok_f {α : Type} {c : Prop} [Decidable c] {x z : Option α} {y : α} (hc : ¬ c) (h : (if c then x else z) = some y) : z = some y := by rw [if_neg hc] at h; exact h
theorem ok_n {α β : Type} {a : α} {k : α → Option β} {y : β} (h : bnd a k = some y) {x : α} (e : x = a) : k x = some y := by rw [e]; exact h
theorem ok_1 {α β : Type} {x : Option α} {k : α → Option β} {y : β} (h : bd1 x k = some y) : ∃ a, x = some a ∧ k a = some y := by
  cases x with
  | none => cases h
  | some a => exact ⟨a, rfl, h⟩
theorem ok_2 {α β γ : Type} {x : Option (α × β)} {k : α → β → Option γ} {y : γ} (h : bd2 x k = some y) : ∃ a b, x = some (a, b) ∧ k a b = some y := by
  cases x with
  | none => cases h
  | some a => exact ⟨a.1, a.2, rfl, h⟩
/-- how often a loop may go round -/
def fu : Nat := 512
