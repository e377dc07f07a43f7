/-! ===== the tape, and its tokens ===== -/
abbrev Tp : Type := (Nat → Nat) × Nat
def isL (b : Nat) : Bool := decide (97 ≤ b ∧ b ≤ 122)
def isF (b : Nat) : Bool := decide (48 ≤ b ∧ b ≤ 57)
def isB (b : Nat) : Bool := decide (b = 32 ∨ b = 10)
def skF (B : Nat → Nat) : Nat → Nat → Nat
  | 0, p => p
  | m + 1, p => if isB (B p) = true then skF B m (p + 1) else p
def leF (B : Nat → Nat) (s : Nat) : Nat → Nat → Nat → Nat × Nat
  | 0, p, c => (p, c)
  | m + 1, p, c => if isL (B p) = true then leF B s m (p + 1) (if p - s < 7 then c * 256 + B p else 0) else (p, c)
def fiF (B : Nat → Nat) (s : Nat) : Nat → Nat → Nat → Nat × Nat
  | 0, p, v => (p, v)
  | m + 1, p, v => if isF (B p) = true then fiF B s m (p + 1) (if p - s < 3 then 10 * v + (B p - 48) else v) else (p, v)
def tS (T : Tp) (p : Nat) : Nat := skF T.1 (T.2 - p) p
def tLe (T : Tp) (s : Nat) : Nat × Nat := leF T.1 s (T.2 - s) s 0
def tFi (T : Tp) (s : Nat) : Nat × Nat := fiF T.1 s (T.2 - s) s 0
def tK (T : Tp) (p : Nat) : Nat := if T.2 ≤ tS T p then 0 else if isL (T.1 (tS T p)) = true then 1 else if isF (T.1 (tS T p)) = true then (if (tFi T (tS T p)).1 - tS T p ≤ 3 then 2 else 4) else if T.1 (tS T p) = 59 then 3 else 4
def tE (T : Tp) (p : Nat) : Nat := if T.2 ≤ tS T p then tS T p else if isL (T.1 (tS T p)) = true then (tLe T (tS T p)).1 else if isF (T.1 (tS T p)) = true then (tFi T (tS T p)).1 else tS T p + 1
def tV (T : Tp) (p : Nat) : Nat := (tFi T (tS T p)).2
def tC (T : Tp) (p : Nat) : Nat := (tLe T (tS T p)).2
theorem sk_le {B : Nat → Nat} : ∀ (m p : Nat), p ≤ skF B m p ∧ skF B m p ≤ p + m := by
  intro m
  induction m with
  | zero => intro p; exact ⟨Nat.le_refl _, Nat.le_refl _⟩
  | succ m ih =>
    intro p
    show p ≤ (if isB (B p) = true then skF B m (p + 1) else p) ∧ (if isB (B p) = true then skF B m (p + 1) else p) ≤ p + (m + 1)
    have := ih (p + 1)
    by_cases h : isB (B p) = true
    · rw [if_pos h]
      omega
    · rw [if_neg h]
      omega
theorem le_le {B : Nat → Nat} {s : Nat} : ∀ (m p c : Nat), p ≤ (leF B s m p c).1 ∧ (leF B s m p c).1 ≤ p + m := by
  intro m
  induction m with
  | zero => intro p c; exact ⟨Nat.le_refl _, Nat.le_refl _⟩
  | succ m ih =>
    intro p c
    show p ≤ (if isL (B p) = true then leF B s m (p + 1) (if p - s < 7 then c * 256 + B p else 0) else (p, c)).1 ∧ (if isL (B p) = true then leF B s m (p + 1) (if p - s < 7 then c * 256 + B p else 0) else (p, c)).1 ≤ p + (m + 1)
    have := ih (p + 1) (if p - s < 7 then c * 256 + B p else 0)
    by_cases h : isL (B p) = true
    · rw [if_pos h]
      omega
    · rw [if_neg h]
      show p ≤ p ∧ p ≤ p + (m + 1)
      omega
theorem fi_le {B : Nat → Nat} {s : Nat} : ∀ (m p v : Nat), p ≤ (fiF B s m p v).1 ∧ (fiF B s m p v).1 ≤ p + m := by
  intro m
  induction m with
  | zero => intro p v; exact ⟨Nat.le_refl _, Nat.le_refl _⟩
  | succ m ih =>
    intro p v
    show p ≤ (if isF (B p) = true then fiF B s m (p + 1) (if p - s < 3 then 10 * v + (B p - 48) else v) else (p, v)).1 ∧ (if isF (B p) = true then fiF B s m (p + 1) (if p - s < 3 then 10 * v + (B p - 48) else v) else (p, v)).1 ≤ p + (m + 1)
    have := ih (p + 1) (if p - s < 3 then 10 * v + (B p - 48) else v)
    by_cases h : isF (B p) = true
    · rw [if_pos h]
      omega
    · rw [if_neg h]
      show p ≤ p ∧ p ≤ p + (m + 1)
      omega
theorem isF_iff {b : Nat} : isF b = true ↔ 48 ≤ b ∧ b ≤ 57 := decide_eq_true_iff
theorem isL_iff {b : Nat} : isL b = true ↔ 97 ≤ b ∧ b ≤ 122 := decide_eq_true_iff
theorem isB_iff {b : Nat} : isB b = true ↔ b = 32 ∨ b = 10 := decide_eq_true_iff
theorem fi_val {B : Nat → Nat} {s : Nat} : ∀ (m p v : Nat), s ≤ p → v ≤ 999 → (p ≤ s + 2 → v ≤ 99) → (p ≤ s + 1 → v ≤ 9) → (p ≤ s → v = 0) → (fiF B s m p v).2 ≤ 999 := by
  intro m
  induction m with
  | zero => intro p v _ h _ _ _; exact h
  | succ m ih =>
    intro p v h0 h1 h2 h3 h4
    show (if isF (B p) = true then fiF B s m (p + 1) (if p - s < 3 then 10 * v + (B p - 48) else v) else (p, v)).2 ≤ 999
    by_cases h : isF (B p) = true
    · rw [if_pos h]
      rw [isF_iff] at h
      by_cases k : p - s < 3
      · rw [if_pos k]
        exact ih (p + 1) _ (by omega) (by omega) (by omega) (by omega) (by omega)
      · rw [if_neg k]
        exact ih (p + 1) _ (by omega) (by omega) (by omega) (by omega) (by omega)
    · rw [if_neg h]
      exact h1
theorem tV_le {T : Tp} {p : Nat} : tV T p ≤ 999 := fi_val _ _ _ (Nat.le_refl _) (by omega) (by omega) (by omega) (by omega)
theorem tS_le {T : Tp} {p : Nat} (hp : p ≤ T.2) : p ≤ tS T p ∧ tS T p ≤ T.2 := by
  have := sk_le (B := T.1) (T.2 - p) p
  unfold tS
  omega
theorem tE_le {T : Tp} {p : Nat} (hp : p ≤ T.2) : tS T p ≤ tE T p ∧ tE T p ≤ T.2 := by
  have h1 := tS_le hp
  unfold tE
  by_cases h : T.2 ≤ tS T p
  · rw [if_pos h]
    omega
  · rw [if_neg h]
    by_cases l : isL (T.1 (tS T p)) = true
    · rw [if_pos l]
      have := le_le (B := T.1) (s := tS T p) (T.2 - tS T p) (tS T p) 0
      unfold tLe
      omega
    · rw [if_neg l]
      by_cases f : isF (T.1 (tS T p)) = true
      · rw [if_pos f]
        have := fi_le (B := T.1) (s := tS T p) (T.2 - tS T p) (tS T p) 0
        unfold tFi
        omega
      · rw [if_neg f]
        omega
/-! ===== the class reads a token ===== -/
def sb (b : Nat) : Int32 := (nI b).toInt8.toInt32
theorem sb_T : ∀ b, b < 256 → (sb b).toInt = if b < 128 then (b : Int) else (b : Int) - 256 := by decide +kernel
theorem sb_eq {b k : Nat} (hb : b < 256) (hk : k < 128) : sb b = nI k ↔ b = k := by
  rw [tI_eq, sb_T b hb, nI_toInt (by omega)]
  by_cases h : b < 128
  · rw [if_pos h]
    omega
  · rw [if_neg h]
    omega
def CT (σ : Hp) (T : Tp) : Prop := T.2 ≤ 400 ∧ gI σ 13 1 = nI T.2 ∧ ∀ i, i < T.2 → T.1 i < 256 ∧ gI σ 14 i = sb (T.1 i)
theorem CT.of {σ σ' : Hp} {T : Tp} (h1 : gI σ' 13 1 = gI σ 13 1) (h2 : gI σ' 14 = gI σ 14) (h : CT σ T) : CT σ' T := by
  unfold CT
  rw [h1, h2]
  exact h
theorem CT.st {σ : Hp} {T : Tp} {k : Nat} {v : Int32} (hk : k ≠ 1) (h : CT σ T) : CT (sI σ 13 k v) T := h.of (by rw [gI_s, upd_n (Ne.symm hk)]) (gI_n (by decide))
theorem e_skip {T : Tp} : ∀ (n m p : Nat) (σ : Hp), p + m = T.2 → m < n → CT σ T → gI σ 13 2 = nI p → f_X5_skipBlanks_0 n σ = some (sI σ 13 2 (nI (skF T.1 m p))) := by
  intro n
  induction n with
  | zero =>
    intro m p σ h1 h2
    omega
  | succ n ih =>
    intro m p σ h1 h2 C hp
    obtain ⟨c1, c2, c3⟩ := id C
    rw [f_X5_skipBlanks_0, c2, hp]
    cases m with
    | zero =>
      rw [if_pos (nI_le (by omega) (by omega))]
      show some σ = some (sI σ 13 2 (nI p))
      rw [← hp, sI_id]
    | succ m =>
      obtain ⟨b1, b2⟩ := c3 p (by omega)
      have ip : inb (nI p) 400 := nI_inb (by omega) (by decide)
      have nx : f_X5_skipBlanks_0 n (sI σ 13 2 (nI p + 1)) = some (sI σ 13 2 (nI (skF T.1 m (p + 1)))) := by
        rw [nI_1, ih m (p + 1) (sI σ 13 2 (nI (p + 1))) (by omega) (by omega) (C.st (by decide)) (by rw [gI_s, upd_s]), sI_sI]
      rw [if_neg (nI_ge (by omega) (by omega)), chk_s ip, chk_s ip, nI_cl (by omega), b2, nx]
      show _ = some (sI σ 13 2 (nI (if isB (T.1 p) = true then skF T.1 m (p + 1) else p)))
      by_cases k1 : T.1 p = 32
      · rw [if_pos (show sb (T.1 p) = 32 from (sb_eq b1 (by decide)).mpr k1), if_pos (isB_iff.mpr (Or.inl k1))]
      · rw [if_neg (show ¬ sb (T.1 p) = 32 from fun z => k1 ((sb_eq (k := 32) b1 (by decide)).mp z))]
        by_cases k2 : T.1 p = 10
        · rw [if_pos (show sb (T.1 p) = 10 from (sb_eq b1 (by decide)).mpr k2), if_pos (isB_iff.mpr (Or.inr k2))]
        · rw [if_neg (show ¬ sb (T.1 p) = 10 from fun z => k2 ((sb_eq (k := 10) b1 (by decide)).mp z)), if_neg (fun z => (isB_iff.mp z).elim k1 k2), ← hp, sI_id]
theorem e_isL {σ : Hp} {b : Nat} (hb : b < 256) : f_X5_isLetter σ (sb b) = some (bI (isL b)) := by
  have t := sb_T b hb
  unfold f_X5_isLetter
  by_cases h : isL b = true
  · have h' := isL_iff.mp h
    rw [if_pos (by omega)] at t
    rw [if_neg (by rw [tI_lt, t]; show ¬ (b : Int) < 97; omega), if_neg (by rw [tI_lt, t]; show ¬ (122 : Int) < b; omega), h]
    rfl
  · have h' : ¬ (97 ≤ b ∧ b ≤ 122) := fun z => h (isL_iff.mpr z)
    rw [Bool.eq_false_iff.mpr h]
    by_cases k : sb b < 97
    · rw [if_pos k]
      rfl
    · rw [if_neg k, if_pos (by rw [tI_lt, t] at k; rw [tI_lt, t]; by_cases q : b < 128
                               · rw [if_pos q] at k ⊢; have k : ¬ (b : Int) < 97 := k; show (122 : Int) < b; omega
                               · rw [if_neg q] at k; have k : ¬ (b : Int) - 256 < 97 := k; omega)]
      rfl
theorem e_isF {σ : Hp} {b : Nat} (hb : b < 256) : f_X5_isFigure σ (sb b) = some (bI (isF b)) := by
  have t := sb_T b hb
  unfold f_X5_isFigure
  by_cases h : isF b = true
  · have h' := isF_iff.mp h
    rw [if_pos (by omega)] at t
    rw [if_neg (by rw [tI_lt, t]; show ¬ (b : Int) < 48; omega), if_neg (by rw [tI_lt, t]; show ¬ (57 : Int) < b; omega), h]
    rfl
  · have h' : ¬ (48 ≤ b ∧ b ≤ 57) := fun z => h (isF_iff.mpr z)
    rw [Bool.eq_false_iff.mpr h]
    by_cases k : sb b < 48
    · rw [if_pos k]
      rfl
    · rw [if_neg k, if_pos (by rw [tI_lt, t] at k; rw [tI_lt, t]; by_cases q : b < 128
                               · rw [if_pos q] at k ⊢; have k : ¬ (b : Int) < 48 := k; show (57 : Int) < b; omega
                               · rw [if_neg q] at k; have k : ¬ (b : Int) - 256 < 48 := k; omega)]
      rfl
theorem e_tn {T : Tp} {s : Nat} : ∀ (n m p c : Nat) (σ : Hp), p + m = T.2 → m < n → CT σ T → gI σ 13 2 = nI p → f_X5_takeName_0 n σ = some (sI (sI σ 13 2 (nI (leF T.1 s m p c).1)) 13 3 1) := by
  intro n
  induction n with
  | zero =>
    intro m p c σ h1 h2
    omega
  | succ n ih =>
    intro m p c σ h1 h2 C hp
    obtain ⟨c1, c2, c3⟩ := id C
    have stay : sI σ 13 2 (nI p) = σ := by rw [← hp, sI_id]
    rw [f_X5_takeName_0, c2, hp]
    cases m with
    | zero =>
      rw [if_pos (nI_le (by omega) (by omega))]
      show _ = some (sI (sI σ 13 2 (nI p)) 13 3 1)
      rw [stay]
    | succ m =>
      obtain ⟨b1, b2⟩ := c3 p (by omega)
      rw [if_neg (nI_ge (by omega) (by omega)), chk_s (nI_inb (by omega) (by decide)), nI_cl (by omega), b2, e_isL b1, bd1_s]
      show _ = some (sI (sI σ 13 2 (nI (if isL (T.1 p) = true then leF T.1 s m (p + 1) (if p - s < 7 then c * 256 + T.1 p else 0) else (p, c)).1)) 13 3 1)
      cases h : isL (T.1 p) with
      | false =>
        rw [if_pos (by decide), if_neg (by decide), stay]
      | true =>
        rw [if_neg (by decide), if_pos rfl, nI_1, ih m (p + 1) (if p - s < 7 then c * 256 + T.1 p else 0) (sI σ 13 2 (nI (p + 1))) (by omega) (by omega) (C.st (by decide)) (by rw [gI_s, upd_s]), sI_sI]
theorem e_tnum {T : Tp} {s : Nat} : ∀ (n m p v : Nat) (σ : Hp), p + m = T.2 → m < n → s ≤ p → CT σ T → gI σ 13 2 = nI p → gI σ 13 4 = nI s → gI σ 13 5 = nI v → ∃ σ', f_X5_takeNumber_5 n σ = some σ' ∧ onlyI (fun q => q = 13) σ σ' ∧ (∀ k, k ≠ 2 → k ≠ 3 → k ≠ 5 → gI σ' 13 k = gI σ 13 k) ∧ gI σ' 13 2 = nI (fiF T.1 s m p v).1 ∧ gI σ' 13 3 = nI (if (fiF T.1 s m p v).1 - s ≤ 3 then 2 else 4) ∧ gI σ' 13 5 = nI (fiF T.1 s m p v).2 := by
  intro n
  induction n with
  | zero =>
    intro m p v σ h1 h2
    omega
  | succ n ih =>
    intro m p v σ h1 h2 hsp C hp hs hv
    obtain ⟨c1, c2, c3⟩ := id C
    have fin : ∃ σ', f_X5_takeNumber_88 σ = some σ' ∧ onlyI (fun q => q = 13) σ σ' ∧ (∀ k, k ≠ 2 → k ≠ 3 → k ≠ 5 → gI σ' 13 k = gI σ 13 k) ∧ gI σ' 13 2 = nI p ∧ gI σ' 13 3 = nI (if p - s ≤ 3 then 2 else 4) ∧ gI σ' 13 5 = nI v := by
      unfold f_X5_takeNumber_88
      rw [hp, hs, pk_sub hsp]
      by_cases k : p - s ≤ 3
      · rw [if_pos (show nI (p - s) ≤ 3 from nI_le (b := 3) k (by decide)), if_pos k]
        exact ⟨_, rfl, onlyI.rf.st rfl, fun k _ h3 _ => by rw [gI_s, upd_n h3], by rw [gI_s, upd_n (by decide)]; exact hp, by rw [gI_s, upd_s]; rfl, by rw [gI_s, upd_n (by decide)]; exact hv⟩
      · rw [if_neg (show ¬ nI (p - s) ≤ 3 from nI_ge (a := 3) (by omega) (by omega)), if_neg k]
        exact ⟨_, rfl, onlyI.rf.st rfl, fun k _ h3 _ => by rw [gI_s, upd_n h3], by rw [gI_s, upd_n (by decide)]; exact hp, by rw [gI_s, upd_s]; rfl, by rw [gI_s, upd_n (by decide)]; exact hv⟩
    rw [f_X5_takeNumber_5, c2, hp]
    cases m with
    | zero =>
      rw [if_pos (nI_le (by omega) (by omega))]
      exact fin
    | succ m =>
      obtain ⟨b1, b2⟩ := c3 p (by omega)
      have ip : inb (nI p) 400 := nI_inb (by omega) (by decide)
      rw [if_neg (nI_ge (by omega) (by omega)), chk_s ip, nI_cl (by omega), b2, e_isF b1, bd1_s]
      have ef : fiF T.1 s (m + 1) p v = if isF (T.1 p) = true then fiF T.1 s m (p + 1) (if p - s < 3 then 10 * v + (T.1 p - 48) else v) else (p, v) := rfl
      cases h : isF (T.1 p) with
      | false =>
        rw [ef, h, if_pos (by decide), if_neg (show ¬ false = true by decide)]
        exact fin
      | true =>
        rw [ef, h, if_neg (by decide), if_pos (show true = true from rfl), hs, pk_sub hsp, hv]
        rw [isF_iff] at h
        by_cases k : p - s < 3
        · have sbn : sb (T.1 p) = nI (T.1 p) := (sb_eq b1 (by omega)).mpr rfl
          rw [if_neg (show ¬ (3 : Int32) ≤ nI (p - s) from nI_ge (b := 3) k (by decide)), if_pos k, chk_s ip, sbn, show (10 : Int32) = nI 10 from rfl, pk_mul, nI_add, show (48 : Int32) = nI 48 from rfl, pk_sub (by omega), show 10 * v + T.1 p - 48 = 10 * v + (T.1 p - 48) by omega, bnd_s, gI_s, upd_n (show (2 : Nat) ≠ 5 by decide), hp, nI_1]
          have o : onlyI (fun q => q = 13) σ (sI (sI σ 13 5 (nI (10 * v + (T.1 p - 48)))) 13 2 (nI (p + 1))) := ((onlyI.rf (S := fun q => q = 13)).st rfl).st rfl
          obtain ⟨σ', e1, e2, e3, e4⟩ := ih m (p + 1) (10 * v + (T.1 p - 48)) (sI (sI σ 13 5 (nI (10 * v + (T.1 p - 48)))) 13 2 (nI (p + 1))) (by omega) (by omega) (by omega) ((C.st (by decide)).st (by decide)) (by rw [gI_s, upd_s]) (by rw [gI_s, upd_n (by decide), gI_s, upd_n (by decide)]; exact hs) (by rw [gI_s, upd_n (by decide), gI_s, upd_s])
          exact ⟨σ', e1, o.tr e2, fun k k2 k3 k5 => by rw [e3 k k2 k3 k5, gI_s, upd_n k2, gI_s, upd_n k5], e4⟩
        · rw [if_pos (show (3 : Int32) ≤ nI (p - s) from nI_le (a := 3) (by omega) (by omega)), if_neg k, bnd_s, gI_s, upd_n (show (2 : Nat) ≠ 5 by decide), hp, nI_1]
          have o : onlyI (fun q => q = 13) σ (sI (sI σ 13 5 (nI v)) 13 2 (nI (p + 1))) := ((onlyI.rf (S := fun q => q = 13)).st rfl).st rfl
          obtain ⟨σ', e1, e2, e3, e4⟩ := ih m (p + 1) v (sI (sI σ 13 5 (nI v)) 13 2 (nI (p + 1))) (by omega) (by omega) (by omega) ((C.st (by decide)).st (by decide)) (by rw [gI_s, upd_s]) (by rw [gI_s, upd_n (by decide), gI_s, upd_n (by decide)]; exact hs) (by rw [gI_s, upd_n (by decide), gI_s, upd_s])
          exact ⟨σ', e1, o.tr e2, fun k k2 k3 k5 => by rw [e3 k k2 k3 k5, gI_s, upd_n k2, gI_s, upd_n k5], e4⟩
/-- a token is read: kind, where it starts, where the next one is looked for, its worth -/
def CK (σ : Hp) (T : Tp) (p : Nat) : Prop := gI σ 13 2 = nI (tE T p) ∧ gI σ 13 3 = nI (tK T p) ∧ gI σ 13 4 = nI (tS T p) ∧ (tK T p = 2 → gI σ 13 5 = nI (tV T p))
theorem e_next {T : Tp} {p : Nat} {σ : Hp} (hp : p ≤ T.2) (C : CT σ T) (h : gI σ 13 2 = nI p) : ∃ σ', f_X5_nextToken σ = some σ' ∧ onlyI (fun q => q = 13) σ σ' ∧ (∀ k, ¬ (2 ≤ k ∧ k ≤ 5) → gI σ' 13 k = gI σ 13 k) ∧ CK σ' T p := by
  have hs := tS_le hp
  have sk : f_X5_skipBlanks σ = some (sI σ 13 2 (nI (tS T p))) := e_skip (fu + 1) (T.2 - p) p σ (by omega) (by have := C.1; show _ < 512 + 1; omega) C h
  unfold f_X5_nextToken
  have k0 : gI (sI σ 13 2 (nI (tS T p))) 13 2 = nI (tS T p) := by rw [gI_s, upd_s]
  rw [sk, bd1_s, k0]
  generalize e0 : sI (sI σ 13 2 (nI (tS T p))) 13 4 (nI (tS T p)) = s1
  have o1 : onlyI (fun q => q = 13) σ s1 := by rw [← e0]; exact ((onlyI.rf (S := fun q => q = 13)).st rfl).st rfl
  have C1 : CT s1 T := by rw [← e0]; exact (C.st (by decide)).st (by decide)
  have k2 : gI s1 13 2 = nI (tS T p) := by rw [← e0, gI_s, upd_n (by decide), gI_s, upd_s]
  have k4 : gI s1 13 4 = nI (tS T p) := by rw [← e0, gI_s, upd_s]
  have kn : ∀ k, k ≠ 2 → k ≠ 4 → gI s1 13 k = gI σ 13 k := fun k q2 q4 => by rw [← e0, gI_s, upd_n q4, gI_s, upd_n q2]
  obtain ⟨c1, c2, c3⟩ := id C1
  rw [k2, c2]
  unfold CK tK tE tV
  by_cases hN : T.2 ≤ tS T p
  · rw [if_neg (nI_nlt hN (by omega)), if_pos hN, if_pos hN]
    exact ⟨_, rfl, o1.st rfl, fun k hk => by rw [gI_s, upd_n (by omega)]; exact kn k (by omega) (by omega), by rw [gI_s, upd_n (by decide)]; exact k2, by rw [gI_s, upd_s]; rfl, by rw [gI_s, upd_n (by decide)]; exact k4, fun z => by omega⟩
  · obtain ⟨b1, b2⟩ := c3 (tS T p) (by omega)
    have ip : inb (nI (tS T p)) 400 := nI_inb (by omega) (by decide)
    rw [if_pos (nI_lt (by omega) (by omega)), if_neg hN, if_neg hN, chk_s ip, chk_s ip, chk_s ip, nI_cl (by omega), b2, e_isL b1, bd1_s]
    cases hL : isL (T.1 (tS T p)) with
    | true =>
      rw [if_neg (by decide), if_pos rfl, if_pos rfl]
      have tn : f_X5_takeName s1 = _ := e_tn (s := tS T p) (fu + 1) (T.2 - tS T p) (tS T p) 0 s1 (by omega) (by show _ < 512 + 1; omega) C1 k2
      rw [tn, bd1_s]
      exact ⟨_, rfl, (o1.st rfl).st rfl, fun k hk => by rw [gI_s, upd_n (by omega), gI_s, upd_n (by omega)]; exact kn k (by omega) (by omega), by rw [gI_s, upd_n (by decide), gI_s, upd_s]; rfl, by rw [gI_s, upd_s]; rfl, by rw [gI_s, upd_n (by decide), gI_s, upd_n (by decide)]; exact k4, fun z => by omega⟩
    | false =>
      rw [if_pos (by decide), if_neg (show ¬ false = true by decide), if_neg (show ¬ false = true by decide), e_isF b1, bd1_s]
      cases hF : isF (T.1 (tS T p)) with
      | true =>
        rw [if_neg (by decide), if_pos rfl, if_pos rfl]
        unfold f_X5_takeNumber
        obtain ⟨σ', e1, e2, e3, e4, e5, e6⟩ := e_tnum (s := tS T p) fu (T.2 - tS T p) (tS T p) 0 (sI s1 13 5 0) (by omega) (by show _ < 512; omega) (Nat.le_refl _) (C1.st (by decide)) (by rw [gI_s, upd_n (by decide)]; exact k2) (by rw [gI_s, upd_n (by decide)]; exact k4) (by rw [gI_s, upd_s]; rfl)
        rw [e1, bd1_s]
        exact ⟨σ', rfl, (o1.st rfl).tr e2, fun k hk => by rw [e3 k (by omega) (by omega) (by omega), gI_s, upd_n (by omega)]; exact kn k (by omega) (by omega), e4, e5, by rw [e3 4 (by omega) (by omega) (by omega), gI_s, upd_n (by decide)]; exact k4, fun _ => e6⟩
      | false =>
        rw [if_pos (by decide), if_neg (show ¬ false = true by decide), if_neg (show ¬ false = true by decide), bnd_s, bnd_s]
        have both : ∀ v : Int32, ∀ w : Nat, v = nI w → w ≠ 2 → ∃ σ', some (sI (sI s1 13 3 v) 13 2 (gI (sI s1 13 3 v) 13 2 + 1)) = some σ' ∧ onlyI (fun q => q = 13) σ σ' ∧ (∀ k, ¬ (2 ≤ k ∧ k ≤ 5) → gI σ' 13 k = gI σ 13 k) ∧ gI σ' 13 2 = nI (tS T p + 1) ∧ gI σ' 13 3 = nI w ∧ gI σ' 13 4 = nI (tS T p) ∧ (w = 2 → gI σ' 13 5 = nI (tFi T (tS T p)).2) := by
          intro v w hv hw
          refine ⟨_, rfl, (o1.st rfl).st rfl, fun k hk => by rw [gI_s, upd_n (by omega), gI_s, upd_n (by omega)]; exact kn k (by omega) (by omega), ?_, ?_, ?_, fun z => absurd z hw⟩
          · rw [gI_s, upd_s, gI_s, upd_n (by decide), k2, nI_1]
          · rw [gI_s, upd_n (by decide), gI_s, upd_s, hv]
          · rw [gI_s, upd_n (by decide), gI_s, upd_n (by decide)]
            exact k4
        by_cases h59 : T.1 (tS T p) = 59
        · rw [if_pos (show sb (T.1 (tS T p)) = 59 from (sb_eq b1 (by decide)).mpr h59), if_pos h59]
          exact both 3 3 rfl (by decide)
        · rw [if_neg (show ¬ sb (T.1 (tS T p)) = 59 from fun z => h59 ((sb_eq (k := 59) b1 (by decide)).mp z)), if_neg h59]
          exact both 4 4 rfl (by decide)
