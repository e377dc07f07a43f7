/-! ===== words ===== -/
def wch (w i : Nat) : Nat := (([[102, 101, 110, 99, 101], [112, 111, 110, 100], [115, 116, 114, 105, 112], [98, 101, 97, 110], [97, 112, 112, 108, 101], [114, 121, 101], [103, 114, 97, 115, 115], [99, 108, 111, 118, 101, 114]] : List (List Nat)).getD w []).getD i 0
def wln (w : Nat) : Nat := sLn.getD w 0
def wcd (w : Nat) : Nat := ([439788397413, 1886350948, 495874894192, 1650811246, 418498243685, 7502181, 444300620659, 109317377647986] : List Nat).getD w 0
def cdL (B : Nat → Nat) (s : Nat) : Nat → Nat
  | 0 => 0
  | L + 1 => cdL B s L * 256 + B (s + L)
theorem w_len : ∀ w, w < 8 → 3 ≤ wln w ∧ wln w ≤ 6 := by decide +kernel
theorem w_ch : ∀ w, w < 8 → ∀ i, i < 6 → i < wln w → sChar w i = nI (wch w i) ∧ wch w i < 128 := by decide +kernel
theorem w_cd : ∀ w, w < 8 → wcd w = cdL (wch w) 0 (wln w) := by decide +kernel
theorem w_bd : ∀ w, w < 8 → 256 ^ (wln w - 1) ≤ wcd w ∧ wcd w < 256 ^ wln w := by decide +kernel
theorem w_c128 : ∀ w, w < 8 → ∀ i, i < 7 → wch w i < 256 := by decide +kernel
theorem cd_hi {B : Nat → Nat} {s : Nat} : ∀ (L : Nat), (∀ i, i < L → B (s + i) < 256) → cdL B s L < 256 ^ L := by
  intro L
  induction L with
  | zero => intro _; exact Nat.one_pos
  | succ L ih =>
    intro h
    have h1 := ih (fun i hi => h i (by omega))
    have h2 := h L (by omega)
    show cdL B s L * 256 + B (s + L) < 256 ^ L * 256
    omega
theorem cd_lo {B : Nat → Nat} {s : Nat} : ∀ (L : Nat), (∀ i, i < L + 1 → 1 ≤ B (s + i)) → 256 ^ L ≤ cdL B s (L + 1) := by
  intro L
  induction L with
  | zero =>
    intro h
    have := h 0 (by omega)
    show 1 ≤ 0 * 256 + B (s + 0)
    omega
  | succ L ih =>
    intro h
    have h1 := ih (fun i hi => h i (by omega))
    show 256 ^ L * 256 ≤ cdL B s (L + 1) * 256 + B (s + (L + 1))
    omega
theorem cd_inj {B B' : Nat → Nat} {s s' : Nat} : ∀ (L : Nat), (∀ i, i < L → B (s + i) < 256) → (∀ i, i < L → B' (s' + i) < 256) → cdL B s L = cdL B' s' L → ∀ i, i < L → B (s + i) = B' (s' + i) := by
  intro L
  induction L with
  | zero => intro _ _ _ i hi; omega
  | succ L ih =>
    intro h1 h2 h3 i hi
    have a1 := h1 L (by omega)
    have a2 := h2 L (by omega)
    have h3 : cdL B s L * 256 + B (s + L) = cdL B' s' L * 256 + B' (s' + L) := h3
    by_cases hL : i = L
    · subst hL
      omega
    · exact ih (fun i hi => h1 i (by omega)) (fun i hi => h2 i (by omega)) (by omega) i (by omega)
theorem cd_cong {B B' : Nat → Nat} {s s' : Nat} : ∀ (L : Nat), (∀ i, i < L → B (s + i) = B' (s' + i)) → cdL B s L = cdL B' s' L := by
  intro L
  induction L with
  | zero => intro _; rfl
  | succ L ih =>
    intro h
    show cdL B s L * 256 + B (s + L) = cdL B' s' L * 256 + B' (s' + L)
    rw [ih (fun i hi => h i (by omega)), h L (by omega)]
theorem wd_iff {B : Nat → Nat} {s L w : Nat} (hw : w < 8) (h1 : 1 ≤ L) (hB : ∀ i, i < L → 97 ≤ B (s + i) ∧ B (s + i) ≤ 122) : cdL B s L = wcd w ↔ L = wln w ∧ ∀ i, i < L → B (s + i) = wch w i := by
  have hl := w_len w hw
  constructor
  · intro h
    have hi := cd_hi (B := B) (s := s) L (fun i hi => by have := hB i hi; omega)
    obtain ⟨M, rfl⟩ : ∃ M, L = M + 1 := ⟨L - 1, by omega⟩
    have lo := cd_lo (B := B) (s := s) M (fun i hi => by have := hB i hi; omega)
    obtain ⟨b1, b2⟩ := w_bd w hw
    have eL : M + 1 = wln w := by
      rcases Nat.lt_trichotomy (M + 1) (wln w) with q | q | q
      · have := Nat.pow_le_pow_right (show 0 < 256 by decide) (show M + 1 ≤ wln w - 1 by omega)
        rw [h] at hi
        exact absurd (Nat.lt_of_lt_of_le hi (Nat.le_trans this b1)) (Nat.lt_irrefl _)
      · exact q
      · have := Nat.pow_le_pow_right (show 0 < 256 by decide) (show wln w ≤ M by omega)
        rw [h] at lo
        exact absurd (Nat.lt_of_lt_of_le b2 (Nat.le_trans this lo)) (Nat.lt_irrefl _)
    refine ⟨eL, fun i hi => ?_⟩
    have e := cd_inj (B := B) (B' := wch w) (s := s) (s' := 0) (M + 1) (fun i hi => by have := hB i hi; omega) (fun i hi => w_c128 w hw (0 + i) (by omega)) (by rw [h, w_cd w hw, eL]) i hi
    rw [Nat.zero_add] at e
    exact e
  · rintro ⟨e1, e2⟩
    rw [w_cd w hw, ← e1]
    exact cd_cong L (fun i hi => by rw [Nat.zero_add]; exact e2 i hi)
theorem le_cd {B : Nat → Nat} {s : Nat} : ∀ (m p c : Nat), s ≤ p → c = (if p - s ≤ 7 then cdL B s (p - s) else 0) → (leF B s m p c).2 = if (leF B s m p c).1 - s ≤ 7 then cdL B s ((leF B s m p c).1 - s) else 0 := by
  intro m
  induction m with
  | zero => intro p c _ h; exact h
  | succ m ih =>
    intro p c hs h
    have ef : leF B s (m + 1) p c = if isL (B p) = true then leF B s m (p + 1) (if p - s < 7 then c * 256 + B p else 0) else (p, c) := rfl
    rw [ef]
    by_cases k : isL (B p) = true
    · rw [if_pos k]
      refine ih (p + 1) _ (by omega) ?_
      by_cases q : p - s < 7
      · rw [if_pos (by omega)] at h
        rw [if_pos q, if_pos (by omega), show p + 1 - s = p - s + 1 by omega, h]
        show _ = cdL B s (p - s) * 256 + B (s + (p - s))
        rw [show s + (p - s) = p by omega]
      · rw [if_neg q, if_neg (by omega)]
    · rw [if_neg k]
      exact h
theorem le_let {B : Nat → Nat} {s : Nat} : ∀ (m p c : Nat), ∀ i, p ≤ i → i < (leF B s m p c).1 → isL (B i) = true := by
  intro m
  induction m with
  | zero => intro p c i h1 h2; have h2 : i < p := h2; omega
  | succ m ih =>
    intro p c i h1 h2
    have ef : leF B s (m + 1) p c = if isL (B p) = true then leF B s m (p + 1) (if p - s < 7 then c * 256 + B p else 0) else (p, c) := rfl
    rw [ef] at h2
    by_cases k : isL (B p) = true
    · rw [if_pos k] at h2
      by_cases hi : i = p
      · rw [hi]
        exact k
      · exact ih (p + 1) _ i (by omega) h2
    · rw [if_neg k] at h2
      have h2 : i < p := h2
      omega
theorem tk_name {T : Tp} {p : Nat} (hp : p ≤ T.2) (h : tK T p = 1) : 1 ≤ tE T p - tS T p ∧ (∀ i, i < tE T p - tS T p → 97 ≤ T.1 (tS T p + i) ∧ T.1 (tS T p + i) ≤ 122) ∧ tC T p = if tE T p - tS T p ≤ 7 then cdL T.1 (tS T p) (tE T p - tS T p) else 0 := by
  have hN : ¬ T.2 ≤ tS T p := fun z => by
    unfold tK at h
    rw [if_pos z] at h
    cases h
  have hL : isL (T.1 (tS T p)) = true := Classical.byContradiction (fun z => by
    unfold tK at h
    rw [if_neg hN, if_neg z] at h
    by_cases f : isF (T.1 (tS T p)) = true
    · rw [if_pos f] at h
      by_cases q : (tFi T (tS T p)).1 - tS T p ≤ 3
      · rw [if_pos q] at h
        cases h
      · rw [if_neg q] at h
        cases h
    · rw [if_neg f] at h
      by_cases q : T.1 (tS T p) = 59
      · rw [if_pos q] at h
        cases h
      · rw [if_neg q] at h
        cases h)
  have eE : tE T p = (leF T.1 (tS T p) (T.2 - tS T p) (tS T p) 0).1 := by
    unfold tE
    rw [if_neg hN, if_pos hL]
    rfl
  have lt := le_let (B := T.1) (s := tS T p) (T.2 - tS T p) (tS T p) 0
  have le1 : tS T p + 1 ≤ tE T p := by
    rw [eE, show T.2 - tS T p = T.2 - tS T p - 1 + 1 by omega]
    have ef : leF T.1 (tS T p) (T.2 - tS T p - 1 + 1) (tS T p) 0 = if isL (T.1 (tS T p)) = true then leF T.1 (tS T p) (T.2 - tS T p - 1) (tS T p + 1) (if tS T p - tS T p < 7 then 0 * 256 + T.1 (tS T p) else 0) else (tS T p, 0) := rfl
    rw [ef, if_pos hL]
    exact (le_le _ _ _).1
  refine ⟨by omega, fun i hi => isL_iff.mp (lt _ (by omega) (by rw [← eE]; omega)), ?_⟩
  have := le_cd (B := T.1) (s := tS T p) (T.2 - tS T p) (tS T p) 0 (Nat.le_refl _) (by rw [Nat.sub_self]; rfl)
  rw [← eE] at this
  exact this
def isWd (T : Tp) (w p : Nat) : Bool := decide (tK T p = 1 ∧ tC T p = wcd w)
theorem isWd_iff {T : Tp} {w p : Nat} : isWd T w p = true ↔ tK T p = 1 ∧ tC T p = wcd w := decide_eq_true_iff
theorem wcd_0 : ∀ w, w < 8 → wcd w ≠ 0 := by decide +kernel
/-- a word, letter by letter -/
theorem isWd_ch {T : Tp} {w p : Nat} (hw : w < 8) (hp : p ≤ T.2) (h : tK T p = 1) : isWd T w p = true ↔ tE T p - tS T p = wln w ∧ ∀ i, i < wln w → T.1 (tS T p + i) = wch w i := by
  obtain ⟨n1, n2, n3⟩ := tk_name hp h
  have hl := w_len w hw
  rw [isWd_iff, n3]
  by_cases q : tE T p - tS T p ≤ 7
  · rw [if_pos q, wd_iff hw n1 n2]
    constructor
    · rintro ⟨-, e1, e2⟩
      exact ⟨e1, by rw [← e1]; exact e2⟩
    · rintro ⟨e1, e2⟩
      exact ⟨h, e1, by rw [e1]; exact e2⟩
  · rw [if_neg q]
    constructor
    · rintro ⟨-, e⟩
      exact absurd e.symm (wcd_0 w hw)
    · rintro ⟨e1, -⟩
      omega
theorem e_w1 {σ : Hp} {T : Tp} {w s : Nat} (hw : w < 8) (C : CT σ T) (hs : gI σ 13 4 = nI s) (hN : s + wln w ≤ T.2) (h : ∀ i, i < wln w → T.1 (s + i) = wch w i) : ∀ (n k : Nat), k ≤ wln w → wln w < k + n → f_X5_isWord_28 w σ n (nI k) = some 1 := by
  have hl := w_len w hw
  have hC := C.1
  intro n
  induction n with
  | zero =>
    intro k h1 h2
    omega
  | succ n ih =>
    intro k h1 h2
    rw [f_X5_isWord_28, show sLen w = nI (wln w) from rfl]
    by_cases hk : k = wln w
    · rw [if_pos (by rw [hk]; exact nI_le (Nat.le_refl _) (by omega))]
    · obtain ⟨c1, c2⟩ := w_ch w hw k (by omega) (by omega)
      obtain ⟨b1, b2⟩ := C.2.2 (s + k) (by omega)
      rw [if_neg (nI_ge (by omega) (by omega)), hs, nI_add, chk_s (nI_inb (by omega) (by decide)), chk_s (show inb (nI k) (sLn.getD w 0) from nI_inb (show k < wln w by omega) (show wln w ≤ 2147483648 by omega)), nI_cl (by omega), nI_cl (by omega), b2, c1, if_pos ((sb_eq b1 c2).mpr (h k (by omega))), nI_1]
      exact ih (k + 1) (by omega) (by omega)
theorem e_w0 {σ : Hp} {T : Tp} {w s : Nat} (hw : w < 8) (C : CT σ T) (hs : gI σ 13 4 = nI s) (hN : s + wln w ≤ T.2) : ∀ (n k : Nat), k ≤ wln w → wln w < k + n → (∃ i, k ≤ i ∧ i < wln w ∧ T.1 (s + i) ≠ wch w i) → f_X5_isWord_28 w σ n (nI k) = some 0 := by
  have hl := w_len w hw
  have hC := C.1
  intro n
  induction n with
  | zero =>
    intro k h1 h2
    omega
  | succ n ih =>
    intro k h1 h2 hx
    obtain ⟨i, i1, i2, i3⟩ := hx
    obtain ⟨c1, c2⟩ := w_ch w hw k (by omega) (by omega)
    obtain ⟨b1, b2⟩ := C.2.2 (s + k) (by omega)
    rw [f_X5_isWord_28, show sLen w = nI (wln w) from rfl, if_neg (nI_ge (by omega) (by omega)), hs, nI_add, chk_s (nI_inb (by omega) (by decide)), chk_s (show inb (nI k) (sLn.getD w 0) from nI_inb (show k < wln w by omega) (show wln w ≤ 2147483648 by omega)), nI_cl (by omega), nI_cl (by omega), b2, c1]
    by_cases q : T.1 (s + k) = wch w k
    · have : i ≠ k := fun z => i3 (by rw [z]; exact q)
      rw [if_pos ((sb_eq b1 c2).mpr q), nI_1]
      exact ih (k + 1) (by omega) (by omega) ⟨i, by omega, i2, i3⟩
    · rw [if_neg (fun z => q ((sb_eq b1 c2).mp z))]
theorem tK_le {T : Tp} {p : Nat} : tK T p ≤ 4 := by
  unfold tK
  repeat' split
  all_goals omega
theorem e_isW {σ : Hp} {T : Tp} {w p : Nat} (hw : w < 8) (hp : p ≤ T.2) (C : CT σ T) (K : CK σ T p) : f_X5_isWord σ w = some (bI (isWd T w p)) := by
  have hC := C.1
  have hS := tS_le hp
  have hE := tE_le hp
  have hk := tK_le (T := T) (p := p)
  have hl := w_len w hw
  unfold f_X5_isWord
  rw [K.2.1]
  by_cases h : tK T p = 1
  · rw [if_pos (by rw [h]; rfl), K.1, K.2.2.1, pk_sub hE.1, show sLen w = nI (wln w) from rfl]
    by_cases q : tE T p - tS T p = wln w
    · rw [if_pos (by rw [q])]
      by_cases all : ∀ i, i < wln w → T.1 (tS T p + i) = wch w i
      · rw [bI1 ((isWd_ch hw hp h).mpr ⟨q, all⟩)]
        exact e_w1 hw C K.2.2.1 (by omega) all fu 0 (by omega) (by show _ < 0 + 512; omega)
      · have hex : ∃ i, 0 ≤ i ∧ i < wln w ∧ T.1 (tS T p + i) ≠ wch w i := Classical.byContradiction (fun z => all (fun i hi => Classical.byContradiction (fun y => z ⟨i, Nat.zero_le _, hi, y⟩)))
        rw [bI0 (Bool.eq_false_iff.mpr (fun z => all ((isWd_ch hw hp h).mp z).2))]
        exact e_w0 hw C K.2.2.1 (by omega) fu 0 (by omega) (by show _ < 0 + 512; omega) hex
    · rw [if_neg (by rw [nI_eq (by omega) (by omega)]; exact q), bI0 (Bool.eq_false_iff.mpr (fun z => q ((isWd_ch hw hp h).mp z).1))]
  · rw [if_neg (by show ¬ nI (tK T p) = nI 1; rw [nI_eq (by omega) (by decide)]; exact h), bI0 (Bool.eq_false_iff.mpr (fun z => h (isWd_iff.mp z).1))]
/-! ===== the model reads a token ===== -/
def MT (σ : Hp) (T : Tp) : Prop := T.2 ≤ 400 ∧ gI σ 51 8 = nI T.2 ∧ ∀ i, i < T.2 → T.1 i < 256 ∧ gI σ 58 i = nI (T.1 i)
theorem MT.of {σ σ' : Hp} {T : Tp} (h1 : gI σ' 51 8 = gI σ 51 8) (h2 : gI σ' 58 = gI σ 58) (h : MT σ T) : MT σ' T := by
  unfold MT
  rw [h1, h2]
  exact h
theorem MT.st {σ : Hp} {T : Tp} {k : Nat} {v : Int32} (hk : k ≠ 8) (h : MT σ T) : MT (sI σ 51 k v) T := h.of (by rw [gI_s, upd_n (Ne.symm hk)]) (gI_n (by decide))
theorem MT.lg {σ : Hp} {T : Tp} {k : Nat} {v : Int64} (h : MT σ T) : MT (sJ σ 51 k v) T := h
def byt (T : Tp) (p : Nat) : Int32 := if p < T.2 then nI (T.1 p) else -1
theorem e_by {σ : Hp} {T : Tp} {p : Nat} (M : MT σ T) (hp : p ≤ T.2) : f_X12_byteAt σ (nI p) = some (byt T p) := by
  obtain ⟨m1, m2, m3⟩ := M
  unfold f_X12_byteAt byt
  rw [m2]
  by_cases h : p < T.2
  · rw [if_neg (nI_ge h (by omega)), if_pos h, chk_s (nI_inb (by omega) (by decide)), nI_cl (by omega), (m3 p h).2]
  · rw [if_pos (nI_le (by omega) (by omega)), if_neg h]
theorem e_inL {σ : Hp} {T : Tp} {p : Nat} (M : MT σ T) (hp : p < T.2) : f_X12_in σ (byt T p) 97 122 = some (bI (isL (T.1 p))) := by
  have hb := (M.2.2 p hp).1
  unfold byt
  rw [if_pos hp]
  by_cases h : isL (T.1 p) = true
  · have h' := isL_iff.mp h
    rw [bI1 h]
    exact e_in1 (a := 97) (b := 122) (by rw [nI_toInt (by omega)]; show (97 : Int) ≤ _; omega) (by rw [nI_toInt (by omega)]; show _ ≤ (122 : Int); omega)
  · have h' : ¬ (97 ≤ T.1 p ∧ T.1 p ≤ 122) := fun z => h (isL_iff.mpr z)
    rw [bI0 (Bool.eq_false_iff.mpr h)]
    exact e_in0 (a := 97) (b := 122) (by rw [nI_toInt (by omega)]; show _ < (97 : Int) ∨ (122 : Int) < _; omega)
theorem e_inF {σ : Hp} {T : Tp} {p : Nat} (M : MT σ T) (hp : p < T.2) : f_X12_in σ (byt T p) 48 57 = some (bI (isF (T.1 p))) := by
  have hb := (M.2.2 p hp).1
  unfold byt
  rw [if_pos hp]
  by_cases h : isF (T.1 p) = true
  · have h' := isF_iff.mp h
    rw [bI1 h]
    exact e_in1 (a := 48) (b := 57) (by rw [nI_toInt (by omega)]; show (48 : Int) ≤ _; omega) (by rw [nI_toInt (by omega)]; show _ ≤ (57 : Int); omega)
  · have h' : ¬ (48 ≤ T.1 p ∧ T.1 p ≤ 57) := fun z => h (isF_iff.mpr z)
    rw [bI0 (Bool.eq_false_iff.mpr h)]
    exact e_in0 (a := 48) (b := 57) (by rw [nI_toInt (by omega)]; show _ < (48 : Int) ∨ (57 : Int) < _; omega)
theorem e_inE {σ : Hp} {T : Tp} {p : Nat} (hp : ¬ p < T.2) : f_X12_in σ (byt T p) 97 122 = some 0 ∧ f_X12_in σ (byt T p) 48 57 = some 0 := by
  unfold byt
  rw [if_neg hp]
  exact ⟨e_in0 (a := 97) (b := 122) (Or.inl (by decide)), e_in0 (a := 48) (b := 57) (Or.inl (by decide))⟩
theorem nm_sh {c b : Nat} (hb : b < 256) : ((lN c) <<< ((8 : Int32).toInt64 &&& 63)) ||| (nI b).toInt64 = lN (c * 256 + b) := by
  rw [nI_l (by omega)]
  apply Int64.toBitVec_inj.1
  apply BitVec.eq_of_getLsbD_eq
  intro i hi
  rw [Int64.toBitVec_or, BitVec.getLsbD_or, Int64.toBitVec_shiftLeft, BitVec.getLsbD_shiftLeft', show (((8 : Int32).toInt64 &&& 63).toBitVec.smod 64).toNat = 8 by decide +kernel]
  show (decide (i < 64) && !decide (i < 8) && (BitVec.ofNat 64 c).getLsbD (i - 8) || (BitVec.ofNat 64 b).getLsbD i) = (BitVec.ofNat 64 (c * 256 + b)).getLsbD i
  rw [BitVec.getLsbD_ofNat, BitVec.getLsbD_ofNat, BitVec.getLsbD_ofNat, show c * 256 + b = 2 ^ 8 * c + b by show c * 256 + b = 256 * c + b; omega, Nat.testBit_two_pow_mul_add c (show b < 2 ^ 8 from hb) i]
  by_cases h : i < 8
  · rw [if_pos h]
    simp [h, hi]
  · rw [if_neg h]
    have z : b.testBit i = false := Nat.testBit_lt_two_pow (Nat.lt_of_lt_of_le hb (Nat.pow_le_pow_right (n := 2) (by decide) (show 8 ≤ i by omega)))
    simp [h, hi, z, show i - 8 < 64 by omega]
