/-! ===== unseen ===== -/
/-- how many fit, and the first that does -/
abbrev US : Type := Nat × Int32
def mtc (u : GD) (X Y x y : Nat) : Bool := decide (gts u (uD u) x y * Y = X * 55440)
def gss (u : GD) (X Y : Nat) (s : US) (x y t : Nat) : US := if mtc u X Y x y then (s.1 + 1, if s.1 = 0 then nI t else s.2) else s
theorem gss_le {u : GD} {X Y x y t : Nat} {s : US} : (gss u X Y s x y t).1 ≤ s.1 + 1 := by
  unfold gss
  split
  · exact Nat.le_refl _
  · omega
theorem e_mtc {u : GD} (V : VG u) {X Y x y : Nat} (hX : X ≤ 9999) (hY : Y ≤ 99) (hx : x ≤ 12) (hy : y ≤ 12) : (lg_cmp (lN (gts u (uD u) x y) * lN Y) (lN X * 55440) = 0) ↔ mtc u X Y x y = true := by
  have hg := Nat.le_trans (gts_alls (u := u) (d := uD u) hx hy) (alls_le V)
  have hm : gts u (uD u) x y * Y ≤ 65862720 * 99 := Nat.mul_le_mul hg hY
  rw [lg_cmp_eq, lN_mul, show (55440 : Int64) = lN 55440 from rfl, lN_mul, pk_lEQ (by omega) (by omega)]
  unfold mtc
  rw [decide_eq_true_iff]
/-! the model -/
def stp (u : GD) (X Y : Nat) (t : Nat) (s : US) : US := if opB u 0 ((uUp u (uD u) : Int) + (t / 3 : Nat) - 1) = true ∧ opB u 1 ((uLo u (uD u) : Int) + (t % 3 : Nat) - 1) = true then gss u X Y s (uUp u (uD u) + t / 3 - 1) (uLo u (uD u) + t % 3 - 1) t else s
theorem e_un53 {σ : Hp} {u : GD} (M : MG (gI σ 52) u) (V : VG u) (hD : uD u < 12) {X Y : Nat} (hX : X ≤ 9999) (hY : Y ≤ 99) {x3 : Int32} (n t : Nat) (s : US) (ht : t < 9) (hs : s.1 ≤ 9) : f_X12_unseen_53 σ (nI X) (nI Y) x3 (n + 1) (nI s.1) s.2 (nI t) = f_X12_unseen_53 σ (nI X) (nI Y) x3 n (nI (stp u X Y t s).1) (stp u X Y t s).2 (nI (t + 1)) := by
  obtain ⟨p1, p2⟩ := V.up
  have d3 : nI t / 3 = nI (t / 3) := pk_div (d := 3) (by omega) (by omega) (by decide)
  have r3 : nI t - nI t / 3 * 3 = nI (t % 3) := pk_rem (d := 3) (by omega) (by omega) (by decide)
  have z1 : (nI (uUp u (uD u)) + nI (t / 3) - 1).toInt = (uUp u (uD u) : Int) + (t / 3 : Nat) - 1 := by
    rw [nI_add, nI_m1 (by omega)]
    omega
  have z2 : (nI (uLo u (uD u)) + nI (t % 3) - 1).toInt = (uLo u (uD u) : Int) + (t % 3 : Nat) - 1 := by
    rw [nI_add, nI_m1 (by omega)]
    omega
  rw [f_X12_unseen_53, if_neg (show ¬ (9 : Int32) ≤ nI t from nI_ge (b := 9) (by omega) (by decide)), M.2.2.2.1, if_neg (show ¬ (12 : Int32) ≤ nI (uD u) from nI_ge (b := 12) (by omega) (by decide)), bnd_s, bnd_s, r3, d3, M.2.1, M.2.2.1, nI_1 t, show f_X12_mayBe σ 0 _ = _ from e_may M V (r := 0) (by omega) _, bd1_s, z1]
  unfold stp
  cases o0 : opB u 0 ((uUp u (uD u) : Int) + (t / 3 : Nat) - 1) with
  | false => rw [if_pos (by decide), if_neg (fun z => by cases z.1)]
  | true =>
    rw [if_neg (by decide), show f_X12_mayBe σ 1 _ = _ from e_may M V (r := 1) (by omega) _, bd1_s, z2]
    cases o1 : opB u 1 ((uLo u (uD u) : Int) + (t % 3 : Nat) - 1) with
    | false => rw [if_pos (by decide), if_neg (fun z => by cases z.2)]
    | true =>
      have q1 := opB_lo o0
      have q2 := opB_lo o1
      rw [if_neg (by decide), if_pos (show (true = true ∧ true = true) from ⟨rfl, rfl⟩), nI_add, nI_add, show (1 : Int32) = nI 1 from rfl, pk_sub (by omega), pk_sub (by omega), e_gets M V (by omega) (by omega) (by omega), bd1_s, nI_l (by omega), nI_l (by omega)]
      have mt := e_mtc V hX hY (show uUp u (uD u) + t / 3 - 1 ≤ 12 by omega) (show uLo u (uD u) + t % 3 - 1 ≤ 12 by omega)
      unfold gss
      cases hm : mtc u X Y (uUp u (uD u) + t / 3 - 1) (uLo u (uD u) + t % 3 - 1) with
      | false =>
        rw [if_neg (fun z => by rw [mt.mp z] at hm; cases hm)]
        rfl
      | true =>
        rw [if_pos (mt.mpr hm), if_pos rfl]
        by_cases h0 : s.1 = 0
        · rw [if_pos (by rw [h0]; rfl), if_pos h0, nI_add]
        · rw [if_neg (nI_ne0 (by omega) (by omega)), if_neg h0, nI_add]
def stp9 (u : GD) (X Y : Nat) (s : US) : US := stp u X Y 8 (stp u X Y 7 (stp u X Y 6 (stp u X Y 5 (stp u X Y 4 (stp u X Y 3 (stp u X Y 2 (stp u X Y 1 (stp u X Y 0 s))))))))
theorem stp_le {u : GD} {X Y t : Nat} {s : US} : (stp u X Y t s).1 ≤ s.1 + 1 := by
  unfold stp
  split
  · exact gss_le
  · omega
theorem e_unM {σ : Hp} {u : GD} (M : MG (gI σ 52) u) (V : VG u) (hD : uD u < 12) {X Y : Nat} (hX : X ≤ 9999) (hY : Y ≤ 99) {x3 : Int32} : f_X12_unseen_53 σ (nI X) (nI Y) x3 fu 0 (-1000000) 0 = some (if x3 = 0 then nI (stp9 u X Y (0, -1000000)).1 else (stp9 u X Y (0, -1000000)).2) := by
  show f_X12_unseen_53 σ (nI X) (nI Y) x3 (502 + 10) (nI (0, (-1000000 : Int32)).1) (0, (-1000000 : Int32)).2 (nI 0) = _
  unfold stp9
  generalize e0 : ((0, -1000000) : US) = s0
  have h0 : s0.1 ≤ 0 := by rw [← e0]; exact Nat.le_refl _
  rw [e_un53 M V hD hX hY _ 0 _ (by omega) (by omega)]
  have h1 := stp_le (u := u) (X := X) (Y := Y) (t := 0) (s := s0)
  generalize stp u X Y 0 s0 = s1 at h1 ⊢
  rw [e_un53 M V hD hX hY _ 1 _ (by omega) (by omega)]
  have h2 := stp_le (u := u) (X := X) (Y := Y) (t := 1) (s := s1)
  generalize stp u X Y 1 s1 = s2 at h2 ⊢
  rw [e_un53 M V hD hX hY _ 2 _ (by omega) (by omega)]
  have h3 := stp_le (u := u) (X := X) (Y := Y) (t := 2) (s := s2)
  generalize stp u X Y 2 s2 = s3 at h3 ⊢
  rw [e_un53 M V hD hX hY _ 3 _ (by omega) (by omega)]
  have h4 := stp_le (u := u) (X := X) (Y := Y) (t := 3) (s := s3)
  generalize stp u X Y 3 s3 = s4 at h4 ⊢
  rw [e_un53 M V hD hX hY _ 4 _ (by omega) (by omega)]
  have h5 := stp_le (u := u) (X := X) (Y := Y) (t := 4) (s := s4)
  generalize stp u X Y 4 s4 = s5 at h5 ⊢
  rw [e_un53 M V hD hX hY _ 5 _ (by omega) (by omega)]
  have h6 := stp_le (u := u) (X := X) (Y := Y) (t := 5) (s := s5)
  generalize stp u X Y 5 s5 = s6 at h6 ⊢
  rw [e_un53 M V hD hX hY _ 6 _ (by omega) (by omega)]
  have h7 := stp_le (u := u) (X := X) (Y := Y) (t := 6) (s := s6)
  generalize stp u X Y 6 s6 = s7 at h7 ⊢
  rw [e_un53 M V hD hX hY _ 7 _ (by omega) (by omega)]
  have h8 := stp_le (u := u) (X := X) (Y := Y) (t := 7) (s := s7)
  generalize stp u X Y 7 s7 = s8 at h8 ⊢
  rw [e_un53 M V hD hX hY _ 8 _ (by omega) (by omega), f_X12_unseen_53, if_pos (by decide)]
  by_cases h : x3 = 0
  · rw [if_pos h, if_pos h]
  · rw [if_neg h, if_neg h]
/-! the class -/
def SU (σ : Hp) (s : US) : Prop := gI σ 15 14 = nI s.1 ∧ gI σ 15 15 = s.2
def fy (u : GD) (X Y x : Nat) : Nat → Nat → US → US
  | 0, _, s => s
  | k + 1, y, s => fy u X Y x k (y + 1) (gss u X Y s x y (3 * (x + 1 - uUp u (uD u)) + (y + 1 - uLo u (uD u))))
def fx (u : GD) (X Y lf m : Nat) : Nat → Nat → US → US
  | 0, _, s => s
  | k + 1, x, s => fx u X Y lf m k (x + 1) (fy u X Y x m lf s)
theorem fy_le {u : GD} {X Y x : Nat} : ∀ {k y : Nat} {s : US}, (fy u X Y x k y s).1 ≤ s.1 + k := by
  intro k
  induction k with
  | zero => intro y s; exact Nat.le_refl _
  | succ k ih =>
    intro y s
    have h1 := ih (y := y + 1) (s := gss u X Y s x y (3 * (x + 1 - uUp u (uD u)) + (y + 1 - uLo u (uD u))))
    have h2 := gss_le (u := u) (X := X) (Y := Y) (x := x) (y := y) (t := 3 * (x + 1 - uUp u (uD u)) + (y + 1 - uLo u (uD u))) (s := s)
    show (fy u X Y x k (y + 1) _).1 ≤ _
    omega
theorem GA.of {σ σ' : Hp} {u : GD} {d n : Nat} (h15 : gI σ' 15 3 = gI σ 15 3) (h : ∀ q, 16 ≤ q → q ≤ 18 → gI σ' q = gI σ q) (A : GA σ u d n) : GA σ' u d n := by
  obtain ⟨c, hc, ix, a1, a2, a3⟩ := A
  refine ⟨c, hc, ix, by rw [h15]; exact a1, ?_, a3⟩
  rw [h 16 (by omega) (by omega), h 17 (by omega) (by omega), h 18 (by omega) (by omega)]
  exact a2
/-- what the class's loops keep -/
def UK (σ σ' : Hp) : Prop := onlyI (fun q => q = 15) σ σ' ∧ ∀ k, k ≠ 14 → k ≠ 15 → gI σ' 15 k = gI σ 15 k
theorem UK.rf {σ : Hp} : UK σ σ := ⟨onlyI.rf, fun _ _ _ => rfl⟩
theorem UK.tr {a b c : Hp} (h : UK a b) (k : UK b c) : UK a c := ⟨h.1.tr k.1, fun q h1 h2 => (k.2 q h1 h2).trans (h.2 q h1 h2)⟩
theorem gi_ix {a b x y : Nat} (ha : a ≤ 12) (hb : b ≤ 12) (hx : x ≤ 12) (hy : y ≤ 12) (h1 : a ≤ x + 1) (h2 : b ≤ y + 1) : (3 * (nI x - nI a)) + (nI y - nI b) + 4 = nI (3 * (x + 1 - a) + (y + 1 - b)) := by
  have q1 : (nI x - nI a).toInt = (x : Int) - a := pk_sub_toInt (by omega) (by omega)
  have q2 : (nI y - nI b).toInt = (y : Int) - b := pk_sub_toInt (by omega) (by omega)
  have q3 : (3 * (nI x - nI a)).toInt = 3 * ((x : Int) - a) := by
    rw [tI_mul (by rw [q1]; show _ ≤ 3 * _; omega) (by rw [q1]; show 3 * _ < _; omega), q1]
    rfl
  have q4 : ((3 * (nI x - nI a)) + (nI y - nI b)).toInt = 3 * ((x : Int) - a) + ((y : Int) - b) := by
    rw [tI_add (by rw [q3, q2]; omega) (by rw [q3, q2]; omega), q3, q2]
  rw [tI_eq, tI_add (by rw [q4]; show _ ≤ _ + 4; omega) (by rw [q4]; show _ + 4 < _; omega), q4, nI_toInt (by omega)]
  show _ + 4 = _
  omega
theorem e_addG {σ : Hp} {s : US} (S : SU σ s) (hs : s.1 ≤ 100) {a b x y : Nat} (ha : a ≤ 12) (hb : b ≤ 12) (hx : x ≤ 12) (hy : y ≤ 12) (h1 : a ≤ x + 1) (h2 : b ≤ y + 1) : ∃ σ', f_X8_addGuess σ (nI x - nI a) (nI y - nI b) = some σ' ∧ UK σ σ' ∧ SU σ' (s.1 + 1, if s.1 = 0 then nI (3 * (x + 1 - a) + (y + 1 - b)) else s.2) := by
  obtain ⟨s1, s2⟩ := S
  unfold f_X8_addGuess
  rw [s1, gi_ix ha hb hx hy h1 h2]
  by_cases h0 : s.1 = 0
  · rw [if_pos (by rw [h0]; rfl), bnd_s, gI_s, upd_n (show (14 : Nat) ≠ 15 by decide), s1, nI_1]
    refine ⟨_, rfl, ⟨(onlyI.rf.st (by omega)).st (by omega), fun k k1 k2 => ?_⟩, ?_, ?_⟩
    · rw [gI_s, upd_n k1, gI_s, upd_n k2]
    · rw [gI_s, upd_s]
    · rw [gI_s, upd_n (by decide), gI_s, upd_s]
      show _ = if s.1 = 0 then _ else _
      rw [if_pos h0]
  · rw [if_neg (nI_ne0 (by omega) (by omega)), nI_1]
    refine ⟨_, rfl, ⟨onlyI.rf.st (by omega), fun k k1 k2 => ?_⟩, ?_, ?_⟩
    · rw [gI_s, upd_n k1]
    · rw [gI_s, upd_s]
    · rw [gI_s, upd_n (by decide)]
      show _ = if s.1 = 0 then _ else _
      rw [if_neg h0]
      exact s2
theorem e_g57 {g : Nat} {u : GD} (hg : isG g) (V : VG u) {X Y : Nat} (hX : X ≤ 9999) (hY : Y ≤ 99) {x lt : Nat} (hx : x ≤ 12) (hx1 : uUp u (uD u) ≤ x + 1) (hlt : lt ≤ 12) {k42 : Hp → Int32 → Option Hp} : ∀ (n y k : Nat) (σ : Hp) (s : US), y + k = lt + 1 → k < n → uLo u (uD u) ≤ y + 1 → CG σ g u → GA σ u (uD u) (uS u) → gI σ 15 13 = nI lt → SU σ s → s.1 + k ≤ 100 →
    ∃ σ', f_X8_guessMoves_57 k42 g (nI X) (nI Y) (nI x) n σ (nI y) = k42 σ' (nI (x + 1)) ∧ UK σ σ' ∧ SU σ' (fy u X Y x k y s) := by
  obtain ⟨p1, p2⟩ := V.up
  intro n
  induction n with
  | zero =>
    intro y k σ s h1 h2
    omega
  | succ n ih =>
    intro y k σ s h1 h2 h3 C A h13 S hs
    rw [f_X8_guessMoves_57, h13]
    cases k with
    | zero =>
      rw [if_pos (nI_lt (by omega) (by omega)), nI_1]
      exact ⟨σ, rfl, UK.rf, S⟩
    | succ k =>
      have mt := e_mtc V hX hY hx (show y ≤ 12 by omega)
      have hgl := Nat.le_trans (gts_alls (u := u) (d := uD u) hx (show y ≤ 12 by omega)) (alls_le V)
      rw [if_neg (nI_nlt (by omega) (by omega)), e_left V A hx (by omega), bd1_s, nI_l (by omega), nI_l (by omega), nI_l (by omega)]
      show ∃ σ', _ ∧ _ ∧ SU σ' (fy u X Y x k (y + 1) (gss u X Y s x y (3 * (x + 1 - uUp u (uD u)) + (y + 1 - uLo u (uD u)))))
      unfold gss
      cases hm : mtc u X Y x y with
      | false =>
        rw [if_neg (fun z => by rw [mt.mp z] at hm; cases hm), nI_1 y]
        exact ih (y + 1) k σ s (by omega) (by omega) (by omega) C A h13 S (by omega)
      | true =>
        obtain ⟨σ1, a1, a2, a3⟩ := e_addG S (by omega) p1 p2 hx (show y ≤ 12 by omega) hx1 h3
        rw [if_pos (mt.mpr hm), e_end0 C V, bd1_s, e_end1 C V, bd1_s, a1, bd1_s, nI_1 y]
        obtain ⟨σ2, b1, b2, b3⟩ := ih (y + 1) k σ1 _ (by omega) (by omega) (by omega) (C.only a2.1 hg (by omega)) (A.of (a2.2 3 (by omega) (by omega)) (fun q q1 q2 => a2.1.1 q (by omega))) (by rw [a2.2 13 (by omega) (by omega)]; exact h13) a3 (by show s.1 + 1 + k ≤ 100; omega)
        exact ⟨σ2, b1, a2.tr b2, b3⟩
theorem e_g42 {g : Nat} {u : GD} (hg : isG g) (V : VG u) {X Y : Nat} (hX : X ≤ 9999) (hY : Y ≤ 99) {ut lf lt : Nat} (hut : ut ≤ 12) (hlt : lt ≤ 12) (hlf : uLo u (uD u) ≤ lf + 1) (hlf2 : lf ≤ lt) : ∀ (n x k : Nat) (σ : Hp) (s : US), x + k = ut + 1 → k < n → uUp u (uD u) ≤ x + 1 → CG σ g u → GA σ u (uD u) (uS u) → gI σ 15 11 = nI ut → gI σ 15 12 = nI lf → gI σ 15 13 = nI lt → SU σ s → s.1 + 13 * k ≤ 100 →
    ∃ σ', f_X8_guessMoves_42 g (nI X) (nI Y) n σ (nI x) = some σ' ∧ UK σ σ' ∧ SU σ' (fx u X Y lf (lt + 1 - lf) k x s) := by
  intro n
  induction n with
  | zero =>
    intro x k σ s h1 h2
    omega
  | succ n ih =>
    intro x k σ s h1 h2 h3 C A h11 h12 h13 S hs
    rw [f_X8_guessMoves_42, h11]
    cases k with
    | zero =>
      rw [if_pos (nI_lt (by omega) (by omega))]
      exact ⟨σ, rfl, UK.rf, S⟩
    | succ k =>
      rw [if_neg (nI_nlt (by omega) (by omega)), bnd_s, h12]
      obtain ⟨σ1, a1, a2, a3⟩ := e_g57 (k42 := f_X8_guessMoves_42 g (nI X) (nI Y) n) hg V hX hY (show x ≤ 12 by omega) h3 hlt fu lf (lt + 1 - lf) σ s (by omega) (by show lt + 1 - lf < 512; omega) hlf C A h13 S (by omega)
      have fl := fy_le (u := u) (X := X) (Y := Y) (x := x) (k := lt + 1 - lf) (y := lf) (s := s)
      obtain ⟨σ2, b1, b2, b3⟩ := ih (x + 1) k σ1 _ (by omega) (by omega) (by omega) (C.only a2.1 hg (by omega)) (A.of (a2.2 3 (by omega) (by omega)) (fun q q1 q2 => a2.1.1 q (by omega))) (by rw [a2.2 11 (by omega) (by omega)]; exact h11) (by rw [a2.2 12 (by omega) (by omega)]; exact h12) (by rw [a2.2 13 (by omega) (by omega)]; exact h13) a3 (by omega)
      exact ⟨σ2, by rw [a1, b1], a2.tr b2, b3⟩
