/-! ===== what is reaped on a DAY ===== -/
def crpI (u : GD) (d i : Nat) : Nat := crp (uSo u i) (uWo u i) (uRi u i) d
theorem sumN_congr {f h : Nat → Nat} : ∀ {n : Nat}, (∀ i, i < n → f i = h i) → sumN f n = sumN h n := by
  intro n
  induction n with
  | zero => intro _; rfl
  | succ n ih =>
    intro k
    show sumN f n + f n = sumN h n + h n
    rw [ih (fun i hi => k i (by omega)), k n (by omega)]
theorem sumN_le {f : Nat → Nat} {B : Nat} : ∀ {n : Nat}, (∀ i, i < n → f i ≤ B) → sumN f n ≤ n * B := by
  intro n
  induction n with
  | zero => intro _; exact Nat.zero_le _
  | succ n ih =>
    intro k
    show sumN f n + f n ≤ (n + 1) * B
    have := ih (fun i hi => k i (by omega))
    have := k n (by omega)
    rw [Nat.succ_mul]
    omega
theorem sumN_mono {f h : Nat → Nat} : ∀ {n : Nat}, (∀ i, i < n → f i ≤ h i) → sumN f n ≤ sumN h n := by
  intro n
  induction n with
  | zero => intro _; exact Nat.zero_le _
  | succ n ih =>
    intro k
    show sumN f n + f n ≤ sumN h n + h n
    have := ih (fun i hi => k i (by omega))
    have := k n (by omega)
    omega
def GA (σ : Hp) (u : GD) (d n : Nat) : Prop := ∃ c, c ≤ n ∧ ∃ ix : Nat → Nat, gI σ 15 3 = nI c ∧ (∀ k, k < c → ix k < n ∧ gI σ 16 k = nI (ix k) ∧ gI σ 17 k = nI (crpI u d (ix k)) ∧ gI σ 18 k = (if uSo u (ix k) = 2 then 1 else 0)) ∧ ∀ f : Nat → Nat, sumN (fun k => crpI u d (ix k) * f (ix k)) c = sumN (fun i => crpI u d i * f i) n
theorem CGw.only {S : Nat → Prop} {σ σ' : Hp} {g : Nat} {u : GD} {L R : Nat → Nat} (o : onlyI S σ σ') (hg : isG g) (hS : ∀ q, S q → q < 27 ∨ (50 < q ∧ q < 67)) (h : CGw σ g u L R) : CGw σ' g u L R := by
  have hb : 27 ≤ g ∧ g ≤ 45 := by rcases hg with h | h | h | h <;> omega
  have k : ∀ q, ¬ (q < 27 ∨ (50 < q ∧ q < 67)) → gI σ' q = gI σ q := fun q hq => o.1 q (fun z => hq (hS q z))
  refine h.of ?_ ?_ (fun q hq => k q (by omega)) (k _ (by omega)) (k _ (by omega)) (k _ (by omega)) (k _ (by omega)) (k _ (by omega))
  · show σ'.2.2.1 _ = σ.2.2.1 _
    rw [o.2]
  · funext q
    show σ'.2.2.2.1 q = σ.2.2.2.1 q
    rw [o.2]
theorem CG.only {S : Nat → Prop} {σ σ' : Hp} {g : Nat} {u : GD} (o : onlyI S σ σ') (hg : isG g) (hS : ∀ q, S q → q < 27 ∨ (50 < q ∧ q < 67)) (h : CG σ g u) : CG σ' g u := CGw.only o hg hS h
theorem okS_k {σ : Hp} {q so : Nat} (hq : 67 ≤ q) (hso : 1 ≤ so ∧ so ≤ 5) (h : gK σ q = kcode so) : okS σ q := by
  refine ⟨hq, ?_⟩
  rw [h]
  rcases kc hso with ⟨-, e⟩ | ⟨-, e⟩ | ⟨-, e⟩ | ⟨-, e⟩ | ⟨-, e⟩ <;> rw [e] <;> decide
theorem e_falls {σ : Hp} {q so : Nat} (hso : 1 ≤ so ∧ so ≤ 5) (h : gK σ q = kcode so) : v_Strip_fallsWhole σ q = some (if so = 2 then 1 else 0) := by
  unfold v_Strip_fallsWhole
  rcases kc hso with ⟨rfl, e⟩ | ⟨rfl, e⟩ | ⟨rfl, e⟩ | ⟨rfl, e⟩ | ⟨rfl, e⟩ <;> rw [h, e] <;> rfl
theorem nb01 (c : Prop) [Decidable c] : vp_nar .boolean (if c then 1 else 0) = if c then 1 else 0 := by
  by_cases h : c
  · rw [if_pos h]
    rfl
  · rw [if_neg h]
    rfl
theorem e_gather7 {g : Nat} {u : GD} {L R : Nat → Nat} (hg : isG g) (V : VG u) {d : Nat} (hd : d ≤ 100) : ∀ (n i : Nat) (σ : Hp), i ≤ uS u → uS u < i + n → CGw σ g u L R → GA σ u d i → ∃ σ', f_X8_gather_7 g (nI d) n σ (nI i) = some σ' ∧ onlyI (fun q => 15 ≤ q ∧ q ≤ 18) σ σ' ∧ (∀ k, k ≠ 3 → gI σ' 15 k = gI σ 15 k) ∧ GA σ' u d (uS u) := by
  have hS := V.2.1
  intro n
  induction n with
  | zero =>
    intro i σ h1 h2
    omega
  | succ n ih =>
    intro i σ h1 h2 C A
    rw [f_X8_gather_7, C.2.1]
    by_cases hi : i = uS u
    · rw [if_pos (by rw [hi]; exact nI_le (Nat.le_refl _) (by omega))]
      exact ⟨σ, rfl, onlyI.rf, fun _ _ => rfl, hi ▸ A⟩
    · have hlt : i < uS u := by omega
      obtain ⟨q, r1, r2, r3, r4, r5, r6⟩ := C.2.2.2.2.2.2.2 i hlt
      obtain ⟨v1, v2, v3, v4⟩ := V.2.2.2.2.1 i hlt
      have ok := okS_k r2 ⟨v1, v2⟩ r3
      rw [if_neg (nI_ge hlt (by omega)), if_neg (show ¬ (12 : Int32) ≤ nI i from nI_ge (b := 12) (by omega) (by decide)), e_told1 C.2.1 hS hlt, bd1_s, r1, opc_s, chk_s ok, show v_Strip_cropOn σ q (nI d) = some (nI (crpI u d i)) from e_cropC ⟨v1, v2⟩ r3 r5 r6 v3 v4 hd, bd1_s]
      obtain ⟨c, hc, ix, a1, a2, a3⟩ := A
      unfold f_X8_gather_43b
      by_cases h0 : crpI u d i = 0
      · have A' : GA σ u d (i + 1) := by
          refine ⟨c, by omega, ix, a1, fun k hk => ?_, fun f => ?_⟩
          · obtain ⟨b1, b2⟩ := a2 k hk
            exact ⟨by omega, b2⟩
          · show _ = sumN _ i + crpI u d i * f i
            rw [a3 f, h0, Nat.zero_mul]
            rfl
        obtain ⟨σ', e1, e2⟩ := ih (i + 1) σ (by omega) (by omega) C A'
        refine ⟨σ', ?_, e2⟩
        rw [if_pos (show nI (crpI u d i) ≤ 0 by rw [h0]; decide), nI_1]
        exact e1
      · have hcr : crpI u d i ≤ 99 := Nat.le_trans crp_le v3
        rw [if_neg (show ¬ nI (crpI u d i) ≤ 0 from nI_nle (by omega) (by omega)), a1, chk_s (nI_inb (by omega) (by decide)), gI_n (show (15 : Nat) ≠ 16 by decide), a1, chk_s (nI_inb (by omega) (by decide)), bnd_s, nI_cl (by omega), chk_s (show okS (sI (sI σ 16 c (nI i)) 17 c (nI (crpI u d i))) q from ok), e_falls (σ := sI (sI σ 16 c (nI i)) 17 c (nI (crpI u d i))) (so := uSo u i) ⟨v1, v2⟩ (show gK σ q = _ from r3), bd1_s, nb01]
        have e15 : gI (sI (sI σ 16 c (nI i)) 17 c (nI (crpI u d i))) 15 3 = nI c := by simp (disch := omega) only [gI_n]; exact a1
        have e15b : ∀ v, gI (sI (sI (sI σ 16 c (nI i)) 17 c (nI (crpI u d i))) 18 c v) 15 3 = nI c := by intro v; simp (disch := omega) only [gI_n]; exact a1
        have o : onlyI (fun q => 15 ≤ q ∧ q ≤ 18) σ (sI (sI (sI (sI σ 16 c (nI i)) 17 c (nI (crpI u d i))) 18 c (if uSo u i = 2 then 1 else 0)) 15 3 (nI (c + 1))) := (((onlyI.rf.st (by omega)).st (by omega)).st (by omega)).st (by omega)
        obtain ⟨σ', k1, k2, k3, k4⟩ := ih (i + 1) _ (by omega) (by omega) (C.only o hg (by omega)) (by
          refine ⟨c + 1, by omega, fun k => if k = c then i else ix k, by rw [gI_s, upd_s], fun k hk => ?_, fun f => ?_⟩
          · by_cases hkc : k = c
            · subst hkc
              simp (disch := omega) only [gI_n, gI_s, upd_s, if_true]
              exact ⟨by omega, trivial, trivial, trivial⟩
            · obtain ⟨b1, b2, b3, b4⟩ := a2 k (by omega)
              simp (disch := omega) only [gI_n, gI_s, upd_n, if_neg hkc]
              exact ⟨by omega, b2, b3, b4⟩
          · show sumN _ c + crpI u d (if c = c then i else ix c) * f (if c = c then i else ix c) = sumN _ i + crpI u d i * f i
            rw [if_pos rfl, ← a3 f]
            congr 1
            exact sumN_congr (fun k hk => by show crpI u d (if k = c then i else ix k) * f (if k = c then i else ix k) = _; rw [if_neg (by omega)]))
        refine ⟨σ', ?_, o.tr k2, fun k hk => ?_, k4⟩
        · rw [e15, chk_s (nI_inb (by omega) (by decide)), bnd_s, nI_cl (by omega), e15b, nI_1, nI_1]
          exact k1
        · rw [k3 k hk, gI_s, upd_n hk]
          simp (disch := omega) only [gI_n]
theorem e_gather {σ : Hp} {g : Nat} {u : GD} {L R : Nat → Nat} (hg : isG g) (V : VG u) (C : CGw σ g u L R) {d : Nat} (hd : d ≤ 100) : ∃ σ', f_X8_gather σ g (nI d) = some σ' ∧ onlyI (fun q => 15 ≤ q ∧ q ≤ 18) σ σ' ∧ (∀ k, k ≠ 3 → gI σ' 15 k = gI σ 15 k) ∧ GA σ' u d (uS u) := by
  have o : onlyI (fun q => 15 ≤ q ∧ q ≤ 18) σ (sI σ 15 3 0) := onlyI.rf.st (by omega)
  obtain ⟨σ', e1, e2, e3, e4⟩ := e_gather7 hg V hd fu 0 (sI σ 15 3 0) (by omega) (by show uS u < 0 + 512; have := V.2.1; omega) (C.only o hg (by omega)) ⟨0, Nat.le_refl _, fun _ => 0, by rw [gI_s, upd_s]; rfl, fun k hk => by omega, fun f => rfl⟩
  exact ⟨σ', e1, o.tr e2, fun k hk => by rw [e3 k hk, gI_s, upd_n hk], e4⟩
theorem e_left {σ : Hp} {u : GD} (V : VG u) {d a b : Nat} (A : GA σ u d (uS u)) (ha : a ≤ 12) (hb : b ≤ 12) : f_X8_leftReaps σ (nI a) (nI b) = some (nI (gts u d a b)) := by
  have hS := V.2.1
  obtain ⟨c, hc, ix, a1, a2, a3⟩ := A
  have go : ∀ (n k : Nat), k ≤ c → c < k + n → f_X8_leftReaps_5 σ (nI a) (nI b) n (nI (sumN (fun k => crpI u d (ix k) * shr2 (uSo u (ix k)) (ix k) a b) k)) (nI k) = some (nI (sumN (fun k => crpI u d (ix k) * shr2 (uSo u (ix k)) (ix k) a b) c)) := by
    intro n
    induction n with
    | zero =>
      intro k h1 h2
      omega
    | succ n ih =>
      intro k h1 h2
      rw [f_X8_leftReaps_5, a1]
      by_cases hk : k = c
      · rw [if_pos (by rw [hk]; exact nI_le (Nat.le_refl _) (by omega)), hk]
      · obtain ⟨b1, b2, b3, b4⟩ := a2 k (by omega)
        have hs := shr_le (x := ix k) ha hb
        have nx := ih (k + 1) (by omega) (by omega)
        have ic : inb (nI k) 12 := nI_inb (by omega) (by decide)
        rw [if_neg (nI_ge (by omega) (by omega)), chk_s ic, nI_cl (by omega), b2, e_shareC ha hb (by omega), bd1_s, chk_s ic, b4, b3]
        have fin : ∀ v : Nat, v = shr2 (uSo u (ix k)) (ix k) a b → f_X8_leftReaps_5 σ (nI a) (nI b) n (nI (sumN (fun k => crpI u d (ix k) * shr2 (uSo u (ix k)) (ix k) a b) k) + nI (crpI u d (ix k)) * nI v) (nI k + 1) = some (nI (sumN (fun k => crpI u d (ix k) * shr2 (uSo u (ix k)) (ix k) a b) c)) := by
          intro v hv
          rw [pk_mul, nI_add, nI_1, hv]
          exact nx
        by_cases h2 : uSo u (ix k) = 2
        · rw [if_pos h2, if_neg n10, show (2 : Int32) = nI 2 from rfl, pk_mul]
          by_cases h3 : 2 * shr (ix k) a b ≤ 55440
          · rw [if_pos (show nI (2 * shr (ix k) a b) ≤ 55440 from nI_le (b := 55440) h3 (by decide)), chk_s ic, bnd_s]
            exact fin 0 (by unfold shr2; rw [if_pos h2, if_neg (by omega)])
          · rw [if_neg (show ¬ nI (2 * shr (ix k) a b) ≤ 55440 from nI_ge (a := 55440) (by omega) (by omega)), chk_s ic, bnd_s]
            exact fin 55440 (by unfold shr2; rw [if_pos h2, if_pos (by omega)])
        · rw [if_neg h2, if_pos rfl, chk_s ic, bnd_s]
          exact fin _ (by unfold shr2; rw [if_neg h2])
  have r := go fu 0 (by omega) (by show c < 0 + 512; omega)
  show _ = some (nI (sumN (fun i => crpI u d i * shr2 (uSo u i) i a b) (uS u)))
  rw [← a3 (fun i => shr2 (uSo u i) i a b)]
  exact r
theorem e_all {σ : Hp} {u : GD} (V : VG u) {d : Nat} (A : GA σ u d (uS u)) : f_X8_allReaps σ = some (nI (alls u d)) := by
  have hS := V.2.1
  obtain ⟨c, hc, ix, a1, a2, a3⟩ := A
  have go : ∀ (n k : Nat), k ≤ c → c < k + n → f_X8_allReaps_4 σ n (nI (sumN (fun k => crpI u d (ix k) * 55440) k)) (nI k) = some (nI (sumN (fun k => crpI u d (ix k) * 55440) c)) := by
    intro n
    induction n with
    | zero =>
      intro k h1 h2
      omega
    | succ n ih =>
      intro k h1 h2
      rw [f_X8_allReaps_4, a1]
      by_cases hk : k = c
      · rw [if_pos (by rw [hk]; exact nI_le (Nat.le_refl _) (by omega)), hk]
      · obtain ⟨b1, b2, b3, b4⟩ := a2 k (by omega)
        have ic : inb (nI k) 12 := nI_inb (by omega) (by decide)
        rw [if_neg (nI_ge (by omega) (by omega)), chk_s ic, bnd_s, nI_cl (by omega), b3, show (55440 : Int32) = nI 55440 from rfl, pk_mul, nI_add, nI_1]
        exact ih (k + 1) (by omega) (by omega)
  have r := go fu 0 (by omega) (by show c < 0 + 512; omega)
  show _ = some (nI (sumN (fun i => crpI u d i * 55440) (uS u)))
  rw [← a3 (fun i => 55440)]
  exact r
theorem e_gets {σ : Hp} {u : GD} (M : MG (gI σ 52) u) (V : VG u) {d a b : Nat} (hd : d ≤ 100) (ha : a ≤ 12) (hb : b ≤ 12) : f_X12_gets σ (nI d) (nI a) (nI b) = some (lN (gts u d a b)) := by
  have hS := V.2.1
  have go : ∀ (n k : Nat), k ≤ uS u → uS u < k + n → f_X12_gets_6 σ (nI d) (nI a) (nI b) n (lN (sumN (fun i => crpI u d i * shr2 (uSo u i) i a b) k)) (nI k) = some (lN (sumN (fun i => crpI u d i * shr2 (uSo u i) i a b) (uS u))) := by
    intro n
    induction n with
    | zero =>
      intro k h1 h2
      omega
    | succ n ih =>
      intro k h1 h2
      rw [f_X12_gets_6, M.2.2.2.2.1]
      by_cases hk : k = uS u
      · rw [if_pos (by rw [hk]; exact nI_le (Nat.le_refl _) (by omega)), hk]
      · have hlt : k < uS u := by omega
        obtain ⟨v1, v2, v3, v4⟩ := V.2.2.2.2.1 k hlt
        have hs := shr_le (x := k) ha hb
        have nx := ih (k + 1) (by omega) (by omega)
        have hcr : crpI u d k ≤ 99 := Nat.le_trans crp_le v3
        have ec := e_cropOn M V hlt hd
        rw [if_neg (nI_ge hlt (by omega)), e_shareM ha hb (by omega), bd1_s, (e_sown M V hlt).1, bd1_s]
        have fin : ∀ v : Nat, v ≤ 55440 → v = shr2 (uSo u k) k a b → f_X12_gets_6 σ (nI d) (nI a) (nI b) n (lN (sumN (fun i => crpI u d i * shr2 (uSo u i) i a b) k) + (nI (crpI u d k)).toInt64 * (nI v).toInt64) (nI k + 1) = some (lN (sumN (fun i => crpI u d i * shr2 (uSo u i) i a b) (uS u))) := by
          intro v hv1 hv
          rw [nI_l (by omega), nI_l (by omega), lN_mul, lN_add, nI_1, hv]
          exact nx
        by_cases h2 : uSo u k = 2
        · rw [if_pos (show nI (uSo u k) = 2 by rw [h2]; rfl), show (2 : Int32) = nI 2 from rfl, pk_mul]
          unfold f_X12_gets_52
          by_cases h3 : 2 * shr k a b ≤ 55440
          · rw [if_pos (show nI (2 * shr k a b) ≤ 55440 from nI_le (b := 55440) h3 (by decide)), ec, bd1_s, bnd_s]
            exact fin 0 (by omega) (by unfold shr2; rw [if_pos h2, if_neg (by omega)])
          · rw [if_neg (show ¬ nI (2 * shr k a b) ≤ 55440 from nI_ge (a := 55440) (by omega) (by omega)), ec, bd1_s, bnd_s]
            exact fin 55440 (by omega) (by unfold shr2; rw [if_pos h2, if_pos (by omega)])
        · rw [if_neg (show ¬ nI (uSo u k) = 2 from (by show ¬ nI (uSo u k) = nI 2; rw [nI_eq (by omega) (by decide)]; exact h2)), ec, bd1_s, bnd_s]
          exact fin _ hs (by unfold shr2; rw [if_neg h2])
  exact go fu 0 (by omega) (by show uS u < 0 + 512; omega)
theorem gts_alls {u : GD} {d a b : Nat} (ha : a ≤ 12) (hb : b ≤ 12) : gts u d a b ≤ alls u d := sumN_mono (fun i _ => Nat.mul_le_mul_left _ (shr2_le ha hb))
theorem alls_le {u : GD} (V : VG u) {d : Nat} : alls u d ≤ 65862720 := by
  have : alls u d ≤ uS u * (99 * 55440) := sumN_le (fun i hi => Nat.mul_le_mul_right _ (Nat.le_trans crp_le (V.2.2.2.2.1 i hi).2.2.1))
  have h := V.2.1
  have := Nat.mul_le_mul_right (99 * 55440) h
  omega
