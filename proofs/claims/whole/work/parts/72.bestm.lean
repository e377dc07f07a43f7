/-! ===== best: the model ===== -/
theorem e_fe10 {u : GD} (V : VG u) {j r : Nat} (hj : j < 8) (hr : r ≤ 12) {mv : Nat → Int32} : ∀ (n k : Nat) (σ : Hp), k ≤ r → r < k + n → MG (gI σ 52) u → (∀ i, i < r → gI σ 57 (40 * j + i) = mv i) → ∃ σ', f_X12_findEnds_10 (nI j) (nI r) n σ (nI (bP u mv k)) (nI k) = some σ' ∧ onlyI (fun q => q = 63) σ σ' ∧ (∀ i, k ≤ i → i < r → gI σ' 63 i = nI (bP u mv (i + 1))) ∧ ∀ i, i < k → gI σ' 63 i = gI σ 63 i := by
  intro n
  induction n with
  | zero =>
    intro k σ h1 h2
    omega
  | succ n ih =>
    intro k σ h1 h2 M hm
    rw [f_X12_findEnds_10]
    by_cases hk : k = r
    · rw [if_pos (by rw [hk]; exact nI_le (Nat.le_refl _) (by omega))]
      exact ⟨σ, rfl, onlyI.rf, fun i a b => by omega, fun _ _ => rfl⟩
    · have i12 : inb (nI k) 12 := nI_inb (by omega) (by decide)
      have ei : (40 : Int32) * nI j + nI k = nI (40 * j + k) := by rw [show (40 : Int32) = nI 40 from rfl, pk_mul, nI_add]
      have go : ∃ σ', f_X12_findEnds_10 (nI j) (nI r) n (sI σ 63 k (nI (bP u mv (k + 1)))) (nI (bP u mv (k + 1))) (nI (k + 1)) = some σ' ∧ onlyI (fun q => q = 63) σ σ' ∧ (∀ i, k ≤ i → i < r → gI σ' 63 i = nI (bP u mv (i + 1))) ∧ ∀ i, i < k → gI σ' 63 i = gI σ 63 i := by
        have o : onlyI (fun q => q = 63) σ (sI σ 63 k (nI (bP u mv (k + 1)))) := onlyI.rf.st rfl
        obtain ⟨σ', e1, e2, e3, e4⟩ := ih (k + 1) (sI σ 63 k (nI (bP u mv (k + 1)))) (by omega) (by omega) (by rw [gI_n (by decide)]; exact M) (fun i hi => by rw [gI_n (by decide)]; exact hm i hi)
        refine ⟨σ', e1, o.tr e2, fun i a b => ?_, fun i hi => ?_⟩
        · by_cases hi : i = k
          · rw [e4 i (by omega), gI_s, hi, upd_s]
          · exact e3 i (by omega) b
        · rw [e4 i (by omega), gI_s, upd_n (by omega)]
      rw [if_neg (nI_ge (by omega) (by omega)), ei, chk_s (nI_inb (by omega) (by decide)), bnd_s, nI_cl (show 40 * j + k < 2147483648 by omega), nI_cl (show k < 2147483648 by omega), hm k (by omega), show f_X12_mayBe σ 1 (nI (bP u mv k) + mv k) = _ from e_may M V (r := 1) (by omega) _, bd1_s, nI_1 k]
      cases o1 : opB u 1 (nI (bP u mv k) + mv k).toInt with
      | false =>
        rw [if_pos (by decide), chk_s i12]
        rw [show bP u mv (k + 1) = bP u mv k from bnx_f o1] at go
        exact go
      | true =>
        rw [if_neg (by decide), chk_s i12, bnx_t o1]
        exact go
theorem e_111 {k30 k36 : Hp → Int32 → Option Hp} {k52 : Int64 → Int32 → Option Hp} {σ : Hp} {x2 x3 x6 z : Int32} {o : Option (Nat × Int32)} (ho : ∀ p, o = some p → p.1 < 2 ^ 62) {v : Nat} (hv : v < 2 ^ 62) : f_X12_findMost_111 k30 k36 k52 σ x2 x3 (oC o) x6 (lN v) = k52 (oC (chS o true v z)) (x6 + 1) := by
  unfold f_X12_findMost_111
  cases o with
  | none =>
    have q : ¬ lg_cmp (lN v) (oC none) ≤ 0 := by
      rw [lg_cmp_le, Int64.le_iff_toInt_le, pk_lT (by omega)]
      show ¬ _ ≤ (-1 : Int)
      omega
    rw [if_neg q]
    rfl
  | some p =>
    have hp := ho p rfl
    have q : lg_cmp (lN v) (oC (some p)) ≤ 0 ↔ v ≤ p.1 := by
      rw [lg_cmp_le]
      exact pk_lLE (by omega) (by omega)
    by_cases w : v ≤ p.1
    · have e : chS (some p) true v z = some p := by
        show (if v ≤ p.1 then some (p.1, p.2) else some (v, z)) = some p
        rw [if_pos w]
      rw [if_pos (q.mpr w), e]
    · have e : chS (some p) true v z = some (v, z) := by
        show (if v ≤ p.1 then some (p.1, p.2) else some (v, z)) = some (v, z)
        rw [if_neg w]
      rw [if_neg (fun k => w (q.mp k)), e]
      rfl
theorem e_m52s {σ : Hp} {u : GD} (M : MG (gI σ 52) u) (V : VG u) {k a : Nat} (hk : k < 12) (hD : uD u + k ≤ 100) (ha : a ≤ 12) {b : Nat} (hb : b ≤ 12) (h63 : gI σ 63 k = nI b) {k30 k36 : Hp → Int32 → Option Hp} {H B : Nat → Nat} (hH : ∀ x, x ≤ 12 → H x < 2 ^ 62) (hHB : ∀ x, H x = gts u (uD u + k) x b + B x) (t64 : ∀ x : Nat, x ≤ 12 → opB u 0 (x : Int) = true → gJ σ 64 (13 * (k + 1) + x) = lN (B x)) (n : Nat) {o : Option (Nat × Int32)} (ho : ∀ p, o = some p → p.1 < 2 ^ 62) {z y : Int32} (hz : z.toInt ≤ (a : Int) + 1) : f_X12_findMost_52 k30 k36 σ (nI k) (nI a) (n + 1) (oC o) z = f_X12_findMost_52 k30 k36 σ (nI k) (nI a) n (oC (chS o (opB u 0 z.toInt) (H z.toInt.toNat) y)) (z + 1) := by
  rw [f_X12_findMost_52, if_neg (by rw [tI_lt, nI_a1 (by omega)]; omega), show f_X12_mayBe σ 0 z = _ from e_may M V (r := 0) (by omega) _, bd1_s]
  cases h : opB u 0 z.toInt with
  | false =>
    rw [if_pos (by decide)]
    unfold f_X12_findMost_111
    rw [if_pos (c_m1 ho)]
    rfl
  | true =>
    obtain ⟨x, hx, rfl, -⟩ := opB_nI h
    have ex : (nI x).toInt = (x : Int) := nI_toInt (by omega)
    rw [ex] at h
    have e1 : (13 : Int32) * (nI k + 1) + nI x = nI (13 * (k + 1) + x) := by rw [nI_1, c13]
    rw [if_neg (by decide), chk_s (nI_inb (by omega) (by decide)), M.2.2.2.1, nI_add, nI_cl (show k < 2147483648 by omega), h63, e_gets M V hD hx hb, bd1_s, e1, chk_s (nI_inb (by omega) (by decide)), nI_cl (by omega), t64 x hx h, lN_add, ← hHB x, ex, Int.toNat_natCast]
    exact e_111 ho (hH x hx)
theorem e_m52 {σ : Hp} {u : GD} (M : MG (gI σ 52) u) (V : VG u) {k a : Nat} (hk : k < 12) (hD : uD u + k ≤ 100) (ha : a ≤ 12) {b : Nat} (hb : b ≤ 12) (h63 : gI σ 63 k = nI b) {k30 k36 : Hp → Int32 → Option Hp} {H B : Nat → Nat} (hH : ∀ x, x ≤ 12 → H x < 2 ^ 62) (hHB : ∀ x, H x = gts u (uD u + k) x b + B x) (t64 : ∀ x : Nat, x ≤ 12 → opB u 0 (x : Int) = true → gJ σ 64 (13 * (k + 1) + x) = lN (B x)) : ∃ w, f_X12_findMost_52 k30 k36 σ (nI k) (nI a) fu (-1) (nI a - 1) = k36 (sJ σ 64 (13 * k + a) w) (nI (a + 1)) ∧ (opB u 0 (a : Int) = true → w = lN (mx3 (opB u 0 ((a : Int) - 1)) (opB u 0 ((a : Int) + 1)) H a)) := by
  have z0 : (nI a - 1).toInt = (a : Int) - 1 := nI_s1 (by omega)
  have z1 : nI a - 1 + 1 = nI a := by
    rw [tI_eq, tI_add (by rw [z0]; show _ ≤ (a : Int) - 1 + 1; omega) (by rw [z0]; show (a : Int) - 1 + 1 < _; omega), z0, nI_toInt (by omega)]
    show (a : Int) - 1 + 1 = a
    omega
  have zb : (nI a).toInt = (a : Int) := nI_toInt (by omega)
  have zb1 : (nI (a + 1)).toInt = (a : Int) + 1 := by rw [nI_toInt (by omega)]; omega
  have b1 : ∀ p, chS none (opB u 0 ((a : Int) - 1)) (H (a - 1)) (-1) = some p → p.1 < 2 ^ 62 := chS_lt (fun p h => by cases h) (fun _ => hH (a - 1) (by omega))
  have b2 : ∀ p, chS (chS none (opB u 0 ((a : Int) - 1)) (H (a - 1)) (-1)) (opB u 0 (a : Int)) (H a) 0 = some p → p.1 < 2 ^ 62 := chS_lt b1 (fun _ => hH a ha)
  refine ⟨oC (chS (chS (chS none (opB u 0 ((a : Int) - 1)) (H (a - 1)) (-1)) (opB u 0 (a : Int)) (H a) 0) (opB u 0 ((a : Int) + 1)) (H (a + 1)) 1), ?_, fun oa => ?_⟩
  · show f_X12_findMost_52 k30 k36 σ (nI k) (nI a) (508 + 1 + 1 + 1 + 1) (oC none) (nI a - 1) = _
    rw [e_m52s M V hk hD ha hb h63 hH hHB t64 _ (o := none) (y := -1) (fun p h => by cases h) (by rw [z0]; omega), z0, z1, show ((a : Int) - 1).toNat = a - 1 by omega]
    rw [e_m52s M V hk hD ha hb h63 hH hHB t64 _ (y := 0) b1 (by rw [zb]; omega), zb, Int.toNat_natCast, nI_1 a]
    rw [e_m52s M V hk hD ha hb h63 hH hHB t64 _ (y := 1) b2 (by rw [zb1]; omega), zb1, nI_1 (a + 1), show ((a : Int) + 1).toNat = a + 1 by omega]
    rw [f_X12_findMost_52, nI_1 a, if_pos (nI_lt (by omega) (by omega)), c13, chk_s (nI_inb (by omega) (by decide)), nI_cl (by omega)]
  · rw [oa, chS_all]
    rfl
section
variable {u : GD} {e : Nat → Nat} {r : Nat}
theorem e_m36 (V : VG u) (he : ∀ i, e i ≤ 12) (hr : uD u + r ≤ 12) {k : Nat} (hk : k < r) {k30 : Hp → Int32 → Option Hp} : ∀ (n a : Nat) (σ : Hp), a ≤ 13 → 13 < a + n → MG (gI σ 52) u → gI σ 63 k = nI (e k) → (∀ x : Nat, x ≤ 12 → opB u 0 (x : Int) = true → gJ σ 64 (13 * (k + 1) + x) = lN (bsG u e (r - k - 1) (k + 1) x)) → ∃ σ', f_X12_findMost_36 k30 (nI k) n σ (nI a) = k30 σ' (nI k - 1) ∧ onlyJ (fun q => q = 64) σ σ' ∧ (∀ x : Nat, a ≤ x → x ≤ 12 → opB u 0 (x : Int) = true → gJ σ' 64 (13 * k + x) = lN (bsG u e (r - k) k x)) ∧ ∀ i, ¬ (13 * k + a ≤ i ∧ i < 13 * k + 13) → gJ σ' 64 i = gJ σ 64 i := by
  intro n
  induction n with
  | zero =>
    intro a σ h1 h2
    omega
  | succ n ih =>
    intro a σ h1 h2 M h63 t64
    rw [f_X12_findMost_36]
    by_cases ha : a = 13
    · subst ha
      rw [if_pos (by decide), m1_add]
      exact ⟨σ, rfl, onlyJ.rf, fun x a b => by omega, fun _ _ => rfl⟩
    · obtain ⟨w, e1, e2⟩ := e_m52 (k30 := k30) (k36 := f_X12_findMost_36 k30 (nI k) n) (a := a) M V (show k < 12 by omega) (show uD u + k ≤ 100 by omega) (by omega) (he k) h63 (H := Kg u e (r - k - 1) k) (B := fun x => bsG u e (r - k - 1) (k + 1) x) (fun x hx => Nat.lt_trans (Kg_lt V he (by omega) hx) (by decide)) (fun _ => rfl) t64
      rw [if_neg (show ¬ (13 : Int32) ≤ nI a from nI_ge (b := 13) (by omega) (by decide)), bnd_s, e1]
      obtain ⟨σ', c1, c2, c3, c4⟩ := ih (a + 1) (sJ σ 64 (13 * k + a) w) (by omega) (by omega) M h63 (fun x hx ox => by rw [gJ_s, pk_uLn (by omega)]; exact t64 x hx ox)
      refine ⟨σ', c1, ((onlyJ.rf (S := fun q => q = 64)).st rfl).tr c2, fun x p1 p2 ox => ?_, fun i hi => ?_⟩
      · by_cases hx : x = a
        · subst hx
          rw [c4 _ (by omega), gJ_s, pk_uLs, e2 ox, show r - k = r - k - 1 + 1 by omega, bsG_s, show r - k - 1 + 1 - 1 = r - k - 1 by omega]
        · exact c3 x (by omega) p2 ox
      · rw [c4 i (by omega), gJ_s, pk_uLn (by omega)]
theorem e_m30 (V : VG u) (he : ∀ i, e i ≤ 12) (hr : uD u + r ≤ 12) : ∀ (n j : Nat) (σ : Hp), j < n → j ≤ r → MG (gI σ 52) u → (∀ i, i < r → gI σ 63 i = nI (e i)) → (∀ i x : Nat, j ≤ i → i ≤ r → x ≤ 12 → opB u 0 (x : Int) = true → gJ σ 64 (13 * i + x) = lN (bsG u e (r - i) i x)) → ∃ σ', f_X12_findMost_30 n σ (nI j - 1) = some σ' ∧ onlyJ (fun q => q = 64) σ σ' ∧ ∀ i x : Nat, i ≤ r → x ≤ 12 → opB u 0 (x : Int) = true → gJ σ' 64 (13 * i + x) = lN (bsG u e (r - i) i x) := by
  intro n
  induction n with
  | zero =>
    intro j σ h1
    omega
  | succ n ih =>
    intro j σ h1 h2 M h63 t
    rw [f_X12_findMost_30]
    cases j with
    | zero =>
      rw [if_pos (by decide)]
      exact ⟨σ, rfl, onlyJ.rf, fun i x a b c => t i x (by omega) a b c⟩
    | succ j =>
      obtain ⟨s1, a1, a2, a3, a4⟩ := e_m36 V he hr (show j < r by omega) (k30 := f_X12_findMost_30 n) fu 0 σ (by omega) (by decide) M (h63 j (by omega)) (fun x hx ox => by
        rw [t (j + 1) x (Nat.le_refl _) h2 hx ox, show r - (j + 1) = r - j - 1 by omega])
      obtain ⟨σ', c1, c2, c3⟩ := ih j s1 (by omega) (by omega) (by rw [a2.gI]; exact M) (fun i hi => by rw [a2.gI]; exact h63 i hi) (fun i x p1 p2 hx ox => by
        by_cases hi : i = j
        · rw [hi]
          exact a3 x (by omega) hx ox
        · rw [a4 _ (by omega)]
          exact t i x (by omega) p2 hx ox)
      refine ⟨σ', ?_, a2.tr c2, c3⟩
      rw [nI_pred, if_neg (nI_pos (by omega)), ← c1]
      exact a1
theorem e_m2 : ∀ (n x : Nat) (σ : Hp), x ≤ 13 → 13 < x + n → r ≤ 12 → ∃ σ', f_X12_findMost_2 (nI r) n σ (nI x) = f_X12_findMost_30 fu σ' (nI r - 1) ∧ onlyJ (fun q => q = 64) σ σ' ∧ (∀ y, x ≤ y → y ≤ 12 → gJ σ' 64 (13 * r + y) = lN 0) ∧ ∀ i, i < 13 * r + x → gJ σ' 64 i = gJ σ 64 i := by
  intro n
  induction n with
  | zero =>
    intro x σ h1 h2
    omega
  | succ n ih =>
    intro x σ h1 h2 hr
    rw [f_X12_findMost_2]
    by_cases hx : x = 13
    · subst hx
      rw [if_pos (by decide), bnd_s]
      exact ⟨σ, rfl, onlyJ.rf, fun y a b => by omega, fun _ _ => rfl⟩
    · rw [if_neg (show ¬ (13 : Int32) ≤ nI x from nI_ge (b := 13) (by omega) (by decide)), c13, chk_s (nI_inb (by omega) (by decide)), nI_cl (by omega), nI_1 x]
      obtain ⟨σ', c1, c2, c3, c4⟩ := ih (x + 1) (sJ σ 64 (13 * r + x) 0) (by omega) (by omega) hr
      refine ⟨σ', c1, ((onlyJ.rf (S := fun q => q = 64)).st rfl).tr c2, fun y p1 p2 => ?_, fun i hi => ?_⟩
      · by_cases hy : y = x
        · rw [c4 _ (by omega), gJ_s, hy, pk_uLs]
          rfl
        · exact c3 y (by omega) p2
      · rw [c4 i (by omega), gJ_s, pk_uLn (by omega)]
theorem e_most (V : VG u) (he : ∀ i, e i ≤ 12) (hr : uD u + r ≤ 12) {σ : Hp} (M : MG (gI σ 52) u) (h63 : ∀ i, i < r → gI σ 63 i = nI (e i)) : ∃ σ', f_X12_findMost σ (nI r) = some σ' ∧ onlyJ (fun q => q = 64) σ σ' ∧ ∀ i x : Nat, i ≤ r → x ≤ 12 → opB u 0 (x : Int) = true → gJ σ' 64 (13 * i + x) = lN (bsG u e (r - i) i x) := by
  obtain ⟨s1, a1, a2, a3, -⟩ := e_m2 (r := r) fu 0 σ (by omega) (by decide) (by omega)
  obtain ⟨σ', c1, c2, c3⟩ := e_m30 V he hr fu r s1 (by show _ < 512; omega) (Nat.le_refl _) (by rw [a2.gI]; exact M) (fun i hi => by rw [a2.gI]; exact h63 i hi) (fun i x p1 p2 hx ox => by
    have ei : i = r := by omega
    subst ei
    rw [a3 x (by omega) hx, Nat.sub_self]
    rfl)
  refine ⟨σ', ?_, a2.tr c2, c3⟩
  unfold f_X12_findMost
  rw [← c1]
  exact a1
theorem e_mv20 {σ : Hp} (M : MG (gI σ 52) u) (V : VG u) {k a : Nat} (hk : k < 12) (hD : uD u + k ≤ 100) (ha : a ≤ 12) (oa : opB u 0 (a : Int) = true) {b : Nat} (hb : b ≤ 12) (h63 : gI σ 63 k = nI b) {x1 : Int32} {k9 : Hp → Int32 → Int32 → Option Hp} {H B : Nat → Nat} {X : Nat} (hH : ∀ x, x ≤ 12 → H x < 2 ^ 62) (hX : X < 2 ^ 62) (hHB : ∀ x, H x = gts u (uD u + k) x b + B x) (t64 : ∀ x : Nat, x ≤ 12 → opB u 0 (x : Int) = true → gJ σ 64 (13 * (k + 1) + x) = lN (B x)) (tX : gJ σ 64 (13 * k + a) = lN X) (n : Nat) {w z : Int32} (hz : ¬ z < -1) : f_X12_findMoves_20 k9 σ x1 (nI a) (nI k) (n + 1) w z = f_X12_findMoves_20 k9 σ x1 (nI a) (nI k) n (if opB u 0 (nI a + z).toInt = true ∧ H (nI a + z).toInt.toNat = X then z else w) (z + (-1)) := by
  rw [f_X12_findMoves_20, if_neg hz, show f_X12_mayBe σ 0 (nI a + z) = _ from e_may M V (r := 0) (by omega) _, bd1_s]
  unfold f_X12_findMoves_96
  cases h : opB u 0 (nI a + z).toInt with
  | false =>
    rw [if_pos (by decide), if_pos rfl, if_neg (fun q => Bool.noConfusion q.1)]
  | true =>
    obtain ⟨x, hx, e1, -⟩ := opB_nI h
    have ex : (nI x).toInt = (x : Int) := nI_toInt (by omega)
    rw [e1, ex] at h
    have e2 : (13 : Int32) * (nI k + 1) + nI a + z = nI (13 * (k + 1) + x) := by
      rw [Int32.add_assoc, e1, nI_1, c13]
    have hx2 := hH x hx
    rw [if_neg (by decide), chk_s (nI_inb (by omega) (by decide)), M.2.2.2.1, nI_add, nI_cl (show k < 2147483648 by omega), h63, e2, e1, e_gets M V hD hx hb, bd1_s, chk_s (nI_inb (by omega) (by decide)), c13, chk_s (nI_inb (by omega) (by decide)), nI_cl (show 13 * (k + 1) + x < 2147483648 by omega), nI_cl (show 13 * k + a < 2147483648 by omega), t64 x hx h, tX, lN_add, ← hHB x, ex, Int.toNat_natCast]
    have q : lg_cmp (lN (H x)) (lN X) = 0 ↔ H x = X := by
      rw [lg_cmp_eq]
      exact pk_lEQ (by omega) (by omega)
    by_cases c : H x = X
    · rw [if_pos (q.mpr c), if_neg n10, if_pos ⟨rfl, c⟩]
    · rw [if_neg (fun y => c (q.mp y)), if_pos rfl, if_neg (fun y => c y.2)]
theorem e_mv20a {σ : Hp} (M : MG (gI σ 52) u) (V : VG u) {k a : Nat} (hk : k < 12) (hD : uD u + k ≤ 100) (ha : a ≤ 12) (oa : opB u 0 (a : Int) = true) {b : Nat} (hb : b ≤ 12) (h63 : gI σ 63 k = nI b) {x1 : Int32} {k9 : Hp → Int32 → Int32 → Option Hp} {H B : Nat → Nat} {X : Nat} (hH : ∀ x, x ≤ 12 → H x < 2 ^ 62) (hX : X < 2 ^ 62) (hHB : ∀ x, H x = gts u (uD u + k) x b + B x) (t64 : ∀ x : Nat, x ≤ 12 → opB u 0 (x : Int) = true → gJ σ 64 (13 * (k + 1) + x) = lN (B x)) (tX : gJ σ 64 (13 * k + a) = lN X) {w : Int32} (hw : (if opB u 0 ((a : Int) - 1) = true ∧ H (a - 1) = X then (-1 : Int32) else if true = true ∧ H a = X then 0 else if opB u 0 ((a : Int) + 1) = true ∧ H (a + 1) = X then 1 else 2) = w) : f_X12_findMoves_20 k9 σ x1 (nI a) (nI k) fu 2 1 = k9 (sI σ 65 k w) (nI a + w) (nI (k + 1)) := by
  have z0 : (nI a + (-1)).toInt = (a : Int) - 1 := by rw [m1_add]; exact nI_s1 (by omega)
  have z1 : (nI a + 0).toInt = (a : Int) := by rw [Int32.add_zero]; exact nI_toInt (by omega)
  have z2 : (nI a + 1).toInt = (a : Int) + 1 := nI_a1 (by omega)
  have ik : inb (nI k) 12 := nI_inb hk (by decide)
  have t0 : ((a : Int) - 1).toNat = a - 1 := by omega
  have t1 : ((a : Int) + 1).toNat = a + 1 := by omega
  have ck : (nI k).toNatClampNeg = k := nI_cl (by omega)
  show f_X12_findMoves_20 k9 σ x1 (nI a) (nI k) (508 + 1 + 1 + 1 + 1) 2 1 = _
  rw [e_mv20 M V hk hD ha oa hb h63 hH hX hHB t64 tX _ (z := 1) (by decide), show (1 : Int32) + -1 = 0 from rfl, e_mv20 M V hk hD ha oa hb h63 hH hX hHB t64 tX _ (z := 0) (by decide), show (0 : Int32) + -1 = -1 from rfl, e_mv20 M V hk hD ha oa hb h63 hH hX hHB t64 tX _ (z := -1) (by decide), show (-1 : Int32) + -1 = -2 from rfl, z0, z1, z2, oa, Int.toNat_natCast, t0, t1, hw, f_X12_findMoves_20, if_pos (by decide), chk_s ik, bnd_s, ck, nI_1 k]
theorem e_mv9 (V : VG u) (he : ∀ i, e i ≤ 12) (hr : uD u + r ≤ 12) : ∀ (n k : Nat) (σ : Hp), k ≤ r → r < k + n → MG (gI σ 52) u → (∀ i, i < r → gI σ 63 i = nI (e i)) → (∀ i x : Nat, i ≤ r → x ≤ 12 → opB u 0 (x : Int) = true → gJ σ 64 (13 * i + x) = lN (bsG u e (r - i) i x)) → ∃ σ', f_X12_findMoves_9 (nI r) n σ (nI (aP u e r k)) (nI k) = some σ' ∧ onlyI (fun q => q = 65) σ σ' ∧ (∀ i, k ≤ i → i < r → gI σ' 65 i = aM u e r i) ∧ ∀ i, i < k → gI σ' 65 i = gI σ 65 i := by
  intro n
  induction n with
  | zero =>
    intro k σ h1 h2
    omega
  | succ n ih =>
    intro k σ h1 h2 M h63 t
    rw [f_X12_findMoves_9]
    by_cases hk : k = r
    · rw [if_pos (by rw [hk]; exact nI_le (Nat.le_refl _) (by omega))]
      exact ⟨σ, rfl, onlyI.rf, fun i a b => by omega, fun _ _ => rfl⟩
    · obtain ⟨i1, i2, i3, i4, i5, i6⟩ := aP_spec (e := e) V k h1
      have tX := t k (aP u e r k) h1 i2 i1
      rw [show r - k = r - k - 1 + 1 by omega, bsG_s] at tX
      have hk12 : k < 12 := by omega
      have hkD : uD u + k ≤ 100 := by omega
      have hrk : r - k - 1 ≤ 12 := by omega
      have fin : f_X12_findMoves_20 (f_X12_findMoves_9 (nI r) n) σ (nI r) (nI (aP u e r k)) (nI k) fu 2 1 = f_X12_findMoves_9 (nI r) n (sI σ 65 k (aM u e r k)) (nI (aP u e r (k + 1))) (nI (k + 1)) := by
        rw [e_mv20a (w := aM u e r k) M V hk12 hkD i2 i1 (he k) (h63 k (by omega)) (H := Kg u e (r - k - 1) k) (B := fun x => bsG u e (r - k - 1) (k + 1) x) (fun x hx => Nat.lt_trans (Kg_lt V he hrk hx) (by decide)) (Nat.lt_of_le_of_lt (mx3_le (B := 1000000000) (fun z => Nat.le_of_lt (Kg_lt V he hrk (by have := opB_lo z; omega))) (Nat.le_of_lt (Kg_lt V he hrk i2)) (fun z => Nat.le_of_lt (Kg_lt V he hrk (by have := opB_lo z; omega)))) (by decide)) (fun _ => rfl) (fun x hx ox => by rw [t (k + 1) x (by omega) hx ox, show r - (k + 1) = r - k - 1 by omega]) tX, aP_step V h1]
        unfold aM fst_mv
        by_cases c1 : opB u 0 ((aP u e r k : Int) - 1) = true ∧ Kg u e (r - k - 1) k (aP u e r k - 1) = mx3 (opB u 0 ((aP u e r k : Int) - 1)) (opB u 0 ((aP u e r k : Int) + 1)) (Kg u e (r - k - 1) k) (aP u e r k)
        · rw [if_pos c1, if_pos c1]
        · rw [if_neg c1, if_neg c1]
          by_cases c2 : Kg u e (r - k - 1) k (aP u e r k) = mx3 (opB u 0 ((aP u e r k : Int) - 1)) (opB u 0 ((aP u e r k : Int) + 1)) (Kg u e (r - k - 1) k) (aP u e r k)
          · rw [if_pos ⟨rfl, c2⟩, if_pos c2]
          · rw [if_neg (fun y => c2 y.2), if_neg c2, if_pos (fm_last c1 c2)]
      rw [if_neg (nI_ge (by omega) (by omega)), fin]
      obtain ⟨σ', e1, e2, e3, e4⟩ := ih (k + 1) (sI σ 65 k (aM u e r k)) (by omega) (by omega) (by rw [gI_n (by decide)]; exact M) (fun i hi => by rw [gI_n (by decide)]; exact h63 i hi) t
      refine ⟨σ', e1, ((onlyI.rf (S := fun q => q = 65)).st rfl).tr e2, fun i a b => ?_, fun i hi => ?_⟩
      · by_cases hi : i = k
        · rw [e4 i (by omega), gI_s, hi, upd_s]
        · exact e3 i (by omega) b
      · rw [e4 i (by omega), gI_s, upd_n (by omega)]
end
