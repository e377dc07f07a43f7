/-- the model's game leaves all ints but its move -/
def onlyM (σ σ' : Hp) : Prop := (∀ q, q ≠ 51 → gI σ' q = gI σ q) ∧ (∀ k, k ≠ 23 → gI σ' 51 k = gI σ 51 k) ∧ σ'.2.2 = σ.2.2
theorem onlyM.rf {σ : Hp} : onlyM σ σ := ⟨fun _ _ => rfl, fun _ _ => rfl, rfl⟩
theorem onlyM.tr {a b c : Hp} (h : onlyM a b) (k : onlyM b c) : onlyM a c := ⟨fun q hq => (k.1 q hq).trans (h.1 q hq), fun q hq => (k.2.1 q hq).trans (h.2.1 q hq), k.2.2.trans h.2.2⟩
theorem onlyM.mv {a b : Hp} {v : Int32} (h : onlyM a b) : onlyM a (sI b 51 23 v) := ⟨fun q hq => (gI_n hq).trans (h.1 q hq), fun k hk => by rw [gI_s, upd_n hk]; exact h.2.1 k hk, h.2.2⟩
theorem onlyM.lg {a b : Hp} {q k : Nat} {v : Int64} (h : onlyM a b) : onlyM a (sJ b q k v) := h
theorem onlyM.oJ {S : Nat → Prop} {a b : Hp} (h : onlyJ S a b) : onlyM a b := ⟨fun q _ => h.gI q, fun k _ => by rw [h.gI 51], h.2.2⟩
/-- a table of the game at all pairs of open places -/
def JT (σ : Hp) (q : Nat) (u : GD) (k d : Nat) : Prop := ∀ x y : Nat, x ≤ 12 → y ≤ 12 → opB u 0 (x : Int) = true → opB u 1 (y : Int) = true → gJ σ q (13 * x + y) = lN (Vg u k d x y)
def JG (σ : Hp) (u : GD) (d : Nat) : Prop := ∀ x y : Nat, x ≤ 12 → y ≤ 12 → gJ σ 60 (13 * x + y) = lN (gts u d x y)
/-- what the right side leaves, from a place of the left end on -/
def Hg (u : GD) (k d b x : Nat) : Nat := mn3 (opB u 1 ((b : Int) - 1)) (opB u 1 ((b : Int) + 1)) (fun y => gts u d x y + Vg u k (d + 1) x y) b
theorem Vg_s {u : GD} {k d a b : Nat} : Vg u (k + 1) d a b = mx3 (opB u 0 ((a : Int) - 1)) (opB u 0 ((a : Int) + 1)) (Hg u k d b) a := rfl
theorem gV_lt {u : GD} (V : VG u) {k d x y : Nat} (hk : k ≤ 12) (hx : x ≤ 12) (hy : y ≤ 12) : gts u d x y + Vg u k (d + 1) x y < 1000000000 := by
  have q1 := Nat.le_trans (gts_alls (u := u) (d := d) hx hy) (alls_le V)
  have q2 := Vg_le V k (d + 1) x y hx hy
  have q3 : k * 65862720 ≤ 12 * 65862720 := Nat.mul_le_mul_right _ hk
  omega
theorem Hg_lt {u : GD} (V : VG u) {k d b x : Nat} (hk : k ≤ 12) (hx : x ≤ 12) (hb : b ≤ 12) : Hg u k d b x < 1000000000 := Nat.lt_of_le_of_lt mn3_le (gV_lt V hk hx hb)
theorem e_chG {σ : Hp} {u : GD} (M : MG (gI σ 52) u) (V : VG u) {k d a b : Nat} (hk : k ≤ 12) (ha : a ≤ 12) (oa : opB u 0 (a : Int) = true) (hb : b ≤ 12) (ob : opB u 1 (b : Int) = true) (G : JG σ u d) (T : JT σ 61 u k (d + 1)) : f_X12_chooses σ (nI a) (nI b) = some (sI σ 51 23 (fst_mv (opB u 0 ((a : Int) - 1)) (opB u 0 ((a : Int) + 1)) (Hg u k d b) a), lN (Vg u (k + 1) d a b)) := by
  have r := e_chooses M V (b := b) ha oa (H := Hg u k d b) (fun x hx => Nat.lt_trans (Hg_lt V hk hx hb) (by decide)) (fun v x hx ox => e_leaves (σ := sI σ 51 23 v) (by rw [gI_n (by decide)]; exact M) V hx hb ob (F := fun y => gts u d x y + Vg u k (d + 1) x y) (fun y hy => Nat.lt_trans (gV_lt V hk hx hy) (by decide)) (fun y hy oy => by
    show gJ σ 60 (13 * x + y) + gJ σ 61 (13 * x + y) = _
    rw [G x y hx hy, T x y hx hy ox oy, lN_add]))
  rw [r, Vg_s]
theorem e_gm125 {k39 : Hp → Int32 → Option (Hp × Int64)} {x2 x3 : Int32} : ∀ (n t : Nat) (σ : Hp), t ≤ 169 → 169 < t + n → ∃ σ', f_X12_gameOf_125 k39 x2 x3 n σ (nI t) = k39 σ' (x3 + (-1)) ∧ onlyJ (fun q => q = 61) σ σ' ∧ (∀ i, t ≤ i → i < 169 → gJ σ' 61 i = gJ σ 62 i) ∧ ∀ i, i < t → gJ σ' 61 i = gJ σ 61 i := by
  intro n
  induction n with
  | zero =>
    intro t σ h1 h2
    omega
  | succ n ih =>
    intro t σ h1 h2
    rw [f_X12_gameOf_125]
    by_cases ht : t = 169
    · subst ht
      rw [if_pos (by decide)]
      exact ⟨σ, rfl, onlyJ.rf, fun i a b => by omega, fun _ _ => rfl⟩
    · have ib : inb (nI t) 169 := nI_inb (by omega) (by decide)
      rw [if_neg (show ¬ (169 : Int32) ≤ nI t from nI_ge (b := 169) (by omega) (by decide)), chk_s ib, chk_s ib, nI_cl (by omega), nI_1]
      obtain ⟨σ', e1, e2, e3, e4⟩ := ih (t + 1) (sJ σ 61 t (gJ σ 62 t)) (by omega) (by omega)
      refine ⟨σ', e1, ((onlyJ.rf (S := fun q => q = 61)).st rfl).tr e2, fun i a b => ?_, fun i hi => ?_⟩
      · by_cases hi : i = t
        · rw [e4 i (by omega), gJ_s, hi, pk_uLs]
        · rw [e3 i (by omega) b, gJ_n (by decide)]
      · rw [e4 i (by omega), gJ_s, pk_uLn (by omega)]
theorem e_gm57 {u : GD} (V : VG u) {k d : Nat} (hk : k ≤ 12) {k39 : Hp → Int32 → Option (Hp × Int64)} {x2 x3 : Int32} : ∀ (n t : Nat) (σ : Hp), t ≤ 169 → 169 < t + n → MG (gI σ 52) u → JG σ u d → JT σ 61 u k (d + 1) → (∀ x y : Nat, x ≤ 12 → y ≤ 12 → opB u 0 (x : Int) = true → opB u 1 (y : Int) = true → 13 * x + y < t → gJ σ 62 (13 * x + y) = lN (Vg u (k + 1) d x y)) → ∃ σ', f_X12_gameOf_57 k39 x2 x3 n σ (nI t) = f_X12_gameOf_125 k39 x2 x3 fu σ' 0 ∧ onlyM σ σ' ∧ JT σ' 62 u (k + 1) d := by
  intro n
  induction n with
  | zero =>
    intro t σ h1 h2
    omega
  | succ n ih =>
    intro t σ h1 h2 M G T N
    rw [f_X12_gameOf_57]
    by_cases ht : t = 169
    · subst ht
      rw [if_pos (by decide)]
      exact ⟨σ, rfl, onlyM.rf, fun x y hx hy ox oy => N x y hx hy ox oy (by omega)⟩
    · have ib : inb (nI t) 169 := nI_inb (by omega) (by decide)
      have er : nI t - nI t / 13 * 13 = nI (t % 13) := pk_rem (d := 13) (by omega) (by omega) (by decide)
      have ed : nI t / 13 = nI (t / 13) := pk_div (d := 13) (by omega) (by omega) (by decide)
      rw [if_neg (show ¬ (169 : Int32) ≤ nI t from nI_ge (b := 169) (by omega) (by decide)), er, ed, show f_X12_mayBe σ 0 (nI (t / 13)) = _ from e_may M V (r := 0) (by omega) _, bd1_s, show f_X12_mayBe σ 1 (nI (t % 13)) = _ from e_may M V (r := 1) (by omega) _, bd1_s, nI_toInt (show t / 13 < 2147483648 by omega), nI_toInt (show t % 13 < 2147483648 by omega)]
      have shut : ∀ v : Int64, ¬ (opB u 0 ((t / 13 : Nat) : Int) = true ∧ opB u 1 ((t % 13 : Nat) : Int) = true) → ∃ σ', f_X12_gameOf_57 k39 x2 x3 n (sJ σ 62 t v) (nI (t + 1)) = f_X12_gameOf_125 k39 x2 x3 fu σ' 0 ∧ onlyM σ σ' ∧ JT σ' 62 u (k + 1) d := by
        intro v hn
        obtain ⟨σ', e1, e2, e3⟩ := ih (t + 1) (sJ σ 62 t v) (by omega) (by omega) M (fun x y hx hy => by rw [gJ_n (by decide)]; exact G x y hx hy) (fun x y hx hy ox oy => by rw [gJ_n (by decide)]; exact T x y hx hy ox oy) (fun x y hx hy ox oy hlt => by
          by_cases hxy : 13 * x + y = t
          · have hx2 : t / 13 = x := by omega
            have hy2 : t % 13 = y := by omega
            rw [hx2, hy2] at hn
            exact absurd ⟨ox, oy⟩ hn
          · rw [gJ_s, pk_uLn (by omega)]
            exact N x y hx hy ox oy (by omega))
        exact ⟨σ', e1, e2, e3⟩
      cases o0 : opB u 0 ((t / 13 : Nat) : Int) with
      | false =>
        rw [if_pos (by decide), chk_s ib, nI_cl (by omega), nI_1]
        exact shut 0 (fun z => by rw [o0] at z; exact Bool.noConfusion z.1)
      | true =>
        rw [if_neg (by decide)]
        cases o1 : opB u 1 ((t % 13 : Nat) : Int) with
        | false =>
          rw [if_pos (by decide), chk_s ib, nI_cl (by omega), nI_1]
          exact shut 0 (fun z => by rw [o1] at z; exact Bool.noConfusion z.2)
        | true =>
          rw [if_neg (by decide), e_chG M V hk (show t / 13 ≤ 12 by omega) o0 (show t % 13 ≤ 12 by omega) o1 G T, bd2_s, chk_s ib, nI_cl (by omega), nI_1]
          generalize fst_mv _ _ _ _ = v
          obtain ⟨σ', e1, e2, e3⟩ := ih (t + 1) (sJ (sI σ 51 23 v) 62 t (lN (Vg u (k + 1) d (t / 13) (t % 13)))) (by omega) (by omega) (by show MG (gI (sI σ 51 23 v) 52) u; rw [gI_n (by decide)]; exact M) (fun x y hx hy => by rw [gJ_n (by decide)]; exact G x y hx hy) (fun x y hx hy ox oy => by rw [gJ_n (by decide)]; exact T x y hx hy ox oy) (fun x y hx hy ox oy hlt => by
            by_cases hxy : 13 * x + y = t
            · rw [hxy, gJ_s, pk_uLs, show t / 13 = x by omega, show t % 13 = y by omega]
            · rw [gJ_s, pk_uLn (by omega)]
              exact N x y hx hy ox oy (by omega))
          exact ⟨σ', e1, (onlyM.rf.mv.lg (q := 62) (k := t) (v := lN (Vg u (k + 1) d (t / 13) (t % 13)))).tr e2, e3⟩
/-- the left side's first move -/
def fmG (u : GD) (r : Nat) : Int32 := if r = 0 then -1000000 else fst_mv (opB u 0 ((uUp u (uD u) : Int) - 1)) (opB u 0 ((uUp u (uD u) : Int) + 1)) (Hg u (r - 1) (uD u) (uLo u (uD u))) (uUp u (uD u))
theorem e_gm39 {u : GD} (V : VG u) {r : Nat} (hr : uD u + r ≤ 12) : ∀ (n j : Nat) (σ : Hp), j < n → j ≤ r → (j = 0 → r = 0) → MG (gI σ 52) u → JT σ 61 u (r - j) (uD u + j) → ∃ σ', f_X12_gameOf_39 (nI r) n σ (nI (uD u + j) - 1) = some (σ', lN (Vg u r (uD u) (uUp u (uD u)) (uLo u (uD u)))) ∧ onlyM σ σ' ∧ gI σ' 51 23 = fmG u r := by
  obtain ⟨p1, p2⟩ := V.up
  intro n
  induction n with
  | zero =>
    intro j σ h1
    omega
  | succ n ih =>
    intro j σ h1 h2 h3 M T
    rw [f_X12_gameOf_39, M.2.2.2.1]
    by_cases hj : j ≤ 1
    · rw [if_pos (by rw [tI_le, nI_m1 (by omega), nI_toInt (by omega)]; omega)]
      by_cases h0 : r = 0
      · subst h0
        rw [if_pos (show nI 0 = 0 from rfl)]
        exact ⟨_, rfl, onlyM.rf.mv, by rw [gI_s, upd_s]; rfl⟩
      · have j1 : j = 1 := by omega
        subst j1
        have M0 : MG (gI (sI σ 51 23 (-1000000)) 52) u := by rw [gI_n (by decide)]; exact M
        obtain ⟨s1, g1, g2, g3⟩ := e_fg V M0 (d := uD u) (by omega)
        have M1 : MG (gI s1 52) u := by rw [g2.gI]; exact M0
        have T1 : JT s1 61 u (r - 1) (uD u + 1) := fun x y hx hy ox oy => by rw [g2.2.1 61 (by decide)]; exact T x y hx hy ox oy
        have ch := e_chG M1 V (k := r - 1) (d := uD u) (by omega) p1 V.open0 p2 V.open1 g3 T1
        rw [if_neg (nI_ne0 (by omega) (by omega)), gI_n (show (52 : Nat) ≠ 51 by decide), M.2.2.2.1, g1, bd1_s, M1.2.1, M1.2.2.1, ch, bd2_s, show r - 1 + 1 = r by omega]
        refine ⟨_, rfl, (onlyM.rf.mv.tr (onlyM.oJ g2)).mv, ?_⟩
        rw [gI_s, upd_s]
        unfold fmG
        rw [if_neg h0]
    · have ex : nI (uD u + j) - 1 = nI (uD u + j - 1) := by rw [show (1 : Int32) = nI 1 from rfl, pk_sub (by omega)]
      obtain ⟨s1, g1, g2, g3⟩ := e_fg V M (d := uD u + j - 1) (by omega)
      have M1 : MG (gI s1 52) u := by rw [g2.gI]; exact M
      have T1 : JT s1 61 u (r - j) (uD u + j - 1 + 1) := fun x y hx hy ox oy => by rw [g2.2.1 61 (by decide), show uD u + j - 1 + 1 = uD u + j by omega]; exact T x y hx hy ox oy
      obtain ⟨s2, a1, a2, a3⟩ := e_gm57 V (k := r - j) (d := uD u + j - 1) (by omega) (k39 := f_X12_gameOf_39 (nI r) n) (x2 := nI r) (x3 := nI (uD u + j - 1)) fu 0 s1 (by omega) (by decide) M1 g3 T1 (fun x y _ _ _ _ z => by omega)
      obtain ⟨s3, b1, b2, b3, -⟩ := e_gm125 (k39 := f_X12_gameOf_39 (nI r) n) (x2 := nI r) (x3 := nI (uD u + j - 1)) fu 0 s2 (by omega) (by decide)
      have M3 : MG (gI s3 52) u := by rw [b2.gI, a2.1 52 (by decide)]; exact M1
      obtain ⟨σ', c1, c2, c3⟩ := ih (j - 1) s3 (by omega) (by omega) (by omega) M3 (fun x y hx hy ox oy => by
        rw [b3 _ (by omega) (by omega), a3 x y hx hy ox oy, show r - (j - 1) = r - j + 1 by omega, show uD u + (j - 1) = uD u + j - 1 by omega])
      refine ⟨σ', ?_, (((onlyM.oJ g2).tr a2).tr (onlyM.oJ b2)).tr c2, c3⟩
      rw [ex, if_neg (nI_ge (by omega) (by omega)), g1, bd1_s]
      show f_X12_gameOf_57 _ _ _ fu s1 (nI 0) = _
      rw [a1]
      show f_X12_gameOf_125 _ _ _ fu s2 (nI 0) = _
      rw [b1, m1_add, ← c1, show uD u + (j - 1) = uD u + j - 1 by omega]
theorem e_gm2 {x1 : Int32} : ∀ (n t : Nat) (σ : Hp), t ≤ 169 → 169 < t + n → ∃ σ', f_X12_gameOf_2 x1 n σ (nI t) = (bd1 (f_X12_daysOf σ' x1) fun r1 => bnd (((gI σ' 52 3) + r1) - 1) fun v1 => f_X12_gameOf_39 r1 fu σ' v1) ∧ onlyJ (fun q => q = 61) σ σ' ∧ (∀ i, t ≤ i → i < 169 → gJ σ' 61 i = lN 0) ∧ ∀ i, i < t → gJ σ' 61 i = gJ σ 61 i := by
  intro n
  induction n with
  | zero =>
    intro t σ h1 h2
    omega
  | succ n ih =>
    intro t σ h1 h2
    rw [f_X12_gameOf_2]
    by_cases ht : t = 169
    · subst ht
      rw [if_pos (by decide)]
      exact ⟨σ, rfl, onlyJ.rf, fun i a b => by omega, fun _ _ => rfl⟩
    · have ib : inb (nI t) 169 := nI_inb (by omega) (by decide)
      rw [if_neg (show ¬ (169 : Int32) ≤ nI t from nI_ge (b := 169) (by omega) (by decide)), chk_s ib, nI_cl (by omega), nI_1]
      obtain ⟨σ', e1, e2, e3, e4⟩ := ih (t + 1) (sJ σ 61 t 0) (by omega) (by omega)
      refine ⟨σ', e1, ((onlyJ.rf (S := fun q => q = 61)).st rfl).tr e2, fun i a b => ?_, fun i hi => ?_⟩
      · by_cases hi : i = t
        · rw [e4 i (by omega), gJ_s, hi, pk_uLs]
          rfl
        · exact e3 i (by omega) b
      · rw [e4 i (by omega), gJ_s, pk_uLn (by omega)]
theorem e_gameM {σ : Hp} {u : GD} (V : VG u) (M : MG (gI σ 52) u) {m : Nat} (h1 : 1 ≤ m) (hm : m ≤ 12) : ∃ σ', f_X12_gameOf σ (nI m) = some (σ', lN (Vg u (dys u m) (uD u) (uUp u (uD u)) (uLo u (uD u)))) ∧ onlyM σ σ' ∧ gI σ' 51 23 = fmG u (dys u m) := by
  have hD := V.1
  have hr : uD u + dys u m ≤ 12 := by unfold dys; omega
  obtain ⟨s1, a1, a2, a3, -⟩ := e_gm2 (x1 := nI m) fu 0 σ (by omega) (by decide)
  have M1 : MG (gI s1 52) u := by rw [a2.gI]; exact M
  obtain ⟨σ', c1, c2, c3⟩ := e_gm39 V hr fu (dys u m) s1 (by show _ < 512; omega) (Nat.le_refl _) id M1 (fun x y hx hy ox oy => by rw [a3 _ (by omega) (by omega), Nat.sub_self]; rfl)
  refine ⟨σ', ?_, (onlyM.oJ a2).tr c2, c3⟩
  unfold f_X12_gameOf
  show f_X12_gameOf_2 _ fu σ (nI 0) = _
  rw [a1, e_dysM M1 V hm, bd1_s, bnd_s, M1.2.2.2.1, nI_add, c1]
