/-! ===== the law ===== -/
set_option maxHeartbeats 4000000 in
theorem law_step {xs : Nat → Int32} {L n : Nat} {σ : Hp} {x3 : Int32} (h : Rel σ) (hx : ¬ (Int32.ofNat L - 7) < x3) (k0 : inb x3 L) (k1 : inb (x3 + 1) L) (k2 : inb (x3 + 2) L) (k3 : inb (x3 + 3) L) (k4 : inb (x3 + 4) L) (k5 : inb (x3 + 5) L) (k6 : inb (x3 + 6) L) (nx : ∀ s, Rel s → f_law xs L n s (x3 + 7) = some ()) : f_law xs L (n + 1) σ x3 = some () := by
  rw [f_law, if_neg hx, chk_s k0]
  by_cases c0 : ((xs x3.toNatClampNeg) &&& 31) = 0
  · obtain ⟨s1, r, s2, a, b, h2⟩ := op_row h (xs (x3 + 1).toNatClampNeg) (xs (x3 + 2).toNatClampNeg) (xs (x3 + 3).toNatClampNeg)
    have b : f_X12_row s1 (xs (x3 + 1).toNatClampNeg) (xs (x3 + 2).toNatClampNeg) (xs (x3 + 3).toNatClampNeg) = some (s2, r) := b
    rw [if_pos c0, chk_s k1, chk_s k2, chk_s k3, a, bd2_s, chk_s k1, chk_s k2, chk_s k3, b, bd2_s, if_pos rfl]
    exact nx s2 h2
  rw [if_neg c0]
  by_cases c1 : ((xs x3.toNatClampNeg) &&& 31) = 1
  · obtain ⟨s1, r, s2, a, b, h2⟩ := op_set h (xs (x3 + 1).toNatClampNeg) (xs (x3 + 2).toNatClampNeg) (xs (x3 + 3).toNatClampNeg)
    have b : f_X12_set s1 (xs (x3 + 1).toNatClampNeg) (xs (x3 + 2).toNatClampNeg) (xs (x3 + 3).toNatClampNeg) = some (s2, r) := b
    rw [if_pos c1, chk_s k1, chk_s k2, chk_s k3, a, bd2_s, chk_s k1, chk_s k2, chk_s k3, b, bd2_s, if_pos rfl]
    exact nx s2 h2
  rw [if_neg c1]
  by_cases c2 : ((xs x3.toNatClampNeg) &&& 31) = 2
  · obtain ⟨s1, r, s2, a, b, h2⟩ := op_copy h (xs (x3 + 1).toNatClampNeg) (xs (x3 + 2).toNatClampNeg) (xs (x3 + 3).toNatClampNeg) (xs (x3 + 4).toNatClampNeg) (xs (x3 + 5).toNatClampNeg)
    have b : f_X12_copy s1 (xs (x3 + 1).toNatClampNeg) (xs (x3 + 2).toNatClampNeg) (xs (x3 + 3).toNatClampNeg) (xs (x3 + 4).toNatClampNeg) (xs (x3 + 5).toNatClampNeg) = some (s2, r) := b
    rw [if_pos c2, chk_s k1, chk_s k2, chk_s k3, chk_s k4, chk_s k5, a, bd2_s, chk_s k1, chk_s k2, chk_s k3, chk_s k4, chk_s k5, b, bd2_s, if_pos rfl]
    exact nx s2 h2
  rw [if_neg c2]
  by_cases c3 : ((xs x3.toNatClampNeg) &&& 31) = 3
  · obtain ⟨s1, r, s2, a, b, h2⟩ := op_drop h (xs (x3 + 1).toNatClampNeg)
    have b : f_X12_drop s1 (xs (x3 + 1).toNatClampNeg) = some (s2, r) := b
    rw [if_pos c3, chk_s k1, a, bd2_s, chk_s k1, b, bd2_s, if_pos rfl]
    exact nx s2 h2
  rw [if_neg c3]
  by_cases c4 : ((xs x3.toNatClampNeg) &&& 31) = 4
  · obtain ⟨s1, r, s2, a, b, h2⟩ := op_feed h ((((xs (x3 + 1).toNatClampNeg).toInt64) <<< ((32 : Int32).toInt64 &&& 63)) ||| (((xs (x3 + 2).toNatClampNeg).toInt64) &&& 4294967295)) (xs (x3 + 3).toNatClampNeg)
    have b : f_X12_feed s1 ((((xs (x3 + 1).toNatClampNeg).toInt64) <<< ((32 : Int32).toInt64 &&& 63)) ||| (((xs (x3 + 2).toNatClampNeg).toInt64) &&& 4294967295)) (xs (x3 + 3).toNatClampNeg) = some (s2, r) := b
    rw [if_pos c4, chk_s k1, chk_s k2, chk_s k3, a, bd2_s, chk_s k1, chk_s k2, chk_s k3, b, bd2_s, if_pos rfl]
    exact nx s2 h2
  rw [if_neg c4]
  by_cases c5 : ((xs x3.toNatClampNeg) &&& 31) = 5
  · obtain ⟨s1, r, s2, a, b, h2⟩ := op_ground h
    have b : f_X12_ground s1 = some (s2, r) := b
    rw [if_pos c5, a, bd2_s, b, bd2_s, if_pos rfl]
    exact nx s2 h2
  rw [if_neg c5]
  by_cases c6 : ((xs x3.toNatClampNeg) &&& 31) = 6
  · obtain ⟨r, a, b⟩ := op_fault h
    rw [if_pos c6, a, bd1_s, b, bd1_s, if_pos rfl]
    exact nx σ h
  rw [if_neg c6]
  by_cases c7 : ((xs x3.toNatClampNeg) &&& 31) = 7
  · obtain ⟨s1, r, s2, a, b, h2⟩ := op_day h (xs (x3 + 1).toNatClampNeg) (xs (x3 + 2).toNatClampNeg)
    have b : f_X12_day s1 (xs (x3 + 1).toNatClampNeg) (xs (x3 + 2).toNatClampNeg) = some (s2, r) := b
    rw [if_pos c7, chk_s k1, chk_s k2, a, bd2_s, chk_s k1, chk_s k2, b, bd2_s, if_pos rfl]
    exact nx s2 h2
  rw [if_neg c7]
  by_cases c8 : ((xs x3.toNatClampNeg) &&& 31) = 8
  · obtain ⟨s1, r, s2, a, b, h2⟩ := op_undo h
    have b : f_X12_undo s1 = some (s2, r) := b
    rw [if_pos c8, a, bd2_s, b, bd2_s, if_pos rfl]
    exact nx s2 h2
  rw [if_neg c8]
  by_cases c9 : ((xs x3.toNatClampNeg) &&& 31) = 9
  · obtain ⟨r, a, b⟩ := op_strip h (xs (x3 + 1).toNatClampNeg) (xs (x3 + 2).toNatClampNeg)
    rw [if_pos c9, chk_s k1, chk_s k2, a, bd1_s, chk_s k1, chk_s k2, b, bd1_s, if_pos rfl]
    exact nx σ h
  rw [if_neg c9]
  by_cases c10 : ((xs x3.toNatClampNeg) &&& 31) = 10
  · obtain ⟨r, a, b⟩ := op_crop h (xs (x3 + 1).toNatClampNeg) (xs (x3 + 2).toNatClampNeg)
    rw [if_pos c10, chk_s k1, chk_s k2, a, bd1_s, chk_s k1, chk_s k2, b, bd1_s, if_pos rfl]
    exact nx σ h
  rw [if_neg c10]
  by_cases c11 : ((xs x3.toNatClampNeg) &&& 31) = 11
  · obtain ⟨r, a, b⟩ := op_reaped h (xs (x3 + 1).toNatClampNeg) (xs (x3 + 2).toNatClampNeg)
    rw [if_pos c11, chk_s k1, chk_s k2, a, bd1_s, chk_s k1, chk_s k2, b, bd1_s, if_pos rfl]
    exact nx σ h
  rw [if_neg c11]
  by_cases c12 : ((xs x3.toNatClampNeg) &&& 31) = 12
  · obtain ⟨s1, r, s2, a, b, h2⟩ := op_best h (xs (x3 + 1).toNatClampNeg) (xs (x3 + 2).toNatClampNeg) (xs (x3 + 3).toNatClampNeg)
    have b : f_X12_best s1 (xs (x3 + 1).toNatClampNeg) (xs (x3 + 2).toNatClampNeg) (xs (x3 + 3).toNatClampNeg) = some (s2, r) := b
    rw [if_pos c12, chk_s k1, chk_s k2, chk_s k3, a, bd2_s, chk_s k1, chk_s k2, chk_s k3, b, bd2_s, if_pos rfl]
    exact nx s2 h2
  rw [if_neg c12]
  by_cases c13 : ((xs x3.toNatClampNeg) &&& 31) = 13
  · obtain ⟨s1, r, s2, a, b, h2⟩ := op_game h (xs (x3 + 1).toNatClampNeg) (xs (x3 + 2).toNatClampNeg)
    have b : f_X12_game s1 (xs (x3 + 1).toNatClampNeg) (xs (x3 + 2).toNatClampNeg) = some (s2, r) := b
    rw [if_pos c13, chk_s k1, chk_s k2, a, bd2_s, chk_s k1, chk_s k2, b, bd2_s, if_pos rfl]
    exact nx s2 h2
  rw [if_neg c13]
  by_cases c14 : ((xs x3.toNatClampNeg) &&& 31) = 14
  · obtain ⟨s1, r, s2, a, b, h2⟩ := op_treaty h (xs (x3 + 1).toNatClampNeg) (xs (x3 + 2).toNatClampNeg)
    have b : f_X12_treaty s1 (xs (x3 + 1).toNatClampNeg) (xs (x3 + 2).toNatClampNeg) = some (s2, r) := b
    rw [if_pos c14, chk_s k1, chk_s k2, a, bd2_s, chk_s k1, chk_s k2, b, bd2_s, if_pos rfl]
    exact nx s2 h2
  rw [if_neg c14]
  by_cases c15 : ((xs x3.toNatClampNeg) &&& 31) = 15
  · obtain ⟨s1, r, s2, a, b, h2⟩ := op_sow h (xs (x3 + 1).toNatClampNeg) (xs (x3 + 2).toNatClampNeg) (xs (x3 + 3).toNatClampNeg) (xs (x3 + 4).toNatClampNeg) (xs (x3 + 5).toNatClampNeg) (xs (x3 + 6).toNatClampNeg)
    have b : f_X12_sow s1 (xs (x3 + 1).toNatClampNeg) (xs (x3 + 2).toNatClampNeg) (xs (x3 + 3).toNatClampNeg) (xs (x3 + 4).toNatClampNeg) (xs (x3 + 5).toNatClampNeg) (xs (x3 + 6).toNatClampNeg) = some (s2, r) := b
    rw [if_pos c15, chk_s k1, chk_s k2, chk_s k3, chk_s k4, chk_s k5, chk_s k6, a, bd2_s, chk_s k1, chk_s k2, chk_s k3, chk_s k4, chk_s k5, chk_s k6, b, bd2_s, if_pos rfl]
    exact nx s2 h2
  rw [if_neg c15]
  by_cases c16 : ((xs x3.toNatClampNeg) &&& 31) = 16
  · obtain ⟨s1, r, a, b, h2⟩ := op_unseen h (xs (x3 + 1).toNatClampNeg) (xs (x3 + 2).toNatClampNeg) (xs (x3 + 3).toNatClampNeg)
    rw [if_pos c16, chk_s k1, chk_s k2, chk_s k3, a, bd2_s, chk_s k1, chk_s k2, chk_s k3, b, bd1_s, if_pos rfl]
    exact nx s1 h2
  rw [if_neg c16]
  by_cases c17 : ((xs x3.toNatClampNeg) &&& 31) = 17
  · obtain ⟨r, a, b⟩ := op_sure h (xs (x3 + 1).toNatClampNeg)
    rw [if_pos c17, chk_s k1, a, bd1_s, chk_s k1, b, bd1_s, if_pos rfl]
    exact nx σ h
  rw [if_neg c17]
  by_cases c18 : ((xs x3.toNatClampNeg) &&& 31) = 18
  · obtain ⟨s1, r, s2, a, b, h2⟩ := op_image h (xs (x3 + 1).toNatClampNeg)
    have b : f_X12_image s1 (xs (x3 + 1).toNatClampNeg) = some (s2, r) := b
    rw [if_pos c18, chk_s k1, a, bd2_s, chk_s k1, b, bd2_s, if_pos rfl]
    exact nx s2 h2
  rw [if_neg c18]
  by_cases c19 : ((xs x3.toNatClampNeg) &&& 31) = 19
  · obtain ⟨s1, r, s2, a, b, h2⟩ := op_restore h (xs (x3 + 1).toNatClampNeg)
    have b : f_X12_restore s1 (xs (x3 + 1).toNatClampNeg) = some (s2, r) := b
    rw [if_pos c19, chk_s k1, a, bd2_s, chk_s k1, b, bd2_s, if_pos rfl]
    exact nx s2 h2
  rw [if_neg c19]
  by_cases c20 : ((xs x3.toNatClampNeg) &&& 31) = 20
  · obtain ⟨r, a, b⟩ := op_kind h (xs (x3 + 1).toNatClampNeg)
    rw [if_pos c20, chk_s k1, a, bd1_s, chk_s k1, b, bd1_s, if_pos rfl]
    exact nx σ h
  rw [if_neg c20]
  by_cases c21 : ((xs x3.toNatClampNeg) &&& 31) = 21
  · obtain ⟨s1, r, s2, a, b, h2⟩ := op_as h (xs (x3 + 1).toNatClampNeg) (xs (x3 + 2).toNatClampNeg)
    have b : f_X12_as s1 (xs (x3 + 1).toNatClampNeg) (xs (x3 + 2).toNatClampNeg) = some (s2, r) := b
    rw [if_pos c21, chk_s k1, chk_s k2, a, bd2_s, chk_s k1, chk_s k2, b, bd2_s, if_pos rfl]
    exact nx s2 h2
  rw [if_neg c21]
  by_cases c22 : ((xs x3.toNatClampNeg) &&& 31) = 22
  · obtain ⟨s1, r, s2, a, b, h2⟩ := op_ask h (xs (x3 + 1).toNatClampNeg) (xs (x3 + 2).toNatClampNeg)
    have b : f_X12_ask s1 (xs (x3 + 1).toNatClampNeg) (xs (x3 + 2).toNatClampNeg) = some (s2, r) := b
    rw [if_pos c22, chk_s k1, chk_s k2, a, bd2_s, chk_s k1, chk_s k2, b, bd2_s, if_pos rfl]
    exact nx s2 h2
  rw [if_neg c22]
  by_cases c23 : ((xs x3.toNatClampNeg) &&& 31) = 23
  · obtain ⟨r, a, b⟩ := op_trace h (xs (x3 + 1).toNatClampNeg)
    rw [if_pos c23, chk_s k1, a, bd1_s, chk_s k1, b, bd1_s, if_pos rfl]
    exact nx σ h
  rw [if_neg c23]
  by_cases c24 : ((xs x3.toNatClampNeg) &&& 31) = 24
  · obtain ⟨r, a, b⟩ := op_count h (xs (x3 + 1).toNatClampNeg)
    rw [if_pos c24, chk_s k1, a, bd1_s, chk_s k1, b, bd1_s, if_pos rfl]
    exact nx σ h
  rw [if_neg c24]
  by_cases c25 : ((xs x3.toNatClampNeg) &&& 31) = 25
  · obtain ⟨r, a, b⟩ := op_status h
    rw [if_pos c25, a, bd1_s, b, bd1_s, if_pos rfl]
    exact nx σ h
  rw [if_neg c25]
  exact nx σ h
theorem pure_law {xs : Nat → Int32} {L : Nat} (hL : L ≤ 3584) : ∀ (n i : Nat) (σ : Hp), Rel σ → 7 * i ≤ L → L < 7 * (i + n) → f_law xs L n σ (nI (7 * i)) = some () := by
  intro n
  induction n with
  | zero =>
    intro i σ _ h1 h2
    omega
  | succ n ih =>
    intro i σ h h1 h2
    have eL : (Int32.ofNat L - 7).toInt = (L : Int) - 7 := pk_sub_toInt (a := L) (b := 7) (by omega) (by decide)
    by_cases hx : (Int32.ofNat L - 7) < nI (7 * i)
    · rw [f_law, if_pos hx]
    · have hx' : 7 * (i + 1) ≤ L := by
        rw [tI_lt, eL, nI_toInt (by omega)] at hx
        omega
      have e : ∀ k, k ≤ 7 → nI (7 * i) + nI k = nI (7 * i + k) := fun k _ => nI_add _ _
      have kk : ∀ k, k ≤ 6 → inb (nI (7 * i) + nI k) L := fun k hk => by
        rw [nI_add]
        exact nI_inb (by omega) (by omega)
      refine law_step h hx (nI_inb (by omega) (by omega)) (kk 1 (by omega)) (kk 2 (by omega)) (kk 3 (by omega)) (kk 4 (by omega)) (kk 5 (by omega)) (kk 6 (by omega)) (fun s hs => ?_)
      have q := ih (i + 1) s hs hx' (by omega)
      rw [show (7 : Int32) = nI 7 from rfl, nI_add, show 7 * i + 7 = 7 * (i + 1) by omega]
      exact q
theorem whole_start {p : Program} {e : Env} {s : State} {m : MethodId} {below : List Frame} {meth : Method} {c : Code} (l : Launch) (hflags : l.flags = flags0) {b L : Nat} {xs : Nat → Int32} (hL : L ≤ 3584) (C0 : lw_At p s m meth c b L xs) : W p l e room_1 s m #[Value.ref b] below meth c s.heap [] 0 0 (lw_Z below #[Value.ref b] s) (entryFrame m ([Value.ref b] : List Value).toArray 4) :=
  start_open l (pure_law hL 513 0 σ00 Rel00 (by omega) (by omega)) C0
