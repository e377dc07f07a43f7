/-! ===== feed ===== -/
def byC (y : Int64) (k : Nat) : Int32 := (((y.toUInt64 >>> ((8 * nI k).toInt64.toUInt64 &&& Int64.toUInt64 63)).toInt64).toInt32).toInt8.toInt32
def byM (y : Int64) (k : Nat) : Int32 := ((y >>> ((8 * nI k).toInt64 &&& 63)) &&& 255).toInt32
theorem s_8u : ∀ k, k < 8 → (((8 * nI k).toInt64.toUInt64 &&& Int64.toUInt64 63).toBitVec % 64).toNat = 8 * k := by decide +kernel
theorem s_8s : ∀ k, k < 8 → (((8 * nI k).toInt64 &&& 63).toBitVec.smod 64).toNat = 8 * k := by decide +kernel
theorem b_255J : ∀ i, i < 64 → (255 : Int64).toBitVec.getLsbD i = decide (i < 8) := by decide +kernel
theorem by_eq {k : Nat} (hk : k < 8) (y : Int64) : ∃ b : Nat, b < 256 ∧ byM y k = nI b ∧ byC y k = (nI b).toInt8.toInt32 := by
  refine ⟨(y.toBitVec.toNat / 2 ^ (8 * k)) % 256, Nat.mod_lt _ (by decide), ?_, ?_⟩
  · apply Int32.toBitVec_inj.1
    apply BitVec.eq_of_getLsbD_eq
    intro i hi
    unfold byM
    rw [Int64.toBitVec_toInt32, BitVec.getLsbD_signExtend, Int64.toBitVec_and, BitVec.getLsbD_and, b_255J i (by omega), Int64.toBitVec_shiftRight]
    show (decide (i < 32) && if i < 64 then (y.toBitVec.sshiftRight (((8 * nI k).toInt64 &&& 63).toBitVec.smod 64).toNat).getLsbD i && decide (i < 8) else _) = (BitVec.ofNat 32 (y.toBitVec.toNat / 2 ^ (8 * k) % 2 ^ 8)).getLsbD i
    rw [s_8s k hk, BitVec.getLsbD_ofNat, Nat.testBit_mod_two_pow, Nat.testBit_div_two_pow, if_pos (by omega), BitVec.getLsbD_sshiftRight]
    by_cases h8 : i < 8
    · simp only [h8, hi, decide_true, Bool.true_and, Bool.and_true, show 8 * k + i < 64 by omega, show ¬ 64 ≤ i by omega, decide_false, Bool.not_false, if_true]
      rw [BitVec.getLsbD, Nat.add_comm]
    · simp only [h8, decide_false, Bool.and_false, Bool.false_and]
  · unfold byC
    congr 1
    apply Int8.toBitVec_inj.1
    apply BitVec.eq_of_getLsbD_eq
    intro i hi
    rw [Int32.toBitVec_toInt8, BitVec.getLsbD_signExtend, Int64.toBitVec_toInt32, BitVec.getLsbD_signExtend, Int32.toBitVec_toInt8, BitVec.getLsbD_signExtend]
    show (decide (i < 8) && if i < 32 then (decide (i < 32) && if i < 64 then (y.toUInt64 >>> ((8 * nI k).toInt64.toUInt64 &&& Int64.toUInt64 63)).toBitVec.getLsbD i else _) else _) = (decide (i < 8) && if i < 32 then (BitVec.ofNat 32 (y.toBitVec.toNat / 2 ^ (8 * k) % 2 ^ 8)).getLsbD i else _)
    rw [if_pos (by omega), if_pos (by omega), if_pos (by omega), UInt64.toBitVec_shiftRight]
    show (decide (i < 8) && (decide (i < 32) && (y.toBitVec >>> (((8 * nI k).toInt64.toUInt64 &&& Int64.toUInt64 63).toBitVec % 64).toNat).getLsbD i)) = _
    rw [s_8u k hk, BitVec.getLsbD_ofNat, Nat.testBit_mod_two_pow, Nat.testBit_div_two_pow, BitVec.getLsbD_ushiftRight]
    simp only [hi, decide_true, Bool.true_and, show i < 32 by omega]
    rw [BitVec.getLsbD, Nat.add_comm]
theorem m1_add (x : Int32) : x + (-1) = x - 1 := (Int32.sub_eq_add_neg x 1).symm
theorem e_append {y : Int64} : ∀ (n c a : Nat) (σ : Hp), c ≤ 8 → c < n → a + c ≤ 400 → gI σ 13 1 = nI a → ∃ σ', f_X5_append_5 y n σ (nI c - 1) = some σ' ∧ onlyI (fun q => q = 13 ∨ q = 14) σ σ' ∧ gI σ' 13 = upd (gI σ 13) 1 (nI (a + c)) ∧ (∀ i, i < a → gI σ' 14 i = gI σ 14 i) ∧ ∀ t, t < c → gI σ' 14 (a + t) = byC y (c - 1 - t) := by
  intro n
  induction n with
  | zero =>
    intro c a σ h1 h2
    omega
  | succ n ih =>
    intro c a σ h1 h2 h3 h4
    rw [f_X5_append_5]
    cases c with
    | zero =>
      rw [if_pos (by decide)]
      refine ⟨σ, rfl, onlyI.rf, ?_, fun _ _ => rfl, fun t ht => by omega⟩
      funext k
      by_cases hk : k = 1
      · rw [hk, upd_s, h4]
        rfl
      · rw [upd_n hk]
    | succ c =>
      rw [nI_pred, if_neg (nI_pos (by omega)), h4, if_neg (show ¬ (400 : Int32) ≤ nI a from nI_ge (b := 400) (by omega) (by decide)), chk_s (nI_inb (by omega) (by decide)), bnd_s, m1_add, nI_cl (by omega), pk_vb]
      obtain ⟨σ', e1, e2, e3, e4, e5⟩ := ih c (a + 1) (sI (sI σ 14 a (byC y c)) 13 1 (nI (a + 1))) (by omega) (by omega) (by omega) (by rw [gI_s, upd_s])
      refine ⟨σ', ?_, ((onlyI.rf.st (by omega)).st (by omega)).tr e2, ?_, fun i hi => ?_, fun t ht => ?_⟩
      · rw [← e1]
        have : gI (sI σ 14 a (byC y c)) 13 1 + 1 = nI (a + 1) := by rw [gI_n (by decide), h4, nI_1]
        rw [← this]
        rfl
      · rw [e3, gI_s, gI_n (by decide), show a + 1 + c = a + (c + 1) by omega]
        funext k
        by_cases hk : k = 1
        · rw [hk, upd_s, upd_s]
        · rw [upd_n hk, upd_n hk, upd_n hk]
      · rw [e4 i (by omega), gI_n (by decide), gI_s, upd_n (by omega)]
      · cases t with
        | zero => rw [e4 _ (by omega), gI_n (by decide), gI_s, show a + 0 = a from rfl, upd_s]; rfl
        | succ t => rw [show a + (t + 1) = a + 1 + t by omega, e5 t (by omega), show c - 1 - t = c + 1 - 1 - (t + 1) by omega]
theorem e_feed33 {y : Int64} : ∀ (n c a : Nat) (σ : Hp), c ≤ 8 → c < n → a + c ≤ 400 → gI σ 51 8 = nI a → ∃ σ', f_X12_feed_33 y n σ (nI c - 1) = some (σ', nI (a + c)) ∧ onlyI (fun q => q = 51 ∨ q = 58) σ σ' ∧ gI σ' 51 = upd (gI σ 51) 8 (nI (a + c)) ∧ (∀ i, i < a → gI σ' 58 i = gI σ 58 i) ∧ ∀ t, t < c → gI σ' 58 (a + t) = byM y (c - 1 - t) := by
  intro n
  induction n with
  | zero =>
    intro c a σ h1 h2
    omega
  | succ n ih =>
    intro c a σ h1 h2 h3 h4
    rw [f_X12_feed_33]
    cases c with
    | zero =>
      rw [if_pos (by decide), h4]
      refine ⟨σ, rfl, onlyI.rf, ?_, fun _ _ => rfl, fun t ht => by omega⟩
      funext k
      by_cases hk : k = 8
      · rw [hk, upd_s, h4]
        rfl
      · rw [upd_n hk]
    | succ c =>
      rw [nI_pred, if_neg (nI_pos (by omega)), h4, chk_s (nI_inb (by omega) (by decide)), bnd_s, m1_add, nI_cl (by omega)]
      obtain ⟨σ', e1, e2, e3, e4, e5⟩ := ih c (a + 1) (sI (sI σ 58 a (byM y c)) 51 8 (nI (a + 1))) (by omega) (by omega) (by omega) (by rw [gI_s, upd_s])
      refine ⟨σ', ?_, ((onlyI.rf.st (by omega)).st (by omega)).tr e2, ?_, fun i hi => ?_, fun t ht => ?_⟩
      · rw [show a + (c + 1) = a + 1 + c by omega, ← e1]
        have : gI (sI σ 58 a (byM y c)) 51 8 + 1 = nI (a + 1) := by rw [gI_n (by decide), h4, nI_1]
        rw [← this]
        rfl
      · rw [e3, gI_s, gI_n (by decide), show a + 1 + c = a + (c + 1) by omega]
        funext k
        by_cases hk : k = 8
        · rw [hk, upd_s, upd_s]
        · rw [upd_n hk, upd_n hk, upd_n hk]
      · rw [e4 i (by omega), gI_n (by decide), gI_s, upd_n (by omega)]
      · cases t with
        | zero => rw [e4 _ (by omega), gI_n (by decide), gI_s, show a + 0 = a from rfl, upd_s]; rfl
        | succ t => rw [show a + (t + 1) = a + 1 + t by omega, e5 t (by omega), show c - 1 - t = c + 1 - 1 - (t + 1) by omega]
/-- all but the tape stays -/
theorem rel_tape {σ σ2 : Hp} (h : Rel σ) (o : onlyI (fun q => q = 13 ∨ q = 14 ∨ q = 51 ∨ q = 58) σ σ2) (e1 : ∀ k, k ≠ 1 → gI σ2 13 k = gI σ 13 k) (e2 : ∀ k, k ≠ 8 → gI σ2 51 k = gI σ 51 k) (hr : RTape σ2) : Rel σ2 := by
  obtain ⟨b1, b2, b3, b4, b5, b6⟩ := h
  have k := keepG.of o (by omega)
  refine ⟨b1.of o.2, b2.of (fun q hq => o.1 q (by omega)), hr, b4.of (by rw [o.1 0 (by omega)]) (e2 6 (by omega)) (e1 6 (by omega)) (e2 15 (by omega)) (by rw [o.1 25 (by omega)]) (e2 25 (by omega)) (o.1 26 (by omega)) (o.1 66 (by omega)), k.land b5, k.img b6⟩
theorem op_feed {σ : Hp} (h : Rel σ) (y : Int64) (x3 : Int32) : Sim (f_X11_feed σ y x3) (fun s => f_X12_feed s y x3) := by
  by_cases h1 : x3 < 1
  · refine sim_bad h ?_ ?_
    · unfold f_X11_feed
      rw [if_pos h1]
    · show f_X12_feed _ _ _ = _
      unfold f_X12_feed
      rw [e_in0 (a := 1) (b := 8) (Or.inl (tI_lt.mp h1)), bd1_s, if_pos rfl]
  · by_cases h2 : x3 ≤ 8
    · obtain ⟨c, hc, rfl⟩ := inb_nI (x := x3) (n := 9) ⟨by rw [tI_lt] at h1; have h1 : ¬ x3.toInt < 1 := h1; omega, by rw [tI_le] at h2; have h2 : x3.toInt ≤ 8 := h2; omega⟩ (by decide)
      have hin : ∀ s : Hp, f_X12_in s (nI c) 1 8 = some 1 := fun s => e_in1 (a := 1) (b := 8) (by rw [tI_lt] at h1; omega) (tI_le.mp h2)
      obtain ⟨a, ha, t1, t2, t3⟩ := h.2.2.1
      by_cases h3 : a + c ≤ 400
      · obtain ⟨σ1, c1, c2, c3, c4, c5⟩ := e_append (y := y) fu c a σ (by omega) (by show c < 512; omega) h3 t1
        obtain ⟨σ2, m1, m2, m3, m4, m5⟩ := e_feed33 (y := y) fu c a σ1 (by omega) (by show c < 512; omega) h3 (by rw [c2.1 51 (by omega)]; exact t2)
        refine ⟨σ1, nI (a + c), σ2, ?_, ?_, rel_tape h ((c2.mono (by omega)).tr (m2.mono (by omega))) ?_ ?_ ⟨a + c, h3, ?_, ?_, fun i hi => ?_⟩⟩
        · unfold f_X11_feed f_X5_append
          rw [if_neg h1, if_pos h2, t1, nI_add, if_pos (show nI (a + c) ≤ 400 from nI_le (b := 400) h3 (by decide)), bnd_s, c1, bd1_s, c3, upd_s]
        · show f_X12_feed _ _ _ = _
          unfold f_X12_feed
          rw [hin, bd1_s, if_neg n10, c2.1 51 (by omega), t2, nI_add, if_pos (show nI (a + c) ≤ 400 from nI_le (b := 400) h3 (by decide)), bnd_s, m1]
        · intro k hk
          rw [m2.1 13 (by omega), c3, upd_n hk]
        · intro k hk
          rw [m3, upd_n hk, c2.1 51 (by omega)]
        · rw [m2.1 13 (by omega), c3, upd_s]
        · rw [m3, upd_s]
        · rw [m2.1 14 (by omega)]
          by_cases hia : i < a
          · rw [m4 i hia, c4 i hia, c2.1 58 (by omega)]
            exact t3 i hia
          · obtain ⟨b, b1, b2, b3⟩ := by_eq (k := c - 1 - (i - a)) (by omega) y
            have e5 := m5 (i - a) (by omega)
            have e6 := c5 (i - a) (by omega)
            rw [show a + (i - a) = i by omega] at e5 e6
            exact ⟨b, b1, by rw [e5, b2], by rw [e6, b3]⟩
      · have hh : ¬ nI (a + c) ≤ 400 := show ¬ nI (a + c) ≤ nI 400 from nI_ge (by omega) (by omega)
        refine ⟨σ, -1000003, σ, ?_, ?_, h⟩
        · unfold f_X11_feed
          rw [if_neg h1, if_pos h2, t1, nI_add, if_neg hh]
        · show f_X12_feed _ _ _ = _
          unfold f_X12_feed
          rw [hin, bd1_s, if_neg n10, t2, nI_add, if_neg hh]
    · refine sim_bad h ?_ ?_
      · unfold f_X11_feed
        rw [if_neg h1, if_neg h2]
      · show f_X12_feed _ _ _ = _
        unfold f_X12_feed
        rw [e_in0 (a := 1) (b := 8) (Or.inr (by rw [tI_le] at h2; omega)), bd1_s, if_pos rfl]
/-! ===== calls that only look ===== -/
def Same (c m : Option Int32) : Prop := ∃ r, c = some r ∧ m = some r
theorem op_fault {σ : Hp} (h : Rel σ) : Same (f_X11_fault σ) (f_X12_fault σ) := ⟨_, rfl, by show some (gI σ 51 15) = _; rw [h.2.2.2.1.2.1]⟩
theorem op_status {σ : Hp} (h : Rel σ) : Same (f_X11_status σ) (f_X12_status σ) := ⟨_, rfl, by show some (gI σ 51 6) = _; rw [h.2.2.2.1.1]⟩
theorem op_trace {σ : Hp} (h : Rel σ) (x1 : Int32) : Same (f_X11_trace σ x1) (f_X12_trace σ x1) := by
  obtain ⟨n, hn, t1, t2, t3⟩ := h.2.2.2.1.2.2
  have es : (nI n - 1).toInt = (n : Int) - 1 := by
    rw [tI_sub (by rw [nI_toInt (by omega)]; show _ ≤ (n : Int) - 1; omega) (by rw [nI_toInt (by omega)]; show (n : Int) - 1 < _; omega), nI_toInt (by omega)]
    rfl
  unfold f_X11_trace f_X12_trace f_X10_numberAt
  rw [t1, t2]
  by_cases hx : inb x1 n
  · obtain ⟨k, hk, rfl⟩ := inb_nI hx (by omega)
    refine ⟨gI σ 26 k, ?_, ?_⟩
    · rw [if_neg (nI_pos (by omega)), if_neg (nI_ge hk (by omega)), if_neg (show ¬ (16 : Int32) ≤ nI k from nI_ge (b := 16) (by omega) (by decide)), chk_s (nI_inb (by omega) (by decide)), nI_cl (by omega)]
      rfl
    · rw [e_in1 (a := 0) (by rw [nI_toInt (by omega)]; show (0 : Int) ≤ k; omega) (by rw [es, nI_toInt (by omega)]; omega), bd1_s, if_neg n10, chk_s (nI_inb (by omega) (by decide)), nI_cl (by omega), t3 k hk]
  · refine ⟨-1000000, ?_, ?_⟩
    · by_cases h1 : x1 < 0
      · rw [if_pos h1]
        rfl
      · rw [if_neg h1, if_pos (by rw [tI_le, nI_toInt (by omega)]; rw [tI_lt] at h1; have h1 : ¬ x1.toInt < 0 := h1; unfold inb at hx; omega)]
        rfl
    · rw [e_in0 (a := 0) (by rw [es]; show x1.toInt < 0 ∨ _; unfold inb at hx; omega), bd1_s, if_pos rfl]
