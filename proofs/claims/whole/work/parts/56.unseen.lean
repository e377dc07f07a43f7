theorem dn1 {p : Int → Bool} {a : Nat} : dn p 1 a = if p ((a : Int) - 1) then a - 1 else a := rfl
theorem ups1 {p : Int → Bool} {a : Nat} : ups p 1 a = if p ((a : Int) + 1) then a + 1 else a := rfl
def gy (u : GD) (X Y x dx : Nat) (s : US) : US :=
  let b := uLo u (uD u)
  let s1 := if opB u 1 ((b : Int) - 1) then gss u X Y s x (b - 1) (3 * dx + 0) else s
  let s2 := gss u X Y s1 x b (3 * dx + 1)
  if opB u 1 ((b : Int) + 1) then gss u X Y s2 x (b + 1) (3 * dx + 2) else s2
def gx (u : GD) (X Y : Nat) (s : US) : US :=
  let a := uUp u (uD u)
  let s1 := if opB u 0 ((a : Int) - 1) then gy u X Y (a - 1) 0 s else s
  let s2 := gy u X Y a 1 s1
  if opB u 0 ((a : Int) + 1) then gy u X Y (a + 1) 2 s2 else s2
theorem e_fy {u : GD} {X Y x dx : Nat} (h : x + 1 = uUp u (uD u) + dx) (s : US) : fy u X Y x (ups (opB u 1) 1 (uLo u (uD u)) + 1 - dn (opB u 1) 1 (uLo u (uD u))) (dn (opB u 1) 1 (uLo u (uD u))) s = gy u X Y x dx s := by
  have e : x + 1 - uUp u (uD u) = dx := by omega
  rw [dn1, ups1]
  unfold gy
  cases h1 : opB u 1 ((uLo u (uD u) : Int) - 1) with
  | true =>
    have q := (opB_lo h1).1
    have hb : uLo u (uD u) - 1 + 1 = uLo u (uD u) := by omega
    cases h2 : opB u 1 ((uLo u (uD u) : Int) + 1) with
    | true =>
      simp only [if_true]
      rw [show uLo u (uD u) + 1 + 1 - (uLo u (uD u) - 1) = 3 by omega]
      simp only [fy, e, hb]
      rw [show uLo u (uD u) - uLo u (uD u) = 0 by omega, show uLo u (uD u) + 1 - uLo u (uD u) = 1 by omega, show uLo u (uD u) + 1 + 1 - uLo u (uD u) = 2 by omega]
      simp only [h1, h2, if_true, Bool.false_eq_true, if_false]
    | false =>
      simp only [if_true, Bool.false_eq_true, if_false]
      rw [show uLo u (uD u) + 1 - (uLo u (uD u) - 1) = 2 by omega]
      simp only [fy, e, hb]
      rw [show uLo u (uD u) - uLo u (uD u) = 0 by omega, show uLo u (uD u) + 1 - uLo u (uD u) = 1 by omega]
      simp only [h1, h2, if_true, Bool.false_eq_true, if_false]
  | false =>
    cases h2 : opB u 1 ((uLo u (uD u) : Int) + 1) with
    | true =>
      simp only [if_true, Bool.false_eq_true, if_false]
      rw [show uLo u (uD u) + 1 + 1 - uLo u (uD u) = 2 by omega]
      simp only [fy, e]
      rw [show uLo u (uD u) + 1 - uLo u (uD u) = 1 by omega, show uLo u (uD u) + 1 + 1 - uLo u (uD u) = 2 by omega]
      simp only [h1, h2, if_true, Bool.false_eq_true, if_false]
    | false =>
      simp only [Bool.false_eq_true, if_false]
      rw [show uLo u (uD u) + 1 - uLo u (uD u) = 1 by omega]
      simp only [fy, e]
      rw [show uLo u (uD u) + 1 - uLo u (uD u) = 1 by omega]
      simp only [h1, h2, if_true, Bool.false_eq_true, if_false]
theorem e_fx {u : GD} {X Y : Nat} (s : US) : fx u X Y (dn (opB u 1) 1 (uLo u (uD u))) (ups (opB u 1) 1 (uLo u (uD u)) + 1 - dn (opB u 1) 1 (uLo u (uD u))) (ups (opB u 0) 1 (uUp u (uD u)) + 1 - dn (opB u 0) 1 (uUp u (uD u))) (dn (opB u 0) 1 (uUp u (uD u))) s = gx u X Y s := by
  rw [dn1 (p := opB u 0), ups1 (p := opB u 0)]
  unfold gx
  cases h1 : opB u 0 ((uUp u (uD u) : Int) - 1) with
  | true =>
    have q := (opB_lo h1).1
    have hb : uUp u (uD u) - 1 + 1 = uUp u (uD u) := by omega
    cases h2 : opB u 0 ((uUp u (uD u) : Int) + 1) with
    | true =>
      simp only [if_true]
      rw [show uUp u (uD u) + 1 + 1 - (uUp u (uD u) - 1) = 3 by omega]
      simp only [fx, hb]
      rw [e_fy (x := uUp u (uD u) - 1) (dx := 0) (by omega), e_fy (x := uUp u (uD u)) (dx := 1) (by omega), e_fy (x := uUp u (uD u) + 1) (dx := 2) (by omega)]
      simp only [h1, h2, if_true, Bool.false_eq_true, if_false]
    | false =>
      simp only [if_true, Bool.false_eq_true, if_false]
      rw [show uUp u (uD u) + 1 - (uUp u (uD u) - 1) = 2 by omega]
      simp only [fx, hb]
      rw [e_fy (x := uUp u (uD u) - 1) (dx := 0) (by omega), e_fy (x := uUp u (uD u)) (dx := 1) (by omega)]
      simp only [h1, h2, if_true, Bool.false_eq_true, if_false]
  | false =>
    cases h2 : opB u 0 ((uUp u (uD u) : Int) + 1) with
    | true =>
      simp only [if_true, Bool.false_eq_true, if_false]
      rw [show uUp u (uD u) + 1 + 1 - uUp u (uD u) = 2 by omega]
      simp only [fx]
      rw [e_fy (x := uUp u (uD u)) (dx := 1) (by omega), e_fy (x := uUp u (uD u) + 1) (dx := 2) (by omega)]
      simp only [h1, h2, if_true, Bool.false_eq_true, if_false]
    | false =>
      simp only [Bool.false_eq_true, if_false]
      rw [show uUp u (uD u) + 1 - uUp u (uD u) = 1 by omega]
      simp only [fx]
      rw [e_fy (x := uUp u (uD u)) (dx := 1) (by omega)]
      simp only [h1, h2, if_true, Bool.false_eq_true, if_false]
theorem stp_of {u : GD} {X Y : Nat} (t : Nat) (zx zy : Int) (nx ny : Nat) (s : US) (h1 : (uUp u (uD u) : Int) + (t / 3 : Nat) - 1 = zx) (h2 : (uLo u (uD u) : Int) + (t % 3 : Nat) - 1 = zy) (h3 : uUp u (uD u) + t / 3 - 1 = nx) (h4 : uLo u (uD u) + t % 3 - 1 = ny) : stp u X Y t s = if opB u 0 zx = true ∧ opB u 1 zy = true then gss u X Y s nx ny t else s := by
  unfold stp
  rw [h1, h2, h3, h4]
theorem stp9_gx {u : GD} (V : VG u) {X Y : Nat} (s : US) : stp9 u X Y s = gx u X Y s := by
  obtain ⟨p1, p2⟩ := V.up
  obtain ⟨w1, w2⟩ := V.2.2.2.1 (uD u) (Nat.le_refl _)
  have o0 : opB u 0 (uUp u (uD u) : Int) = true := (opB_N p1).mpr w1
  have o1 : opB u 1 (uLo u (uD u) : Int) = true := (opB_N p2).mpr w2
  unfold stp9 gx gy
  rw [stp_of 0 ((uUp u (uD u) : Int) - 1) ((uLo u (uD u) : Int) - 1) (uUp u (uD u) - 1) (uLo u (uD u) - 1) s (by omega) (by omega) (by omega) (by omega)]
  rw [stp_of 1 ((uUp u (uD u) : Int) - 1) (uLo u (uD u) : Int) (uUp u (uD u) - 1) (uLo u (uD u)) _ (by omega) (by omega) (by omega) (by omega)]
  rw [stp_of 2 ((uUp u (uD u) : Int) - 1) ((uLo u (uD u) : Int) + 1) (uUp u (uD u) - 1) (uLo u (uD u) + 1) _ (by omega) (by omega) (by omega) (by omega)]
  rw [stp_of 3 (uUp u (uD u) : Int) ((uLo u (uD u) : Int) - 1) (uUp u (uD u)) (uLo u (uD u) - 1) _ (by omega) (by omega) (by omega) (by omega)]
  rw [stp_of 4 (uUp u (uD u) : Int) (uLo u (uD u) : Int) (uUp u (uD u)) (uLo u (uD u)) _ (by omega) (by omega) (by omega) (by omega)]
  rw [stp_of 5 (uUp u (uD u) : Int) ((uLo u (uD u) : Int) + 1) (uUp u (uD u)) (uLo u (uD u) + 1) _ (by omega) (by omega) (by omega) (by omega)]
  rw [stp_of 6 ((uUp u (uD u) : Int) + 1) ((uLo u (uD u) : Int) - 1) (uUp u (uD u) + 1) (uLo u (uD u) - 1) _ (by omega) (by omega) (by omega) (by omega)]
  rw [stp_of 7 ((uUp u (uD u) : Int) + 1) (uLo u (uD u) : Int) (uUp u (uD u) + 1) (uLo u (uD u)) _ (by omega) (by omega) (by omega) (by omega)]
  rw [stp_of 8 ((uUp u (uD u) : Int) + 1) ((uLo u (uD u) : Int) + 1) (uUp u (uD u) + 1) (uLo u (uD u) + 1) _ (by omega) (by omega) (by omega) (by omega)]
  simp only [o0, o1]
  cases h1 : opB u 0 ((uUp u (uD u) : Int) - 1) <;> cases h2 : opB u 0 ((uUp u (uD u) : Int) + 1) <;> cases h3 : opB u 1 ((uLo u (uD u) : Int) - 1) <;> cases h4 : opB u 1 ((uLo u (uD u) : Int) + 1) <;> simp only [Bool.false_eq_true, and_true, true_and, and_false, false_and, and_self, if_true, if_false, Nat.mul_zero, Nat.zero_add, Nat.add_zero, Nat.reduceMul, Nat.reduceAdd]
theorem op_unseen {σ : Hp} (h : Rel σ) (x1 x2 x3 : Int32) : ∃ σ1 r, f_X11_unseen σ x1 x2 x3 = some (σ1, r) ∧ f_X12_unseen σ1 x1 x2 x3 = some r ∧ Rel σ1 := by
  have hG := h.2.2.2.2.1.g
  have hb : lnd σ = 39 ∨ lnd σ = 45 := by rcases h.2.2.2.2.1.1 with h | h <;> omega
  unfold f_X11_unseen f_X12_unseen
  rcases land_ground h with ⟨a, b⟩ | ⟨a, b, u, V, C, M⟩
  · rw [a, if_pos rfl]
    exact ⟨_, _, rfl, by rw [b, bd1_s, if_pos rfl], h⟩
  · rw [a, if_neg n10]
    by_cases h1 : inb x1 10000
    · obtain ⟨X, hX, rfl⟩ := inb_nI h1 (by decide)
      rw [if_neg (nI_pos (by omega)), if_neg (show ¬ (9999 : Int32) < nI X from nI_nlt (a := 9999) (by omega) (by decide))]
      have m1 : ∀ s, f_X12_in s (nI X) 0 9999 = some 1 := fun s => e_in1 (a := 0) (b := 9999) (by rw [nI_toInt (by omega)]; show (0 : Int) ≤ X; omega) (by rw [nI_toInt (by omega)]; show (X : Int) ≤ 9999; omega)
      by_cases h2 : 1 ≤ x2.toInt ∧ x2.toInt ≤ 99
      · obtain ⟨Y, hY, rfl⟩ := inb_nI (x := x2) (n := 100) ⟨by omega, by omega⟩ (by decide)
        have hY1 : 1 ≤ Y := by rw [nI_toInt (by omega)] at h2; omega
        have m2 : ∀ s, f_X12_in s (nI Y) 1 99 = some 1 := fun s => e_in1 (a := 1) (b := 99) (by rw [nI_toInt (by omega)]; show (1 : Int) ≤ Y; omega) (by rw [nI_toInt (by omega)]; show (Y : Int) ≤ 99; omega)
        rw [if_neg (show ¬ nI Y < 1 from nI_nlt (b := 1) hY1 (by omega)), if_neg (show ¬ (99 : Int32) < nI Y from nI_nlt (a := 99) (by omega) (by decide))]
        by_cases h3 : inb x3 2
        · rw [e_ud1 h3, bd1_s, if_neg n10]
          have key : ∃ σ1 s, f_X8_guessMoves σ (lnd σ) (nI X) (nI Y) = some σ1 ∧ onlyI (fun q => 15 ≤ q ∧ q ≤ 18) σ σ1 ∧ SU σ1 s ∧ f_X12_unseen_53 σ1 (nI X) (nI Y) x3 fu 0 (-1000000) 0 = some (if x3 = 0 then nI s.1 else s.2) := by
            unfold f_X8_guessMoves
            generalize e : sI (sI σ 15 14 0) 15 15 (-1000000) = σ0
            have o0 : onlyI (fun q => 15 ≤ q ∧ q ≤ 18) σ σ0 := by rw [← e]; exact (onlyI.rf.st (by omega)).st (by omega)
            have S0 : SU σ0 (0, -1000000) := by
              rw [← e]
              exact ⟨by rw [gI_s, upd_n (by decide), gI_s, upd_s]; rfl, by rw [gI_s, upd_s]⟩
            have C0 := C.only o0 hG (by omega)
            rw [C0.2.2.2.1]
            have hD := V.1
            by_cases hD12 : uD u < 12
            · obtain ⟨σg, g1, g2, g3, g4⟩ := e_gather hG V C0 (d := uD u) (by omega)
              have Cg := C0.only g2 hG (by omega)
              obtain ⟨σr, r1, r2, r3, R⟩ := e_reach hG Cg V (m := 1) (by omega)
              have Cr := Cg.only r2 hG (by omega)
              obtain ⟨p1, p2⟩ := V.up
              obtain ⟨l1, l2, l3, l4⟩ := dn_spec (u := u) (r := 0) 1 (uUp u (uD u))
              obtain ⟨l5, l6, l7, l8⟩ := dn_spec (u := u) (r := 1) 1 (uLo u (uD u))
              obtain ⟨t1, t2, -, -⟩ := ups_spec (u := u) (r := 0) 1 (uUp u (uD u))
              obtain ⟨t3, t4, -, -⟩ := ups_spec (u := u) (r := 1) 1 (uLo u (uD u))
              have t5 := ups_12 (u := u) (r := 0) (m := 1) p1
              have t6 := ups_12 (u := u) (r := 1) (m := 1) p2
              obtain ⟨σ1, k1, k2, k3⟩ := e_g42 hG V (X := X) (Y := Y) (by omega) (by omega) t5 t6 l6 (by omega) fu (dn (opB u 0) 1 (uUp u (uD u))) (ups (opB u 0) 1 (uUp u (uD u)) + 1 - dn (opB u 0) 1 (uUp u (uD u))) σr (0, -1000000) (by omega) (by show _ < 512; omega) (by omega) Cr (g4.of (r3 3 (by omega)) (fun q q1 q2 => r2.1 q (by omega))) R.2.1 R.2.2.1 R.2.2.2 ⟨by rw [r3 14 (by omega), g3 14 (by omega)]; exact S0.1, by rw [r3 15 (by omega), g3 15 (by omega)]; exact S0.2⟩ (by show 0 + 13 * _ ≤ 100; omega)
              rw [e_fx] at k3
              have oo : onlyI (fun q => 15 ≤ q ∧ q ≤ 18) σ σ1 := ((o0.tr g2).tr (r2.mono (by omega))).tr (k2.1.mono (by omega))
              refine ⟨σ1, gx u X Y (0, -1000000), ?_, oo, k3, ?_⟩
              · rw [if_pos (show nI (uD u) < 12 from nI_lt (b := 12) hD12 (by decide)), g1, bd1_s, show (1 : Int32) = nI 1 from rfl, r1, bd1_s, bnd_s, R.1, k1]
              · rw [e_unM (σ := σ1) (u := u) (by rw [oo.1 52 (by omega)]; exact M) V hD12 (by omega) (by omega), stp9_gx V]
            · refine ⟨σ0, (0, -1000000), ?_, o0, S0, ?_⟩
              · rw [if_neg (show ¬ nI (uD u) < 12 from nI_nlt (b := 12) (by omega) (by omega))]
              · rw [show fu = 511 + 1 from rfl, f_X12_unseen_53, if_neg (by decide), o0.1 52 (by omega), M.2.2.2.1, if_pos (show (12 : Int32) ≤ nI (uD u) from nI_le (a := 12) (by omega) (by omega))]
                by_cases h0 : x3 = 0
                · rw [if_pos h0, if_pos h0]
                  rfl
                · rw [if_neg h0, if_neg h0]
          obtain ⟨σ1, s, k1, k2, k3, k4⟩ := key
          have eR : gR σ1 = gR σ := by funext q; show σ1.2.2.1 q = σ.2.2.1 q; rw [k2.2]
          have rel : Rel σ1 := (k2.keepB (by omega)).rel h (h.1.of k2.2) (h.2.2.2.2.1.of2 (by rw [eR]) (fun q _ i _ => by rw [eR]) (k2.keepS (by omega)) (fun q a b => k2.1 q (by omega)) (k2.1 52 (by omega))) (h.2.2.2.2.2.of2 (fun q _ i _ => by rw [eR]) (k2.keepS (by omega)) (fun q a b => k2.1 q (by omega)) (k2.1 53 (by omega)) (k2.1 54 (by omega)))
          have b' : f_X12_isGround σ1 = some 1 := by unfold f_X12_isGround at b ⊢; rw [k2.1 52 (by omega)]; exact b
          refine ⟨σ1, if x3 = 0 then nI s.1 else s.2, ?_, ?_, rel⟩
          · rw [k1, bd1_s]
            by_cases h0 : x3 = 0
            · rw [if_pos h0, if_pos h0, k3.1]
            · rw [if_neg h0, if_neg h0, k3.2]
          · rw [b', bd1_s, if_neg n10, m1, bd1_s, if_neg n10, m2, bd1_s, if_neg n10, e_i01 h3, bd1_s, if_neg n10]
            exact k4
        · rw [e_ud0 h3, bd1_s, if_pos rfl]
          exact ⟨_, _, rfl, by rw [b, bd1_s, if_neg n10, m1, bd1_s, if_neg n10, m2, bd1_s, if_neg n10, e_i00 h3, bd1_s, if_pos rfl], h⟩
      · have m2 : f_X12_in σ x2 1 99 = some 0 := e_in0 (a := 1) (b := 99) (show x2.toInt < (1 : Int) ∨ (99 : Int) < x2.toInt by omega)
        by_cases k : x2 < 1
        · rw [if_pos k]
          exact ⟨_, _, rfl, by rw [b, bd1_s, if_neg n10, m1, bd1_s, if_neg n10, m2, bd1_s, if_pos rfl], h⟩
        · rw [if_neg k, if_pos (by rw [tI_lt]; rw [tI_lt] at k; have k : ¬ x2.toInt < 1 := k; show 99 < x2.toInt; omega)]
          exact ⟨_, _, rfl, by rw [b, bd1_s, if_neg n10, m1, bd1_s, if_neg n10, m2, bd1_s, if_pos rfl], h⟩
    · have m1 : f_X12_in σ x1 0 9999 = some 0 := e_in0 (a := 0) (b := 9999) (show x1.toInt < (0 : Int) ∨ (9999 : Int) < x1.toInt by unfold inb at h1; omega)
      by_cases k : x1 < 0
      · rw [if_pos k]
        exact ⟨_, _, rfl, by rw [b, bd1_s, if_neg n10, m1, bd1_s, if_pos rfl], h⟩
      · rw [if_neg k, if_pos (by rw [tI_lt]; rw [tI_lt] at k; have k : ¬ x1.toInt < 0 := k; show 9999 < x1.toInt; unfold inb at h1; omega)]
        exact ⟨_, _, rfl, by rw [b, bd1_s, if_neg n10, m1, bd1_s, if_pos rfl], h⟩
