def dys (u : GD) (m : Nat) : Nat := min m (12 - uD u)
theorem e_dysC {σ : Hp} {g : Nat} {u : GD} {L R : Nat → Nat} (C : CGw σ g u L R) (V : VG u) {m : Nat} (hm : m ≤ 12) : f_X4_daysOf σ g (nI m) = some (nI (dys u m)) := by
  have hD := V.1
  unfold f_X4_daysOf dys
  rw [C.2.2.2.1, show (12 : Int32) = nI 12 from rfl, pk_sub hD]
  by_cases h : 12 - uD u < m
  · rw [if_pos (nI_lt h (by omega)), Nat.min_eq_right (by omega)]
  · rw [if_neg (nI_nlt (by omega) (by omega)), Nat.min_eq_left (by omega)]
theorem e_dysM {σ : Hp} {u : GD} (M : MG (gI σ 52) u) (V : VG u) {m : Nat} (hm : m ≤ 12) : f_X12_daysOf σ (nI m) = some (nI (dys u m)) := by
  have hD := V.1
  unfold f_X12_daysOf dys
  rw [M.2.2.2.1, nI_add]
  by_cases h : uD u + m ≤ 12
  · rw [if_pos (show nI (uD u + m) ≤ 12 from nI_le (b := 12) h (by decide)), Nat.min_eq_left (by omega)]
  · rw [if_neg (show ¬ nI (uD u + m) ≤ 12 from nI_ge (a := 12) (by omega) (by omega)), show (12 : Int32) = nI 12 from rfl, pk_sub hD, Nat.min_eq_right (by omega)]
theorem VG.open0 {u : GD} (V : VG u) : opB u 0 (uUp u (uD u) : Int) = true := (opB_N V.up.1).mpr (V.2.2.2.1 _ (Nat.le_refl _)).1
theorem VG.open1 {u : GD} (V : VG u) : opB u 1 (uLo u (uD u) : Int) = true := (opB_N V.up.2).mpr (V.2.2.2.1 _ (Nat.le_refl _)).2
theorem e_gameC {σ : Hp} {g : Nat} {u : GD} {L R : Nat → Nat} (hg : isG g) (V : VG u) (C : CGw σ g u L R) {m : Nat} (hm : m ≤ 12) : ∃ σ', f_X8_gameOf σ g (nI m) = some (σ', nI (Vg u (dys u m) (uD u) (uUp u (uD u)) (uLo u (uD u)))) ∧ onlyI (fun q => 15 ≤ q ∧ q ≤ 21) σ σ' ∧ RC σ' u (dys u m) ∧ T19 σ' u (dn (opB u 0) (dys u m) (uUp u (uD u))) (ups (opB u 0) (dys u m) (uUp u (uD u))) (dn (opB u 1) (dys u m) (uLo u (uD u))) (ups (opB u 1) (dys u m) (uLo u (uD u))) (dys u m) (uD u) ∧ (0 < dys u m → T21 σ' u (dn (opB u 0) (dys u m) (uUp u (uD u))) (ups (opB u 0) (dys u m) (uUp u (uD u))) (dn (opB u 1) (dys u m) (uLo u (uD u))) (ups (opB u 1) (dys u m) (uLo u (uD u))) (dys u m - 1) (uD u)) := by
  have hD := V.1
  have hr : uD u + dys u m ≤ 12 := by unfold dys; omega
  obtain ⟨p1, p2⟩ := V.up
  obtain ⟨s1, r1, r2, r3, R⟩ := e_reach hg C V (m := dys u m) (by omega)
  have C1 := C.only r2 hg (by omega)
  obtain ⟨l1, l2, l3, l4⟩ := dn_spec (u := u) (r := 0) (dys u m) (uUp u (uD u))
  obtain ⟨l5, l6, l7, l8⟩ := dn_spec (u := u) (r := 1) (dys u m) (uLo u (uD u))
  obtain ⟨t1, t2, -, -⟩ := ups_spec (u := u) (r := 0) (dys u m) (uUp u (uD u))
  obtain ⟨t3, t4, -, -⟩ := ups_spec (u := u) (r := 1) (dys u m) (uLo u (uD u))
  have t5 := ups_12 (u := u) (r := 0) (m := dys u m) p1
  have t6 := ups_12 (u := u) (r := 1) (m := dys u m) p2
  have o2 : onlyI (fun q => 15 ≤ q ∧ q ≤ 21) σ (rI s1 19 (fun k => if k < 169 then 0 else gI s1 19 k)) := (r2.mono (by omega)).row (by omega)
  have e15 : gI (rI s1 19 (fun k => if k < 169 then 0 else gI s1 19 k)) 15 = gI s1 15 := gI_rIn (by decide)
  have C2 := C.only o2 hg (by omega)
  obtain ⟨σ', k1, k2, k3, k4, k5⟩ := e_g30 hg V t5 t6 l1 t1 l5 t3 hr fu (dys u m) (rI s1 19 (fun k => if k < 169 then 0 else gI s1 19 k)) (by show _ < 512; omega) (Nat.le_refl _) C2 (by rw [e15]; exact R.1) (by rw [e15]; exact R.2.1) (by rw [e15]; exact R.2.2.1) (by rw [e15]; exact R.2.2.2) (fun x y q1 q2 q3 q4 => by
    rw [gI_rI, Nat.sub_self]
    show (if 13 * x + y < 169 then (0 : Int32) else _) = nI 0
    rw [if_pos (by omega)]
    rfl) (fun j0 j1 => by omega)
  refine ⟨σ', ?_, o2.tr k2, R.of (fun k q1 q2 => by rw [k3 k (by omega), e15]), k4, k5⟩
  unfold f_X8_gameOf
  rw [e_dysC C V hm, bd1_s, r1, bd1_s, e_fill0 (by omega), bd1_s, bnd_s, C2.2.2.2.1, nI_add, k1, Wg_Vg V.open0 V.open1 (dys u m) (uD u) _ _ l1 t1 l5 t3 (Nat.le_refl _) (Nat.le_refl _) (Nat.le_refl _) (Nat.le_refl _)]
