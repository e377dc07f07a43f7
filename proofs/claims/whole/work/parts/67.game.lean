/-! ===== game ===== -/
theorem e_fmS {σ : Hp} {g a b lo hi n : Nat} (h10 : gI σ 15 10 = nI lo) (h11 : gI σ 15 11 = nI hi) {z : Int32} (hz : ¬ 1 < z) (hs : nI a + z < nI lo ∨ nI hi < nI a + z) : f_X8_firstMove_28 g σ (nI a) (nI b) (n + 1) z = f_X8_firstMove_28 g σ (nI a) (nI b) n (z + 1) := by
  rw [f_X8_firstMove_28, if_neg hz, h10, h11]
  unfold f_X8_firstMove_61
  by_cases q : nI a + z < nI lo
  · rw [if_pos q, if_pos rfl]
  · rw [if_neg q, if_pos (hs.resolve_left q), if_pos rfl]
theorem e_fmO {σ : Hp} {g a b lo hi n : Nat} (h10 : gI σ 15 10 = nI lo) (h11 : gI σ 15 11 = nI hi) {z : Int32} (hz : ¬ 1 < z) {x : Nat} (hx : nI a + z = nI x) (x1 : lo ≤ x) (x2 : x ≤ hi) (hh : hi ≤ 12) (ha : a ≤ 12) (hb : b ≤ 12) : f_X8_firstMove_28 g σ (nI a) (nI b) (n + 1) z = if gI σ 21 (13 * x + b) = gI σ 19 (13 * a + b) then some z else f_X8_firstMove_28 g σ (nI a) (nI b) n (z + 1) := by
  rw [f_X8_firstMove_28, if_neg hz, h10, h11]
  unfold f_X8_firstMove_61
  rw [hx, if_neg (nI_nlt x1 (by omega)), if_neg (nI_nlt x2 (by omega)), if_neg n10, c13, c13, chk_s (nI_inb (by omega) (by decide)), chk_s (nI_inb (by omega) (by decide)), nI_cl (by omega), nI_cl (by omega)]
theorem e_fmN {σ : Hp} {g a b lo hi : Nat} {H : Nat → Nat} {l h : Bool} (h10 : gI σ 15 10 = nI lo) (h11 : gI σ 15 11 = nI hi) (ha : a ≤ 12) (hb : b ≤ 12) (hh : hi ≤ 12) (al : lo ≤ a) (ah : a ≤ hi) (hl : decide (lo < a) = l) (hr : decide (a < hi) = h) (t19 : gI σ 19 (13 * a + b) = nI (mx3 l h H a)) (t21 : ∀ x, lo ≤ x → x ≤ hi → a ≤ x + 1 → x ≤ a + 1 → gI σ 21 (13 * x + b) = nI (H x)) (hB : ∀ x, x ≤ 12 → H x ≤ 2147483647) : f_X8_firstMove_28 g σ (nI a) (nI b) fu (-1) = some (fst_mv l h H a) := by
  have mB : mx3 l h H a ≤ 2147483647 := mx3_le (fun _ => hB _ (by omega)) (hB _ ha) (fun z => hB _ (by rw [← hr] at z; have := of_decide_eq_true z; omega))
  have em : nI a + (-1) = nI a - 1 := m1_add _
  have s1 : f_X8_firstMove_28 g σ (nI a) (nI b) (509 + 1 + 1 + 1) (-1) = if l = true ∧ H (a - 1) = mx3 l h H a then some (-1) else f_X8_firstMove_28 g σ (nI a) (nI b) (509 + 1 + 1) (-1 + 1) := by
    by_cases q : lo < a
    · have l1 : l = true := by rw [← hl]; exact decide_eq_true q
      have b1 := hB (a - 1) (by omega)
      rw [e_fmO h10 h11 (by decide) (x := a - 1) (by rw [em, show (1 : Int32) = nI 1 from rfl, pk_sub (by omega)]) (by omega) (by omega) hh ha hb, t21 (a - 1) (by omega) (by omega) (by omega) (by omega), t19]
      by_cases e : H (a - 1) = mx3 l h H a
      · rw [if_pos (by rw [e]), if_pos ⟨l1, e⟩]
      · rw [if_neg (by rw [nI_eq (by omega) (by omega)]; exact e), if_neg (fun z => e z.2)]
    · have l0 : l = false := by rw [← hl]; exact decide_eq_false q
      rw [e_fmS h10 h11 (by decide) (Or.inl (by rw [em, tI_lt, nI_s1 (by omega), nI_toInt (by omega)]; omega)), if_neg (fun z => by rw [l0] at z; exact Bool.noConfusion z.1)]
  have s2 : f_X8_firstMove_28 g σ (nI a) (nI b) (509 + 1 + 1) (-1 + 1) = if H a = mx3 l h H a then some 0 else f_X8_firstMove_28 g σ (nI a) (nI b) (509 + 1) 1 := by
    rw [show (-1 : Int32) + 1 = 0 from rfl, e_fmO h10 h11 (by decide) (x := a) (Int32.add_zero _) al ah hh ha hb, t21 a al ah (by omega) (by omega), t19, show (0 : Int32) + 1 = 1 from rfl]
    have b1 := hB a ha
    by_cases e : H a = mx3 l h H a
    · rw [if_pos (by rw [← e]), if_pos e]
    · rw [if_neg (by rw [nI_eq (by omega) (by omega)]; exact e), if_neg e]
  unfold fst_mv
  show f_X8_firstMove_28 g σ (nI a) (nI b) (509 + 1 + 1 + 1) (-1) = _
  rw [s1, s2]
  by_cases c1 : l = true ∧ H (a - 1) = mx3 l h H a
  · rw [if_pos c1, if_pos c1]
  · rw [if_neg c1, if_neg c1]
    by_cases c2 : H a = mx3 l h H a
    · rw [if_pos c2, if_pos c2]
    · rw [if_neg c2, if_neg c2]
      have e3 : h = true ∧ H (a + 1) = mx3 l h H a := by
        unfold mx3 at c1 c2 ⊢
        cases l <;> cases h <;> simp only [Bool.false_eq_true, if_false, if_true, false_and, true_and] at c1 c2 ⊢ <;> omega
      obtain ⟨h1, e3⟩ := e3
      have q : a < hi := of_decide_eq_true (by rw [hr]; exact h1)
      rw [e_fmO h10 h11 (by decide) (x := a + 1) (nI_1 a) (by omega) (by omega) hh ha hb, t21 (a + 1) (by omega) (by omega) (by omega) (by omega), t19, e3, if_pos rfl]
theorem Wm_Hg {u : GD} {k a b d x : Nat} (ha : opB u 0 (a : Int) = true) (hb : opB u 1 (b : Int) = true) (h1 : dn (opB u 0) (k + 1) a ≤ x) (h2 : x ≤ ups (opB u 0) (k + 1) a) (h3 : a ≤ x + 1) (h4 : x ≤ a + 1) : mn3 (decide (dn (opB u 1) (k + 1) b < b)) (decide (b < ups (opB u 1) (k + 1) b)) (fun y' => gts u d x y' + Wg u (dn (opB u 0) (k + 1) a) (ups (opB u 0) (k + 1) a) (dn (opB u 1) (k + 1) b) (ups (opB u 1) (k + 1) b) k (d + 1) x y') b = Hg u k d b x := by
  have l1 := (dn_spec (u := u) (r := 1) (k + 1) b).1
  have t1 := (ups_spec (u := u) (r := 1) (k + 1) b).1
  refine mn3_congr (reach_lo hb l1 t1 (by omega)) (reach_hi hb l1 t1 (by omega)) (fun z => ?_) ?_ (fun z => ?_)
  · have z := of_decide_eq_true z
    show _ + Wg u _ _ _ _ k (d + 1) x (b - 1) = _
    rw [Wg_Vg ha hb k (d + 1) x (b - 1) h1 h2 (by omega) (by omega) (by omega) (by omega) (by omega) (by omega)]
  · show _ + Wg u _ _ _ _ k (d + 1) x b = _
    rw [Wg_Vg ha hb k (d + 1) x b h1 h2 l1 t1 (by omega) (by omega) (by omega) (by omega)]
  · have z := of_decide_eq_true z
    show _ + Wg u _ _ _ _ k (d + 1) x (b + 1) = _
    rw [Wg_Vg ha hb k (d + 1) x (b + 1) h1 h2 (by omega) (by omega) (by omega) (by omega) (by omega) (by omega)]
theorem e_first {σ : Hp} {g : Nat} {u : GD} {L R : Nat → Nat} (V : VG u) (C : CGw σ g u L R) {m : Nat} (hm : m ≤ 12) (RR : RC σ u (dys u m)) (T : T19 σ u (dn (opB u 0) (dys u m) (uUp u (uD u))) (ups (opB u 0) (dys u m) (uUp u (uD u))) (dn (opB u 1) (dys u m) (uLo u (uD u))) (ups (opB u 1) (dys u m) (uLo u (uD u))) (dys u m) (uD u)) (T' : 0 < dys u m → T21 σ u (dn (opB u 0) (dys u m) (uUp u (uD u))) (ups (opB u 0) (dys u m) (uUp u (uD u))) (dn (opB u 1) (dys u m) (uLo u (uD u))) (ups (opB u 1) (dys u m) (uLo u (uD u))) (dys u m - 1) (uD u)) : f_X8_firstMove σ g (nI m) = some (fmG u (dys u m)) := by
  have hD := V.1
  have hr : uD u + dys u m ≤ 12 := by unfold dys; omega
  obtain ⟨p1, p2⟩ := V.up
  unfold f_X8_firstMove
  rw [e_end0 C V, bd1_s, e_end1 C V, bd1_s, e_dysC C V hm, bd1_s]
  by_cases r0 : dys u m = 0
  · rw [r0, if_neg (by decide)]
    rfl
  · obtain ⟨k, hk⟩ : ∃ k, dys u m = k + 1 := ⟨dys u m - 1, by omega⟩
    have T' := T' (by omega)
    rw [hk] at RR T T' hr ⊢
    have o0 := V.open0
    have o1 := V.open1
    have l1 := (dn_spec (u := u) (r := 0) (k + 1) (uUp u (uD u))).1
    have l2 := (dn_spec (u := u) (r := 1) (k + 1) (uLo u (uD u))).1
    have t1 := (ups_spec (u := u) (r := 0) (k + 1) (uUp u (uD u))).1
    have t2 := (ups_spec (u := u) (r := 1) (k + 1) (uLo u (uD u))).1
    have t5 := ups_12 (u := u) (r := 0) (m := k + 1) p1
    rw [if_pos (show (1 : Int32) ≤ nI (k + 1) from nI_le (a := 1) (by omega) (by omega))]
    have e19 := T _ _ l1 t1 l2 t2
    rw [Wg_Vg o0 o1 (k + 1) (uD u) _ _ l1 t1 l2 t2 (Nat.le_refl _) (Nat.le_refl _) (Nat.le_refl _) (Nat.le_refl _), Vg_s] at e19
    have ll := reach_lo o0 l1 t1 (show uUp u (uD u) < uUp u (uD u) + (k + 1) by omega)
    have lr := reach_hi o0 l1 t1 (show uUp u (uD u) < uUp u (uD u) + (k + 1) by omega)
    have fin := e_fmN (g := g) (H := Hg u k (uD u) (uLo u (uD u))) RR.1 RR.2.1 p1 p2 t5 l1 t1 ll lr e19 (fun x x1 x2 x3 x4 => by
      have q := T' x (uLo u (uD u)) x1 x2 l2 t2
      rw [show k + 1 - 1 = k by omega, Wm_Hg o0 o1 x1 x2 x3 x4] at q
      exact q) (fun x hx => by have := Hg_lt V (k := k) (d := uD u) (b := uLo u (uD u)) (by omega) hx p2; omega)
    rw [fin]
    unfold fmG
    rw [if_neg (by omega), show k + 1 - 1 = k by omega]
