/-! ===== ask ===== -/
def TC (σ : Hp) (l : List Int32) : Prop := gI σ 25 1 = nI l.length ∧ ∀ i, i < l.length → gI σ 26 i = l.getD i 0
def TM (σ : Hp) (l : List Int32) : Prop := gI σ 51 25 = nI l.length ∧ ∀ i, i < l.length → gI σ 66 i = l.getD i 0
theorem gd_end (l : List Int32) (x : Int32) : (l ++ [x]).getD l.length 0 = x := by simp
theorem gd_in {l : List Int32} {x : Int32} {i : Nat} (h : i < l.length) : (l ++ [x]).getD i 0 = l.getD i 0 := by
  rw [List.getD_eq_getElem?_getD, List.getD_eq_getElem?_getD, List.getElem?_append_left h]
theorem e_leave {σ : Hp} {l : List Int32} (T : TC σ l) (hl : l.length < 16) (x : Int32) : ∃ σ', f_X10_leave σ x = some σ' ∧ onlyI (fun q => q = 25 ∨ q = 26) σ σ' ∧ TC σ' (l ++ [x]) := by
  obtain ⟨t1, t2⟩ := T
  refine ⟨sI (sI σ 26 l.length x) 25 1 (nI (l.length + 1)), ?_, (onlyI.rf.st (by omega)).st (by omega), ?_, fun i hi => ?_⟩
  · unfold f_X10_leave
    rw [t1, if_neg (show ¬ (16 : Int32) ≤ nI l.length from nI_ge (b := 16) hl (by decide)), chk_s (nI_inb hl (by decide)), nI_cl (by omega), bnd_s, gI_n (show (25 : Nat) ≠ 26 by decide), t1, nI_1]
  · rw [gI_s, upd_s, List.length_append]
    rfl
  · rw [gI_n (by decide), gI_s]
    rw [List.length_append] at hi
    have hi : i < l.length + 1 := hi
    by_cases e : i = l.length
    · rw [e, upd_s, gd_end]
    · rw [upd_n e, t2 i (by omega), gd_in (by omega)]
theorem e_begins {σ : Hp} {l : List Int32} (T : TM σ l) (hl : l.length < 16) (x : Int32) : ∃ σ', f_X12_begins σ x = some σ' ∧ onlyI (fun q => q = 51 ∨ q = 66) σ σ' ∧ (∀ k, k ≠ 25 → gI σ' 51 k = gI σ 51 k) ∧ TM σ' (l ++ [x]) := by
  obtain ⟨t1, t2⟩ := T
  refine ⟨sI (sI σ 66 l.length x) 51 25 (nI (l.length + 1)), ?_, (onlyI.rf.st (by omega)).st (by omega), fun k hk => by rw [gI_s, upd_n hk, gI_n (by decide)], ?_, fun i hi => ?_⟩
  · unfold f_X12_begins
    rw [t1, if_neg (show ¬ (16 : Int32) ≤ nI l.length from nI_ge (b := 16) hl (by decide)), chk_s (nI_inb hl (by decide)), nI_cl (by omega), bnd_s, gI_n (show (51 : Nat) ≠ 66 by decide), t1, nI_1]
  · rw [gI_s, upd_s, List.length_append]
    rfl
  · rw [gI_n (by decide), gI_s]
    rw [List.length_append] at hi
    have hi : i < l.length + 1 := hi
    by_cases e : i = l.length
    · rw [e, upd_s, gd_end]
    · rw [upd_n e, t2 i (by omega), gd_in (by omega)]
/-- a strip's own facts -/
def SF (q so i wo ri : Nat) (σ : Hp) : Prop := okS σ q ∧ gK σ q = kcode so ∧ gI σ q 0 = nI i ∧ gI σ q 1 = nI wo ∧ gI σ q 2 = nI ri
theorem SF.of {q so i wo ri : Nat} {σ σ' : Hp} (o : onlyI (fun q => q = 25 ∨ q = 26) σ σ') (F : SF q so i wo ri σ) : SF q so i wo ri σ' := by
  obtain ⟨a, b, c, d, e⟩ := F
  have h := a.1
  have eK : gK σ' q = gK σ q := by show σ'.2.2.2.1 q = σ.2.2.2.1 q; rw [o.2]
  have eI : gI σ' q = gI σ q := o.1 q (by omega)
  exact ⟨⟨h, by rw [eK]; exact a.2⟩, by rw [eK]; exact b, by rw [eI]; exact c, by rw [eI]; exact d, by rw [eI]; exact e⟩
/-- on the class: a way to ask that leaves out and answers v -/
def AC (q so i wo ri : Nat) (f : Hp → Option (Hp × Int32)) (out : List Int32) (v : Int32) : Prop := ∀ (σ : Hp) (l : List Int32), TC σ l → l.length + out.length ≤ 16 → SF q so i wo ri σ → ∃ σ', f σ = some (σ', v) ∧ onlyI (fun q => q = 25 ∨ q = 26) σ σ' ∧ TC σ' (l ++ out)
def AM (u : GD) (f : Hp → Option (Hp × Int32)) (out : List Int32) (v : Int32) : Prop := ∀ (σ : Hp) (l : List Int32), TM σ l → l.length + out.length ≤ 16 → MG (gI σ 52) u → ∃ σ', f σ = some (σ', v) ∧ onlyI (fun q => q = 51 ∨ q = 66) σ σ' ∧ (∀ k, k ≠ 25 → gI σ' 51 k = gI σ 51 k) ∧ TM σ' (l ++ out)
theorem AC.one {q so i wo ri : Nat} {x v : Int32} {f : Hp → Option (Hp × Int32)} (h : ∀ σ s1, SF q so i wo ri s1 → f_X10_leave σ x = some s1 → f σ = some (s1, v)) : AC q so i wo ri f [x] v := by
  intro σ l T hl F
  obtain ⟨s1, a, b, c⟩ := e_leave T (by have : l.length + 1 ≤ 16 := hl; omega) x
  exact ⟨s1, h σ s1 (F.of b) a, b, c⟩
theorem AC.cons {q so i wo ri : Nat} {x v w : Int32} {out : List Int32} {f g : Hp → Option (Hp × Int32)} (hg : AC q so i wo ri g out w) (h : ∀ σ s1 s2, SF q so i wo ri s1 → SF q so i wo ri s2 → f_X10_leave σ x = some s1 → g s1 = some (s2, w) → f σ = some (s2, v)) : AC q so i wo ri f (x :: out) v := by
  intro σ l T hl F
  have hl : l.length + (out.length + 1) ≤ 16 := hl
  obtain ⟨s1, a, b, c⟩ := e_leave T (by omega) x
  obtain ⟨s2, a2, b2, c2⟩ := hg s1 (l ++ [x]) c (by rw [List.length_append]; show l.length + 1 + out.length ≤ 16; omega) (F.of b)
  refine ⟨s2, h σ s1 s2 (F.of b) ((F.of b).of b2) a a2, b.tr b2, ?_⟩
  rw [List.append_assoc] at c2
  exact c2
theorem AC.two {q so i wo ri : Nat} {v w w2 : Int32} {o1 o2 : List Int32} {f g g2 : Hp → Option (Hp × Int32)} (hg : AC q so i wo ri g o1 w) (hg2 : AC q so i wo ri g2 o2 w2) (h : ∀ σ s2 s3, SF q so i wo ri s2 → g σ = some (s2, w) → g2 s2 = some (s3, w2) → f σ = some (s3, v)) : AC q so i wo ri f (o1 ++ o2) v := by
  intro σ l T hl F
  rw [List.length_append] at hl
  obtain ⟨s1, a, b, c⟩ := hg σ l T (by omega) F
  obtain ⟨s2, a2, b2, c2⟩ := hg2 s1 (l ++ o1) c (by rw [List.length_append]; omega) (F.of b)
  refine ⟨s2, h σ s1 s2 (F.of b) a a2, b.tr b2, ?_⟩
  rw [List.append_assoc] at c2
  exact c2
theorem AM.cons {u : GD} {x v w : Int32} {out : List Int32} {f g : Hp → Option (Hp × Int32)} (hg : AM u g out w) (h : ∀ σ s1 s2, f_X12_begins σ x = some s1 → g s1 = some (s2, w) → MG (gI s2 52) u → f σ = some (s2, v)) : AM u f (x :: out) v := by
  intro σ l T hl M
  have hl : l.length + (out.length + 1) ≤ 16 := hl
  obtain ⟨s1, a, b, b', c⟩ := e_begins T (by omega) x
  have M1 : MG (gI s1 52) u := by rw [b.1 52 (by omega)]; exact M
  obtain ⟨s2, a2, b2, b2', c2⟩ := hg s1 (l ++ [x]) c (by rw [List.length_append]; show l.length + 1 + out.length ≤ 16; omega) M1
  refine ⟨s2, h σ s1 s2 a a2 (by rw [b2.1 52 (by omega)]; exact M1), b.tr b2, fun k hk => (b2' k hk).trans (b' k hk), ?_⟩
  rw [List.append_assoc] at c2
  exact c2
theorem AM.one {u : GD} {x v : Int32} {f : Hp → Option (Hp × Int32)} (h : ∀ σ s1, f_X12_begins σ x = some s1 → MG (gI s1 52) u → f σ = some (s1, v)) : AM u f [x] v := by
  intro σ l T hl M
  obtain ⟨s1, a, b, b', c⟩ := e_begins T (by have : l.length + 1 ≤ 16 := hl; omega) x
  exact ⟨s1, h σ s1 a (by rw [b.1 52 (by omega)]; exact M), b, b', c⟩
theorem AM.two {u : GD} {v w w2 : Int32} {o1 o2 : List Int32} {f g g2 : Hp → Option (Hp × Int32)} (hg : AM u g o1 w) (hg2 : AM u g2 o2 w2) (h : ∀ σ s2 s3, g σ = some (s2, w) → g2 s2 = some (s3, w2) → f σ = some (s3, v)) : AM u f (o1 ++ o2) v := by
  intro σ l T hl M
  rw [List.length_append] at hl
  obtain ⟨s1, a, b, b', c⟩ := hg σ l T (by omega) M
  obtain ⟨s2, a2, b2, b2', c2⟩ := hg2 s1 (l ++ o1) c (by rw [List.length_append]; omega) (by rw [b.1 52 (by omega)]; exact M)
  refine ⟨s2, h σ s1 s2 a a2, b.tr b2, fun k hk => (b2' k hk).trans (b' k hk), ?_⟩
  rw [List.append_assoc] at c2
  exact c2
theorem AM.eq {u : GD} {out : List Int32} {v : Int32} {f g : Hp → Option (Hp × Int32)} (hg : AM u g out v) (h : ∀ σ, MG (gI σ 52) u → f σ = g σ) : AM u f out v := fun σ l T hl M => by rw [h σ M]; exact hg σ l T hl M
theorem AC.eq {q so i wo ri : Nat} {out : List Int32} {v : Int32} {f g : Hp → Option (Hp × Int32)} (hg : AC q so i wo ri g out v) (h : ∀ σ, SF q so i wo ri σ → f σ = g σ) : AC q so i wo ri f out v := fun σ l T hl F => by rw [h σ F]; exact hg σ l T hl F
section
variable {q so i wo ri : Nat}
theorem ac_9s : AC q so i wo ri (fun s => f_X9_askSize s q) [10] (nI wo) := AC.one (fun σ s1 F e => by unfold f_X9_askSize; rw [e, bd1_s, chk_s F.1, F.2.2.2.1])
theorem ac_9m : AC q so i wo ri (fun s => f_X9_askMark s q) [20] (nI i) := AC.one (fun σ s1 F e => by unfold f_X9_askMark; rw [e, bd1_s, chk_s F.1, F.2.2.1])
theorem ac_1m : AC q so i wo ri (fun s => f_X1_askMark s q) [21, 20] (nI i + nI ri) := AC.cons ac_9m (fun σ s1 s2 F F2 e e2 => by unfold f_X1_askMark; rw [e, bd1_s, chk_s F.1, e2, bd2_s, chk_s F2.1, F2.2.2.2.2])
theorem ac_0m : AC q so i wo ri (fun s => f_X0_askMark s q) [24, 21, 20] (2 * (nI i + nI ri)) := AC.cons ac_1m (fun σ s1 s2 F F2 e e2 => by unfold f_X0_askMark; rw [e, bd1_s, chk_s F.1, e2, bd2_s])
theorem ac_7m : AC q so i wo ri (fun s => f_X7_askMark s q) [22, 21, 20] ((nI i + nI ri) - 1000) := AC.cons ac_1m (fun σ s1 s2 F F2 e e2 => by unfold f_X7_askMark; rw [e, bd1_s, chk_s F.1, e2, bd2_s])
theorem ac_3s : AC q so i wo ri (fun s => f_X3_askSize s q) [13, 10] (nI wo - 100) := AC.cons ac_9s (fun σ s1 s2 F F2 e e2 => by unfold f_X3_askSize; rw [e, bd1_s, chk_s F.1, e2, bd2_s])
theorem ac_2s : AC q so i wo ri (fun s => f_X2_askSize s q) [14, 13, 10] (2 * (nI wo - 100)) := AC.cons ac_3s (fun σ s1 s2 F F2 e e2 => by unfold f_X2_askSize; rw [e, bd1_s, chk_s F.1, e2, bd2_s])
theorem ac_1s {o : List Int32} {w : Int32} (h : AC q so i wo ri (fun s => v_Bean_askMark s q) o w) : AC q so i wo ri (fun s => f_X1_askSize s q) (11 :: ([10] ++ o)) (nI wo + w) :=
  AC.cons (AC.two (f := fun s1 => bd2 (f_X9_askSize s1 q) fun s2 r1 => chk (okS s2 q) <| bd2 (v_Bean_askMark s2 q) fun s3 r2 => some (s3, r1 + r2)) ac_9s h (fun σ s2 s3 F e e2 => by show bd2 (f_X9_askSize σ q) _ = _; rw [e, bd2_s, chk_s F.1, e2, bd2_s])) (fun σ s1 s2 F F2 e e2 => by unfold f_X1_askSize; rw [e, bd1_s, chk_s F.1]; exact e2)
theorem ac_0s {o : List Int32} {w : Int32} (h : AC q so i wo ri (fun s => f_X1_askSize s q) o w) : AC q so i wo ri (fun s => f_X0_askSize s q) (12 :: o) (-w) := AC.cons h (fun σ s1 s2 F F2 e e2 => by unfold f_X0_askSize; rw [e, bd1_s, chk_s F.1, e2, bd2_s])
theorem ac_3m {o : List Int32} {w : Int32} (h : AC q so i wo ri (fun s => v_Grass_askSize s q) o w) : AC q so i wo ri (fun s => f_X3_askMark s q) (23 :: ([20] ++ o)) (nI i - w) :=
  AC.cons (AC.two (f := fun s1 => bd2 (f_X9_askMark s1 q) fun s2 r1 => chk (okS s2 q) <| bd2 (v_Grass_askSize s2 q) fun s3 r2 => some (s3, r1 - r2)) ac_9m h (fun σ s2 s3 F e e2 => by show bd2 (f_X9_askMark σ q) _ = _; rw [e, bd2_s, chk_s F.1, e2, bd2_s])) (fun σ s1 s2 F F2 e e2 => by unfold f_X3_askMark; rw [e, bd1_s, chk_s F.1]; exact e2)
end
section
variable {u : GD} {i : Nat}
theorem am_ls (V : VG u) (hi : i < uS u) : AM u (fun s => f_X12_lentSize s (nI i)) [10] (nI (uWo u i)) := AM.one (fun σ s1 e M => by unfold f_X12_lentSize; rw [e, bd1_s, (e_sown M V hi).2.1, bd1_s])
theorem am_lm : AM u (fun s => f_X12_lentMark s (nI i)) [20] (nI i) := AM.one (fun σ s1 e M => by unfold f_X12_lentMark; rw [e, bd1_s])
theorem am_bm (V : VG u) (hi : i < uS u) : AM u (fun s => f_X12_beansMark s (nI i)) [21, 20] (nI i + nI (uRi u i)) := AM.cons am_lm (fun σ s1 s2 e e2 M => by unfold f_X12_beansMark; rw [e, bd1_s, e2, bd2_s, (e_sown M V hi).2.2, bd1_s])
theorem am_gs (V : VG u) (hi : i < uS u) : AM u (fun s => f_X12_grassSize s (nI i)) [13, 10] (nI (uWo u i) - 100) := AM.cons (am_ls V hi) (fun σ s1 s2 e e2 M => by unfold f_X12_grassSize; rw [e, bd1_s, e2, bd2_s])
theorem am_mb2 (V : VG u) (hi : i < uS u) (h : uSo u i = 2) : AM u (fun s => f_X12_markOfBeans s (nI i)) [24, 21, 20] (2 * (nI i + nI (uRi u i))) :=
  AM.eq (AM.cons (f := fun s => bd1 (f_X12_begins s 24) fun s4 => bd2 (f_X12_beansMark s4 (nI i)) fun s5 r4 => some (s5, 2 * r4)) (am_bm V hi) (fun σ s1 s2 e e2 M => by show bd1 _ _ = _; rw [e, bd1_s, e2, bd2_s])) (fun σ M => by show f_X12_markOfBeans σ (nI i) = _; unfold f_X12_markOfBeans; rw [(e_sown M V hi).1, bd1_s, h, if_pos (show nI 2 = 2 from rfl)])
theorem am_mb3 (V : VG u) (hi : i < uS u) (h : uSo u i = 3) : AM u (fun s => f_X12_markOfBeans s (nI i)) [22, 21, 20] ((nI i + nI (uRi u i)) - 1000) :=
  AM.eq (AM.cons (f := fun s => bd1 (f_X12_begins s 22) fun s4 => bd2 (f_X12_beansMark s4 (nI i)) fun s5 r4 => some (s5, r4 - 1000)) (am_bm V hi) (fun σ s1 s2 e e2 M => by show bd1 _ _ = _; rw [e, bd1_s, e2, bd2_s])) (fun σ M => by show f_X12_markOfBeans σ (nI i) = _; unfold f_X12_markOfBeans; rw [(e_sown M V hi).1, bd1_s, h, if_neg (show ¬ nI 3 = 2 by decide), if_pos (show nI 3 = 3 from rfl)])
theorem bd2_id {x : Option (Hp × Int32)} : (bd2 x fun s1 r2 => some (s1, r2)) = x := by
  cases x with
  | none => rfl
  | some a => rfl
theorem am_mb1 (V : VG u) (hi : i < uS u) (h : uSo u i = 1) : AM u (fun s => f_X12_markOfBeans s (nI i)) [21, 20] (nI i + nI (uRi u i)) :=
  AM.eq (am_bm V hi) (fun σ M => by show f_X12_markOfBeans σ (nI i) = _; unfold f_X12_markOfBeans; rw [(e_sown M V hi).1, bd1_s, h, if_neg (show ¬ nI 1 = 2 by decide), if_neg (show ¬ nI 1 = 3 by decide), bd2_id])
theorem am_bs (V : VG u) (hi : i < uS u) {o : List Int32} {w : Int32} (h : AM u (fun s => f_X12_markOfBeans s (nI i)) o w) : AM u (fun s => f_X12_beansSize s (nI i)) (11 :: ([10] ++ o)) (nI (uWo u i) + w) :=
  AM.cons (AM.two (f := fun s1 => bd2 (f_X12_lentSize s1 (nI i)) fun s2 r1 => bd2 (f_X12_markOfBeans s2 (nI i)) fun s3 r2 => some (s3, r1 + r2)) (am_ls V hi) h (fun σ s2 s3 e e2 => by show bd2 (f_X12_lentSize σ (nI i)) _ = _; rw [e, bd2_s, e2, bd2_s])) (fun σ s1 s2 e e2 M => by unfold f_X12_beansSize; rw [e, bd1_s]; exact e2)
theorem am_sg5 (V : VG u) (hi : i < uS u) (h : uSo u i = 5) : AM u (fun s => f_X12_sizeOfGrass s (nI i)) [14, 13, 10] (2 * (nI (uWo u i) - 100)) :=
  AM.eq (AM.cons (f := fun s => bd1 (f_X12_begins s 14) fun s4 => bd2 (f_X12_grassSize s4 (nI i)) fun s5 r4 => some (s5, 2 * r4)) (am_gs V hi) (fun σ s1 s2 e e2 M => by show bd1 _ _ = _; rw [e, bd1_s, e2, bd2_s])) (fun σ M => by show f_X12_sizeOfGrass σ (nI i) = _; unfold f_X12_sizeOfGrass; rw [(e_sown M V hi).1, bd1_s, h, if_pos (show nI 5 = 5 from rfl)])
theorem am_sg4 (V : VG u) (hi : i < uS u) (h : uSo u i = 4) : AM u (fun s => f_X12_sizeOfGrass s (nI i)) [13, 10] (nI (uWo u i) - 100) :=
  AM.eq (am_gs V hi) (fun σ M => by show f_X12_sizeOfGrass σ (nI i) = _; unfold f_X12_sizeOfGrass; rw [(e_sown M V hi).1, bd1_s, h, if_neg (show ¬ nI 4 = 5 by decide), bd2_id])
end
/-- both sides ask alike, whatever is sown -/
theorem ask_both {u : GD} (V : VG u) {q i : Nat} (hi : i < uS u) : (∃ o w, o.length ≤ 16 ∧ AC q (uSo u i) i (uWo u i) (uRi u i) (fun s => v_Strip_askSize s q) o w ∧ AM u (fun s => f_X12_sizeOf s (nI i)) o w) ∧ (∃ o w, o.length ≤ 16 ∧ AC q (uSo u i) i (uWo u i) (uRi u i) (fun s => v_Strip_askMark s q) o w ∧ AM u (fun s => f_X12_markOf s (nI i)) o w) := by
  obtain ⟨v1, v2, v3, v4⟩ := V.2.2.2.2.1 i hi
  rcases kc ⟨v1, v2⟩ with ⟨e1, e⟩ | ⟨e1, e⟩ | ⟨e1, e⟩ | ⟨e1, e⟩ | ⟨e1, e⟩
  · refine ⟨⟨_, _, (by decide), AC.eq (ac_1s (ac_1m.eq (fun σ F => by show v_Bean_askMark σ q = _; unfold v_Bean_askMark; rw [F.2.1, e]; rfl))) (fun σ F => by show v_Strip_askSize σ q = _; unfold v_Strip_askSize; rw [F.2.1, e]; rfl), AM.eq (am_bs V hi (am_mb1 V hi e1)) (fun σ M => ?_)⟩, ⟨_, _, (by decide), AC.eq ac_1m (fun σ F => by show v_Strip_askMark σ q = _; unfold v_Strip_askMark; rw [F.2.1, e]; rfl), AM.eq (am_mb1 V hi e1) (fun σ M => ?_)⟩⟩
    · show f_X12_sizeOf σ (nI i) = _
      unfold f_X12_sizeOf
      rw [(e_sown M V hi).1, bd1_s, e1, show f_X12_in σ (nI 1) 4 5 = some 0 from rfl, bd1_s, if_pos rfl, bd1_s, if_neg (show ¬ nI 1 = 2 by decide), bd2_id]
    · show f_X12_markOf σ (nI i) = _
      unfold f_X12_markOf
      rw [(e_sown M V hi).1, bd1_s, e1, show f_X12_in σ (nI 1) 4 5 = some 0 from rfl, bd1_s, if_pos rfl, bd2_id]
  · refine ⟨⟨_, _, (by decide), AC.eq (ac_0s (ac_1s (ac_0m.eq (fun σ F => by show v_Bean_askMark σ q = _; unfold v_Bean_askMark; rw [F.2.1, e]; rfl)))) (fun σ F => by show v_Strip_askSize σ q = _; unfold v_Strip_askSize; rw [F.2.1, e]; rfl), AM.eq (AM.cons (f := fun s => bd1 (f_X12_begins s 12) fun s2 => bd2 (f_X12_beansSize s2 (nI i)) fun s3 r5 => some (s3, -r5)) (am_bs V hi (am_mb2 V hi e1)) (fun σ s1 s2 e e2 M => by show bd1 _ _ = _; rw [e, bd1_s, e2, bd2_s])) (fun σ M => ?_)⟩, ⟨_, _, (by decide), AC.eq ac_0m (fun σ F => by show v_Strip_askMark σ q = _; unfold v_Strip_askMark; rw [F.2.1, e]; rfl), AM.eq (am_mb2 V hi e1) (fun σ M => ?_)⟩⟩
    · show f_X12_sizeOf σ (nI i) = _
      unfold f_X12_sizeOf
      rw [(e_sown M V hi).1, bd1_s, e1, show f_X12_in σ (nI 2) 4 5 = some 0 from rfl, bd1_s, if_pos rfl, bd1_s, if_pos (show nI 2 = 2 from rfl)]
    · show f_X12_markOf σ (nI i) = _
      unfold f_X12_markOf
      rw [(e_sown M V hi).1, bd1_s, e1, show f_X12_in σ (nI 2) 4 5 = some 0 from rfl, bd1_s, if_pos rfl, bd2_id]
  · refine ⟨⟨_, _, (by decide), AC.eq (ac_1s (ac_7m.eq (fun σ F => by show v_Bean_askMark σ q = _; unfold v_Bean_askMark; rw [F.2.1, e]; rfl))) (fun σ F => by show v_Strip_askSize σ q = _; unfold v_Strip_askSize; rw [F.2.1, e]; rfl), AM.eq (am_bs V hi (am_mb3 V hi e1)) (fun σ M => ?_)⟩, ⟨_, _, (by decide), AC.eq ac_7m (fun σ F => by show v_Strip_askMark σ q = _; unfold v_Strip_askMark; rw [F.2.1, e]; rfl), AM.eq (am_mb3 V hi e1) (fun σ M => ?_)⟩⟩
    · show f_X12_sizeOf σ (nI i) = _
      unfold f_X12_sizeOf
      rw [(e_sown M V hi).1, bd1_s, e1, show f_X12_in σ (nI 3) 4 5 = some 0 from rfl, bd1_s, if_pos rfl, bd1_s, if_neg (show ¬ nI 3 = 2 by decide), bd2_id]
    · show f_X12_markOf σ (nI i) = _
      unfold f_X12_markOf
      rw [(e_sown M V hi).1, bd1_s, e1, show f_X12_in σ (nI 3) 4 5 = some 0 from rfl, bd1_s, if_pos rfl, bd2_id]
  · have gs : AC q (uSo u i) i (uWo u i) (uRi u i) (fun s => v_Grass_askSize s q) _ _ := ac_3s.eq (fun σ F => by show v_Grass_askSize σ q = _; unfold v_Grass_askSize; rw [F.2.1, e]; rfl)
    refine ⟨⟨_, _, (by decide), AC.eq ac_3s (fun σ F => by show v_Strip_askSize σ q = _; unfold v_Strip_askSize; rw [F.2.1, e]; rfl), AM.eq (am_sg4 V hi e1) (fun σ M => ?_)⟩, ⟨_, _, (by decide), AC.eq (ac_3m gs) (fun σ F => by show v_Strip_askMark σ q = _; unfold v_Strip_askMark; rw [F.2.1, e]; rfl), AM.eq (AM.cons (AM.two (f := fun s1 => bd2 (f_X12_lentMark s1 (nI i)) fun s2 r3 => bd2 (f_X12_sizeOfGrass s2 (nI i)) fun s3 r4 => some (s3, r3 - r4)) am_lm (am_sg4 V hi e1) (fun σ s2 s3 e e2 => by show bd2 (f_X12_lentMark σ (nI i)) _ = _; rw [e, bd2_s, e2, bd2_s])) (f := fun s => bd1 (f_X12_begins s 23) fun s1 => bd2 (f_X12_lentMark s1 (nI i)) fun s2 r3 => bd2 (f_X12_sizeOfGrass s2 (nI i)) fun s3 r4 => some (s3, r3 - r4)) (fun σ s1 s2 e e2 M => by show bd1 _ _ = _; rw [e, bd1_s]; exact e2)) (fun σ M => ?_)⟩⟩
    · show f_X12_sizeOf σ (nI i) = _
      unfold f_X12_sizeOf
      rw [(e_sown M V hi).1, bd1_s, e1, show f_X12_in σ (nI 4) 4 5 = some 1 from rfl, bd1_s, if_neg n10, bd2_id]
    · show f_X12_markOf σ (nI i) = _
      unfold f_X12_markOf
      rw [(e_sown M V hi).1, bd1_s, e1, show f_X12_in σ (nI 4) 4 5 = some 1 from rfl, bd1_s, if_neg n10]
  · have gs : AC q (uSo u i) i (uWo u i) (uRi u i) (fun s => v_Grass_askSize s q) _ _ := ac_2s.eq (fun σ F => by show v_Grass_askSize σ q = _; unfold v_Grass_askSize; rw [F.2.1, e]; rfl)
    refine ⟨⟨_, _, (by decide), AC.eq ac_2s (fun σ F => by show v_Strip_askSize σ q = _; unfold v_Strip_askSize; rw [F.2.1, e]; rfl), AM.eq (am_sg5 V hi e1) (fun σ M => ?_)⟩, ⟨_, _, (by decide), AC.eq (ac_3m gs) (fun σ F => by show v_Strip_askMark σ q = _; unfold v_Strip_askMark; rw [F.2.1, e]; rfl), AM.eq (AM.cons (AM.two (f := fun s1 => bd2 (f_X12_lentMark s1 (nI i)) fun s2 r3 => bd2 (f_X12_sizeOfGrass s2 (nI i)) fun s3 r4 => some (s3, r3 - r4)) am_lm (am_sg5 V hi e1) (fun σ s2 s3 e e2 => by show bd2 (f_X12_lentMark σ (nI i)) _ = _; rw [e, bd2_s, e2, bd2_s])) (f := fun s => bd1 (f_X12_begins s 23) fun s1 => bd2 (f_X12_lentMark s1 (nI i)) fun s2 r3 => bd2 (f_X12_sizeOfGrass s2 (nI i)) fun s3 r4 => some (s3, r3 - r4)) (fun σ s1 s2 e e2 M => by show bd1 _ _ = _; rw [e, bd1_s]; exact e2)) (fun σ M => ?_)⟩⟩
    · show f_X12_sizeOf σ (nI i) = _
      unfold f_X12_sizeOf
      rw [(e_sown M V hi).1, bd1_s, e1, show f_X12_in σ (nI 5) 4 5 = some 1 from rfl, bd1_s, if_neg n10, bd2_id]
    · show f_X12_markOf σ (nI i) = _
      unfold f_X12_markOf
      rw [(e_sown M V hi).1, bd1_s, e1, show f_X12_in σ (nI 5) 4 5 = some 1 from rfl, bd1_s, if_neg n10]
theorem rel_trace {σ σ2 : Hp} (h : Rel σ) (o : onlyI (fun q => q = 25 ∨ q = 26 ∨ q = 51 ∨ q = 66) σ σ2) (e2 : ∀ k, k ≠ 25 → gI σ2 51 k = gI σ 51 k) {l : List Int32} (hl : l.length ≤ 16) (c : TC σ2 l) (m : TM σ2 l) : Rel σ2 := by
  obtain ⟨b1, b2, b3, b4, b5, b6⟩ := h
  have k := keepG.of o (by omega)
  exact ⟨b1.of o.2, b2.of (fun q hq => o.1 q (by omega)), b3.of (by rw [o.1 13 (by omega)]) (e2 8 (by omega)) (o.1 14 (by omega)) (o.1 58 (by omega)), ⟨by rw [o.1 0 (by omega), e2 6 (by omega)]; exact b4.1, by rw [o.1 13 (by omega), e2 15 (by omega)]; exact b4.2.1, l.length, hl, c.1, m.1, fun i hi => by rw [c.2 i hi, m.2 i hi]⟩, k.land b5, k.img b6⟩
theorem ask_fin {σ : Hp} (h : Rel σ) {u : GD} {q i : Nat} {o : List Int32} {w : Int32} (M : MG (gI σ 52) u) (F : SF q (uSo u i) i (uWo u i) (uRi u i) σ) {f g : Hp → Option (Hp × Int32)} (hl : o.length ≤ 16) (hf : AC q (uSo u i) i (uWo u i) (uRi u i) f o w) (hg : AM u g o w) : ∃ σ1 σ2, f (sI σ 25 1 0) = some (σ1, w) ∧ g (sI σ1 51 25 0) = some (σ2, w) ∧ Rel σ2 ∧ onlyI (fun q => q = 25 ∨ q = 26) σ σ1 := by
  have o0 : onlyI (fun q => q = 25 ∨ q = 26) σ (sI σ 25 1 0) := onlyI.rf.st (by omega)
  obtain ⟨σ1, a1, a2, a3⟩ := hf (sI σ 25 1 0) [] ⟨by rw [gI_s, upd_s]; rfl, fun i hi => by cases hi⟩ (by show 0 + o.length ≤ 16; omega) (F.of o0)
  have oc := o0.tr a2
  have o1 : onlyI (fun q => q = 51 ∨ q = 66) σ1 (sI σ1 51 25 0) := onlyI.rf.st (by omega)
  obtain ⟨σ2, b1, b2, b3, b4⟩ := hg (sI σ1 51 25 0) [] ⟨by rw [gI_s, upd_s]; rfl, fun i hi => by cases hi⟩ (by show 0 + o.length ≤ 16; omega) (by rw [o1.1 52 (by omega), oc.1 52 (by omega)]; exact M)
  have om := o1.tr b2
  refine ⟨σ1, σ2, a1, b1, rel_trace h ((oc.mono (by omega)).tr (om.mono (by omega))) (fun k hk => ?_) (l := o) hl ?_ b4, oc⟩
  · rw [b3 k hk, gI_s, upd_n hk, oc.1 51 (by omega)]
  · exact ⟨by rw [om.1 25 (by omega)]; exact a3.1, fun i hi => by rw [om.1 26 (by omega)]; exact a3.2 i hi⟩
theorem op_ask {σ : Hp} (h : Rel σ) (x1 x2 : Int32) : Sim (f_X11_ask σ x1 x2) (fun s => f_X12_ask s x1 x2) := by
  rcases land_strip h x1 with ⟨a, b⟩ | ⟨u, i, q, rfl, hi, V, C, M, a, b, r2, r3, r4, r5, r6, ok⟩
  · refine sim_bad h ?_ ?_
    · unfold f_X11_ask
      rw [a]
      rfl
    · show f_X12_ask _ _ _ = _
      unfold f_X12_ask
      rw [b]
      rfl
  · by_cases hx : inb x2 2
    · obtain ⟨⟨o1, w1, l1, c1, m1⟩, o2, w2, l2, c2, m2⟩ := ask_both V (q := q) hi
      have F : SF q (uSo u i) i (uWo u i) (uRi u i) σ := ⟨ok, r3, r4, r5, r6⟩
      have st : ∀ σ1 : Hp, onlyI (fun q => q = 25 ∨ q = 26) σ σ1 → f_X12_isStrip σ1 (nI i) = some 1 := fun σ1 o => e_str1 (by rw [o.1 52 (by omega)]; exact M.2.2.2.2.1) V.2.1 hi
      by_cases h0 : x2 = 0
      · obtain ⟨σ1, σ2, k1, k2, k3, k4⟩ := ask_fin h M F l1 c1 m1
        refine ⟨σ1, w1, σ2, ?_, ?_, k3⟩
        · unfold f_X11_ask
          rw [a, bd1_s, opc_s, e_ud1 hx, bd1_s, if_neg n10, if_pos h0, chk_s (show okS (sI σ 25 1 0) q from ok), show v_Strip_askSize (sI σ 25 1 0) q = _ from k1, bd2_s]
        · show f_X12_ask _ _ _ = _
          unfold f_X12_ask
          rw [st σ1 k4, bd1_s, if_neg n10, e_i01 hx, bd1_s, if_neg n10, if_pos h0, show f_X12_sizeOf (sI σ1 51 25 0) (nI i) = _ from k2, bd2_s]
      · obtain ⟨σ1, σ2, k1, k2, k3, k4⟩ := ask_fin h M F l2 c2 m2
        refine ⟨σ1, w2, σ2, ?_, ?_, k3⟩
        · unfold f_X11_ask
          rw [a, bd1_s, opc_s, e_ud1 hx, bd1_s, if_neg n10, if_neg h0, chk_s (show okS (sI σ 25 1 0) q from ok), show v_Strip_askMark (sI σ 25 1 0) q = _ from k1, bd2_s]
        · show f_X12_ask _ _ _ = _
          unfold f_X12_ask
          rw [st σ1 k4, bd1_s, if_neg n10, e_i01 hx, bd1_s, if_neg n10, if_neg h0, show f_X12_markOf (sI σ1 51 25 0) (nI i) = _ from k2, bd2_s]
    · refine sim_bad h ?_ ?_
      · unfold f_X11_ask
        rw [a, bd1_s, opc_s, e_ud0 hx, bd1_s, if_pos rfl]
      · show f_X12_ask _ _ _ = _
        unfold f_X12_ask
        rw [b, bd1_s, if_neg n10, e_i00 hx, bd1_s, if_pos rfl]
