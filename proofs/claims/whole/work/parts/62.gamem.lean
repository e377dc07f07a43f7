/-! ===== the model's tables ===== -/
def onlyJ (S : Nat → Prop) (σ σ' : Hp) : Prop := σ'.1 = σ.1 ∧ (∀ q, ¬ S q → gJ σ' q = gJ σ q) ∧ σ'.2.2 = σ.2.2
theorem onlyJ.rf {S : Nat → Prop} {σ : Hp} : onlyJ S σ σ := ⟨rfl, fun _ _ => rfl, rfl⟩
theorem onlyJ.tr {S : Nat → Prop} {a b c : Hp} (h : onlyJ S a b) (k : onlyJ S b c) : onlyJ S a c := ⟨k.1.trans h.1, fun q hq => (k.2.1 q hq).trans (h.2.1 q hq), k.2.2.trans h.2.2⟩
theorem onlyJ.st {S : Nat → Prop} {a b : Hp} {q k : Nat} {v : Int64} (h : onlyJ S a b) (hq : S q) : onlyJ S a (sJ b q k v) := ⟨h.1, fun p hp => (gJ_n (fun e : p = q => hp (by rw [e]; exact hq))).trans (h.2.1 p hp), h.2.2⟩
theorem onlyJ.mono {S T : Nat → Prop} {a b : Hp} (h : onlyJ S a b) (hst : ∀ q, S q → T q) : onlyJ T a b := ⟨h.1, fun q hq => h.2.1 q (fun z => hq (hst q z)), h.2.2⟩
theorem onlyJ.gI {S : Nat → Prop} {a b : Hp} (h : onlyJ S a b) (q : Nat) : gI b q = gI a q := by show b.1 q = a.1 q; rw [h.1]
theorem e_fg2 {u : GD} (V : VG u) {d : Nat} (hd : d ≤ 100) : ∀ (n t : Nat) (σ : Hp), t ≤ 169 → 169 < t + n → MG (gI σ 52) u → ∃ σ', f_X12_findGains_2 (nI d) n σ (nI t) = some σ' ∧ onlyJ (fun q => q = 60) σ σ' ∧ (∀ i, t ≤ i → i < 169 → gJ σ' 60 i = lN (gts u d (i / 13) (i % 13))) ∧ ∀ i, i < t → gJ σ' 60 i = gJ σ 60 i := by
  intro n
  induction n with
  | zero =>
    intro t σ h1 h2
    omega
  | succ n ih =>
    intro t σ h1 h2 M
    rw [f_X12_findGains_2]
    by_cases ht : t = 169
    · subst ht
      rw [if_pos (by decide)]
      exact ⟨σ, rfl, onlyJ.rf, fun i a b => by omega, fun _ _ => rfl⟩
    · rw [if_neg (show ¬ (169 : Int32) ≤ nI t from nI_ge (b := 169) (by omega) (by decide)), show nI t - nI t / 13 * 13 = nI (t % 13) from pk_rem (d := 13) (by omega) (by omega) (by decide), show nI t / 13 = nI (t / 13) from pk_div (d := 13) (by omega) (by omega) (by decide), e_gets M V hd (by omega) (by omega), bd1_s, chk_s (nI_inb (by omega) (by decide)), nI_cl (by omega), nI_1]
      obtain ⟨σ', e1, e2, e3, e4⟩ := ih (t + 1) (sJ σ 60 t (lN (gts u d (t / 13) (t % 13)))) (by omega) (by omega) M
      refine ⟨σ', e1, ((onlyJ.rf (S := fun q => q = 60)).st rfl).tr e2, fun i a b => ?_, fun i hi => ?_⟩
      · by_cases hi : i = t
        · rw [e4 i (by omega), gJ_s, hi, pk_uLs]
        · exact e3 i (by omega) b
      · rw [e4 i (by omega), gJ_s, pk_uLn (by omega)]
theorem e_fg {σ : Hp} {u : GD} (V : VG u) (M : MG (gI σ 52) u) {d : Nat} (hd : d ≤ 100) : ∃ σ', f_X12_findGains σ (nI d) = some σ' ∧ onlyJ (fun q => q = 60) σ σ' ∧ ∀ x y, x ≤ 12 → y ≤ 12 → gJ σ' 60 (13 * x + y) = lN (gts u d x y) := by
  obtain ⟨σ', e1, e2, e3, -⟩ := e_fg2 V hd fu 0 σ (by omega) (by decide) M
  refine ⟨σ', e1, e2, fun x y hx hy => ?_⟩
  rw [e3 _ (by omega) (by omega), show (13 * x + y) / 13 = x by omega, show (13 * x + y) % 13 = y by omega]
