def onlyN (σ σ' : Hp) : Prop := (∀ q, q ≠ 51 → gI σ' q = gI σ q) ∧ (∀ k, ¬ (9 ≤ k ∧ k ≤ 12) → gI σ' 51 k = gI σ 51 k) ∧ σ'.2.2 = σ.2.2
theorem onlyN.rf {σ : Hp} : onlyN σ σ := ⟨fun _ _ => rfl, fun _ _ => rfl, rfl⟩
theorem onlyN.tr {a b c : Hp} (h : onlyN a b) (k : onlyN b c) : onlyN a c := ⟨fun q hq => (k.1 q hq).trans (h.1 q hq), fun q hq => (k.2.1 q hq).trans (h.2.1 q hq), k.2.2.trans h.2.2⟩
theorem onlyN.st {a b : Hp} {k : Nat} {v : Int32} (h : onlyN a b) (hk : 9 ≤ k ∧ k ≤ 12) : onlyN a (sI b 51 k v) := ⟨fun q hq => (gI_n hq).trans (h.1 q hq), fun j hj => by rw [gI_s, upd_n (fun e => hj (by rw [e]; exact hk))]; exact h.2.1 j hj, h.2.2⟩
theorem onlyN.lg {a b : Hp} {q k : Nat} {v : Int64} (h : onlyN a b) : onlyN a (sJ b q k v) := h
theorem gI_sJ (σ : Hp) (q k p : Nat) (v : Int64) : gI (sJ σ q k v) p = gI σ p := rfl
theorem gJ_ss (σ : Hp) (q k : Nat) (v : Int64) : gJ (sJ σ q k v) q k = v := by rw [gJ_s, pk_uLs]
theorem MT.only {σ σ' : Hp} {T : Tp} (o : onlyN σ σ') (h : MT σ T) : MT σ' T := h.of (o.2.1 8 (by omega)) (o.1 58 (by decide))
theorem byt_in {T : Tp} {p : Nat} (h : p < T.2) : byt T p = nI (T.1 p) := if_pos h
theorem byt_out {T : Tp} {p : Nat} (h : ¬ p < T.2) : byt T p = -1 := if_neg h
/-- what the model does behind the blanks -/
def mTail (σ : Hp) : Option Hp := bd1 (f_X12_byteAt (sI σ 51 10 (gI σ 51 9)) (gI (sI σ 51 10 (gI σ 51 9)) 51 9)) fun r3 => if 0 ≤ r3 then (bd1 (f_X12_in (sI σ 51 10 (gI σ 51 9)) r3 97 122) fun r4 => if r4 = 0 then (bd1 (f_X12_in (sI σ 51 10 (gI σ 51 9)) r3 48 57) fun r5 => if r5 = 0 then (if r3 = 59 then (bnd (sI (sI (sI σ 51 10 (gI σ 51 9)) 51 11 3) 51 9 ((gI (sI (sI σ 51 10 (gI σ 51 9)) 51 11 3) 51 9) + 1)) fun s2 => some s2) else (bnd (sI (sI (sI σ 51 10 (gI σ 51 9)) 51 11 4) 51 9 ((gI (sI (sI σ 51 10 (gI σ 51 9)) 51 11 4) 51 9) + 1)) fun s1 => some s1)) else (f_X12_next_175 fu (sI (sI σ 51 10 (gI σ 51 9)) 51 12 0))) else (f_X12_next_89 fu (sJ (sI (sI σ 51 10 (gI σ 51 9)) 51 11 1) 51 13 0))) else (some (sI (sI σ 51 10 (gI σ 51 9)) 51 11 0))
theorem e_m0 {T : Tp} : ∀ (n m p : Nat) (σ : Hp), p + m = T.2 → m < n → MT σ T → gI σ 51 9 = nI p → f_X12_next_0 n σ = mTail (sI σ 51 9 (nI (skF T.1 m p))) := by
  intro n
  induction n with
  | zero =>
    intro m p σ h1 h2
    omega
  | succ n ih =>
    intro m p σ h1 h2 M hp
    have stay : sI σ 51 9 (nI p) = σ := by rw [← hp, sI_id]
    have eb : f_X12_byteAt σ (gI σ 51 9) = some (byt T p) := by rw [hp]; exact e_by M (by omega)
    rw [f_X12_next_0, eb, bd1_s]
    cases m with
    | zero =>
      show _ = mTail (sI σ 51 9 (nI p))
      rw [byt_out (by omega), if_neg (by decide), bd1_s, if_neg (by decide), stay]
      rfl
    | succ m =>
      have hb := (M.2.2 p (by omega)).1
      have nx : f_X12_next_0 n (sI σ 51 9 (gI σ 51 9 + 1)) = mTail (sI σ 51 9 (nI (skF T.1 m (p + 1)))) := by
        rw [hp, nI_1, ih m (p + 1) (sI σ 51 9 (nI (p + 1))) (by omega) (by omega) (M.st (by decide)) (by rw [gI_s, upd_s]), sI_sI]
      show _ = mTail (sI σ 51 9 (nI (if isB (T.1 p) = true then skF T.1 m (p + 1) else p)))
      rw [byt_in (by omega), nx]
      by_cases k1 : T.1 p = 32
      · rw [if_pos (show nI (T.1 p) = 32 by rw [k1]; rfl), if_pos (isB_iff.mpr (Or.inl k1))]
      · rw [if_neg (show ¬ nI (T.1 p) = 32 by show ¬ nI (T.1 p) = nI 32; rw [nI_eq (by omega) (by decide)]; exact k1), bd1_s]
        by_cases k2 : T.1 p = 10
        · rw [if_pos (show nI (T.1 p) = 10 by rw [k2]; rfl), if_pos (isB_iff.mpr (Or.inr k2))]
        · rw [if_neg (show ¬ nI (T.1 p) = 10 by show ¬ nI (T.1 p) = nI 10; rw [nI_eq (by omega) (by decide)]; exact k2), if_neg (fun z => (isB_iff.mp z).elim k1 k2), stay]
          rfl
theorem e_m89 {T : Tp} {s : Nat} : ∀ (n m p c : Nat) (σ : Hp), p + m = T.2 → m < n → s ≤ p → MT σ T → gI σ 51 9 = nI p → gI σ 51 10 = nI s → gJ σ 51 13 = lN c → ∃ σ', f_X12_next_89 n σ = some σ' ∧ onlyN σ σ' ∧ (∀ k, k ≠ 9 → gI σ' 51 k = gI σ 51 k) ∧ gI σ' 51 9 = nI (leF T.1 s m p c).1 ∧ gJ σ' 51 13 = lN (leF T.1 s m p c).2 := by
  intro n
  induction n with
  | zero =>
    intro m p c σ h1 h2
    omega
  | succ n ih =>
    intro m p c σ h1 h2 hsp M hp hs hc
    have hN := M.1
    have eb : f_X12_byteAt σ (gI σ 51 9) = some (byt T p) := by rw [hp]; exact e_by M (by omega)
    rw [f_X12_next_89, eb, bd1_s]
    cases m with
    | zero =>
      rw [(e_inE (by omega)).1, bd1_s, if_pos rfl]
      exact ⟨σ, rfl, onlyN.rf, fun _ _ => rfl, hp, hc⟩
    | succ m =>
      have hb := (M.2.2 p (by omega)).1
      have ef : leF T.1 s (m + 1) p c = if isL (T.1 p) = true then leF T.1 s m (p + 1) (if p - s < 7 then c * 256 + T.1 p else 0) else (p, c) := rfl
      rw [e_inL M (by omega), bd1_s, ef]
      cases h : isL (T.1 p) with
      | false =>
        rw [if_pos (by decide), if_neg (show ¬ false = true by decide)]
        exact ⟨σ, rfl, onlyN.rf, fun _ _ => rfl, hp, hc⟩
      | true =>
        rw [if_neg (by decide), if_pos (show true = true from rfl), hp, hs, pk_sub hsp]
        by_cases k : p - s < 7
        · rw [if_neg (show ¬ (7 : Int32) ≤ nI (p - s) from nI_ge (b := 7) k (by decide)), if_pos k, bd1_s, bnd_s, byt_in (by omega), hc, nm_sh hb, gI_sJ, hp, nI_1]
          obtain ⟨σ', e1, e2, e3, e4⟩ := ih m (p + 1) (c * 256 + T.1 p) (sI (sJ σ 51 13 (lN (c * 256 + T.1 p))) 51 9 (nI (p + 1))) (by omega) (by omega) (by omega) (M.lg.st (by decide)) (by rw [gI_s, upd_s]) (by rw [gI_s, upd_n (by decide)]; exact hs) (gJ_ss σ 51 13 (lN (c * 256 + T.1 p)))
          exact ⟨σ', e1, ((onlyN.rf.lg (q := 51) (k := 13) (v := lN (c * 256 + T.1 p))).st (by omega)).tr e2, fun k hk => by rw [e3 k hk, gI_s, upd_n hk]; rfl, e4⟩
        · rw [if_pos (show (7 : Int32) ≤ nI (p - s) from nI_le (a := 7) (by omega) (by omega)), if_neg k, gI_sJ, hp, nI_1]
          obtain ⟨σ', e1, e2, e3, e4⟩ := ih m (p + 1) 0 (sI (sJ σ 51 13 0) 51 9 (nI (p + 1))) (by omega) (by omega) (by omega) (M.lg.st (by decide)) (by rw [gI_s, upd_s]) (by rw [gI_s, upd_n (by decide)]; exact hs) (gJ_ss σ 51 13 0)
          exact ⟨σ', e1, ((onlyN.rf.lg (q := 51) (k := 13) (v := 0)).st (by omega)).tr e2, fun k hk => by rw [e3 k hk, gI_s, upd_n hk]; rfl, e4⟩
theorem e_m175 {T : Tp} {s : Nat} : ∀ (n m p v : Nat) (σ : Hp), p + m = T.2 → m < n → s ≤ p → MT σ T → gI σ 51 9 = nI p → gI σ 51 10 = nI s → gI σ 51 12 = nI v → ∃ σ', f_X12_next_175 n σ = some σ' ∧ onlyN σ σ' ∧ gI σ' 51 10 = nI s ∧ gI σ' 51 9 = nI (fiF T.1 s m p v).1 ∧ gI σ' 51 11 = nI (if (fiF T.1 s m p v).1 - s ≤ 3 then 2 else 4) ∧ gI σ' 51 12 = nI (fiF T.1 s m p v).2 := by
  intro n
  induction n with
  | zero =>
    intro m p v σ h1 h2
    omega
  | succ n ih =>
    intro m p v σ h1 h2 hsp M hp hs hv
    have hN := M.1
    have eb : f_X12_byteAt σ (gI σ 51 9) = some (byt T p) := by rw [hp]; exact e_by M (by omega)
    have fin : ∃ σ', (if 4 ≤ (nI p - nI s) then (some (sI σ 51 11 4)) else (some (sI σ 51 11 2))) = some σ' ∧ onlyN σ σ' ∧ gI σ' 51 10 = nI s ∧ gI σ' 51 9 = nI p ∧ gI σ' 51 11 = nI (if p - s ≤ 3 then 2 else 4) ∧ gI σ' 51 12 = nI v := by
      rw [pk_sub hsp]
      by_cases k : p - s ≤ 3
      · rw [if_neg (show ¬ (4 : Int32) ≤ nI (p - s) from nI_ge (b := 4) (by omega) (by decide)), if_pos k]
        exact ⟨_, rfl, onlyN.rf.st (by omega), by rw [gI_s, upd_n (by decide)]; exact hs, by rw [gI_s, upd_n (by decide)]; exact hp, by rw [gI_s, upd_s]; rfl, by rw [gI_s, upd_n (by decide)]; exact hv⟩
      · rw [if_pos (show (4 : Int32) ≤ nI (p - s) from nI_le (a := 4) (by omega) (by omega)), if_neg k]
        exact ⟨_, rfl, onlyN.rf.st (by omega), by rw [gI_s, upd_n (by decide)]; exact hs, by rw [gI_s, upd_n (by decide)]; exact hp, by rw [gI_s, upd_s]; rfl, by rw [gI_s, upd_n (by decide)]; exact hv⟩
    rw [f_X12_next_175, eb, bd1_s]
    cases m with
    | zero =>
      rw [(e_inE (by omega)).2, bd1_s, if_pos rfl, hp, hs]
      exact fin
    | succ m =>
      have hb := (M.2.2 p (by omega)).1
      have ef : fiF T.1 s (m + 1) p v = if isF (T.1 p) = true then fiF T.1 s m (p + 1) (if p - s < 3 then 10 * v + (T.1 p - 48) else v) else (p, v) := rfl
      rw [e_inF M (by omega), bd1_s, ef]
      cases h : isF (T.1 p) with
      | false =>
        rw [if_pos (by decide), if_neg (show ¬ false = true by decide), hp, hs]
        exact fin
      | true =>
        rw [if_neg (by decide), if_pos (show true = true from rfl), hp, hs, pk_sub hsp, hv]
        rw [isF_iff] at h
        by_cases k : p - s < 3
        · rw [if_neg (show ¬ (3 : Int32) ≤ nI (p - s) from nI_ge (b := 3) k (by decide)), if_pos k, bd1_s, byt_in (by omega), show (10 : Int32) = nI 10 from rfl, pk_mul, nI_add, show (48 : Int32) = nI 48 from rfl, pk_sub (by omega), show 10 * v + T.1 p - 48 = 10 * v + (T.1 p - 48) by omega, bnd_s, gI_s, upd_n (show (9 : Nat) ≠ 12 by decide), hp, nI_1]
          obtain ⟨σ', e1, e2, e4⟩ := ih m (p + 1) (10 * v + (T.1 p - 48)) (sI (sI σ 51 12 (nI (10 * v + (T.1 p - 48)))) 51 9 (nI (p + 1))) (by omega) (by omega) (by omega) ((M.st (by decide)).st (by decide)) (by rw [gI_s, upd_s]) (by rw [gI_s, upd_n (by decide), gI_s, upd_n (by decide)]; exact hs) (by rw [gI_s, upd_n (by decide), gI_s, upd_s])
          exact ⟨σ', e1, ((onlyN.rf.st (by omega)).st (by omega)).tr e2, e4⟩
        · rw [if_pos (show (3 : Int32) ≤ nI (p - s) from nI_le (a := 3) (by omega) (by omega)), if_neg k, bnd_s, gI_s, upd_n (show (9 : Nat) ≠ 12 by decide), hp, nI_1]
          obtain ⟨σ', e1, e2, e4⟩ := ih m (p + 1) v (sI (sI σ 51 12 (nI v)) 51 9 (nI (p + 1))) (by omega) (by omega) (by omega) ((M.st (by decide)).st (by decide)) (by rw [gI_s, upd_s]) (by rw [gI_s, upd_n (by decide), gI_s, upd_n (by decide)]; exact hs) (by rw [gI_s, upd_n (by decide), gI_s, upd_s])
          exact ⟨σ', e1, ((onlyN.rf.st (by omega)).st (by omega)).tr e2, e4⟩
/-- a token is read -/
def MK (σ : Hp) (T : Tp) (p : Nat) : Prop := gI σ 51 9 = nI (tE T p) ∧ gI σ 51 10 = nI (tS T p) ∧ gI σ 51 11 = nI (tK T p) ∧ (tK T p = 2 → gI σ 51 12 = nI (tV T p)) ∧ (tK T p = 1 → gJ σ 51 13 = lN (tC T p))
theorem e_mT {T : Tp} {p : Nat} {σ : Hp} (hp : p ≤ T.2) (M : MT σ T) (h : gI σ 51 9 = nI (tS T p)) : ∃ σ', mTail σ = some σ' ∧ onlyN σ σ' ∧ MK σ' T p := by
  have hs := tS_le hp
  have hN := M.1
  unfold mTail
  rw [h]
  generalize e0 : sI σ 51 10 (nI (tS T p)) = s1
  have o1 : onlyN σ s1 := by rw [← e0]; exact onlyN.rf.st (by omega)
  have M1 : MT s1 T := M.only o1
  have k9 : gI s1 51 9 = nI (tS T p) := by rw [← e0, gI_s, upd_n (by decide)]; exact h
  have k10 : gI s1 51 10 = nI (tS T p) := by rw [← e0, gI_s, upd_s]
  rw [k9, e_by M1 hs.2, bd1_s]
  unfold MK tK tE tV tC
  by_cases hE : T.2 ≤ tS T p
  · rw [byt_out (by omega), if_neg (by decide), if_pos hE, if_pos hE]
    exact ⟨_, rfl, o1.st (by omega), by rw [gI_s, upd_n (by decide)]; exact k9, by rw [gI_s, upd_n (by decide)]; exact k10, by rw [gI_s, upd_s]; rfl, fun z => by omega, fun z => by omega⟩
  · have hlt : tS T p < T.2 := by omega
    have hb := (M.2.2 _ hlt).1
    rw [e_inL M1 hlt, bd1_s, e_inF M1 hlt, bd1_s, byt_in hlt, if_pos (nI_nneg (by omega)), if_neg hE, if_neg hE]
    cases hL : isL (T.1 (tS T p)) with
    | true =>
      rw [if_neg (by decide), if_pos rfl, if_pos rfl]
      obtain ⟨σ', e1, e2, e3, e4, e5⟩ := e_m89 (s := tS T p) fu (T.2 - tS T p) (tS T p) 0 (sJ (sI s1 51 11 1) 51 13 0) (by omega) (by show _ < 512; omega) (Nat.le_refl _) (M1.st (by decide)).lg (by rw [gI_sJ, gI_s, upd_n (by decide)]; exact k9) (by rw [gI_sJ, gI_s, upd_n (by decide)]; exact k10) (gJ_ss (sI s1 51 11 1) 51 13 0)
      exact ⟨σ', e1, ((o1.st (by omega)).lg (q := 51) (k := 13) (v := 0)).tr e2, e4, by rw [e3 10 (by decide), gI_sJ, gI_s, upd_n (by decide)]; exact k10, by rw [e3 11 (by decide), gI_sJ, gI_s, upd_s]; rfl, fun z => by omega, fun _ => e5⟩
    | false =>
      rw [if_pos (by decide), if_neg (show ¬ false = true by decide), if_neg (show ¬ false = true by decide)]
      cases hF : isF (T.1 (tS T p)) with
      | true =>
        rw [if_neg (by decide), if_pos rfl, if_pos rfl]
        obtain ⟨σ', e1, e2, e3, e4, e5, e6⟩ := e_m175 (s := tS T p) fu (T.2 - tS T p) (tS T p) 0 (sI s1 51 12 0) (by omega) (by show _ < 512; omega) (Nat.le_refl _) (M1.st (by decide)) (by rw [gI_s, upd_n (by decide)]; exact k9) (by rw [gI_s, upd_n (by decide)]; exact k10) (by rw [gI_s, upd_s]; rfl)
        refine ⟨σ', e1, (o1.st (by omega)).tr e2, e4, e3, e5, fun _ => e6, fun z => ?_⟩
        by_cases q : (tFi T (tS T p)).1 - tS T p ≤ 3
        · rw [if_pos q] at z
          cases z
        · rw [if_neg q] at z
          cases z
      | false =>
        rw [if_pos (by decide), if_neg (show ¬ false = true by decide), if_neg (show ¬ false = true by decide), bnd_s, bnd_s]
        have both : ∀ v : Int32, ∀ w : Nat, v = nI w → w ≠ 2 → w ≠ 1 → ∃ σ', some (sI (sI s1 51 11 v) 51 9 (gI (sI s1 51 11 v) 51 9 + 1)) = some σ' ∧ onlyN σ σ' ∧ gI σ' 51 9 = nI (tS T p + 1) ∧ gI σ' 51 10 = nI (tS T p) ∧ gI σ' 51 11 = nI w ∧ (w = 2 → gI σ' 51 12 = nI (tFi T (tS T p)).2) ∧ (w = 1 → gJ σ' 51 13 = lN (tLe T (tS T p)).2) := by
          intro v w hv hw hw1
          refine ⟨_, rfl, (o1.st (by omega)).st (by omega), ?_, ?_, ?_, fun z => absurd z hw, fun z => absurd z hw1⟩
          · rw [gI_s, upd_s, gI_s, upd_n (by decide), k9, nI_1]
          · rw [gI_s, upd_n (by decide), gI_s, upd_n (by decide)]
            exact k10
          · rw [gI_s, upd_n (by decide), gI_s, upd_s, hv]
        by_cases h59 : T.1 (tS T p) = 59
        · rw [if_pos (show nI (T.1 (tS T p)) = 59 by rw [h59]; rfl), if_pos h59]
          exact both 3 3 rfl (by decide) (by decide)
        · rw [if_neg (show ¬ nI (T.1 (tS T p)) = 59 by show ¬ nI (T.1 (tS T p)) = nI 59; rw [nI_eq (by omega) (by decide)]; exact h59), if_neg h59]
          exact both 4 4 rfl (by decide) (by decide)
theorem e_mnext {T : Tp} {p : Nat} {σ : Hp} (hp : p ≤ T.2) (M : MT σ T) (h : gI σ 51 9 = nI p) : ∃ σ', f_X12_next σ = some σ' ∧ onlyN σ σ' ∧ MK σ' T p := by
  have e : f_X12_next σ = mTail (sI σ 51 9 (nI (tS T p))) := e_m0 (fu + 1) (T.2 - p) p σ (by omega) (by have := M.1; show _ < 512 + 1; omega) M h
  obtain ⟨σ', e1, e2, e3⟩ := e_mT hp (σ := sI σ 51 9 (nI (tS T p))) (M.st (by decide)) (by rw [gI_s, upd_s])
  exact ⟨σ', by rw [e, e1], (onlyN.rf.st (by omega)).tr e2, e3⟩
theorem tC_lt {T : Tp} {p : Nat} (hp : p ≤ T.2) (h : tK T p = 1) : tC T p < 2 ^ 62 := by
  obtain ⟨n1, n2, n3⟩ := tk_name hp h
  rw [n3]
  by_cases q : tE T p - tS T p ≤ 7
  · rw [if_pos q]
    exact Nat.lt_of_lt_of_le (cd_hi _ (fun i hi => by have := n2 i hi; omega)) (Nat.le_trans (Nat.pow_le_pow_right (by decide) q) (by decide))
  · rw [if_neg q]
    decide
theorem wcd_lt : ∀ w, w < 8 → wcd w < 2 ^ 62 := by decide +kernel
theorem e_mW {σ : Hp} {T : Tp} {w p : Nat} (hw : w < 8) (hp : p ≤ T.2) (K : MK σ T p) : f_X12_isName σ (lN (wcd w)) = some (bI (isWd T w p)) := by
  have hk := tK_le (T := T) (p := p)
  unfold f_X12_isName
  rw [K.2.2.1]
  by_cases h : tK T p = 1
  · have q : lg_cmp (lN (tC T p)) (lN (wcd w)) = 0 ↔ tC T p = wcd w := by
      rw [lg_cmp_eq]
      exact pk_lEQ (Nat.lt_trans (tC_lt hp h) (by decide)) (Nat.lt_trans (wcd_lt w hw) (by decide))
    rw [if_pos (by rw [h]; rfl), K.2.2.2.2 h]
    by_cases c : tC T p = wcd w
    · rw [if_pos (q.mpr c), bI1 (isWd_iff.mpr ⟨h, c⟩)]
    · rw [if_neg (fun z => c (q.mp z)), bI0 (Bool.eq_false_iff.mpr (fun z => c (isWd_iff.mp z).2))]
  · rw [if_neg (by show ¬ nI (tK T p) = nI 1; rw [nI_eq (by omega) (by decide)]; exact h), bI0 (Bool.eq_false_iff.mpr (fun z => h (isWd_iff.mp z).1))]
