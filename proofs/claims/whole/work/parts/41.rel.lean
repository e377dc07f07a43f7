/-! ===== what a GROUND is: DAY, how many strips and ponds, where the ends were ahead of each DAY, sorts, worths, ripes, rims and places of ponds ===== -/
abbrev GD : Type := Nat × Nat × Nat × (Nat → Nat) × (Nat → Nat) × (Nat → Nat) × (Nat → Nat) × (Nat → Nat) × (Nat → Nat) × (Nat → Nat)
def uD (u : GD) : Nat := u.1
def uS (u : GD) : Nat := u.2.1
def uP (u : GD) : Nat := u.2.2.1
def uUp (u : GD) : Nat → Nat := u.2.2.2.1
def uLo (u : GD) : Nat → Nat := u.2.2.2.2.1
def uSo (u : GD) : Nat → Nat := u.2.2.2.2.2.1
def uWo (u : GD) : Nat → Nat := u.2.2.2.2.2.2.1
def uRi (u : GD) : Nat → Nat := u.2.2.2.2.2.2.2.1
def uPr (u : GD) : Nat → Nat := u.2.2.2.2.2.2.2.2.1
def uPx (u : GD) : Nat → Nat := u.2.2.2.2.2.2.2.2.2
def opn (u : GD) (r x : Nat) : Prop := x ≤ 12 ∧ ∀ p, p < uP u → ¬ (uPr u p = r ∧ uPx u p = x)
/-- SHARE, in 55440ths -/
def shr (x a b : Nat) : Nat := if max a b ≤ x then 0 else if x < min a b then 55440 else (2 * (max a b - x) - 1) * (55440 / (2 * (max a b - min a b)))
def shr2 (so x a b : Nat) : Nat := if so = 2 then (if 55440 < 2 * shr x a b then 55440 else 0) else shr x a b
def crp (so wo ri d : Nat) : Nat := if d < ri then 0 else if so = 3 then wo - 10 * (d - ri) else if so = 4 then (if (d - ri) % 3 = 0 then wo / 2 else 0) else if d = ri then wo else if d = ri + 1 ∧ so = 5 then wo else 0
def sumN (f : Nat → Nat) : Nat → Nat
  | 0 => 0
  | n + 1 => sumN f n + f n
def gts (u : GD) (d a b : Nat) : Nat := sumN (fun i => crp (uSo u i) (uWo u i) (uRi u i) d * shr2 (uSo u i) i a b) (uS u)
def alls (u : GD) (d : Nat) : Nat := sumN (fun i => crp (uSo u i) (uWo u i) (uRi u i) d * 55440) (uS u)
def lsum (u : GD) (d : Nat) : Nat := sumN (fun k => gts u k (uUp u (k + 1)) (uLo u (k + 1))) d
def rsum (u : GD) (d : Nat) : Nat := sumN (fun k => alls u k - gts u k (uUp u (k + 1)) (uLo u (k + 1))) d
def kcode (so : Nat) : Nat := if so = 1 then 1 else if so = 2 then 0 else if so = 3 then 7 else if so = 4 then 3 else 2
def VG (u : GD) : Prop := uD u ≤ 12 ∧ uS u ≤ 12 ∧ uP u ≤ 6 ∧ (∀ d, d ≤ uD u → opn u 0 (uUp u d) ∧ opn u 1 (uLo u d)) ∧ (∀ i, i < uS u → 1 ≤ uSo u i ∧ uSo u i ≤ 5 ∧ uWo u i ≤ 99 ∧ uRi u i ≤ 11) ∧ ∀ p, p < uP u → uPr u p ≤ 1 ∧ uPx u p ≤ 12
/-- the bit of a rim's open places -/
def bitI (m : Int32) (x : Nat) : Prop := ((m >>> (nI x &&& 31)) &&& 1) = 1
def stripC (σ : Hp) (g : Nat) (u : GD) (i : Nat) : Prop := ∃ q, gR σ (g + 1) i = some q ∧ 67 ≤ q ∧ gK σ q = kcode (uSo u i) ∧ gI σ q 0 = nI i ∧ gI σ q 1 = nI (uWo u i) ∧ gI σ q 2 = nI (uRi u i)
/-- the class's GROUND at g is u, with L and R reaped so far -/
def CGw (σ : Hp) (g : Nat) (u : GD) (L R : Nat → Nat) : Prop := gI σ g 5 = 1 ∧ gI σ g 6 = nI (uS u) ∧ gI σ g 7 = nI (uP u) ∧ gI σ g 10 = nI (uD u) ∧ (∀ x, x ≤ 12 → (bitI (gI σ g 8) x ↔ opn u 0 x)) ∧ (∀ x, x ≤ 12 → (bitI (gI σ g 9) x ↔ opn u 1 x)) ∧ (∀ d, d ≤ uD u → gI σ (g + 2) d = nI (uUp u d) ∧ gI σ (g + 3) d = nI (uLo u d) ∧ gI σ (g + 4) d = nI (L d) ∧ gI σ (g + 5) d = nI (R d)) ∧ ∀ i, i < uS u → stripC σ g u i
/-- the class's GROUND at g is u -/
def CG (σ : Hp) (g : Nat) (u : GD) : Prop := CGw σ g u (lsum u) (rsum u)
/-- the model's array t is u -/
def MG (t : Nat → Int32) (u : GD) : Prop := t 0 = 1 ∧ t 1 = nI (uUp u (uD u)) ∧ t 2 = nI (uLo u (uD u)) ∧ t 3 = nI (uD u) ∧ t 4 = nI (uS u) ∧ t 5 = nI (uP u) ∧ (∀ i, i < uS u → t (6 + 3 * i) = nI (uSo u i) ∧ t (6 + 3 * i + 1) = nI (uWo u i) ∧ t (6 + 3 * i + 2) = nI (uRi u i)) ∧ (∀ p, p < uP u → t (42 + 2 * p) = nI (uPr u p) ∧ t (42 + 2 * p + 1) = nI (uPx u p)) ∧ ∀ d, d < uD u → t (54 + 2 * d) = nI (uUp u d) ∧ t (54 + 2 * d + 1) = nI (uLo u d)
def RRow (σ : Hp) : Prop := (∀ r, r < 8 → (gI σ 12 r = -1 ∧ gI σ 55 r = -1000000) ∨ (∃ L N : Nat, L ≤ 2 ∧ N ≤ 40 ∧ gI σ 11 r = nI L ∧ gI σ 55 r = nI L ∧ gI σ 12 r = nI N ∧ gI σ 56 r = nI N)) ∧ ∀ r i, r < 8 → i < 40 → gI σ (3 + r) i = gI σ 57 (40 * r + i)
def RTape (σ : Hp) : Prop := ∃ n : Nat, n ≤ 400 ∧ gI σ 13 1 = nI n ∧ gI σ 51 8 = nI n ∧ ∀ i, i < n → ∃ b : Nat, b < 256 ∧ gI σ 58 i = nI b ∧ gI σ 14 i = (nI b).toInt8.toInt32
def RMisc (σ : Hp) : Prop := gI σ 0 8 = gI σ 51 6 ∧ gI σ 13 6 = gI σ 51 15 ∧ ∃ n : Nat, n ≤ 16 ∧ gI σ 25 1 = nI n ∧ gI σ 51 25 = nI n ∧ ∀ i, i < n → gI σ 26 i = gI σ 66 i
/-- no GROUND yet -/
def Bare (σ : Hp) (g : Nat) (t : Nat → Int32) : Prop := gI σ g 5 = 0 ∧ gI σ g 6 = 0 ∧ gI σ g 7 = 0 ∧ gI σ g 10 = 0 ∧ gI σ (g + 2) 0 = 0 ∧ gI σ (g + 3) 0 = 0 ∧ t 0 = 0 ∧ t 1 = 0 ∧ t 2 = 0 ∧ t 3 = 0 ∧ t 4 = 0 ∧ t 5 = 0
def RG (σ : Hp) (g : Nat) (t : Nat → Int32) : Prop := ∃ u, VG u ∧ CG σ g u ∧ MG t u
def RLand (σ : Hp) : Prop := (lnd σ = 39 ∧ spr σ = 45 ∨ lnd σ = 45 ∧ spr σ = 39) ∧ (Bare σ (lnd σ) (gI σ 52) ∨ RG σ (lnd σ) (gI σ 52))
def RImg (σ : Hp) : Prop := (gI σ 27 5 = 0 ∧ gI σ 54 0 = 0 ∨ gI σ 54 0 = 1 ∧ RG σ 27 (fun i => gI σ 53 i)) ∧ (gI σ 33 5 = 0 ∧ gI σ 54 1 = 0 ∨ gI σ 54 1 = 1 ∧ RG σ 33 (fun i => gI σ 53 (78 + i)))
/-- STRIPS lie behind the places that both constructors laid, and all that a GROUND names is one -/
def RTop (σ : Hp) : Prop := 67 ≤ gT σ ∧ (∀ q, gT σ ≤ q → gK σ q = 99) ∧ ∀ g, isG g → ∀ k, k < 12 → okO σ (gR σ (g + 1) k)
theorem RTop.of {σ σ' : Hp} (e : σ'.2 = σ.2) (h : RTop σ) : RTop σ' := by
  rcases σ with ⟨i, r⟩
  rcases σ' with ⟨i', r'⟩
  have e : r' = r := e
  subst e
  exact h
def Rel (σ : Hp) : Prop := RTop σ ∧ RRow σ ∧ RTape σ ∧ RMisc σ ∧ RLand σ ∧ RImg σ
/-! what a relation looks at -/
theorem stripC.of {σ σ' : Hp} {g : Nat} {u : GD} {i : Nat} (hR : gR σ' (g + 1) = gR σ (g + 1)) (hK : gK σ' = gK σ) (hI : ∀ q, 67 ≤ q → gI σ' q = gI σ q) (h : stripC σ g u i) : stripC σ' g u i := by
  obtain ⟨q, h1, h2, h3, h4, h5, h6⟩ := h
  exact ⟨q, by rw [hR]; exact h1, h2, by rw [hK]; exact h3, by rw [hI q h2]; exact h4, by rw [hI q h2]; exact h5, by rw [hI q h2]; exact h6⟩
theorem CGw.of {σ σ' : Hp} {g : Nat} {u : GD} {L R : Nat → Nat} (hR : gR σ' (g + 1) = gR σ (g + 1)) (hK : gK σ' = gK σ) (hI : ∀ q, 67 ≤ q → gI σ' q = gI σ q) (h0 : gI σ' g = gI σ g) (h2 : gI σ' (g + 2) = gI σ (g + 2)) (h3 : gI σ' (g + 3) = gI σ (g + 3)) (h4 : gI σ' (g + 4) = gI σ (g + 4)) (h5 : gI σ' (g + 5) = gI σ (g + 5)) (h : CGw σ g u L R) : CGw σ' g u L R := by
  obtain ⟨a1, a2, a3, a4, a5, a6, a7, a8⟩ := h
  refine ⟨by rw [h0]; exact a1, by rw [h0]; exact a2, by rw [h0]; exact a3, by rw [h0]; exact a4, by rw [h0]; exact a5, by rw [h0]; exact a6, by rw [h2, h3, h4, h5]; exact a7, fun i hi => (a8 i hi).of hR hK hI⟩
theorem CG.of {σ σ' : Hp} {g : Nat} {u : GD} (hR : gR σ' (g + 1) = gR σ (g + 1)) (hK : gK σ' = gK σ) (hI : ∀ q, 67 ≤ q → gI σ' q = gI σ q) (h0 : gI σ' g = gI σ g) (h2 : gI σ' (g + 2) = gI σ (g + 2)) (h3 : gI σ' (g + 3) = gI σ (g + 3)) (h4 : gI σ' (g + 4) = gI σ (g + 4)) (h5 : gI σ' (g + 5) = gI σ (g + 5)) (h : CG σ g u) : CG σ' g u := CGw.of hR hK hI h0 h2 h3 h4 h5 h
theorem RG.of {σ σ' : Hp} {g : Nat} {t : Nat → Int32} (hR : gR σ' (g + 1) = gR σ (g + 1)) (hK : gK σ' = gK σ) (hI : ∀ q, 67 ≤ q → gI σ' q = gI σ q) (h0 : gI σ' g = gI σ g) (h2 : gI σ' (g + 2) = gI σ (g + 2)) (h3 : gI σ' (g + 3) = gI σ (g + 3)) (h4 : gI σ' (g + 4) = gI σ (g + 4)) (h5 : gI σ' (g + 5) = gI σ (g + 5)) (h : RG σ g t) : RG σ' g t := by
  obtain ⟨u, a1, a2, a3⟩ := h
  exact ⟨u, a1, a2.of hR hK hI h0 h2 h3 h4 h5, a3⟩
/-- the places of the class's land, its images and the strips: none of them is touched -/
def keepG (σ σ' : Hp) : Prop := σ'.2.2 = σ.2.2 ∧ (∀ q, 27 ≤ q → q ≤ 50 → gI σ' q = gI σ q) ∧ (∀ q, 67 ≤ q → gI σ' q = gI σ q) ∧ gI σ' 52 = gI σ 52 ∧ gI σ' 53 = gI σ 53 ∧ gI σ' 54 = gI σ 54
theorem keepG.land {σ σ' : Hp} (h : keepG σ σ') (hL : RLand σ) : RLand σ' := by
  obtain ⟨e1, e2, e3, e4, e5, e6⟩ := h
  have er : gR σ' = gR σ := by funext q; show σ'.2.2.1 q = σ.2.2.1 q; rw [e1]
  have ek : gK σ' = gK σ := by funext q; show σ'.2.2.2.1 q = σ.2.2.2.1 q; rw [e1]
  have el : lnd σ' = lnd σ := by unfold lnd; rw [er]
  have es : spr σ' = spr σ := by unfold spr; rw [er]
  obtain ⟨h1, h2⟩ := hL
  refine ⟨by rw [el, es]; exact h1, ?_⟩
  rw [el, e4]
  have hb : 27 ≤ lnd σ ∧ lnd σ + 5 ≤ 50 := by rcases h1 with h | h <;> omega
  rcases h2 with h | h
  · left
    unfold Bare at h ⊢
    rw [e2 (lnd σ) (by omega) (by omega), e2 (lnd σ + 2) (by omega) (by omega), e2 (lnd σ + 3) (by omega) (by omega)]
    exact h
  · right
    exact h.of (by rw [er]) ek e3 (e2 _ (by omega) (by omega)) (e2 _ (by omega) (by omega)) (e2 _ (by omega) (by omega)) (e2 _ (by omega) (by omega)) (e2 _ (by omega) (by omega))
theorem keepG.img {σ σ' : Hp} (h : keepG σ σ') (hL : RImg σ) : RImg σ' := by
  obtain ⟨e1, e2, e3, e4, e5, e6⟩ := h
  have er : gR σ' = gR σ := by funext q; show σ'.2.2.1 q = σ.2.2.1 q; rw [e1]
  have ek : gK σ' = gK σ := by funext q; show σ'.2.2.2.1 q = σ.2.2.2.1 q; rw [e1]
  obtain ⟨h1, h2⟩ := hL
  unfold RImg
  rw [e5, e6, e2 27 (by omega) (by omega), e2 33 (by omega) (by omega)]
  refine ⟨h1.imp id (fun z => ⟨z.1, z.2.of (by rw [er]) ek e3 (e2 _ (by omega) (by omega)) (e2 _ (by omega) (by omega)) (e2 _ (by omega) (by omega)) (e2 _ (by omega) (by omega)) (e2 _ (by omega) (by omega))⟩), h2.imp id (fun z => ⟨z.1, z.2.of (by rw [er]) ek e3 (e2 _ (by omega) (by omega)) (e2 _ (by omega) (by omega)) (e2 _ (by omega) (by omega)) (e2 _ (by omega) (by omega)) (e2 _ (by omega) (by omega))⟩)⟩
theorem keepG.of {S : Nat → Prop} {σ σ' : Hp} (h : onlyI S σ σ') (hS : ∀ q, S q → q < 27 ∨ q = 51 ∨ (55 ≤ q ∧ q ≤ 66)) : keepG σ σ' := by
  have k : ∀ q, ¬ (q < 27 ∨ q = 51 ∨ (55 ≤ q ∧ q ≤ 66)) → gI σ' q = gI σ q := fun q hq => h.1 q (fun z => hq (hS q z))
  exact ⟨by rw [h.2], fun q a b => k q (by omega), fun q a => k q (by omega), k 52 (by omega), k 53 (by omega), k 54 (by omega)⟩
theorem RRow.of {σ σ' : Hp} (h : ∀ q, (3 ≤ q ∧ q ≤ 12) ∨ (55 ≤ q ∧ q ≤ 57) → gI σ' q = gI σ q) (hL : RRow σ) : RRow σ' := by
  unfold RRow at hL ⊢
  rw [h 12 (by omega), h 11 (by omega), h 55 (by omega), h 56 (by omega), h 57 (by omega)]
  exact ⟨hL.1, fun r i h1 h2 => by rw [h (3 + r) (by omega)]; exact hL.2 r i h1 h2⟩
theorem RTape.of {σ σ' : Hp} (h1 : gI σ' 13 1 = gI σ 13 1) (h2 : gI σ' 51 8 = gI σ 51 8) (h3 : gI σ' 14 = gI σ 14) (h4 : gI σ' 58 = gI σ 58) (hL : RTape σ) : RTape σ' := by
  unfold RTape at hL ⊢
  rw [h1, h2, h3, h4]
  exact hL
theorem RMisc.of {σ σ' : Hp} (h1 : gI σ' 0 8 = gI σ 0 8) (h2 : gI σ' 51 6 = gI σ 51 6) (h3 : gI σ' 13 6 = gI σ 13 6) (h4 : gI σ' 51 15 = gI σ 51 15) (h5 : gI σ' 25 1 = gI σ 25 1) (h6 : gI σ' 51 25 = gI σ 51 25) (h7 : gI σ' 26 = gI σ 26) (h8 : gI σ' 66 = gI σ 66) (hL : RMisc σ) : RMisc σ' := by
  unfold RMisc at hL ⊢
  rw [h1, h2, h3, h4, h5, h6, h7, h8]
  exact hL
/-- class and model answer alike, and the relation holds behind both -/
def Sim (c : Option (Hp × Int32)) (m : Hp → Option (Hp × Int32)) : Prop := ∃ σ1 r σ2, c = some (σ1, r) ∧ m σ1 = some (σ2, r) ∧ Rel σ2
theorem Rel00 : Rel σ00 := by
  refine ⟨⟨Nat.le_refl 67, fun _ _ => rfl, fun _ _ _ _ => Or.inl rfl⟩, ⟨fun r hr => Or.inl ⟨?_, ?_⟩, fun r i h1 h2 => ?_⟩, ⟨0, by omega, rfl, rfl, fun i hi => by omega⟩, ⟨rfl, rfl, 0, by omega, rfl, rfl, fun i hi => by omega⟩, ⟨Or.inl ⟨rfl, rfl⟩, Or.inl ⟨rfl, rfl, rfl, rfl, rfl, rfl, rfl, rfl, rfl, rfl, rfl, rfl⟩⟩, Or.inl ⟨rfl, rfl⟩, Or.inl ⟨rfl, rfl⟩⟩
  · show (if r < 8 then (-1 : Int32) else 0) = -1
    rw [if_pos hr]
  · show (if r < 8 then (-1000000 : Int32) else 0) = -1000000
    rw [if_pos hr]
  · show (if 3 + r = 12 then (if i < 8 then (-1 : Int32) else 0) else if 3 + r = 55 then (if i < 8 then (-1000000) else 0) else 0) = 0
    rw [if_neg (by omega), if_neg (by omega)]
