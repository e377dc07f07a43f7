/-! the most over the open neighbours, and the first move that reaches it -/
theorem sI_sI (σ : Hp) (q k : Nat) (v w : Int32) : sI (sI σ q k v) q k w = sI σ q k w := by
  unfold sI
  rw [gI_rI, rI_rI]
  congr 1
  funext j
  by_cases h : j = k
  · rw [h, upd_s, upd_s]
  · rw [upd_n h, upd_n h, upd_n h]
theorem sI_id (σ : Hp) (q k : Nat) : sI σ q k (gI σ q k) = σ := by
  unfold sI
  have : upd (gI σ q) k (gI σ q k) = gI σ q := by
    funext j
    by_cases h : j = k
    · rw [h, upd_s]
    · rw [upd_n h]
  rw [this, rI_id]
/-- how the model's choice goes on: the best so far, and the move -/
def chS (o : Option (Nat × Int32)) (c : Bool) (v : Nat) (z : Int32) : Option (Nat × Int32) := if c then (match o with
  | none => some (v, z)
  | some (w, y) => if v ≤ w then some (w, y) else some (v, z)) else o
