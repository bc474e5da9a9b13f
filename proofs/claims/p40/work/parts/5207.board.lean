/-! ===== the board: (columns, rows, tiles, laid), the tile on a cell, the cell under a tile, its turn, the numbers ===== -/
/-! the table of cells beside -/
/-! ===== the model's board in its memory ===== -/
def mB (s a k t : Nat) (M : eM) (B : eBd) : Prop := (M 107 0 = nI (bW B) ∧ M 107 1 = nI (bR B) ∧ M 107 2 = nI (bN B)) ∧ (∀ i, i < 3 * bN B → M 108 i = nI (bNu B i)) ∧ (∀ c, c < bC B → M a c = eO (bAt B c)) ∧ (∀ i, i < bN B → M k i = eO (bCe B i)) ∧ (∀ i c, i < bN B → bCe B i = some c → M t i = nI (bTr B i)) ∧ M s 3 = nI (bP B)
theorem mB.of {s a k t : Nat} {M M' : eM} {B : eBd} (h : mB s a k t M B) (h1 : M' 107 = M 107) (h2 : M' 108 = M 108) (h3 : M' a = M a) (h4 : M' k = M k) (h5 : M' t = M t) (h6 : M' s = M s) : mB s a k t M' B := by
  unfold mB at h ⊢
  rw [h1, h2, h3, h4, h5, h6]
  exact h

