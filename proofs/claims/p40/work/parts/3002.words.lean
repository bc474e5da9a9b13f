/-! Math.max, Math.min: their words -/
/-! the Orders' cells: draft's 36 on, the game's 52 on -/
theorem eVi {i : Int32} {N : Nat} (h : vp_in i N) : i.toNatClampNeg < N := Nat.not_le.mp fun q => h (Or.inr q)
theorem eOrdIn_36 {i : Int32} (h : vp_in i 16) : 0 ≤ 36 + i.toNatClampNeg ∧ 36 + i.toNatClampNeg < 0 + 68 := by have := eVi h; omega
theorem eOrdIn_52 {i : Int32} (h : vp_in i 16) : 0 ≤ 52 + i.toNatClampNeg ∧ 52 + i.toNatClampNeg < 0 + 68 := by have := eVi h; omega
