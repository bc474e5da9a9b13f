/-! Math.max, Math.min: their words -/
theorem eMm_max1 : Cond.static Lib.Math.max.name ∈ lw_tbl := tb4 _ (List.mem_of_getElem? (i := 21) rfl)
theorem eMm_max2 : Cond.code Lib.Math.max.name Lib.Math.max.code 2 (some .int) ∈ lw_tbl := tb4 _ (List.mem_of_getElem? (i := 22) rfl)
theorem eMm_min1 : Cond.static Lib.Math.min.name ∈ lw_tbl := tb2 _ (List.mem_of_getElem? (i := 55) rfl)
theorem eMm_min2 : Cond.code Lib.Math.min.name Lib.Math.min.code 2 (some .int) ∈ lw_tbl := tb2 _ (List.mem_of_getElem? (i := 56) rfl)
theorem eMm_i : Cond.initialized "java/lang/Math" ∈ lw_tbl := tb1 _ (List.mem_of_getElem? (i := 12) rfl)
/-! the Orders' cells: draft's 36 on, the game's 52 on -/
theorem eVi {i : Int32} {N : Nat} (h : vp_in i N) : i.toNatClampNeg < N := Nat.not_le.mp fun q => h (Or.inr q)
theorem eOrdIn_36 {i : Int32} (h : vp_in i 16) : 0 ≤ 36 + i.toNatClampNeg ∧ 36 + i.toNatClampNeg < 0 + 68 := by have := eVi h; omega
theorem eOrdIn_52 {i : Int32} (h : vp_in i 16) : 0 ≤ 52 + i.toNatClampNeg ∧ 52 + i.toNatClampNeg < 0 + 68 := by have := eVi h; omega
theorem eOrdSh_36 {i : Int32} (h : vp_in i 16) : esh (36 + i.toNatClampNeg) = .inr (4, [1, 0, 0, 0, 0]) := esh_ord _ (by have := eVi h; omega)
theorem eOrdSh_52 {i : Int32} (h : vp_in i 16) : esh (52 + i.toNatClampNeg) = .inr (4, [1, 0, 0, 0, 0]) := by
  have := esh_ord (16 + i.toNatClampNeg) (by have := eVi h; omega)
  rwa [show 36 + (16 + i.toNatClampNeg) = 52 + i.toNatClampNeg by omega] at this
