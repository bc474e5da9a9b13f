/-! Math.max, Math.min: their words -/
theorem eMm_max1 : Cond.static Lib.Math.max.name ∈ lw_tbl := tb2 _ (List.mem_of_getElem? (i := 178) rfl)
theorem eMm_max2 : Cond.code Lib.Math.max.name Lib.Math.max.code 2 (some .int) ∈ lw_tbl := tb2 _ (List.mem_of_getElem? (i := 179) rfl)
theorem eMm_min1 : Cond.static Lib.Math.min.name ∈ lw_tbl := tb2 _ (List.mem_of_getElem? (i := 59) rfl)
theorem eMm_min2 : Cond.code Lib.Math.min.name Lib.Math.min.code 2 (some .int) ∈ lw_tbl := tb2 _ (List.mem_of_getElem? (i := 60) rfl)
theorem eMm_i : Cond.initialized "java/lang/Math" ∈ lw_tbl := tb1 _ (List.mem_of_getElem? (i := 12) rfl)
/-! the Orders' cells: draft's 36 on, the game's 52 on -/
theorem eOrdSh_36 {i : Int32} (h : vp_in i 16) : esh (36 + i.toNatClampNeg) = .inr (4, [1, 0, 0, 0, 0]) := esh_ord _ (by have := eVi h; omega)
theorem eOrdSh_52 {i : Int32} (h : vp_in i 16) : esh (52 + i.toNatClampNeg) = .inr (4, [1, 0, 0, 0, 0]) := by
  have := esh_ord (16 + i.toNatClampNeg) (by have := eVi h; omega)
  rwa [show 36 + (16 + i.toNatClampNeg) = 52 + i.toNatClampNeg by omega] at this
theorem eOr_w : kW kJx29ce0_ordinal_8abf5 ∈ lw_tbl := tb3 _ (List.mem_of_getElem? (i := 231) rfl)
theorem eOr_s : Cond.sameMethod "RingDomino$Kind" "java/lang/Enum" "ordinal" "()I" ∈ lw_tbl := tb3 _ (List.mem_of_getElem? (i := 227) rfl)
theorem eOr_sel : Cond.selects "RingDomino$Kind" ⟨"RingDomino$Kind", "ordinal", "()I"⟩ ⟨"java/lang/Enum", "ordinal", "()I"⟩ ∈ lw_tbl := tb3 _ (List.mem_of_getElem? (i := 229) rfl)
theorem eOr_i : Cond.instanceMethod ⟨"java/lang/Enum", "ordinal", "()I"⟩ ∈ lw_tbl := tb3 _ (List.mem_of_getElem? (i := 230) rfl)
theorem eOr_n : Cond.initialized "java/lang/Enum" ∈ lw_tbl := tb1 _ (List.mem_of_getElem? (i := 6) rfl)
theorem eCy_n : Cond.native arraycopyName ∈ lw_tbl := tb4 _ (List.mem_of_getElem? (i := 57) rfl)
theorem eCy_s : Cond.static arraycopyName ∈ lw_tbl := tb4 _ (List.mem_of_getElem? (i := 56) rfl)
theorem eCy_i : Cond.initialized "java/lang/System" ∈ lw_tbl := tb1 _ (List.mem_of_getElem? (i := 21) rfl)
theorem lOX3_129 : Cond.methodLink RX3 129 ⟨"RingDomino$Kind", "ordinal", "()I"⟩ ∈ lw_tbl := tb5 _ (List.mem_of_getElem? (i := 191) rfl)
theorem lOX5_66 : Cond.methodLink RX5 66 ⟨"RingDomino$Kind", "ordinal", "()I"⟩ ∈ lw_tbl := tb6 _ (List.mem_of_getElem? (i := 30) rfl)
theorem lAX7_75 : Cond.methodLink RX7 75 arraycopyName ∈ lw_tbl := tb6 _ (List.mem_of_getElem? (i := 86) rfl)
theorem lAX1_142 : Cond.methodLink RX1 142 arraycopyName ∈ lw_tbl := tb4 _ (List.mem_of_getElem? (i := 55) rfl)
theorem lOX2_91 : Cond.methodLink RX2 91 ⟨"RingDomino$Kind", "ordinal", "()I"⟩ ∈ lw_tbl := tb3 _ (List.mem_of_getElem? (i := 226) rfl)

theorem lAJ7_150 : Cond.methodLink RJ7 150 arraycopyName ∈ lw_tbl := tb6 _ (List.mem_of_getElem? (i := 172) rfl)
theorem lAJ0_212 : Cond.methodLink RJ0 212 arraycopyName ∈ lw_tbl := tb6 _ (List.mem_of_getElem? (i := 234) rfl)
