set_option maxHeartbeats 4000000 in
set_option maxRecDepth 100000 in
theorem C_X13_errorAt (G : eG) (M : eM) (F : Int32 → eM → Prop) 
    (h : Cal G 100 40 (1, 0, 0) kX13_ok [.ref (G.1 100), .int (M 100 3)] M (eFI (fun (r1 : Int32) (M1 : eM) => F r1 M1))) :
    Cal G 100 40 (2, 0, 0) kX13_errorAt [.ref (G.1 100)] M (eFI F) := by
  refine Cal.of (by decide +kernel) rfl (Nat.le_of_ble_eq_true rfl) ?_
  show Ev (eZ G 100 40 0 0 (eFI F)) G 100 40 (2, 0, 0) kX13_errorAt 0 [(0, .ref (G.1 100))] [] M 0 0
  refine r_aload_n 0 dX13_errorAt_0 rfl rfl ?_
  refine r_aload_n 0 dX13_errorAt_1 rfl rfl ?_
  refine r_getI (c := 100) (k := 3) dX13_errorAt_2 clX13 lFX13_13 (by decide) iM100 sC100 rfl ?_
  refine r_callVI (b' := (1, 0, 0)) (c := 100) (S := []) [.int (M 100 3)] dX13_errorAt_5 mX13_ok lMX13_268 clX13 rfl iM100 sC100 rfl (by decide) (Nat.le_of_ble_eq_true rfl) h (fun r1 M1 h => ?_) rfl
  refine r_iretI dX13_errorAt_8 rfl (by decide) (by decide) h
set_option maxHeartbeats 4000000 in
set_option maxRecDepth 100000 in
theorem C_X13_cells (G : eG) (M : eM) (F : Int32 → eM → Prop) 
    (h : F ((M 107 0) * (M 107 1)) M) :
    Cal G 100 40 (1, 0, 0) kX13_cells [.ref (G.1 100)] M (eFI F) := by
  refine Cal.of (by decide +kernel) rfl (Nat.le_of_ble_eq_true rfl) ?_
  show Ev (eZ G 100 40 0 0 (eFI F)) G 100 40 (1, 0, 0) kX13_cells 0 [(0, .ref (G.1 100))] [] M 0 0
  refine r_aload_n 0 dX13_cells_0 rfl rfl ?_
  refine r_getR (c := 100) (k := 14) 107 dX13_cells_1 clX13 lFX13_35 (by decide) iM100 sC100 rfl ?_
  refine r_getNI (c := 107) (k := 0) dX13_cells_4 clX12 lFX13_245 (by decide) iM107 sC107 rfl ?_
  refine r_aload_n 0 dX13_cells_7 rfl rfl ?_
  refine r_getR (c := 100) (k := 14) 107 dX13_cells_8 clX13 lFX13_35 (by decide) iM100 sC100 rfl ?_
  refine r_getNI (c := 107) (k := 1) dX13_cells_11 clX12 lFX13_248 (by decide) iM107 sC107 rfl ?_
  refine r_imul dX13_cells_14 ?_
  refine r_iretI dX13_cells_15 rfl (by decide) (by decide) h
set_option maxHeartbeats 4000000 in
set_option maxRecDepth 100000 in
theorem C_X13_beside (G : eG) (M : eM) (F : Int32 → eM → Prop) (a1 : Int32) (a2 : Int32)
    (h : (¬ M 107 0 = 0) ∧ (vp_in a2 6 ∧ ((¬ M 107 0 = 0) ∧ (vp_in a2 6 ∧ (Cal G 100 40 (1, 0, 0) kX13_isIn [.int ((a1 - a1 / (M 107 0) * (M 107 0)) + (eCol a2.toNatClampNeg)), .int 0, .int ((M 107 0) - 1)] M (eFZ (fun (r1 : Bool) (M1 : eM) => ((r1 = false) → F (-1) M1) ∧ ((r1 = true) → Cal G 100 40 (1, 0, 0) kX13_isIn [.int ((a1 / (M 107 0)) + (eRow a2.toNatClampNeg)), .int 0, .int ((M1 107 1) - 1)] M1 (eFZ (fun (r2 : Bool) (M2 : eM) => ((r2 = false) → F (-1) M2) ∧ ((r2 = true) → F ((((a1 / (M 107 0)) + (eRow a2.toNatClampNeg)) * (M2 107 0)) + ((a1 - a1 / (M 107 0) * (M 107 0)) + (eCol a2.toNatClampNeg))) M2))))))))))) :
    Cal G 100 40 (2, 0, 0) kX13_beside [.ref (G.1 100), .int a1, .int a2] M (eFI F) := by
  refine Cal.of (by decide +kernel) rfl (Nat.le_of_ble_eq_true rfl) ?_
  show Ev (eZ G 100 40 0 0 (eFI F)) G 100 40 (2, 0, 0) kX13_beside 0 [(0, .ref (G.1 100)), (1, .int a1), (2, .int a2)] [] M 0 0
  refine r_iload_n 1 dX13_beside_0 rfl rfl ?_
  refine r_aload_n 0 dX13_beside_1 rfl rfl ?_
  refine r_getR (c := 100) (k := 14) 107 dX13_beside_2 clX13 lFX13_35 (by decide) iM100 sC100 rfl ?_
  refine r_getNI (c := 107) (k := 0) dX13_beside_5 clX12 lFX13_245 (by decide) iM107 sC107 rfl ?_
  have h1 := h.1
  replace h := h.2
  refine r_irem dX13_beside_8 h1 ?_
  refine r_gets (w := .ref (G.1 1303)) dX13_beside_9 lFX13_271 (fun h => h.2.2.2.2.2.2.2.1.1) ?_
  refine r_iload_n 2 dX13_beside_12 rfl rfl ?_
  have h1 := h.1
  replace h := h.2
  refine r_tald (tc := 1303) (f := eCol) dX13_beside_13 (fun h => h.2.2.2.2.2.2.2.1) h1 ?_
  refine r_iadd dX13_beside_14 ?_
  refine r_istore_n (l' := [(3, .int ((a1 - a1 / (M 107 0) * (M 107 0)) + (eCol a2.toNatClampNeg))), (0, .ref (G.1 100)), (1, .int a1), (2, .int a2)]) dX13_beside_15 rfl (by decide) rfl ?_
  refine r_iload_n 2 dX13_beside_16 rfl rfl ?_
  refine r_aload_n 1 dX13_beside_17 rfl rfl ?_
  refine r_getR (c := 100) (k := 14) 107 dX13_beside_18 clX13 lFX13_35 (by decide) iM100 sC100 rfl ?_
  refine r_getNI (c := 107) (k := 0) dX13_beside_21 clX12 lFX13_245 (by decide) iM107 sC107 rfl ?_
  have h1 := h.1
  replace h := h.2
  refine r_idiv dX13_beside_24 h1 ?_
  refine r_gets (w := .ref (G.1 1304)) dX13_beside_25 lFX13_274 (fun h => h.2.2.2.2.2.2.2.2.1.1) ?_
  refine r_iload_n 3 dX13_beside_28 rfl rfl ?_
  have h1 := h.1
  replace h := h.2
  refine r_tald (tc := 1304) (f := eRow) dX13_beside_29 (fun h => h.2.2.2.2.2.2.2.2.1) h1 ?_
  refine r_iadd dX13_beside_30 ?_
  refine r_istore (l' := [(4, .int ((a1 / (M 107 0)) + (eRow a2.toNatClampNeg))), (3, .int ((a1 - a1 / (M 107 0) * (M 107 0)) + (eCol a2.toNatClampNeg))), (0, .ref (G.1 100)), (1, .int a1), (2, .int a2)]) dX13_beside_31 (by decide) rfl ?_
  refine r_iload_n 1 dX13_beside_33 rfl rfl ?_
  refine r_iconst (v := 0) dX13_beside_34 rfl ?_
  refine r_aload_n 2 dX13_beside_35 rfl rfl ?_
  refine r_getR (c := 100) (k := 14) 107 dX13_beside_36 clX13 lFX13_35 (by decide) iM100 sC100 rfl ?_
  refine r_getNI (c := 107) (k := 0) dX13_beside_39 clX12 lFX13_245 (by decide) iM107 sC107 rfl ?_
  refine r_iconst (v := 1) dX13_beside_42 rfl ?_
  refine r_isub dX13_beside_43 ?_
  refine r_callSZ (b' := (1, 0, 0)) (S := []) [.int ((a1 - a1 / (M 107 0) * (M 107 0)) + (eCol a2.toNatClampNeg)), .int 0, .int ((M 107 0) - 1)] dX13_beside_44 mX13_isIn lMX13_68 rfl (by decide) (Nat.le_of_ble_eq_true rfl) h (fun r1 M1 h => ?_) rfl
  refine r_zif_eq (t := 83) dX13_beside_47 (by decide) (fun q => ?_) (fun q => ?_)
  · replace h := h.1 q
    refine r_iconst (v := (-1)) dX13_beside_83 rfl ?_
    refine r_iretI dX13_beside_84 rfl (by decide) (by decide) h
  · replace h := h.2 q
    refine r_iload 0 dX13_beside_50 rfl ?_
    refine r_iconst (v := 0) dX13_beside_52 rfl ?_
    refine r_aload_n 2 dX13_beside_53 rfl rfl ?_
    refine r_getR (c := 100) (k := 14) 107 dX13_beside_54 clX13 lFX13_35 (by decide) iM100 sC100 rfl ?_
    refine r_getNI (c := 107) (k := 1) dX13_beside_57 clX12 lFX13_248 (by decide) iM107 sC107 rfl ?_
    refine r_iconst (v := 1) dX13_beside_60 rfl ?_
    refine r_isub dX13_beside_61 ?_
    refine r_callSZ (b' := (1, 0, 0)) (S := []) [.int ((a1 / (M 107 0)) + (eRow a2.toNatClampNeg)), .int 0, .int ((M1 107 1) - 1)] dX13_beside_62 mX13_isIn lMX13_68 rfl (by decide) (Nat.le_of_ble_eq_true rfl) h (fun r2 M2 h => ?_) rfl
    refine r_zif_eq (t := 83) dX13_beside_65 (by decide) (fun q => ?_) (fun q => ?_)
    · replace h := h.1 q
      refine r_iconst (v := (-1)) dX13_beside_83 rfl ?_
      refine r_iretI dX13_beside_84 rfl (by decide) (by decide) h
    · replace h := h.2 q
      refine r_iload 0 dX13_beside_68 rfl ?_
      refine r_aload_n 2 dX13_beside_70 rfl rfl ?_
      refine r_getR (c := 100) (k := 14) 107 dX13_beside_71 clX13 lFX13_35 (by decide) iM100 sC100 rfl ?_
      refine r_getNI (c := 107) (k := 0) dX13_beside_74 clX12 lFX13_245 (by decide) iM107 sC107 rfl ?_
      refine r_imul dX13_beside_77 ?_
      refine r_iload_n 1 dX13_beside_78 rfl rfl ?_
      refine r_iadd dX13_beside_79 ?_
      refine r_goto (t := 84) dX13_beside_80 (by decide) ?_
      refine r_iretI dX13_beside_84 rfl (by decide) (by decide) h
set_option maxHeartbeats 4000000 in
set_option maxRecDepth 100000 in
theorem C_X13_tileBeside_130 (G : eG) (M : eM) (F : Int32 → eM → Prop) (a2 : Int32) (a3 : Int32)
    (h : Cal G 100 40 (2, 0, 0) kX13_beside [.ref (G.1 100), .int a2, .int a3] M (eFI (fun (r1 : Int32) (M1 : eM) => ((¬ r1 = (-1)) → vp_in r1 49 ∧ (F (M1 131 r1.toNatClampNeg) M1)) ∧ ((r1 = (-1)) → F (-1) M1)))) :
    Cal G 100 40 (3, 0, 0) kX13_tileBeside [.ref (G.1 100), .ref (G.1 130), .int a2, .int a3] M (eFI F) := by
  refine Cal.of (by decide +kernel) rfl (Nat.le_of_ble_eq_true rfl) ?_
  show Ev (eZ G 100 40 0 0 (eFI F)) G 100 40 (3, 0, 0) kX13_tileBeside 0 [(0, .ref (G.1 100)), (1, .ref (G.1 130)), (2, .int a2), (3, .int a3)] [] M 0 0
  refine r_aload_n 0 dX13_tileBeside_0 rfl rfl ?_
  refine r_iload_n 2 dX13_tileBeside_1 rfl rfl ?_
  refine r_iload_n 3 dX13_tileBeside_2 rfl rfl ?_
  refine r_callVI (b' := (2, 0, 0)) (c := 100) (S := []) [.int a2, .int a3] dX13_tileBeside_3 mX13_beside lMX13_277 clX13 rfl iM100 sC100 rfl (by decide) (Nat.le_of_ble_eq_true rfl) h (fun r1 M1 h => ?_) rfl
  refine r_istore (l' := [(4, .int r1), (0, .ref (G.1 100)), (1, .ref (G.1 130)), (2, .int a2), (3, .int a3)]) dX13_tileBeside_6 (by decide) rfl ?_
  refine r_iload 0 dX13_tileBeside_8 rfl ?_
  refine r_iconst (v := (-1)) dX13_tileBeside_10 rfl ?_
  refine r_icmp_ne (t := 18) dX13_tileBeside_11 (by decide) (fun q => ?_) (fun q => ?_)
  · replace h := h.1 q
    refine r_aload_n 2 dX13_tileBeside_18 rfl rfl ?_
    refine r_getNR (c := 130) (k := 0) 131 dX13_tileBeside_19 clX11 lFX13_280 (by decide) iM130 sC130 rfl ?_
    refine r_iload 0 dX13_tileBeside_22 rfl ?_
    have h1 := h.1
    replace h := h.2
    refine r_iald (c := 131) (N := 49) dX13_tileBeside_24 iM131 sC131 h1 ?_
    refine r_iretI dX13_tileBeside_25 rfl (by decide) (by decide) h
  · replace h := h.2 q
    refine r_iconst (v := (-1)) dX13_tileBeside_14 rfl ?_
    refine r_goto (t := 25) dX13_tileBeside_15 (by decide) ?_
    refine r_iretI dX13_tileBeside_25 rfl (by decide) (by decide) h
set_option maxHeartbeats 4000000 in
set_option maxRecDepth 100000 in
theorem C_X13_tileBeside_134 (G : eG) (M : eM) (F : Int32 → eM → Prop) (a2 : Int32) (a3 : Int32)
    (h : Cal G 100 40 (2, 0, 0) kX13_beside [.ref (G.1 100), .int a2, .int a3] M (eFI (fun (r1 : Int32) (M1 : eM) => ((¬ r1 = (-1)) → vp_in r1 49 ∧ (F (M1 135 r1.toNatClampNeg) M1)) ∧ ((r1 = (-1)) → F (-1) M1)))) :
    Cal G 100 40 (3, 0, 0) kX13_tileBeside [.ref (G.1 100), .ref (G.1 134), .int a2, .int a3] M (eFI F) := by
  refine Cal.of (by decide +kernel) rfl (Nat.le_of_ble_eq_true rfl) ?_
  show Ev (eZ G 100 40 0 0 (eFI F)) G 100 40 (3, 0, 0) kX13_tileBeside 0 [(0, .ref (G.1 100)), (1, .ref (G.1 134)), (2, .int a2), (3, .int a3)] [] M 0 0
  refine r_aload_n 0 dX13_tileBeside_0 rfl rfl ?_
  refine r_iload_n 2 dX13_tileBeside_1 rfl rfl ?_
  refine r_iload_n 3 dX13_tileBeside_2 rfl rfl ?_
  refine r_callVI (b' := (2, 0, 0)) (c := 100) (S := []) [.int a2, .int a3] dX13_tileBeside_3 mX13_beside lMX13_277 clX13 rfl iM100 sC100 rfl (by decide) (Nat.le_of_ble_eq_true rfl) h (fun r1 M1 h => ?_) rfl
  refine r_istore (l' := [(4, .int r1), (0, .ref (G.1 100)), (1, .ref (G.1 134)), (2, .int a2), (3, .int a3)]) dX13_tileBeside_6 (by decide) rfl ?_
  refine r_iload 0 dX13_tileBeside_8 rfl ?_
  refine r_iconst (v := (-1)) dX13_tileBeside_10 rfl ?_
  refine r_icmp_ne (t := 18) dX13_tileBeside_11 (by decide) (fun q => ?_) (fun q => ?_)
  · replace h := h.1 q
    refine r_aload_n 2 dX13_tileBeside_18 rfl rfl ?_
    refine r_getNR (c := 134) (k := 0) 135 dX13_tileBeside_19 clX11 lFX13_280 (by decide) iM134 sC134 rfl ?_
    refine r_iload 0 dX13_tileBeside_22 rfl ?_
    have h1 := h.1
    replace h := h.2
    refine r_iald (c := 135) (N := 49) dX13_tileBeside_24 iM135 sC135 h1 ?_
    refine r_iretI dX13_tileBeside_25 rfl (by decide) (by decide) h
  · replace h := h.2 q
    refine r_iconst (v := (-1)) dX13_tileBeside_14 rfl ?_
    refine r_goto (t := 25) dX13_tileBeside_15 (by decide) ?_
    refine r_iretI dX13_tileBeside_25 rfl (by decide) (by decide) h
set_option maxHeartbeats 4000000 in
set_option maxRecDepth 100000 in
theorem C_X13_numberOf (G : eG) (M : eM) (F : Int32 → eM → Prop) (a1 : Int32) (a2 : Int32) (a3 : Int32)
    (h : vp_in ((3 * a1) + ((((a3 - a2) + 6) - ((a3 - a2) + 6) / 6 * 6) / 2)) 51 ∧ (F (M 108 ((3 * a1) + ((((a3 - a2) + 6) - ((a3 - a2) + 6) / 6 * 6) / 2)).toNatClampNeg) M)) :
    Cal G 100 40 (1, 0, 0) kX13_numberOf [.ref (G.1 100), .int a1, .int a2, .int a3] M (eFI F) := by
  refine Cal.of (by decide +kernel) rfl (Nat.le_of_ble_eq_true rfl) ?_
  show Ev (eZ G 100 40 0 0 (eFI F)) G 100 40 (1, 0, 0) kX13_numberOf 0 [(0, .ref (G.1 100)), (1, .int a1), (2, .int a2), (3, .int a3)] [] M 0 0
  refine r_aload_n 0 dX13_numberOf_0 rfl rfl ?_
  refine r_getR (c := 100) (k := 14) 107 dX13_numberOf_1 clX13 lFX13_35 (by decide) iM100 sC100 rfl ?_
  refine r_getNR (c := 107) (k := 3) 108 dX13_numberOf_4 clX12 lFX13_214 (by decide) iM107 sC107 rfl ?_
  refine r_iconst (v := 3) dX13_numberOf_7 rfl ?_
  refine r_iload_n 1 dX13_numberOf_8 rfl rfl ?_
  refine r_imul dX13_numberOf_9 ?_
  refine r_iload_n 3 dX13_numberOf_10 rfl rfl ?_
  refine r_iload_n 2 dX13_numberOf_11 rfl rfl ?_
  refine r_isub dX13_numberOf_12 ?_
  refine r_bipush (v := 6) dX13_numberOf_13 rfl ?_
  refine r_iadd dX13_numberOf_15 ?_
  refine r_bipush (v := 6) dX13_numberOf_16 rfl ?_
  refine r_irem dX13_numberOf_18 (by decide) ?_
  refine r_iconst (v := 2) dX13_numberOf_19 rfl ?_
  refine r_idiv dX13_numberOf_20 (by decide) ?_
  refine r_iadd dX13_numberOf_21 ?_
  have h1 := h.1
  replace h := h.2
  refine r_iald (c := 108) (N := 51) dX13_numberOf_22 iM108 sC108 h1 ?_
  refine r_iretI dX13_numberOf_23 rfl (by decide) (by decide) h
set_option maxHeartbeats 4000000 in
set_option maxRecDepth 100000 in
theorem C_X13_numberAt_130 (G : eG) (M : eM) (F : Int32 → eM → Prop) (a2 : Int32) (a3 : Int32)
    (h : vp_in a2 49 ∧ (vp_in a2 49 ∧ (vp_in (M 131 a2.toNatClampNeg) 16 ∧ (Cal G 100 40 (1, 0, 0) kX13_numberOf [.ref (G.1 100), .int (M 131 a2.toNatClampNeg), .int (M 133 (M 131 a2.toNatClampNeg).toNatClampNeg), .int a3] M (eFI (fun (r1 : Int32) (M1 : eM) => F r1 M1)))))) :
    Cal G 100 40 (2, 0, 0) kX13_numberAt [.ref (G.1 100), .ref (G.1 130), .int a2, .int a3] M (eFI F) := by
  refine Cal.of (by decide +kernel) rfl (Nat.le_of_ble_eq_true rfl) ?_
  show Ev (eZ G 100 40 0 0 (eFI F)) G 100 40 (2, 0, 0) kX13_numberAt 0 [(0, .ref (G.1 100)), (1, .ref (G.1 130)), (2, .int a2), (3, .int a3)] [] M 0 0
  refine r_aload_n 0 dX13_numberAt_0 rfl rfl ?_
  refine r_aload_n 1 dX13_numberAt_1 rfl rfl ?_
  refine r_getNR (c := 130) (k := 0) 131 dX13_numberAt_2 clX11 lFX13_280 (by decide) iM130 sC130 rfl ?_
  refine r_iload_n 2 dX13_numberAt_5 rfl rfl ?_
  have h1 := h.1
  replace h := h.2
  refine r_iald (c := 131) (N := 49) dX13_numberAt_6 iM131 sC131 h1 ?_
  refine r_aload_n 1 dX13_numberAt_7 rfl rfl ?_
  refine r_getNR (c := 130) (k := 2) 133 dX13_numberAt_8 clX11 lFX13_283 (by decide) iM130 sC130 rfl ?_
  refine r_aload_n 1 dX13_numberAt_11 rfl rfl ?_
  refine r_getNR (c := 130) (k := 0) 131 dX13_numberAt_12 clX11 lFX13_280 (by decide) iM130 sC130 rfl ?_
  refine r_iload_n 2 dX13_numberAt_15 rfl rfl ?_
  have h1 := h.1
  replace h := h.2
  refine r_iald (c := 131) (N := 49) dX13_numberAt_16 iM131 sC131 h1 ?_
  have h1 := h.1
  replace h := h.2
  refine r_iald (c := 133) (N := 16) dX13_numberAt_17 iM133 sC133 h1 ?_
  refine r_iload_n 3 dX13_numberAt_18 rfl rfl ?_
  refine r_callVI (b' := (1, 0, 0)) (c := 100) (S := []) [.int (M 131 a2.toNatClampNeg), .int (M 133 (M 131 a2.toNatClampNeg).toNatClampNeg), .int a3] dX13_numberAt_19 mX13_numberOf lMX13_286 clX13 rfl iM100 sC100 rfl (by decide) (Nat.le_of_ble_eq_true rfl) h (fun r1 M1 h => ?_) rfl
  refine r_iretI dX13_numberAt_22 rfl (by decide) (by decide) h
set_option maxHeartbeats 4000000 in
set_option maxRecDepth 100000 in
theorem C_X13_numberAt_134 (G : eG) (M : eM) (F : Int32 → eM → Prop) (a2 : Int32) (a3 : Int32)
    (h : vp_in a2 49 ∧ (vp_in a2 49 ∧ (vp_in (M 135 a2.toNatClampNeg) 16 ∧ (Cal G 100 40 (1, 0, 0) kX13_numberOf [.ref (G.1 100), .int (M 135 a2.toNatClampNeg), .int (M 137 (M 135 a2.toNatClampNeg).toNatClampNeg), .int a3] M (eFI (fun (r1 : Int32) (M1 : eM) => F r1 M1)))))) :
    Cal G 100 40 (2, 0, 0) kX13_numberAt [.ref (G.1 100), .ref (G.1 134), .int a2, .int a3] M (eFI F) := by
  refine Cal.of (by decide +kernel) rfl (Nat.le_of_ble_eq_true rfl) ?_
  show Ev (eZ G 100 40 0 0 (eFI F)) G 100 40 (2, 0, 0) kX13_numberAt 0 [(0, .ref (G.1 100)), (1, .ref (G.1 134)), (2, .int a2), (3, .int a3)] [] M 0 0
  refine r_aload_n 0 dX13_numberAt_0 rfl rfl ?_
  refine r_aload_n 1 dX13_numberAt_1 rfl rfl ?_
  refine r_getNR (c := 134) (k := 0) 135 dX13_numberAt_2 clX11 lFX13_280 (by decide) iM134 sC134 rfl ?_
  refine r_iload_n 2 dX13_numberAt_5 rfl rfl ?_
  have h1 := h.1
  replace h := h.2
  refine r_iald (c := 135) (N := 49) dX13_numberAt_6 iM135 sC135 h1 ?_
  refine r_aload_n 1 dX13_numberAt_7 rfl rfl ?_
  refine r_getNR (c := 134) (k := 2) 137 dX13_numberAt_8 clX11 lFX13_283 (by decide) iM134 sC134 rfl ?_
  refine r_aload_n 1 dX13_numberAt_11 rfl rfl ?_
  refine r_getNR (c := 134) (k := 0) 135 dX13_numberAt_12 clX11 lFX13_280 (by decide) iM134 sC134 rfl ?_
  refine r_iload_n 2 dX13_numberAt_15 rfl rfl ?_
  have h1 := h.1
  replace h := h.2
  refine r_iald (c := 135) (N := 49) dX13_numberAt_16 iM135 sC135 h1 ?_
  have h1 := h.1
  replace h := h.2
  refine r_iald (c := 137) (N := 16) dX13_numberAt_17 iM137 sC137 h1 ?_
  refine r_iload_n 3 dX13_numberAt_18 rfl rfl ?_
  refine r_callVI (b' := (1, 0, 0)) (c := 100) (S := []) [.int (M 135 a2.toNatClampNeg), .int (M 137 (M 135 a2.toNatClampNeg).toNatClampNeg), .int a3] dX13_numberAt_19 mX13_numberOf lMX13_286 clX13 rfl iM100 sC100 rfl (by decide) (Nat.le_of_ble_eq_true rfl) h (fun r1 M1 h => ?_) rfl
  refine r_iretI dX13_numberAt_22 rfl (by decide) (by decide) h
set_option maxHeartbeats 4000000 in
set_option maxRecDepth 100000 in
theorem B_X13_against_130_61 (G : eG) (M : eM) (F : Int32 → eM → Prop) (x2 : Int32) (x3 : Int32) (x4 : Int32) (x5 : Int32)
    (h : Ev (eZ G 100 40 0 0 (eFI F)) G 100 40 (4, 0, 0) kX13_against 3 [(0, .ref (G.1 100)), (1, .ref (G.1 130)), (2, .int x2), (3, .int x3), (4, .int x4), (5, .int (x5 + 1))] [] M 0 0) :
    Ev (eZ G 100 40 0 0 (eFI F)) G 100 40 (4, 0, 0) kX13_against 61 [(0, .ref (G.1 100)), (1, .ref (G.1 130)), (2, .int x2), (3, .int x3), (4, .int x4), (5, .int x5)] [] M 0 0 := by
  refine r_iinc (v := x5 + 1) (l' := [(5, .int (x5 + 1)), (0, .ref (G.1 100)), (1, .ref (G.1 130)), (2, .int x2), (3, .int x3), (4, .int x4)]) 5 dX13_against_61 rfl rfl (by decide) rfl ?_
  refine r_goto (t := 3) dX13_against_64 (by decide) ?_
  exact Ev.sub (ks := [1, 2, 3, 4, 5, 0]) rfl h
set_option maxHeartbeats 4000000 in
set_option maxRecDepth 100000 in
theorem B_X13_against_130_3 (G : eG) (M : eM) (F : Int32 → eM → Prop) (x2 : Int32) (x3 : Int32) (x4 : Int32) (x5 : Int32)
    (h : ((6 ≤ x5) → F (-1) M) ∧ ((¬ 6 ≤ x5) → Cal G 100 40 (3, 0, 0) kX13_tileBeside [.ref (G.1 100), .ref (G.1 130), .int x3, .int x5] M (eFI (fun (r1 : Int32) (M1 : eM) => ((r1 = (-1)) → Ev (eZ G 100 40 0 0 (eFI F)) G 100 40 (4, 0, 0) kX13_against 61 [(0, .ref (G.1 100)), (1, .ref (G.1 130)), (2, .int x2), (3, .int x3), (4, .int x4), (5, .int x5)] [] M1 0 0) ∧ ((¬ r1 = (-1)) → vp_in r1 16 ∧ (Cal G 100 40 (1, 0, 0) kX13_numberOf [.ref (G.1 100), .int r1, .int (M1 133 r1.toNatClampNeg), .int ((x5 + 3) - (x5 + 3) / 6 * 6)] M1 (eFI (fun (r2 : Int32) (M2 : eM) => Cal G 100 40 (1, 0, 0) kX13_numberOf [.ref (G.1 100), .int x2, .int x4, .int x5] M2 (eFI (fun (r3 : Int32) (M3 : eM) => ((r2 = r3) → Ev (eZ G 100 40 0 0 (eFI F)) G 100 40 (4, 0, 0) kX13_against 61 [(0, .ref (G.1 100)), (1, .ref (G.1 130)), (2, .int x2), (3, .int x3), (4, .int x4), (5, .int x5)] [] M3 0 0) ∧ ((¬ r2 = r3) → F x5 M3))))))))))) :
    Ev (eZ G 100 40 0 0 (eFI F)) G 100 40 (4, 0, 0) kX13_against 3 [(0, .ref (G.1 100)), (1, .ref (G.1 130)), (2, .int x2), (3, .int x3), (4, .int x4), (5, .int x5)] [] M 0 0 := by
  refine r_iload 5 dX13_against_3 rfl ?_
  refine r_bipush (v := 6) dX13_against_5 rfl ?_
  refine r_icmp_ge (t := 67) dX13_against_7 (by decide) (fun q => ?_) (fun q => ?_)
  · replace h := h.1 q
    refine r_iconst (v := (-1)) dX13_against_67 rfl ?_
    refine r_iretI dX13_against_68 rfl (by decide) (by decide) h
  · replace h := h.2 q
    refine r_aload_n 0 dX13_against_10 rfl rfl ?_
    refine r_aload_n 1 dX13_against_11 rfl rfl ?_
    refine r_iload_n 3 dX13_against_12 rfl rfl ?_
    refine r_iload 5 dX13_against_13 rfl ?_
    refine r_callVI (b' := (3, 0, 0)) (c := 100) (S := []) [.ref (G.1 130), .int x3, .int x5] dX13_against_15 mX13_tileBeside lMX13_289 clX13 rfl iM100 sC100 rfl (by decide) (Nat.le_of_ble_eq_true rfl) h (fun r1 M1 h => ?_) rfl
    refine r_istore (l' := [(6, .int r1), (0, .ref (G.1 100)), (1, .ref (G.1 130)), (2, .int x2), (3, .int x3), (4, .int x4), (5, .int x5)]) dX13_against_18 (by decide) rfl ?_
    refine r_iload 0 dX13_against_20 rfl ?_
    refine r_iconst (v := (-1)) dX13_against_22 rfl ?_
    refine r_icmp_eq (t := 61) dX13_against_23 (by decide) (fun q => ?_) (fun q => ?_)
    · replace h := h.1 q
      exact Ev.sub (ks := [1, 2, 3, 4, 5, 6]) rfl h
    · replace h := h.2 q
      refine r_aload_n 1 dX13_against_26 rfl rfl ?_
      refine r_iload 0 dX13_against_27 rfl ?_
      refine r_aload_n 2 dX13_against_29 rfl rfl ?_
      refine r_getNR (c := 130) (k := 2) 133 dX13_against_30 clX11 lFX13_283 (by decide) iM130 sC130 rfl ?_
      refine r_iload 0 dX13_against_33 rfl ?_
      have h1 := h.1
      replace h := h.2
      refine r_iald (c := 133) (N := 16) dX13_against_35 iM133 sC133 h1 ?_
      refine r_iload 6 dX13_against_36 rfl ?_
      refine r_iconst (v := 3) dX13_against_38 rfl ?_
      refine r_iadd dX13_against_39 ?_
      refine r_bipush (v := 6) dX13_against_40 rfl ?_
      refine r_irem dX13_against_42 (by decide) ?_
      refine r_callVI (b' := (1, 0, 0)) (c := 100) (S := []) [.int r1, .int (M1 133 r1.toNatClampNeg), .int ((x5 + 3) - (x5 + 3) / 6 * 6)] dX13_against_43 mX13_numberOf lMX13_286 clX13 rfl iM100 sC100 rfl (by decide) (Nat.le_of_ble_eq_true rfl) h (fun r2 M2 h => ?_) rfl
      refine r_aload_n 1 dX13_against_46 rfl rfl ?_
      refine r_iload_n 3 dX13_against_47 rfl rfl ?_
      refine r_iload 5 dX13_against_48 rfl ?_
      refine r_iload 6 dX13_against_50 rfl ?_
      refine r_callVI (b' := (1, 0, 0)) (c := 100) (S := [.int r2]) [.int x2, .int x4, .int x5] dX13_against_52 mX13_numberOf lMX13_286 clX13 rfl iM100 sC100 rfl (by decide) (Nat.le_of_ble_eq_true rfl) h (fun r3 M3 h => ?_) rfl
      refine r_icmp_eq (t := 61) dX13_against_55 (by decide) (fun q => ?_) (fun q => ?_)
      · replace h := h.1 q
        exact Ev.sub (ks := [1, 2, 3, 4, 5, 6]) rfl h
      · replace h := h.2 q
        refine r_iload 6 dX13_against_58 rfl ?_
        refine r_iretI dX13_against_60 rfl (by decide) (by decide) h
set_option maxHeartbeats 4000000 in
set_option maxRecDepth 100000 in
theorem C_X13_against_130 (G : eG) (M : eM) (F : Int32 → eM → Prop) (a2 : Int32) (a3 : Int32) (a4 : Int32)
    (h : Ev (eZ G 100 40 0 0 (eFI F)) G 100 40 (4, 0, 0) kX13_against 3 [(0, .ref (G.1 100)), (1, .ref (G.1 130)), (2, .int a2), (3, .int a3), (4, .int a4), (5, .int 0)] [] M 0 0) :
    Cal G 100 40 (4, 0, 0) kX13_against [.ref (G.1 100), .ref (G.1 130), .int a2, .int a3, .int a4] M (eFI F) := by
  refine Cal.of (by decide +kernel) rfl (Nat.le_of_ble_eq_true rfl) ?_
  show Ev (eZ G 100 40 0 0 (eFI F)) G 100 40 (4, 0, 0) kX13_against 0 [(0, .ref (G.1 100)), (1, .ref (G.1 130)), (2, .int a2), (3, .int a3), (4, .int a4)] [] M 0 0
  refine r_iconst (v := 0) dX13_against_0 rfl ?_
  refine r_istore (l' := [(5, .int 0), (0, .ref (G.1 100)), (1, .ref (G.1 130)), (2, .int a2), (3, .int a3), (4, .int a4)]) dX13_against_1 (by decide) rfl ?_
  exact Ev.sub (ks := [1, 2, 3, 4, 5, 0]) rfl h
set_option maxHeartbeats 4000000 in
set_option maxRecDepth 100000 in
theorem B_X13_against_134_61 (G : eG) (M : eM) (F : Int32 → eM → Prop) (x2 : Int32) (x3 : Int32) (x4 : Int32) (x5 : Int32)
    (h : Ev (eZ G 100 40 0 0 (eFI F)) G 100 40 (4, 0, 0) kX13_against 3 [(0, .ref (G.1 100)), (1, .ref (G.1 134)), (2, .int x2), (3, .int x3), (4, .int x4), (5, .int (x5 + 1))] [] M 0 0) :
    Ev (eZ G 100 40 0 0 (eFI F)) G 100 40 (4, 0, 0) kX13_against 61 [(0, .ref (G.1 100)), (1, .ref (G.1 134)), (2, .int x2), (3, .int x3), (4, .int x4), (5, .int x5)] [] M 0 0 := by
  refine r_iinc (v := x5 + 1) (l' := [(5, .int (x5 + 1)), (0, .ref (G.1 100)), (1, .ref (G.1 134)), (2, .int x2), (3, .int x3), (4, .int x4)]) 5 dX13_against_61 rfl rfl (by decide) rfl ?_
  refine r_goto (t := 3) dX13_against_64 (by decide) ?_
  exact Ev.sub (ks := [1, 2, 3, 4, 5, 0]) rfl h
set_option maxHeartbeats 4000000 in
set_option maxRecDepth 100000 in
theorem B_X13_against_134_3 (G : eG) (M : eM) (F : Int32 → eM → Prop) (x2 : Int32) (x3 : Int32) (x4 : Int32) (x5 : Int32)
    (h : ((6 ≤ x5) → F (-1) M) ∧ ((¬ 6 ≤ x5) → Cal G 100 40 (3, 0, 0) kX13_tileBeside [.ref (G.1 100), .ref (G.1 134), .int x3, .int x5] M (eFI (fun (r1 : Int32) (M1 : eM) => ((r1 = (-1)) → Ev (eZ G 100 40 0 0 (eFI F)) G 100 40 (4, 0, 0) kX13_against 61 [(0, .ref (G.1 100)), (1, .ref (G.1 134)), (2, .int x2), (3, .int x3), (4, .int x4), (5, .int x5)] [] M1 0 0) ∧ ((¬ r1 = (-1)) → vp_in r1 16 ∧ (Cal G 100 40 (1, 0, 0) kX13_numberOf [.ref (G.1 100), .int r1, .int (M1 137 r1.toNatClampNeg), .int ((x5 + 3) - (x5 + 3) / 6 * 6)] M1 (eFI (fun (r2 : Int32) (M2 : eM) => Cal G 100 40 (1, 0, 0) kX13_numberOf [.ref (G.1 100), .int x2, .int x4, .int x5] M2 (eFI (fun (r3 : Int32) (M3 : eM) => ((r2 = r3) → Ev (eZ G 100 40 0 0 (eFI F)) G 100 40 (4, 0, 0) kX13_against 61 [(0, .ref (G.1 100)), (1, .ref (G.1 134)), (2, .int x2), (3, .int x3), (4, .int x4), (5, .int x5)] [] M3 0 0) ∧ ((¬ r2 = r3) → F x5 M3))))))))))) :
    Ev (eZ G 100 40 0 0 (eFI F)) G 100 40 (4, 0, 0) kX13_against 3 [(0, .ref (G.1 100)), (1, .ref (G.1 134)), (2, .int x2), (3, .int x3), (4, .int x4), (5, .int x5)] [] M 0 0 := by
  refine r_iload 5 dX13_against_3 rfl ?_
  refine r_bipush (v := 6) dX13_against_5 rfl ?_
  refine r_icmp_ge (t := 67) dX13_against_7 (by decide) (fun q => ?_) (fun q => ?_)
  · replace h := h.1 q
    refine r_iconst (v := (-1)) dX13_against_67 rfl ?_
    refine r_iretI dX13_against_68 rfl (by decide) (by decide) h
  · replace h := h.2 q
    refine r_aload_n 0 dX13_against_10 rfl rfl ?_
    refine r_aload_n 1 dX13_against_11 rfl rfl ?_
    refine r_iload_n 3 dX13_against_12 rfl rfl ?_
    refine r_iload 5 dX13_against_13 rfl ?_
    refine r_callVI (b' := (3, 0, 0)) (c := 100) (S := []) [.ref (G.1 134), .int x3, .int x5] dX13_against_15 mX13_tileBeside lMX13_289 clX13 rfl iM100 sC100 rfl (by decide) (Nat.le_of_ble_eq_true rfl) h (fun r1 M1 h => ?_) rfl
    refine r_istore (l' := [(6, .int r1), (0, .ref (G.1 100)), (1, .ref (G.1 134)), (2, .int x2), (3, .int x3), (4, .int x4), (5, .int x5)]) dX13_against_18 (by decide) rfl ?_
    refine r_iload 0 dX13_against_20 rfl ?_
    refine r_iconst (v := (-1)) dX13_against_22 rfl ?_
    refine r_icmp_eq (t := 61) dX13_against_23 (by decide) (fun q => ?_) (fun q => ?_)
    · replace h := h.1 q
      exact Ev.sub (ks := [1, 2, 3, 4, 5, 6]) rfl h
    · replace h := h.2 q
      refine r_aload_n 1 dX13_against_26 rfl rfl ?_
      refine r_iload 0 dX13_against_27 rfl ?_
      refine r_aload_n 2 dX13_against_29 rfl rfl ?_
      refine r_getNR (c := 134) (k := 2) 137 dX13_against_30 clX11 lFX13_283 (by decide) iM134 sC134 rfl ?_
      refine r_iload 0 dX13_against_33 rfl ?_
      have h1 := h.1
      replace h := h.2
      refine r_iald (c := 137) (N := 16) dX13_against_35 iM137 sC137 h1 ?_
      refine r_iload 6 dX13_against_36 rfl ?_
      refine r_iconst (v := 3) dX13_against_38 rfl ?_
      refine r_iadd dX13_against_39 ?_
      refine r_bipush (v := 6) dX13_against_40 rfl ?_
      refine r_irem dX13_against_42 (by decide) ?_
      refine r_callVI (b' := (1, 0, 0)) (c := 100) (S := []) [.int r1, .int (M1 137 r1.toNatClampNeg), .int ((x5 + 3) - (x5 + 3) / 6 * 6)] dX13_against_43 mX13_numberOf lMX13_286 clX13 rfl iM100 sC100 rfl (by decide) (Nat.le_of_ble_eq_true rfl) h (fun r2 M2 h => ?_) rfl
      refine r_aload_n 1 dX13_against_46 rfl rfl ?_
      refine r_iload_n 3 dX13_against_47 rfl rfl ?_
      refine r_iload 5 dX13_against_48 rfl ?_
      refine r_iload 6 dX13_against_50 rfl ?_
      refine r_callVI (b' := (1, 0, 0)) (c := 100) (S := [.int r2]) [.int x2, .int x4, .int x5] dX13_against_52 mX13_numberOf lMX13_286 clX13 rfl iM100 sC100 rfl (by decide) (Nat.le_of_ble_eq_true rfl) h (fun r3 M3 h => ?_) rfl
      refine r_icmp_eq (t := 61) dX13_against_55 (by decide) (fun q => ?_) (fun q => ?_)
      · replace h := h.1 q
        exact Ev.sub (ks := [1, 2, 3, 4, 5, 6]) rfl h
      · replace h := h.2 q
        refine r_iload 6 dX13_against_58 rfl ?_
        refine r_iretI dX13_against_60 rfl (by decide) (by decide) h
set_option maxHeartbeats 4000000 in
set_option maxRecDepth 100000 in
theorem C_X13_against_134 (G : eG) (M : eM) (F : Int32 → eM → Prop) (a2 : Int32) (a3 : Int32) (a4 : Int32)
    (h : Ev (eZ G 100 40 0 0 (eFI F)) G 100 40 (4, 0, 0) kX13_against 3 [(0, .ref (G.1 100)), (1, .ref (G.1 134)), (2, .int a2), (3, .int a3), (4, .int a4), (5, .int 0)] [] M 0 0) :
    Cal G 100 40 (4, 0, 0) kX13_against [.ref (G.1 100), .ref (G.1 134), .int a2, .int a3, .int a4] M (eFI F) := by
  refine Cal.of (by decide +kernel) rfl (Nat.le_of_ble_eq_true rfl) ?_
  show Ev (eZ G 100 40 0 0 (eFI F)) G 100 40 (4, 0, 0) kX13_against 0 [(0, .ref (G.1 100)), (1, .ref (G.1 134)), (2, .int a2), (3, .int a3), (4, .int a4)] [] M 0 0
  refine r_iconst (v := 0) dX13_against_0 rfl ?_
  refine r_istore (l' := [(5, .int 0), (0, .ref (G.1 100)), (1, .ref (G.1 134)), (2, .int a2), (3, .int a3), (4, .int a4)]) dX13_against_1 (by decide) rfl ?_
  exact Ev.sub (ks := [1, 2, 3, 4, 5, 0]) rfl h
set_option maxHeartbeats 4000000 in
set_option maxRecDepth 100000 in
theorem B_X13_tilesBeside_130_5 (G : eG) (M : eM) (F : Int32 → eM → Prop) (x2 : Int32) (x3 : Int32) (x4 : Int32)
    (h : ((6 ≤ x4) → F x3 M) ∧ ((¬ 6 ≤ x4) → Cal G 100 40 (3, 0, 0) kX13_tileBeside [.ref (G.1 100), .ref (G.1 130), .int x2, .int x4] M (eFI (fun (r1 : Int32) (M1 : eM) => ((¬ r1 = (-1)) → Ev (eZ G 100 40 0 0 (eFI F)) G 100 40 (4, 0, 0) kX13_tilesBeside 5 [(0, .ref (G.1 100)), (1, .ref (G.1 130)), (2, .int x2), (3, .int (x3 + 1)), (4, .int (x4 + 1))] [] M1 0 0) ∧ ((r1 = (-1)) → Ev (eZ G 100 40 0 0 (eFI F)) G 100 40 (4, 0, 0) kX13_tilesBeside 5 [(0, .ref (G.1 100)), (1, .ref (G.1 130)), (2, .int x2), (3, .int (x3 + 0)), (4, .int (x4 + 1))] [] M1 0 0))))) :
    Ev (eZ G 100 40 0 0 (eFI F)) G 100 40 (4, 0, 0) kX13_tilesBeside 5 [(0, .ref (G.1 100)), (1, .ref (G.1 130)), (2, .int x2), (3, .int x3), (4, .int x4)] [] M 0 0 := by
  refine r_iload 4 dX13_tilesBeside_5 rfl ?_
  refine r_bipush (v := 6) dX13_tilesBeside_7 rfl ?_
  refine r_icmp_ge (t := 38) dX13_tilesBeside_9 (by decide) (fun q => ?_) (fun q => ?_)
  · replace h := h.1 q
    refine r_iload_n 3 dX13_tilesBeside_38 rfl rfl ?_
    refine r_iretI dX13_tilesBeside_39 rfl (by decide) (by decide) h
  · replace h := h.2 q
    refine r_iload_n 3 dX13_tilesBeside_12 rfl rfl ?_
    refine r_aload_n 0 dX13_tilesBeside_13 rfl rfl ?_
    refine r_aload_n 1 dX13_tilesBeside_14 rfl rfl ?_
    refine r_iload_n 2 dX13_tilesBeside_15 rfl rfl ?_
    refine r_iload 4 dX13_tilesBeside_16 rfl ?_
    refine r_callVI (b' := (3, 0, 0)) (c := 100) (S := [.int x3]) [.ref (G.1 130), .int x2, .int x4] dX13_tilesBeside_18 mX13_tileBeside lMX13_289 clX13 rfl iM100 sC100 rfl (by decide) (Nat.le_of_ble_eq_true rfl) h (fun r1 M1 h => ?_) rfl
    refine r_iconst (v := (-1)) dX13_tilesBeside_21 rfl ?_
    refine r_icmp_ne (t := 29) dX13_tilesBeside_22 (by decide) (fun q => ?_) (fun q => ?_)
    · replace h := h.1 q
      refine r_iconst (v := 1) dX13_tilesBeside_29 rfl ?_
      refine r_iadd dX13_tilesBeside_30 ?_
      refine r_istore_n (l' := [(3, .int (x3 + 1)), (0, .ref (G.1 100)), (1, .ref (G.1 130)), (2, .int x2), (4, .int x4)]) dX13_tilesBeside_31 rfl (by decide) rfl ?_
      refine r_iinc (v := x4 + 1) (l' := [(4, .int (x4 + 1)), (3, .int (x3 + 1)), (0, .ref (G.1 100)), (1, .ref (G.1 130)), (2, .int x2)]) 4 dX13_tilesBeside_32 rfl rfl (by decide) rfl ?_
      refine r_goto (t := 5) dX13_tilesBeside_35 (by decide) ?_
      exact Ev.sub (ks := [2, 3, 4, 1, 0]) rfl h
    · replace h := h.2 q
      refine r_iconst (v := 0) dX13_tilesBeside_25 rfl ?_
      refine r_goto (t := 30) dX13_tilesBeside_26 (by decide) ?_
      refine r_iadd dX13_tilesBeside_30 ?_
      refine r_istore_n (l' := [(3, .int (x3 + 0)), (0, .ref (G.1 100)), (1, .ref (G.1 130)), (2, .int x2), (4, .int x4)]) dX13_tilesBeside_31 rfl (by decide) rfl ?_
      refine r_iinc (v := x4 + 1) (l' := [(4, .int (x4 + 1)), (3, .int (x3 + 0)), (0, .ref (G.1 100)), (1, .ref (G.1 130)), (2, .int x2)]) 4 dX13_tilesBeside_32 rfl rfl (by decide) rfl ?_
      refine r_goto (t := 5) dX13_tilesBeside_35 (by decide) ?_
      exact Ev.sub (ks := [2, 3, 4, 1, 0]) rfl h
set_option maxHeartbeats 4000000 in
set_option maxRecDepth 100000 in
theorem C_X13_tilesBeside_130 (G : eG) (M : eM) (F : Int32 → eM → Prop) (a2 : Int32)
    (h : Ev (eZ G 100 40 0 0 (eFI F)) G 100 40 (4, 0, 0) kX13_tilesBeside 5 [(0, .ref (G.1 100)), (1, .ref (G.1 130)), (2, .int a2), (3, .int 0), (4, .int 0)] [] M 0 0) :
    Cal G 100 40 (4, 0, 0) kX13_tilesBeside [.ref (G.1 100), .ref (G.1 130), .int a2] M (eFI F) := by
  refine Cal.of (by decide +kernel) rfl (Nat.le_of_ble_eq_true rfl) ?_
  show Ev (eZ G 100 40 0 0 (eFI F)) G 100 40 (4, 0, 0) kX13_tilesBeside 0 [(0, .ref (G.1 100)), (1, .ref (G.1 130)), (2, .int a2)] [] M 0 0
  refine r_iconst (v := 0) dX13_tilesBeside_0 rfl ?_
  refine r_istore_n (l' := [(3, .int 0), (0, .ref (G.1 100)), (1, .ref (G.1 130)), (2, .int a2)]) dX13_tilesBeside_1 rfl (by decide) rfl ?_
  refine r_iconst (v := 0) dX13_tilesBeside_2 rfl ?_
  refine r_istore (l' := [(4, .int 0), (3, .int 0), (0, .ref (G.1 100)), (1, .ref (G.1 130)), (2, .int a2)]) dX13_tilesBeside_3 (by decide) rfl ?_
  exact Ev.sub (ks := [2, 3, 4, 1, 0]) rfl h
set_option maxHeartbeats 4000000 in
set_option maxRecDepth 100000 in
theorem B_X13_tilesBeside_134_5 (G : eG) (M : eM) (F : Int32 → eM → Prop) (x2 : Int32) (x3 : Int32) (x4 : Int32)
    (h : ((6 ≤ x4) → F x3 M) ∧ ((¬ 6 ≤ x4) → Cal G 100 40 (3, 0, 0) kX13_tileBeside [.ref (G.1 100), .ref (G.1 134), .int x2, .int x4] M (eFI (fun (r1 : Int32) (M1 : eM) => ((¬ r1 = (-1)) → Ev (eZ G 100 40 0 0 (eFI F)) G 100 40 (4, 0, 0) kX13_tilesBeside 5 [(0, .ref (G.1 100)), (1, .ref (G.1 134)), (2, .int x2), (3, .int (x3 + 1)), (4, .int (x4 + 1))] [] M1 0 0) ∧ ((r1 = (-1)) → Ev (eZ G 100 40 0 0 (eFI F)) G 100 40 (4, 0, 0) kX13_tilesBeside 5 [(0, .ref (G.1 100)), (1, .ref (G.1 134)), (2, .int x2), (3, .int (x3 + 0)), (4, .int (x4 + 1))] [] M1 0 0))))) :
    Ev (eZ G 100 40 0 0 (eFI F)) G 100 40 (4, 0, 0) kX13_tilesBeside 5 [(0, .ref (G.1 100)), (1, .ref (G.1 134)), (2, .int x2), (3, .int x3), (4, .int x4)] [] M 0 0 := by
  refine r_iload 4 dX13_tilesBeside_5 rfl ?_
  refine r_bipush (v := 6) dX13_tilesBeside_7 rfl ?_
  refine r_icmp_ge (t := 38) dX13_tilesBeside_9 (by decide) (fun q => ?_) (fun q => ?_)
  · replace h := h.1 q
    refine r_iload_n 3 dX13_tilesBeside_38 rfl rfl ?_
    refine r_iretI dX13_tilesBeside_39 rfl (by decide) (by decide) h
  · replace h := h.2 q
    refine r_iload_n 3 dX13_tilesBeside_12 rfl rfl ?_
    refine r_aload_n 0 dX13_tilesBeside_13 rfl rfl ?_
    refine r_aload_n 1 dX13_tilesBeside_14 rfl rfl ?_
    refine r_iload_n 2 dX13_tilesBeside_15 rfl rfl ?_
    refine r_iload 4 dX13_tilesBeside_16 rfl ?_
    refine r_callVI (b' := (3, 0, 0)) (c := 100) (S := [.int x3]) [.ref (G.1 134), .int x2, .int x4] dX13_tilesBeside_18 mX13_tileBeside lMX13_289 clX13 rfl iM100 sC100 rfl (by decide) (Nat.le_of_ble_eq_true rfl) h (fun r1 M1 h => ?_) rfl
    refine r_iconst (v := (-1)) dX13_tilesBeside_21 rfl ?_
    refine r_icmp_ne (t := 29) dX13_tilesBeside_22 (by decide) (fun q => ?_) (fun q => ?_)
    · replace h := h.1 q
      refine r_iconst (v := 1) dX13_tilesBeside_29 rfl ?_
      refine r_iadd dX13_tilesBeside_30 ?_
      refine r_istore_n (l' := [(3, .int (x3 + 1)), (0, .ref (G.1 100)), (1, .ref (G.1 134)), (2, .int x2), (4, .int x4)]) dX13_tilesBeside_31 rfl (by decide) rfl ?_
      refine r_iinc (v := x4 + 1) (l' := [(4, .int (x4 + 1)), (3, .int (x3 + 1)), (0, .ref (G.1 100)), (1, .ref (G.1 134)), (2, .int x2)]) 4 dX13_tilesBeside_32 rfl rfl (by decide) rfl ?_
      refine r_goto (t := 5) dX13_tilesBeside_35 (by decide) ?_
      exact Ev.sub (ks := [2, 3, 4, 1, 0]) rfl h
    · replace h := h.2 q
      refine r_iconst (v := 0) dX13_tilesBeside_25 rfl ?_
      refine r_goto (t := 30) dX13_tilesBeside_26 (by decide) ?_
      refine r_iadd dX13_tilesBeside_30 ?_
      refine r_istore_n (l' := [(3, .int (x3 + 0)), (0, .ref (G.1 100)), (1, .ref (G.1 134)), (2, .int x2), (4, .int x4)]) dX13_tilesBeside_31 rfl (by decide) rfl ?_
      refine r_iinc (v := x4 + 1) (l' := [(4, .int (x4 + 1)), (3, .int (x3 + 0)), (0, .ref (G.1 100)), (1, .ref (G.1 134)), (2, .int x2)]) 4 dX13_tilesBeside_32 rfl rfl (by decide) rfl ?_
      refine r_goto (t := 5) dX13_tilesBeside_35 (by decide) ?_
      exact Ev.sub (ks := [2, 3, 4, 1, 0]) rfl h
set_option maxHeartbeats 4000000 in
set_option maxRecDepth 100000 in
theorem C_X13_tilesBeside_134 (G : eG) (M : eM) (F : Int32 → eM → Prop) (a2 : Int32)
    (h : Ev (eZ G 100 40 0 0 (eFI F)) G 100 40 (4, 0, 0) kX13_tilesBeside 5 [(0, .ref (G.1 100)), (1, .ref (G.1 134)), (2, .int a2), (3, .int 0), (4, .int 0)] [] M 0 0) :
    Cal G 100 40 (4, 0, 0) kX13_tilesBeside [.ref (G.1 100), .ref (G.1 134), .int a2] M (eFI F) := by
  refine Cal.of (by decide +kernel) rfl (Nat.le_of_ble_eq_true rfl) ?_
  show Ev (eZ G 100 40 0 0 (eFI F)) G 100 40 (4, 0, 0) kX13_tilesBeside 0 [(0, .ref (G.1 100)), (1, .ref (G.1 134)), (2, .int a2)] [] M 0 0
  refine r_iconst (v := 0) dX13_tilesBeside_0 rfl ?_
  refine r_istore_n (l' := [(3, .int 0), (0, .ref (G.1 100)), (1, .ref (G.1 134)), (2, .int a2)]) dX13_tilesBeside_1 rfl (by decide) rfl ?_
  refine r_iconst (v := 0) dX13_tilesBeside_2 rfl ?_
  refine r_istore (l' := [(4, .int 0), (3, .int 0), (0, .ref (G.1 100)), (1, .ref (G.1 134)), (2, .int a2)]) dX13_tilesBeside_3 (by decide) rfl ?_
  exact Ev.sub (ks := [2, 3, 4, 1, 0]) rfl h
set_option maxHeartbeats 4000000 in
set_option maxRecDepth 100000 in
theorem C_X13_fits_130 (G : eG) (M : eM) (F : Bool → eM → Prop) (a2 : Int32) (a3 : Int32) (a4 : Int32)
    (h : vp_in a2 16 ∧ (((¬ (M 132 a2.toNatClampNeg) = (-1)) → F false M) ∧ (((M 132 a2.toNatClampNeg) = (-1)) → vp_in a3 49 ∧ ((((M 131 a3.toNatClampNeg) = (-1)) → ((¬ (M 130 3) = 0) → Cal G 100 40 (4, 0, 0) kX13_tilesBeside [.ref (G.1 100), .ref (G.1 130), .int a3] M (eFI (fun (r1 : Int32) (M1 : eM) => ((r1 ≤ 0) → F false M1) ∧ ((¬ r1 ≤ 0) → Cal G 100 40 (4, 0, 0) kX13_against [.ref (G.1 100), .ref (G.1 130), .int a2, .int a3, .int a4] M1 (eFI (fun (r2 : Int32) (M2 : eM) => ((¬ r2 = (-1)) → F false M2) ∧ ((r2 = (-1)) → F true M2))))))) ∧ (((M 130 3) = 0) → F true M)) ∧ ((¬ (M 131 a3.toNatClampNeg) = (-1)) → F false M))))) :
    Cal G 100 40 (5, 0, 0) kX13_fits [.ref (G.1 100), .ref (G.1 130), .int a2, .int a3, .int a4] M (eFZ F) := by
  refine Cal.of (by decide +kernel) rfl (Nat.le_of_ble_eq_true rfl) ?_
  show Ev (eZ G 100 40 0 0 (eFZ F)) G 100 40 (5, 0, 0) kX13_fits 0 [(0, .ref (G.1 100)), (1, .ref (G.1 130)), (2, .int a2), (3, .int a3), (4, .int a4)] [] M 0 0
  refine r_aload_n 1 dX13_fits_0 rfl rfl ?_
  refine r_getNR (c := 130) (k := 1) 132 dX13_fits_1 clX11 lFX13_293 (by decide) iM130 sC130 rfl ?_
  refine r_iload_n 2 dX13_fits_4 rfl rfl ?_
  have h1 := h.1
  replace h := h.2
  refine r_iald (c := 132) (N := 16) dX13_fits_5 iM132 sC132 h1 ?_
  refine r_iconst (v := (-1)) dX13_fits_6 rfl ?_
  refine r_icmp_ne (t := 20) dX13_fits_7 (by decide) (fun q => ?_) (fun q => ?_)
  · replace h := h.1 q
    refine r_iconst (v := 0) dX13_fits_20 rfl ?_
    refine r_iretZ0 dX13_fits_21 rfl (by decide) (by decide) h
  · replace h := h.2 q
    refine r_aload_n 1 dX13_fits_10 rfl rfl ?_
    refine r_getNR (c := 130) (k := 0) 131 dX13_fits_11 clX11 lFX13_280 (by decide) iM130 sC130 rfl ?_
    refine r_iload_n 3 dX13_fits_14 rfl rfl ?_
    have h1 := h.1
    replace h := h.2
    refine r_iald (c := 131) (N := 49) dX13_fits_15 iM131 sC131 h1 ?_
    refine r_iconst (v := (-1)) dX13_fits_16 rfl ?_
    refine r_icmp_eq (t := 22) dX13_fits_17 (by decide) (fun q => ?_) (fun q => ?_)
    · replace h := h.1 q
      refine r_aload_n 1 dX13_fits_22 rfl rfl ?_
      refine r_getNI (c := 130) (k := 3) dX13_fits_23 clX11 lFX13_296 (by decide) iM130 sC130 rfl ?_
      refine r_if_ne (t := 31) dX13_fits_26 (by decide) (fun q => ?_) (fun q => ?_)
      · replace h := h.1 q
        refine r_aload_n 0 dX13_fits_31 rfl rfl ?_
        refine r_aload_n 1 dX13_fits_32 rfl rfl ?_
        refine r_iload_n 3 dX13_fits_33 rfl rfl ?_
        refine r_callVI (b' := (4, 0, 0)) (c := 100) (S := []) [.ref (G.1 130), .int a3] dX13_fits_34 mX13_tilesBeside lMX13_299 clX13 rfl iM100 sC100 rfl (by decide) (Nat.le_of_ble_eq_true rfl) h (fun r1 M1 h => ?_) rfl
        refine r_if_le (t := 57) dX13_fits_37 (by decide) (fun q => ?_) (fun q => ?_)
        · replace h := h.1 q
          refine r_iconst (v := 0) dX13_fits_57 rfl ?_
          refine r_iretZ0 dX13_fits_58 rfl (by decide) (by decide) h
        · replace h := h.2 q
          refine r_aload_n 0 dX13_fits_40 rfl rfl ?_
          refine r_aload_n 1 dX13_fits_41 rfl rfl ?_
          refine r_iload_n 2 dX13_fits_42 rfl rfl ?_
          refine r_iload_n 3 dX13_fits_43 rfl rfl ?_
          refine r_iload 4 dX13_fits_44 rfl ?_
          refine r_callVI (b' := (4, 0, 0)) (c := 100) (S := []) [.ref (G.1 130), .int a2, .int a3, .int a4] dX13_fits_46 mX13_against lMX13_303 clX13 rfl iM100 sC100 rfl (by decide) (Nat.le_of_ble_eq_true rfl) h (fun r2 M2 h => ?_) rfl
          refine r_iconst (v := (-1)) dX13_fits_49 rfl ?_
          refine r_icmp_ne (t := 57) dX13_fits_50 (by decide) (fun q => ?_) (fun q => ?_)
          · replace h := h.1 q
            refine r_iconst (v := 0) dX13_fits_57 rfl ?_
            refine r_iretZ0 dX13_fits_58 rfl (by decide) (by decide) h
          · replace h := h.2 q
            refine r_iconst (v := 1) dX13_fits_53 rfl ?_
            refine r_goto (t := 58) dX13_fits_54 (by decide) ?_
            refine r_iretZ1 dX13_fits_58 rfl (by decide) (by decide) h
      · replace h := h.2 q
        refine r_iconst (v := 1) dX13_fits_29 rfl ?_
        refine r_iretZ1 dX13_fits_30 rfl (by decide) (by decide) h
    · replace h := h.2 q
      refine r_iconst (v := 0) dX13_fits_20 rfl ?_
      refine r_iretZ0 dX13_fits_21 rfl (by decide) (by decide) h
set_option maxHeartbeats 4000000 in
set_option maxRecDepth 100000 in
theorem C_X13_fits_134 (G : eG) (M : eM) (F : Bool → eM → Prop) (a2 : Int32) (a3 : Int32) (a4 : Int32)
    (h : vp_in a2 16 ∧ (((¬ (M 136 a2.toNatClampNeg) = (-1)) → F false M) ∧ (((M 136 a2.toNatClampNeg) = (-1)) → vp_in a3 49 ∧ ((((M 135 a3.toNatClampNeg) = (-1)) → ((¬ (M 134 3) = 0) → Cal G 100 40 (4, 0, 0) kX13_tilesBeside [.ref (G.1 100), .ref (G.1 134), .int a3] M (eFI (fun (r1 : Int32) (M1 : eM) => ((r1 ≤ 0) → F false M1) ∧ ((¬ r1 ≤ 0) → Cal G 100 40 (4, 0, 0) kX13_against [.ref (G.1 100), .ref (G.1 134), .int a2, .int a3, .int a4] M1 (eFI (fun (r2 : Int32) (M2 : eM) => ((¬ r2 = (-1)) → F false M2) ∧ ((r2 = (-1)) → F true M2))))))) ∧ (((M 134 3) = 0) → F true M)) ∧ ((¬ (M 135 a3.toNatClampNeg) = (-1)) → F false M))))) :
    Cal G 100 40 (5, 0, 0) kX13_fits [.ref (G.1 100), .ref (G.1 134), .int a2, .int a3, .int a4] M (eFZ F) := by
  refine Cal.of (by decide +kernel) rfl (Nat.le_of_ble_eq_true rfl) ?_
  show Ev (eZ G 100 40 0 0 (eFZ F)) G 100 40 (5, 0, 0) kX13_fits 0 [(0, .ref (G.1 100)), (1, .ref (G.1 134)), (2, .int a2), (3, .int a3), (4, .int a4)] [] M 0 0
  refine r_aload_n 1 dX13_fits_0 rfl rfl ?_
  refine r_getNR (c := 134) (k := 1) 136 dX13_fits_1 clX11 lFX13_293 (by decide) iM134 sC134 rfl ?_
  refine r_iload_n 2 dX13_fits_4 rfl rfl ?_
  have h1 := h.1
  replace h := h.2
  refine r_iald (c := 136) (N := 16) dX13_fits_5 iM136 sC136 h1 ?_
  refine r_iconst (v := (-1)) dX13_fits_6 rfl ?_
  refine r_icmp_ne (t := 20) dX13_fits_7 (by decide) (fun q => ?_) (fun q => ?_)
  · replace h := h.1 q
    refine r_iconst (v := 0) dX13_fits_20 rfl ?_
    refine r_iretZ0 dX13_fits_21 rfl (by decide) (by decide) h
  · replace h := h.2 q
    refine r_aload_n 1 dX13_fits_10 rfl rfl ?_
    refine r_getNR (c := 134) (k := 0) 135 dX13_fits_11 clX11 lFX13_280 (by decide) iM134 sC134 rfl ?_
    refine r_iload_n 3 dX13_fits_14 rfl rfl ?_
    have h1 := h.1
    replace h := h.2
    refine r_iald (c := 135) (N := 49) dX13_fits_15 iM135 sC135 h1 ?_
    refine r_iconst (v := (-1)) dX13_fits_16 rfl ?_
    refine r_icmp_eq (t := 22) dX13_fits_17 (by decide) (fun q => ?_) (fun q => ?_)
    · replace h := h.1 q
      refine r_aload_n 1 dX13_fits_22 rfl rfl ?_
      refine r_getNI (c := 134) (k := 3) dX13_fits_23 clX11 lFX13_296 (by decide) iM134 sC134 rfl ?_
      refine r_if_ne (t := 31) dX13_fits_26 (by decide) (fun q => ?_) (fun q => ?_)
      · replace h := h.1 q
        refine r_aload_n 0 dX13_fits_31 rfl rfl ?_
        refine r_aload_n 1 dX13_fits_32 rfl rfl ?_
        refine r_iload_n 3 dX13_fits_33 rfl rfl ?_
        refine r_callVI (b' := (4, 0, 0)) (c := 100) (S := []) [.ref (G.1 134), .int a3] dX13_fits_34 mX13_tilesBeside lMX13_299 clX13 rfl iM100 sC100 rfl (by decide) (Nat.le_of_ble_eq_true rfl) h (fun r1 M1 h => ?_) rfl
        refine r_if_le (t := 57) dX13_fits_37 (by decide) (fun q => ?_) (fun q => ?_)
        · replace h := h.1 q
          refine r_iconst (v := 0) dX13_fits_57 rfl ?_
          refine r_iretZ0 dX13_fits_58 rfl (by decide) (by decide) h
        · replace h := h.2 q
          refine r_aload_n 0 dX13_fits_40 rfl rfl ?_
          refine r_aload_n 1 dX13_fits_41 rfl rfl ?_
          refine r_iload_n 2 dX13_fits_42 rfl rfl ?_
          refine r_iload_n 3 dX13_fits_43 rfl rfl ?_
          refine r_iload 4 dX13_fits_44 rfl ?_
          refine r_callVI (b' := (4, 0, 0)) (c := 100) (S := []) [.ref (G.1 134), .int a2, .int a3, .int a4] dX13_fits_46 mX13_against lMX13_303 clX13 rfl iM100 sC100 rfl (by decide) (Nat.le_of_ble_eq_true rfl) h (fun r2 M2 h => ?_) rfl
          refine r_iconst (v := (-1)) dX13_fits_49 rfl ?_
          refine r_icmp_ne (t := 57) dX13_fits_50 (by decide) (fun q => ?_) (fun q => ?_)
          · replace h := h.1 q
            refine r_iconst (v := 0) dX13_fits_57 rfl ?_
            refine r_iretZ0 dX13_fits_58 rfl (by decide) (by decide) h
          · replace h := h.2 q
            refine r_iconst (v := 1) dX13_fits_53 rfl ?_
            refine r_goto (t := 58) dX13_fits_54 (by decide) ?_
            refine r_iretZ1 dX13_fits_58 rfl (by decide) (by decide) h
      · replace h := h.2 q
        refine r_iconst (v := 1) dX13_fits_29 rfl ?_
        refine r_iretZ1 dX13_fits_30 rfl (by decide) (by decide) h
    · replace h := h.2 q
      refine r_iconst (v := 0) dX13_fits_20 rfl ?_
      refine r_iretZ0 dX13_fits_21 rfl (by decide) (by decide) h
set_option maxHeartbeats 4000000 in
set_option maxRecDepth 100000 in
theorem B_X13_ways_130_17 (G : eG) (M : eM) (F : Int32 → eM → Prop) (x2 : Int32) (x3 : Int32) (x4 : Int32) (x5 : Int32)
    (h : ((6 ≤ x5) → Ev (eZ G 100 40 0 0 (eFI F)) G 100 40 (6, 0, 0) kX13_ways 5 [(0, .ref (G.1 100)), (1, .ref (G.1 130)), (2, .int x2), (3, .int x3), (4, .int (x4 + 1))] [] M 0 0) ∧ ((¬ 6 ≤ x5) → Cal G 100 40 (5, 0, 0) kX13_fits [.ref (G.1 100), .ref (G.1 130), .int x2, .int x4, .int x5] M (eFZ (fun (r1 : Bool) (M1 : eM) => ((r1 = false) → Ev (eZ G 100 40 0 0 (eFI F)) G 100 40 (6, 0, 0) kX13_ways 17 [(0, .ref (G.1 100)), (1, .ref (G.1 130)), (2, .int x2), (3, .int (x3 + 0)), (4, .int x4), (5, .int (x5 + 1))] [] M1 0 0) ∧ ((r1 = true) → Ev (eZ G 100 40 0 0 (eFI F)) G 100 40 (6, 0, 0) kX13_ways 17 [(0, .ref (G.1 100)), (1, .ref (G.1 130)), (2, .int x2), (3, .int (x3 + 1)), (4, .int x4), (5, .int (x5 + 1))] [] M1 0 0))))) :
    Ev (eZ G 100 40 0 0 (eFI F)) G 100 40 (6, 0, 0) kX13_ways 17 [(0, .ref (G.1 100)), (1, .ref (G.1 130)), (2, .int x2), (3, .int x3), (4, .int x4), (5, .int x5)] [] M 0 0 := by
  refine r_iload 5 dX13_ways_17 rfl ?_
  refine r_bipush (v := 6) dX13_ways_19 rfl ?_
  refine r_icmp_ge (t := 51) dX13_ways_21 (by decide) (fun q => ?_) (fun q => ?_)
  · replace h := h.1 q
    refine r_iinc (v := x4 + 1) (l' := [(4, .int (x4 + 1)), (0, .ref (G.1 100)), (1, .ref (G.1 130)), (2, .int x2), (3, .int x3), (5, .int x5)]) 4 dX13_ways_51 rfl rfl (by decide) rfl ?_
    refine r_goto (t := 5) dX13_ways_54 (by decide) ?_
    exact Ev.sub (ks := [1, 2, 3, 4, 0]) rfl h
  · replace h := h.2 q
    refine r_iload_n 3 dX13_ways_24 rfl rfl ?_
    refine r_aload_n 0 dX13_ways_25 rfl rfl ?_
    refine r_aload_n 1 dX13_ways_26 rfl rfl ?_
    refine r_iload_n 2 dX13_ways_27 rfl rfl ?_
    refine r_iload 4 dX13_ways_28 rfl ?_
    refine r_iload 5 dX13_ways_30 rfl ?_
    refine r_callVZ (b' := (5, 0, 0)) (c := 100) (S := [.int x3]) [.ref (G.1 130), .int x2, .int x4, .int x5] dX13_ways_32 mX13_fits lMX13_310 clX13 rfl iM100 sC100 rfl (by decide) (Nat.le_of_ble_eq_true rfl) h (fun r1 M1 h => ?_) rfl
    refine r_zif_eq (t := 42) dX13_ways_35 (by decide) (fun q => ?_) (fun q => ?_)
    · replace h := h.1 q
      refine r_iconst (v := 0) dX13_ways_42 rfl ?_
      refine r_iadd dX13_ways_43 ?_
      refine r_istore_n (l' := [(3, .int (x3 + 0)), (0, .ref (G.1 100)), (1, .ref (G.1 130)), (2, .int x2), (4, .int x4), (5, .int x5)]) dX13_ways_44 rfl (by decide) rfl ?_
      refine r_iinc (v := x5 + 1) (l' := [(5, .int (x5 + 1)), (3, .int (x3 + 0)), (0, .ref (G.1 100)), (1, .ref (G.1 130)), (2, .int x2), (4, .int x4)]) 5 dX13_ways_45 rfl rfl (by decide) rfl ?_
      refine r_goto (t := 17) dX13_ways_48 (by decide) ?_
      exact Ev.sub (ks := [2, 3, 4, 1, 5, 0]) rfl h
    · replace h := h.2 q
      refine r_iconst (v := 1) dX13_ways_38 rfl ?_
      refine r_goto (t := 43) dX13_ways_39 (by decide) ?_
      refine r_iadd dX13_ways_43 ?_
      refine r_istore_n (l' := [(3, .int (x3 + 1)), (0, .ref (G.1 100)), (1, .ref (G.1 130)), (2, .int x2), (4, .int x4), (5, .int x5)]) dX13_ways_44 rfl (by decide) rfl ?_
      refine r_iinc (v := x5 + 1) (l' := [(5, .int (x5 + 1)), (3, .int (x3 + 1)), (0, .ref (G.1 100)), (1, .ref (G.1 130)), (2, .int x2), (4, .int x4)]) 5 dX13_ways_45 rfl rfl (by decide) rfl ?_
      refine r_goto (t := 17) dX13_ways_48 (by decide) ?_
      exact Ev.sub (ks := [2, 3, 4, 1, 5, 0]) rfl h
set_option maxHeartbeats 4000000 in
set_option maxRecDepth 100000 in
theorem B_X13_ways_130_5 (G : eG) (M : eM) (F : Int32 → eM → Prop) (x2 : Int32) (x3 : Int32) (x4 : Int32)
    (h : Cal G 100 40 (1, 0, 0) kX13_cells [.ref (G.1 100)] M (eFI (fun (r1 : Int32) (M1 : eM) => ((r1 ≤ x4) → F x3 M1) ∧ ((¬ r1 ≤ x4) → Ev (eZ G 100 40 0 0 (eFI F)) G 100 40 (6, 0, 0) kX13_ways 17 [(0, .ref (G.1 100)), (1, .ref (G.1 130)), (2, .int x2), (3, .int x3), (4, .int x4), (5, .int 0)] [] M1 0 0)))) :
    Ev (eZ G 100 40 0 0 (eFI F)) G 100 40 (6, 0, 0) kX13_ways 5 [(0, .ref (G.1 100)), (1, .ref (G.1 130)), (2, .int x2), (3, .int x3), (4, .int x4)] [] M 0 0 := by
  refine r_iload 4 dX13_ways_5 rfl ?_
  refine r_aload_n 0 dX13_ways_7 rfl rfl ?_
  refine r_callVI (b' := (1, 0, 0)) (c := 100) (S := [.int x4]) [] dX13_ways_8 mX13_cells lMX13_307 clX13 rfl iM100 sC100 rfl (by decide) (Nat.le_of_ble_eq_true rfl) h (fun r1 M1 h => ?_) rfl
  refine r_icmp_ge (t := 57) dX13_ways_11 (by decide) (fun q => ?_) (fun q => ?_)
  · replace h := h.1 q
    refine r_iload_n 3 dX13_ways_57 rfl rfl ?_
    refine r_iretI dX13_ways_58 rfl (by decide) (by decide) h
  · replace h := h.2 q
    refine r_iconst (v := 0) dX13_ways_14 rfl ?_
    refine r_istore (l' := [(5, .int 0), (0, .ref (G.1 100)), (1, .ref (G.1 130)), (2, .int x2), (3, .int x3), (4, .int x4)]) dX13_ways_15 (by decide) rfl ?_
    exact Ev.sub (ks := [1, 2, 3, 4, 5, 0]) rfl h
set_option maxHeartbeats 4000000 in
set_option maxRecDepth 100000 in
theorem C_X13_ways_130 (G : eG) (M : eM) (F : Int32 → eM → Prop) (a2 : Int32)
    (h : Ev (eZ G 100 40 0 0 (eFI F)) G 100 40 (6, 0, 0) kX13_ways 5 [(0, .ref (G.1 100)), (1, .ref (G.1 130)), (2, .int a2), (3, .int 0), (4, .int 0)] [] M 0 0) :
    Cal G 100 40 (6, 0, 0) kX13_ways [.ref (G.1 100), .ref (G.1 130), .int a2] M (eFI F) := by
  refine Cal.of (by decide +kernel) rfl (Nat.le_of_ble_eq_true rfl) ?_
  show Ev (eZ G 100 40 0 0 (eFI F)) G 100 40 (6, 0, 0) kX13_ways 0 [(0, .ref (G.1 100)), (1, .ref (G.1 130)), (2, .int a2)] [] M 0 0
  refine r_iconst (v := 0) dX13_ways_0 rfl ?_
  refine r_istore_n (l' := [(3, .int 0), (0, .ref (G.1 100)), (1, .ref (G.1 130)), (2, .int a2)]) dX13_ways_1 rfl (by decide) rfl ?_
  refine r_iconst (v := 0) dX13_ways_2 rfl ?_
  refine r_istore (l' := [(4, .int 0), (3, .int 0), (0, .ref (G.1 100)), (1, .ref (G.1 130)), (2, .int a2)]) dX13_ways_3 (by decide) rfl ?_
  exact Ev.sub (ks := [2, 3, 4, 1, 0]) rfl h
set_option maxHeartbeats 4000000 in
set_option maxRecDepth 100000 in
theorem B_X13_ways_134_17 (G : eG) (M : eM) (F : Int32 → eM → Prop) (x2 : Int32) (x3 : Int32) (x4 : Int32) (x5 : Int32)
    (h : ((6 ≤ x5) → Ev (eZ G 100 40 0 0 (eFI F)) G 100 40 (6, 0, 0) kX13_ways 5 [(0, .ref (G.1 100)), (1, .ref (G.1 134)), (2, .int x2), (3, .int x3), (4, .int (x4 + 1))] [] M 0 0) ∧ ((¬ 6 ≤ x5) → Cal G 100 40 (5, 0, 0) kX13_fits [.ref (G.1 100), .ref (G.1 134), .int x2, .int x4, .int x5] M (eFZ (fun (r1 : Bool) (M1 : eM) => ((r1 = false) → Ev (eZ G 100 40 0 0 (eFI F)) G 100 40 (6, 0, 0) kX13_ways 17 [(0, .ref (G.1 100)), (1, .ref (G.1 134)), (2, .int x2), (3, .int (x3 + 0)), (4, .int x4), (5, .int (x5 + 1))] [] M1 0 0) ∧ ((r1 = true) → Ev (eZ G 100 40 0 0 (eFI F)) G 100 40 (6, 0, 0) kX13_ways 17 [(0, .ref (G.1 100)), (1, .ref (G.1 134)), (2, .int x2), (3, .int (x3 + 1)), (4, .int x4), (5, .int (x5 + 1))] [] M1 0 0))))) :
    Ev (eZ G 100 40 0 0 (eFI F)) G 100 40 (6, 0, 0) kX13_ways 17 [(0, .ref (G.1 100)), (1, .ref (G.1 134)), (2, .int x2), (3, .int x3), (4, .int x4), (5, .int x5)] [] M 0 0 := by
  refine r_iload 5 dX13_ways_17 rfl ?_
  refine r_bipush (v := 6) dX13_ways_19 rfl ?_
  refine r_icmp_ge (t := 51) dX13_ways_21 (by decide) (fun q => ?_) (fun q => ?_)
  · replace h := h.1 q
    refine r_iinc (v := x4 + 1) (l' := [(4, .int (x4 + 1)), (0, .ref (G.1 100)), (1, .ref (G.1 134)), (2, .int x2), (3, .int x3), (5, .int x5)]) 4 dX13_ways_51 rfl rfl (by decide) rfl ?_
    refine r_goto (t := 5) dX13_ways_54 (by decide) ?_
    exact Ev.sub (ks := [1, 2, 3, 4, 0]) rfl h
  · replace h := h.2 q
    refine r_iload_n 3 dX13_ways_24 rfl rfl ?_
    refine r_aload_n 0 dX13_ways_25 rfl rfl ?_
    refine r_aload_n 1 dX13_ways_26 rfl rfl ?_
    refine r_iload_n 2 dX13_ways_27 rfl rfl ?_
    refine r_iload 4 dX13_ways_28 rfl ?_
    refine r_iload 5 dX13_ways_30 rfl ?_
    refine r_callVZ (b' := (5, 0, 0)) (c := 100) (S := [.int x3]) [.ref (G.1 134), .int x2, .int x4, .int x5] dX13_ways_32 mX13_fits lMX13_310 clX13 rfl iM100 sC100 rfl (by decide) (Nat.le_of_ble_eq_true rfl) h (fun r1 M1 h => ?_) rfl
    refine r_zif_eq (t := 42) dX13_ways_35 (by decide) (fun q => ?_) (fun q => ?_)
    · replace h := h.1 q
      refine r_iconst (v := 0) dX13_ways_42 rfl ?_
      refine r_iadd dX13_ways_43 ?_
      refine r_istore_n (l' := [(3, .int (x3 + 0)), (0, .ref (G.1 100)), (1, .ref (G.1 134)), (2, .int x2), (4, .int x4), (5, .int x5)]) dX13_ways_44 rfl (by decide) rfl ?_
      refine r_iinc (v := x5 + 1) (l' := [(5, .int (x5 + 1)), (3, .int (x3 + 0)), (0, .ref (G.1 100)), (1, .ref (G.1 134)), (2, .int x2), (4, .int x4)]) 5 dX13_ways_45 rfl rfl (by decide) rfl ?_
      refine r_goto (t := 17) dX13_ways_48 (by decide) ?_
      exact Ev.sub (ks := [2, 3, 4, 1, 5, 0]) rfl h
    · replace h := h.2 q
      refine r_iconst (v := 1) dX13_ways_38 rfl ?_
      refine r_goto (t := 43) dX13_ways_39 (by decide) ?_
      refine r_iadd dX13_ways_43 ?_
      refine r_istore_n (l' := [(3, .int (x3 + 1)), (0, .ref (G.1 100)), (1, .ref (G.1 134)), (2, .int x2), (4, .int x4), (5, .int x5)]) dX13_ways_44 rfl (by decide) rfl ?_
      refine r_iinc (v := x5 + 1) (l' := [(5, .int (x5 + 1)), (3, .int (x3 + 1)), (0, .ref (G.1 100)), (1, .ref (G.1 134)), (2, .int x2), (4, .int x4)]) 5 dX13_ways_45 rfl rfl (by decide) rfl ?_
      refine r_goto (t := 17) dX13_ways_48 (by decide) ?_
      exact Ev.sub (ks := [2, 3, 4, 1, 5, 0]) rfl h
set_option maxHeartbeats 4000000 in
set_option maxRecDepth 100000 in
theorem B_X13_ways_134_5 (G : eG) (M : eM) (F : Int32 → eM → Prop) (x2 : Int32) (x3 : Int32) (x4 : Int32)
    (h : Cal G 100 40 (1, 0, 0) kX13_cells [.ref (G.1 100)] M (eFI (fun (r1 : Int32) (M1 : eM) => ((r1 ≤ x4) → F x3 M1) ∧ ((¬ r1 ≤ x4) → Ev (eZ G 100 40 0 0 (eFI F)) G 100 40 (6, 0, 0) kX13_ways 17 [(0, .ref (G.1 100)), (1, .ref (G.1 134)), (2, .int x2), (3, .int x3), (4, .int x4), (5, .int 0)] [] M1 0 0)))) :
    Ev (eZ G 100 40 0 0 (eFI F)) G 100 40 (6, 0, 0) kX13_ways 5 [(0, .ref (G.1 100)), (1, .ref (G.1 134)), (2, .int x2), (3, .int x3), (4, .int x4)] [] M 0 0 := by
  refine r_iload 4 dX13_ways_5 rfl ?_
  refine r_aload_n 0 dX13_ways_7 rfl rfl ?_
  refine r_callVI (b' := (1, 0, 0)) (c := 100) (S := [.int x4]) [] dX13_ways_8 mX13_cells lMX13_307 clX13 rfl iM100 sC100 rfl (by decide) (Nat.le_of_ble_eq_true rfl) h (fun r1 M1 h => ?_) rfl
  refine r_icmp_ge (t := 57) dX13_ways_11 (by decide) (fun q => ?_) (fun q => ?_)
  · replace h := h.1 q
    refine r_iload_n 3 dX13_ways_57 rfl rfl ?_
    refine r_iretI dX13_ways_58 rfl (by decide) (by decide) h
  · replace h := h.2 q
    refine r_iconst (v := 0) dX13_ways_14 rfl ?_
    refine r_istore (l' := [(5, .int 0), (0, .ref (G.1 100)), (1, .ref (G.1 134)), (2, .int x2), (3, .int x3), (4, .int x4)]) dX13_ways_15 (by decide) rfl ?_
    exact Ev.sub (ks := [1, 2, 3, 4, 5, 0]) rfl h
set_option maxHeartbeats 4000000 in
set_option maxRecDepth 100000 in
theorem C_X13_ways_134 (G : eG) (M : eM) (F : Int32 → eM → Prop) (a2 : Int32)
    (h : Ev (eZ G 100 40 0 0 (eFI F)) G 100 40 (6, 0, 0) kX13_ways 5 [(0, .ref (G.1 100)), (1, .ref (G.1 134)), (2, .int a2), (3, .int 0), (4, .int 0)] [] M 0 0) :
    Cal G 100 40 (6, 0, 0) kX13_ways [.ref (G.1 100), .ref (G.1 134), .int a2] M (eFI F) := by
  refine Cal.of (by decide +kernel) rfl (Nat.le_of_ble_eq_true rfl) ?_
  show Ev (eZ G 100 40 0 0 (eFI F)) G 100 40 (6, 0, 0) kX13_ways 0 [(0, .ref (G.1 100)), (1, .ref (G.1 134)), (2, .int a2)] [] M 0 0
  refine r_iconst (v := 0) dX13_ways_0 rfl ?_
  refine r_istore_n (l' := [(3, .int 0), (0, .ref (G.1 100)), (1, .ref (G.1 134)), (2, .int a2)]) dX13_ways_1 rfl (by decide) rfl ?_
  refine r_iconst (v := 0) dX13_ways_2 rfl ?_
  refine r_istore (l' := [(4, .int 0), (3, .int 0), (0, .ref (G.1 100)), (1, .ref (G.1 134)), (2, .int a2)]) dX13_ways_3 (by decide) rfl ?_
  exact Ev.sub (ks := [2, 3, 4, 1, 0]) rfl h
set_option maxHeartbeats 4000000 in
set_option maxRecDepth 100000 in
theorem B_X13_firstWay_130_13 (G : eG) (M : eM) (F : Int32 → eM → Prop) (x2 : Int32) (x3 : Int32) (x4 : Int32)
    (h : ((6 ≤ x4) → Ev (eZ G 100 40 0 0 (eFI F)) G 100 40 (6, 0, 0) kX13_firstWay 2 [(0, .ref (G.1 100)), (1, .ref (G.1 130)), (2, .int x2), (3, .int (x3 + 1))] [] M 0 0) ∧ ((¬ 6 ≤ x4) → Cal G 100 40 (5, 0, 0) kX13_fits [.ref (G.1 100), .ref (G.1 130), .int x2, .int x3, .int x4] M (eFZ (fun (r1 : Bool) (M1 : eM) => ((r1 = false) → Ev (eZ G 100 40 0 0 (eFI F)) G 100 40 (6, 0, 0) kX13_firstWay 13 [(0, .ref (G.1 100)), (1, .ref (G.1 130)), (2, .int x2), (3, .int x3), (4, .int (x4 + 1))] [] M1 0 0) ∧ ((r1 = true) → F ((6 * x3) + x4) M1))))) :
    Ev (eZ G 100 40 0 0 (eFI F)) G 100 40 (6, 0, 0) kX13_firstWay 13 [(0, .ref (G.1 100)), (1, .ref (G.1 130)), (2, .int x2), (3, .int x3), (4, .int x4)] [] M 0 0 := by
  refine r_iload 4 dX13_firstWay_13 rfl ?_
  refine r_bipush (v := 6) dX13_firstWay_15 rfl ?_
  refine r_icmp_ge (t := 46) dX13_firstWay_17 (by decide) (fun q => ?_) (fun q => ?_)
  · replace h := h.1 q
    refine r_iinc (v := x3 + 1) (l' := [(3, .int (x3 + 1)), (0, .ref (G.1 100)), (1, .ref (G.1 130)), (2, .int x2), (4, .int x4)]) 3 dX13_firstWay_46 rfl rfl (by decide) rfl ?_
    refine r_goto (t := 2) dX13_firstWay_49 (by decide) ?_
    exact Ev.sub (ks := [1, 2, 3, 0]) rfl h
  · replace h := h.2 q
    refine r_aload_n 0 dX13_firstWay_20 rfl rfl ?_
    refine r_aload_n 1 dX13_firstWay_21 rfl rfl ?_
    refine r_iload_n 2 dX13_firstWay_22 rfl rfl ?_
    refine r_iload_n 3 dX13_firstWay_23 rfl rfl ?_
    refine r_iload 4 dX13_firstWay_24 rfl ?_
    refine r_callVZ (b' := (5, 0, 0)) (c := 100) (S := []) [.ref (G.1 130), .int x2, .int x3, .int x4] dX13_firstWay_26 mX13_fits lMX13_310 clX13 rfl iM100 sC100 rfl (by decide) (Nat.le_of_ble_eq_true rfl) h (fun r1 M1 h => ?_) rfl
    refine r_zif_eq (t := 40) dX13_firstWay_29 (by decide) (fun q => ?_) (fun q => ?_)
    · replace h := h.1 q
      refine r_iinc (v := x4 + 1) (l' := [(4, .int (x4 + 1)), (0, .ref (G.1 100)), (1, .ref (G.1 130)), (2, .int x2), (3, .int x3)]) 4 dX13_firstWay_40 rfl rfl (by decide) rfl ?_
      refine r_goto (t := 13) dX13_firstWay_43 (by decide) ?_
      exact Ev.sub (ks := [1, 2, 3, 4, 0]) rfl h
    · replace h := h.2 q
      refine r_bipush (v := 6) dX13_firstWay_32 rfl ?_
      refine r_iload_n 3 dX13_firstWay_34 rfl rfl ?_
      refine r_imul dX13_firstWay_35 ?_
      refine r_iload 4 dX13_firstWay_36 rfl ?_
      refine r_iadd dX13_firstWay_38 ?_
      refine r_iretI dX13_firstWay_39 rfl (by decide) (by decide) h
set_option maxHeartbeats 4000000 in
set_option maxRecDepth 100000 in
theorem B_X13_firstWay_130_2 (G : eG) (M : eM) (F : Int32 → eM → Prop) (x2 : Int32) (x3 : Int32)
    (h : Cal G 100 40 (1, 0, 0) kX13_cells [.ref (G.1 100)] M (eFI (fun (r1 : Int32) (M1 : eM) => ((r1 ≤ x3) → F (-1) M1) ∧ ((¬ r1 ≤ x3) → Ev (eZ G 100 40 0 0 (eFI F)) G 100 40 (6, 0, 0) kX13_firstWay 13 [(0, .ref (G.1 100)), (1, .ref (G.1 130)), (2, .int x2), (3, .int x3), (4, .int 0)] [] M1 0 0)))) :
    Ev (eZ G 100 40 0 0 (eFI F)) G 100 40 (6, 0, 0) kX13_firstWay 2 [(0, .ref (G.1 100)), (1, .ref (G.1 130)), (2, .int x2), (3, .int x3)] [] M 0 0 := by
  refine r_iload_n 3 dX13_firstWay_2 rfl rfl ?_
  refine r_aload_n 0 dX13_firstWay_3 rfl rfl ?_
  refine r_callVI (b' := (1, 0, 0)) (c := 100) (S := [.int x3]) [] dX13_firstWay_4 mX13_cells lMX13_307 clX13 rfl iM100 sC100 rfl (by decide) (Nat.le_of_ble_eq_true rfl) h (fun r1 M1 h => ?_) rfl
  refine r_icmp_ge (t := 52) dX13_firstWay_7 (by decide) (fun q => ?_) (fun q => ?_)
  · replace h := h.1 q
    refine r_iconst (v := (-1)) dX13_firstWay_52 rfl ?_
    refine r_iretI dX13_firstWay_53 rfl (by decide) (by decide) h
  · replace h := h.2 q
    refine r_iconst (v := 0) dX13_firstWay_10 rfl ?_
    refine r_istore (l' := [(4, .int 0), (0, .ref (G.1 100)), (1, .ref (G.1 130)), (2, .int x2), (3, .int x3)]) dX13_firstWay_11 (by decide) rfl ?_
    exact Ev.sub (ks := [1, 2, 3, 4, 0]) rfl h
set_option maxHeartbeats 4000000 in
set_option maxRecDepth 100000 in
theorem C_X13_firstWay_130 (G : eG) (M : eM) (F : Int32 → eM → Prop) (a2 : Int32)
    (h : Ev (eZ G 100 40 0 0 (eFI F)) G 100 40 (6, 0, 0) kX13_firstWay 2 [(0, .ref (G.1 100)), (1, .ref (G.1 130)), (2, .int a2), (3, .int 0)] [] M 0 0) :
    Cal G 100 40 (6, 0, 0) kX13_firstWay [.ref (G.1 100), .ref (G.1 130), .int a2] M (eFI F) := by
  refine Cal.of (by decide +kernel) rfl (Nat.le_of_ble_eq_true rfl) ?_
  show Ev (eZ G 100 40 0 0 (eFI F)) G 100 40 (6, 0, 0) kX13_firstWay 0 [(0, .ref (G.1 100)), (1, .ref (G.1 130)), (2, .int a2)] [] M 0 0
  refine r_iconst (v := 0) dX13_firstWay_0 rfl ?_
  refine r_istore_n (l' := [(3, .int 0), (0, .ref (G.1 100)), (1, .ref (G.1 130)), (2, .int a2)]) dX13_firstWay_1 rfl (by decide) rfl ?_
  exact Ev.sub (ks := [1, 2, 3, 0]) rfl h
set_option maxHeartbeats 4000000 in
set_option maxRecDepth 100000 in
theorem B_X13_firstWay_134_13 (G : eG) (M : eM) (F : Int32 → eM → Prop) (x2 : Int32) (x3 : Int32) (x4 : Int32)
    (h : ((6 ≤ x4) → Ev (eZ G 100 40 0 0 (eFI F)) G 100 40 (6, 0, 0) kX13_firstWay 2 [(0, .ref (G.1 100)), (1, .ref (G.1 134)), (2, .int x2), (3, .int (x3 + 1))] [] M 0 0) ∧ ((¬ 6 ≤ x4) → Cal G 100 40 (5, 0, 0) kX13_fits [.ref (G.1 100), .ref (G.1 134), .int x2, .int x3, .int x4] M (eFZ (fun (r1 : Bool) (M1 : eM) => ((r1 = false) → Ev (eZ G 100 40 0 0 (eFI F)) G 100 40 (6, 0, 0) kX13_firstWay 13 [(0, .ref (G.1 100)), (1, .ref (G.1 134)), (2, .int x2), (3, .int x3), (4, .int (x4 + 1))] [] M1 0 0) ∧ ((r1 = true) → F ((6 * x3) + x4) M1))))) :
    Ev (eZ G 100 40 0 0 (eFI F)) G 100 40 (6, 0, 0) kX13_firstWay 13 [(0, .ref (G.1 100)), (1, .ref (G.1 134)), (2, .int x2), (3, .int x3), (4, .int x4)] [] M 0 0 := by
  refine r_iload 4 dX13_firstWay_13 rfl ?_
  refine r_bipush (v := 6) dX13_firstWay_15 rfl ?_
  refine r_icmp_ge (t := 46) dX13_firstWay_17 (by decide) (fun q => ?_) (fun q => ?_)
  · replace h := h.1 q
    refine r_iinc (v := x3 + 1) (l' := [(3, .int (x3 + 1)), (0, .ref (G.1 100)), (1, .ref (G.1 134)), (2, .int x2), (4, .int x4)]) 3 dX13_firstWay_46 rfl rfl (by decide) rfl ?_
    refine r_goto (t := 2) dX13_firstWay_49 (by decide) ?_
    exact Ev.sub (ks := [1, 2, 3, 0]) rfl h
  · replace h := h.2 q
    refine r_aload_n 0 dX13_firstWay_20 rfl rfl ?_
    refine r_aload_n 1 dX13_firstWay_21 rfl rfl ?_
    refine r_iload_n 2 dX13_firstWay_22 rfl rfl ?_
    refine r_iload_n 3 dX13_firstWay_23 rfl rfl ?_
    refine r_iload 4 dX13_firstWay_24 rfl ?_
    refine r_callVZ (b' := (5, 0, 0)) (c := 100) (S := []) [.ref (G.1 134), .int x2, .int x3, .int x4] dX13_firstWay_26 mX13_fits lMX13_310 clX13 rfl iM100 sC100 rfl (by decide) (Nat.le_of_ble_eq_true rfl) h (fun r1 M1 h => ?_) rfl
    refine r_zif_eq (t := 40) dX13_firstWay_29 (by decide) (fun q => ?_) (fun q => ?_)
    · replace h := h.1 q
      refine r_iinc (v := x4 + 1) (l' := [(4, .int (x4 + 1)), (0, .ref (G.1 100)), (1, .ref (G.1 134)), (2, .int x2), (3, .int x3)]) 4 dX13_firstWay_40 rfl rfl (by decide) rfl ?_
      refine r_goto (t := 13) dX13_firstWay_43 (by decide) ?_
      exact Ev.sub (ks := [1, 2, 3, 4, 0]) rfl h
    · replace h := h.2 q
      refine r_bipush (v := 6) dX13_firstWay_32 rfl ?_
      refine r_iload_n 3 dX13_firstWay_34 rfl rfl ?_
      refine r_imul dX13_firstWay_35 ?_
      refine r_iload 4 dX13_firstWay_36 rfl ?_
      refine r_iadd dX13_firstWay_38 ?_
      refine r_iretI dX13_firstWay_39 rfl (by decide) (by decide) h
set_option maxHeartbeats 4000000 in
set_option maxRecDepth 100000 in
theorem B_X13_firstWay_134_2 (G : eG) (M : eM) (F : Int32 → eM → Prop) (x2 : Int32) (x3 : Int32)
    (h : Cal G 100 40 (1, 0, 0) kX13_cells [.ref (G.1 100)] M (eFI (fun (r1 : Int32) (M1 : eM) => ((r1 ≤ x3) → F (-1) M1) ∧ ((¬ r1 ≤ x3) → Ev (eZ G 100 40 0 0 (eFI F)) G 100 40 (6, 0, 0) kX13_firstWay 13 [(0, .ref (G.1 100)), (1, .ref (G.1 134)), (2, .int x2), (3, .int x3), (4, .int 0)] [] M1 0 0)))) :
    Ev (eZ G 100 40 0 0 (eFI F)) G 100 40 (6, 0, 0) kX13_firstWay 2 [(0, .ref (G.1 100)), (1, .ref (G.1 134)), (2, .int x2), (3, .int x3)] [] M 0 0 := by
  refine r_iload_n 3 dX13_firstWay_2 rfl rfl ?_
  refine r_aload_n 0 dX13_firstWay_3 rfl rfl ?_
  refine r_callVI (b' := (1, 0, 0)) (c := 100) (S := [.int x3]) [] dX13_firstWay_4 mX13_cells lMX13_307 clX13 rfl iM100 sC100 rfl (by decide) (Nat.le_of_ble_eq_true rfl) h (fun r1 M1 h => ?_) rfl
  refine r_icmp_ge (t := 52) dX13_firstWay_7 (by decide) (fun q => ?_) (fun q => ?_)
  · replace h := h.1 q
    refine r_iconst (v := (-1)) dX13_firstWay_52 rfl ?_
    refine r_iretI dX13_firstWay_53 rfl (by decide) (by decide) h
  · replace h := h.2 q
    refine r_iconst (v := 0) dX13_firstWay_10 rfl ?_
    refine r_istore (l' := [(4, .int 0), (0, .ref (G.1 100)), (1, .ref (G.1 134)), (2, .int x2), (3, .int x3)]) dX13_firstWay_11 (by decide) rfl ?_
    exact Ev.sub (ks := [1, 2, 3, 4, 0]) rfl h
set_option maxHeartbeats 4000000 in
set_option maxRecDepth 100000 in
theorem C_X13_firstWay_134 (G : eG) (M : eM) (F : Int32 → eM → Prop) (a2 : Int32)
    (h : Ev (eZ G 100 40 0 0 (eFI F)) G 100 40 (6, 0, 0) kX13_firstWay 2 [(0, .ref (G.1 100)), (1, .ref (G.1 134)), (2, .int a2), (3, .int 0)] [] M 0 0) :
    Cal G 100 40 (6, 0, 0) kX13_firstWay [.ref (G.1 100), .ref (G.1 134), .int a2] M (eFI F) := by
  refine Cal.of (by decide +kernel) rfl (Nat.le_of_ble_eq_true rfl) ?_
  show Ev (eZ G 100 40 0 0 (eFI F)) G 100 40 (6, 0, 0) kX13_firstWay 0 [(0, .ref (G.1 100)), (1, .ref (G.1 134)), (2, .int a2)] [] M 0 0
  refine r_iconst (v := 0) dX13_firstWay_0 rfl ?_
  refine r_istore_n (l' := [(3, .int 0), (0, .ref (G.1 100)), (1, .ref (G.1 134)), (2, .int a2)]) dX13_firstWay_1 rfl (by decide) rfl ?_
  exact Ev.sub (ks := [1, 2, 3, 0]) rfl h
set_option maxHeartbeats 4000000 in
set_option maxRecDepth 100000 in
theorem C_X13_ring_130 (G : eG) (M : eM) (F : Bool → eM → Prop) (a2 : Int32)
    (h : Cal G 100 40 (4, 0, 0) kX13_tilesBeside [.ref (G.1 100), .ref (G.1 130), .int a2] M (eFI (fun (r1 : Int32) (M1 : eM) => ((¬ r1 = 6) → F false M1) ∧ ((r1 = 6) → F true M1)))) :
    Cal G 100 40 (5, 0, 0) kX13_ring [.ref (G.1 100), .ref (G.1 130), .int a2] M (eFZ F) := by
  refine Cal.of (by decide +kernel) rfl (Nat.le_of_ble_eq_true rfl) ?_
  show Ev (eZ G 100 40 0 0 (eFZ F)) G 100 40 (5, 0, 0) kX13_ring 0 [(0, .ref (G.1 100)), (1, .ref (G.1 130)), (2, .int a2)] [] M 0 0
  refine r_aload_n 0 dX13_ring_0 rfl rfl ?_
  refine r_aload_n 1 dX13_ring_1 rfl rfl ?_
  refine r_iload_n 2 dX13_ring_2 rfl rfl ?_
  refine r_callVI (b' := (4, 0, 0)) (c := 100) (S := []) [.ref (G.1 130), .int a2] dX13_ring_3 mX13_tilesBeside lMX13_299 clX13 rfl iM100 sC100 rfl (by decide) (Nat.le_of_ble_eq_true rfl) h (fun r1 M1 h => ?_) rfl
  refine r_bipush (v := 6) dX13_ring_6 rfl ?_
  refine r_icmp_ne (t := 15) dX13_ring_8 (by decide) (fun q => ?_) (fun q => ?_)
  · replace h := h.1 q
    refine r_iconst (v := 0) dX13_ring_15 rfl ?_
    refine r_iretZ0 dX13_ring_16 rfl (by decide) (by decide) h
  · replace h := h.2 q
    refine r_iconst (v := 1) dX13_ring_11 rfl ?_
    refine r_goto (t := 16) dX13_ring_12 (by decide) ?_
    refine r_iretZ1 dX13_ring_16 rfl (by decide) (by decide) h
set_option maxHeartbeats 4000000 in
set_option maxRecDepth 100000 in
theorem C_X13_ring_134 (G : eG) (M : eM) (F : Bool → eM → Prop) (a2 : Int32)
    (h : Cal G 100 40 (4, 0, 0) kX13_tilesBeside [.ref (G.1 100), .ref (G.1 134), .int a2] M (eFI (fun (r1 : Int32) (M1 : eM) => ((¬ r1 = 6) → F false M1) ∧ ((r1 = 6) → F true M1)))) :
    Cal G 100 40 (5, 0, 0) kX13_ring [.ref (G.1 100), .ref (G.1 134), .int a2] M (eFZ F) := by
  refine Cal.of (by decide +kernel) rfl (Nat.le_of_ble_eq_true rfl) ?_
  show Ev (eZ G 100 40 0 0 (eFZ F)) G 100 40 (5, 0, 0) kX13_ring 0 [(0, .ref (G.1 100)), (1, .ref (G.1 134)), (2, .int a2)] [] M 0 0
  refine r_aload_n 0 dX13_ring_0 rfl rfl ?_
  refine r_aload_n 1 dX13_ring_1 rfl rfl ?_
  refine r_iload_n 2 dX13_ring_2 rfl rfl ?_
  refine r_callVI (b' := (4, 0, 0)) (c := 100) (S := []) [.ref (G.1 134), .int a2] dX13_ring_3 mX13_tilesBeside lMX13_299 clX13 rfl iM100 sC100 rfl (by decide) (Nat.le_of_ble_eq_true rfl) h (fun r1 M1 h => ?_) rfl
  refine r_bipush (v := 6) dX13_ring_6 rfl ?_
  refine r_icmp_ne (t := 15) dX13_ring_8 (by decide) (fun q => ?_) (fun q => ?_)
  · replace h := h.1 q
    refine r_iconst (v := 0) dX13_ring_15 rfl ?_
    refine r_iretZ0 dX13_ring_16 rfl (by decide) (by decide) h
  · replace h := h.2 q
    refine r_iconst (v := 1) dX13_ring_11 rfl ?_
    refine r_goto (t := 16) dX13_ring_12 (by decide) ?_
    refine r_iretZ1 dX13_ring_16 rfl (by decide) (by decide) h
set_option maxHeartbeats 4000000 in
set_option maxRecDepth 100000 in
theorem B_X13_rings_130_4 (G : eG) (M : eM) (F : Int32 → eM → Prop) (x2 : Int32) (x3 : Int32)
    (h : Cal G 100 40 (1, 0, 0) kX13_cells [.ref (G.1 100)] M (eFI (fun (r1 : Int32) (M1 : eM) => ((r1 ≤ x3) → F x2 M1) ∧ ((¬ r1 ≤ x3) → Cal G 100 40 (5, 0, 0) kX13_ring [.ref (G.1 100), .ref (G.1 130), .int x3] M1 (eFZ (fun (r2 : Bool) (M2 : eM) => ((r2 = false) → Ev (eZ G 100 40 0 0 (eFI F)) G 100 40 (6, 0, 0) kX13_rings 4 [(0, .ref (G.1 100)), (1, .ref (G.1 130)), (2, .int (x2 + 0)), (3, .int (x3 + 1))] [] M2 0 0) ∧ ((r2 = true) → Ev (eZ G 100 40 0 0 (eFI F)) G 100 40 (6, 0, 0) kX13_rings 4 [(0, .ref (G.1 100)), (1, .ref (G.1 130)), (2, .int (x2 + 1)), (3, .int (x3 + 1))] [] M2 0 0))))))) :
    Ev (eZ G 100 40 0 0 (eFI F)) G 100 40 (6, 0, 0) kX13_rings 4 [(0, .ref (G.1 100)), (1, .ref (G.1 130)), (2, .int x2), (3, .int x3)] [] M 0 0 := by
  refine r_iload_n 3 dX13_rings_4 rfl rfl ?_
  refine r_aload_n 0 dX13_rings_5 rfl rfl ?_
  refine r_callVI (b' := (1, 0, 0)) (c := 100) (S := [.int x3]) [] dX13_rings_6 mX13_cells lMX13_307 clX13 rfl iM100 sC100 rfl (by decide) (Nat.le_of_ble_eq_true rfl) h (fun r1 M1 h => ?_) rfl
  refine r_icmp_ge (t := 35) dX13_rings_9 (by decide) (fun q => ?_) (fun q => ?_)
  · replace h := h.1 q
    refine r_iload_n 2 dX13_rings_35 rfl rfl ?_
    refine r_iretI dX13_rings_36 rfl (by decide) (by decide) h
  · replace h := h.2 q
    refine r_iload_n 2 dX13_rings_12 rfl rfl ?_
    refine r_aload_n 0 dX13_rings_13 rfl rfl ?_
    refine r_aload_n 1 dX13_rings_14 rfl rfl ?_
    refine r_iload_n 3 dX13_rings_15 rfl rfl ?_
    refine r_callVZ (b' := (5, 0, 0)) (c := 100) (S := [.int x2]) [.ref (G.1 130), .int x3] dX13_rings_16 mX13_ring lMX13_314 clX13 rfl iM100 sC100 rfl (by decide) (Nat.le_of_ble_eq_true rfl) h (fun r2 M2 h => ?_) rfl
    refine r_zif_eq (t := 26) dX13_rings_19 (by decide) (fun q => ?_) (fun q => ?_)
    · replace h := h.1 q
      refine r_iconst (v := 0) dX13_rings_26 rfl ?_
      refine r_iadd dX13_rings_27 ?_
      refine r_istore_n (l' := [(2, .int (x2 + 0)), (0, .ref (G.1 100)), (1, .ref (G.1 130)), (3, .int x3)]) dX13_rings_28 rfl (by decide) rfl ?_
      refine r_iinc (v := x3 + 1) (l' := [(3, .int (x3 + 1)), (2, .int (x2 + 0)), (0, .ref (G.1 100)), (1, .ref (G.1 130))]) 3 dX13_rings_29 rfl rfl (by decide) rfl ?_
      refine r_goto (t := 4) dX13_rings_32 (by decide) ?_
      exact Ev.sub (ks := [2, 3, 1, 0]) rfl h
    · replace h := h.2 q
      refine r_iconst (v := 1) dX13_rings_22 rfl ?_
      refine r_goto (t := 27) dX13_rings_23 (by decide) ?_
      refine r_iadd dX13_rings_27 ?_
      refine r_istore_n (l' := [(2, .int (x2 + 1)), (0, .ref (G.1 100)), (1, .ref (G.1 130)), (3, .int x3)]) dX13_rings_28 rfl (by decide) rfl ?_
      refine r_iinc (v := x3 + 1) (l' := [(3, .int (x3 + 1)), (2, .int (x2 + 1)), (0, .ref (G.1 100)), (1, .ref (G.1 130))]) 3 dX13_rings_29 rfl rfl (by decide) rfl ?_
      refine r_goto (t := 4) dX13_rings_32 (by decide) ?_
      exact Ev.sub (ks := [2, 3, 1, 0]) rfl h
set_option maxHeartbeats 4000000 in
set_option maxRecDepth 100000 in
theorem C_X13_rings_130 (G : eG) (M : eM) (F : Int32 → eM → Prop) 
    (h : Ev (eZ G 100 40 0 0 (eFI F)) G 100 40 (6, 0, 0) kX13_rings 4 [(0, .ref (G.1 100)), (1, .ref (G.1 130)), (2, .int 0), (3, .int 0)] [] M 0 0) :
    Cal G 100 40 (6, 0, 0) kX13_rings [.ref (G.1 100), .ref (G.1 130)] M (eFI F) := by
  refine Cal.of (by decide +kernel) rfl (Nat.le_of_ble_eq_true rfl) ?_
  show Ev (eZ G 100 40 0 0 (eFI F)) G 100 40 (6, 0, 0) kX13_rings 0 [(0, .ref (G.1 100)), (1, .ref (G.1 130))] [] M 0 0
  refine r_iconst (v := 0) dX13_rings_0 rfl ?_
  refine r_istore_n (l' := [(2, .int 0), (0, .ref (G.1 100)), (1, .ref (G.1 130))]) dX13_rings_1 rfl (by decide) rfl ?_
  refine r_iconst (v := 0) dX13_rings_2 rfl ?_
  refine r_istore_n (l' := [(3, .int 0), (2, .int 0), (0, .ref (G.1 100)), (1, .ref (G.1 130))]) dX13_rings_3 rfl (by decide) rfl ?_
  exact Ev.sub (ks := [2, 3, 1, 0]) rfl h
set_option maxHeartbeats 4000000 in
set_option maxRecDepth 100000 in
theorem B_X13_rings_134_4 (G : eG) (M : eM) (F : Int32 → eM → Prop) (x2 : Int32) (x3 : Int32)
    (h : Cal G 100 40 (1, 0, 0) kX13_cells [.ref (G.1 100)] M (eFI (fun (r1 : Int32) (M1 : eM) => ((r1 ≤ x3) → F x2 M1) ∧ ((¬ r1 ≤ x3) → Cal G 100 40 (5, 0, 0) kX13_ring [.ref (G.1 100), .ref (G.1 134), .int x3] M1 (eFZ (fun (r2 : Bool) (M2 : eM) => ((r2 = false) → Ev (eZ G 100 40 0 0 (eFI F)) G 100 40 (6, 0, 0) kX13_rings 4 [(0, .ref (G.1 100)), (1, .ref (G.1 134)), (2, .int (x2 + 0)), (3, .int (x3 + 1))] [] M2 0 0) ∧ ((r2 = true) → Ev (eZ G 100 40 0 0 (eFI F)) G 100 40 (6, 0, 0) kX13_rings 4 [(0, .ref (G.1 100)), (1, .ref (G.1 134)), (2, .int (x2 + 1)), (3, .int (x3 + 1))] [] M2 0 0))))))) :
    Ev (eZ G 100 40 0 0 (eFI F)) G 100 40 (6, 0, 0) kX13_rings 4 [(0, .ref (G.1 100)), (1, .ref (G.1 134)), (2, .int x2), (3, .int x3)] [] M 0 0 := by
  refine r_iload_n 3 dX13_rings_4 rfl rfl ?_
  refine r_aload_n 0 dX13_rings_5 rfl rfl ?_
  refine r_callVI (b' := (1, 0, 0)) (c := 100) (S := [.int x3]) [] dX13_rings_6 mX13_cells lMX13_307 clX13 rfl iM100 sC100 rfl (by decide) (Nat.le_of_ble_eq_true rfl) h (fun r1 M1 h => ?_) rfl
  refine r_icmp_ge (t := 35) dX13_rings_9 (by decide) (fun q => ?_) (fun q => ?_)
  · replace h := h.1 q
    refine r_iload_n 2 dX13_rings_35 rfl rfl ?_
    refine r_iretI dX13_rings_36 rfl (by decide) (by decide) h
  · replace h := h.2 q
    refine r_iload_n 2 dX13_rings_12 rfl rfl ?_
    refine r_aload_n 0 dX13_rings_13 rfl rfl ?_
    refine r_aload_n 1 dX13_rings_14 rfl rfl ?_
    refine r_iload_n 3 dX13_rings_15 rfl rfl ?_
    refine r_callVZ (b' := (5, 0, 0)) (c := 100) (S := [.int x2]) [.ref (G.1 134), .int x3] dX13_rings_16 mX13_ring lMX13_314 clX13 rfl iM100 sC100 rfl (by decide) (Nat.le_of_ble_eq_true rfl) h (fun r2 M2 h => ?_) rfl
    refine r_zif_eq (t := 26) dX13_rings_19 (by decide) (fun q => ?_) (fun q => ?_)
    · replace h := h.1 q
      refine r_iconst (v := 0) dX13_rings_26 rfl ?_
      refine r_iadd dX13_rings_27 ?_
      refine r_istore_n (l' := [(2, .int (x2 + 0)), (0, .ref (G.1 100)), (1, .ref (G.1 134)), (3, .int x3)]) dX13_rings_28 rfl (by decide) rfl ?_
      refine r_iinc (v := x3 + 1) (l' := [(3, .int (x3 + 1)), (2, .int (x2 + 0)), (0, .ref (G.1 100)), (1, .ref (G.1 134))]) 3 dX13_rings_29 rfl rfl (by decide) rfl ?_
      refine r_goto (t := 4) dX13_rings_32 (by decide) ?_
      exact Ev.sub (ks := [2, 3, 1, 0]) rfl h
    · replace h := h.2 q
      refine r_iconst (v := 1) dX13_rings_22 rfl ?_
      refine r_goto (t := 27) dX13_rings_23 (by decide) ?_
      refine r_iadd dX13_rings_27 ?_
      refine r_istore_n (l' := [(2, .int (x2 + 1)), (0, .ref (G.1 100)), (1, .ref (G.1 134)), (3, .int x3)]) dX13_rings_28 rfl (by decide) rfl ?_
      refine r_iinc (v := x3 + 1) (l' := [(3, .int (x3 + 1)), (2, .int (x2 + 1)), (0, .ref (G.1 100)), (1, .ref (G.1 134))]) 3 dX13_rings_29 rfl rfl (by decide) rfl ?_
      refine r_goto (t := 4) dX13_rings_32 (by decide) ?_
      exact Ev.sub (ks := [2, 3, 1, 0]) rfl h
set_option maxHeartbeats 4000000 in
set_option maxRecDepth 100000 in
theorem C_X13_rings_134 (G : eG) (M : eM) (F : Int32 → eM → Prop) 
    (h : Ev (eZ G 100 40 0 0 (eFI F)) G 100 40 (6, 0, 0) kX13_rings 4 [(0, .ref (G.1 100)), (1, .ref (G.1 134)), (2, .int 0), (3, .int 0)] [] M 0 0) :
    Cal G 100 40 (6, 0, 0) kX13_rings [.ref (G.1 100), .ref (G.1 134)] M (eFI F) := by
  refine Cal.of (by decide +kernel) rfl (Nat.le_of_ble_eq_true rfl) ?_
  show Ev (eZ G 100 40 0 0 (eFI F)) G 100 40 (6, 0, 0) kX13_rings 0 [(0, .ref (G.1 100)), (1, .ref (G.1 134))] [] M 0 0
  refine r_iconst (v := 0) dX13_rings_0 rfl ?_
  refine r_istore_n (l' := [(2, .int 0), (0, .ref (G.1 100)), (1, .ref (G.1 134))]) dX13_rings_1 rfl (by decide) rfl ?_
  refine r_iconst (v := 0) dX13_rings_2 rfl ?_
  refine r_istore_n (l' := [(3, .int 0), (2, .int 0), (0, .ref (G.1 100)), (1, .ref (G.1 134))]) dX13_rings_3 rfl (by decide) rfl ?_
  exact Ev.sub (ks := [2, 3, 1, 0]) rfl h
set_option maxHeartbeats 4000000 in
set_option maxRecDepth 100000 in
theorem B_X13_matches_130_31 (G : eG) (M : eM) (F : Int32 → eM → Prop) (x2 : Int32) (x3 : Int32)
    (h : Ev (eZ G 100 40 0 0 (eFI F)) G 100 40 (5, 0, 0) kX13_matches 4 [(0, .ref (G.1 100)), (1, .ref (G.1 130)), (2, .int x2), (3, .int (x3 + 1))] [] M 0 0) :
    Ev (eZ G 100 40 0 0 (eFI F)) G 100 40 (5, 0, 0) kX13_matches 31 [(0, .ref (G.1 100)), (1, .ref (G.1 130)), (2, .int x2), (3, .int x3)] [] M 0 0 := by
  refine r_iinc (v := x3 + 1) (l' := [(3, .int (x3 + 1)), (0, .ref (G.1 100)), (1, .ref (G.1 130)), (2, .int x2)]) 3 dX13_matches_31 rfl rfl (by decide) rfl ?_
  refine r_goto (t := 4) dX13_matches_34 (by decide) ?_
  exact Ev.sub (ks := [1, 2, 3, 0]) rfl h
set_option maxHeartbeats 4000000 in
set_option maxRecDepth 100000 in
theorem B_X13_matches_130_4 (G : eG) (M : eM) (F : Int32 → eM → Prop) (x2 : Int32) (x3 : Int32)
    (h : Cal G 100 40 (1, 0, 0) kX13_cells [.ref (G.1 100)] M (eFI (fun (r1 : Int32) (M1 : eM) => ((r1 ≤ x3) → F (x2 / 2) M1) ∧ ((¬ r1 ≤ x3) → vp_in x3 49 ∧ ((((M1 131 x3.toNatClampNeg) = (-1)) → Ev (eZ G 100 40 0 0 (eFI F)) G 100 40 (5, 0, 0) kX13_matches 31 [(0, .ref (G.1 100)), (1, .ref (G.1 130)), (2, .int x2), (3, .int x3)] [] M1 0 0) ∧ ((¬ (M1 131 x3.toNatClampNeg) = (-1)) → Cal G 100 40 (4, 0, 0) kX13_tilesBeside [.ref (G.1 100), .ref (G.1 130), .int x3] M1 (eFI (fun (r2 : Int32) (M2 : eM) => Ev (eZ G 100 40 0 0 (eFI F)) G 100 40 (5, 0, 0) kX13_matches 31 [(0, .ref (G.1 100)), (1, .ref (G.1 130)), (2, .int (x2 + r2)), (3, .int x3)] [] M2 0 0)))))))) :
    Ev (eZ G 100 40 0 0 (eFI F)) G 100 40 (5, 0, 0) kX13_matches 4 [(0, .ref (G.1 100)), (1, .ref (G.1 130)), (2, .int x2), (3, .int x3)] [] M 0 0 := by
  refine r_iload_n 3 dX13_matches_4 rfl rfl ?_
  refine r_aload_n 0 dX13_matches_5 rfl rfl ?_
  refine r_callVI (b' := (1, 0, 0)) (c := 100) (S := [.int x3]) [] dX13_matches_6 mX13_cells lMX13_307 clX13 rfl iM100 sC100 rfl (by decide) (Nat.le_of_ble_eq_true rfl) h (fun r1 M1 h => ?_) rfl
  refine r_icmp_ge (t := 37) dX13_matches_9 (by decide) (fun q => ?_) (fun q => ?_)
  · replace h := h.1 q
    refine r_iload_n 2 dX13_matches_37 rfl rfl ?_
    refine r_iconst (v := 2) dX13_matches_38 rfl ?_
    refine r_idiv dX13_matches_39 (by decide) ?_
    refine r_iretI dX13_matches_40 rfl (by decide) (by decide) h
  · replace h := h.2 q
    refine r_aload_n 1 dX13_matches_12 rfl rfl ?_
    refine r_getNR (c := 130) (k := 0) 131 dX13_matches_13 clX11 lFX13_280 (by decide) iM130 sC130 rfl ?_
    refine r_iload_n 3 dX13_matches_16 rfl rfl ?_
    have h1 := h.1
    replace h := h.2
    refine r_iald (c := 131) (N := 49) dX13_matches_17 iM131 sC131 h1 ?_
    refine r_iconst (v := (-1)) dX13_matches_18 rfl ?_
    refine r_icmp_eq (t := 31) dX13_matches_19 (by decide) (fun q => ?_) (fun q => ?_)
    · replace h := h.1 q
      exact h
    · replace h := h.2 q
      refine r_iload_n 2 dX13_matches_22 rfl rfl ?_
      refine r_aload_n 0 dX13_matches_23 rfl rfl ?_
      refine r_aload_n 1 dX13_matches_24 rfl rfl ?_
      refine r_iload_n 3 dX13_matches_25 rfl rfl ?_
      refine r_callVI (b' := (4, 0, 0)) (c := 100) (S := [.int x2]) [.ref (G.1 130), .int x3] dX13_matches_26 mX13_tilesBeside lMX13_299 clX13 rfl iM100 sC100 rfl (by decide) (Nat.le_of_ble_eq_true rfl) h (fun r2 M2 h => ?_) rfl
      refine r_iadd dX13_matches_29 ?_
      refine r_istore_n (l' := [(2, .int (x2 + r2)), (0, .ref (G.1 100)), (1, .ref (G.1 130)), (3, .int x3)]) dX13_matches_30 rfl (by decide) rfl ?_
      exact Ev.sub (ks := [1, 2, 0, 3]) rfl h
set_option maxHeartbeats 4000000 in
set_option maxRecDepth 100000 in
theorem C_X13_matches_130 (G : eG) (M : eM) (F : Int32 → eM → Prop) 
    (h : Ev (eZ G 100 40 0 0 (eFI F)) G 100 40 (5, 0, 0) kX13_matches 4 [(0, .ref (G.1 100)), (1, .ref (G.1 130)), (2, .int 0), (3, .int 0)] [] M 0 0) :
    Cal G 100 40 (5, 0, 0) kX13_matches [.ref (G.1 100), .ref (G.1 130)] M (eFI F) := by
  refine Cal.of (by decide +kernel) rfl (Nat.le_of_ble_eq_true rfl) ?_
  show Ev (eZ G 100 40 0 0 (eFI F)) G 100 40 (5, 0, 0) kX13_matches 0 [(0, .ref (G.1 100)), (1, .ref (G.1 130))] [] M 0 0
  refine r_iconst (v := 0) dX13_matches_0 rfl ?_
  refine r_istore_n (l' := [(2, .int 0), (0, .ref (G.1 100)), (1, .ref (G.1 130))]) dX13_matches_1 rfl (by decide) rfl ?_
  refine r_iconst (v := 0) dX13_matches_2 rfl ?_
  refine r_istore_n (l' := [(3, .int 0), (2, .int 0), (0, .ref (G.1 100)), (1, .ref (G.1 130))]) dX13_matches_3 rfl (by decide) rfl ?_
  exact Ev.sub (ks := [2, 3, 1, 0]) rfl h
set_option maxHeartbeats 4000000 in
set_option maxRecDepth 100000 in
theorem B_X13_matches_134_31 (G : eG) (M : eM) (F : Int32 → eM → Prop) (x2 : Int32) (x3 : Int32)
    (h : Ev (eZ G 100 40 0 0 (eFI F)) G 100 40 (5, 0, 0) kX13_matches 4 [(0, .ref (G.1 100)), (1, .ref (G.1 134)), (2, .int x2), (3, .int (x3 + 1))] [] M 0 0) :
    Ev (eZ G 100 40 0 0 (eFI F)) G 100 40 (5, 0, 0) kX13_matches 31 [(0, .ref (G.1 100)), (1, .ref (G.1 134)), (2, .int x2), (3, .int x3)] [] M 0 0 := by
  refine r_iinc (v := x3 + 1) (l' := [(3, .int (x3 + 1)), (0, .ref (G.1 100)), (1, .ref (G.1 134)), (2, .int x2)]) 3 dX13_matches_31 rfl rfl (by decide) rfl ?_
  refine r_goto (t := 4) dX13_matches_34 (by decide) ?_
  exact Ev.sub (ks := [1, 2, 3, 0]) rfl h
set_option maxHeartbeats 4000000 in
set_option maxRecDepth 100000 in
theorem B_X13_matches_134_4 (G : eG) (M : eM) (F : Int32 → eM → Prop) (x2 : Int32) (x3 : Int32)
    (h : Cal G 100 40 (1, 0, 0) kX13_cells [.ref (G.1 100)] M (eFI (fun (r1 : Int32) (M1 : eM) => ((r1 ≤ x3) → F (x2 / 2) M1) ∧ ((¬ r1 ≤ x3) → vp_in x3 49 ∧ ((((M1 135 x3.toNatClampNeg) = (-1)) → Ev (eZ G 100 40 0 0 (eFI F)) G 100 40 (5, 0, 0) kX13_matches 31 [(0, .ref (G.1 100)), (1, .ref (G.1 134)), (2, .int x2), (3, .int x3)] [] M1 0 0) ∧ ((¬ (M1 135 x3.toNatClampNeg) = (-1)) → Cal G 100 40 (4, 0, 0) kX13_tilesBeside [.ref (G.1 100), .ref (G.1 134), .int x3] M1 (eFI (fun (r2 : Int32) (M2 : eM) => Ev (eZ G 100 40 0 0 (eFI F)) G 100 40 (5, 0, 0) kX13_matches 31 [(0, .ref (G.1 100)), (1, .ref (G.1 134)), (2, .int (x2 + r2)), (3, .int x3)] [] M2 0 0)))))))) :
    Ev (eZ G 100 40 0 0 (eFI F)) G 100 40 (5, 0, 0) kX13_matches 4 [(0, .ref (G.1 100)), (1, .ref (G.1 134)), (2, .int x2), (3, .int x3)] [] M 0 0 := by
  refine r_iload_n 3 dX13_matches_4 rfl rfl ?_
  refine r_aload_n 0 dX13_matches_5 rfl rfl ?_
  refine r_callVI (b' := (1, 0, 0)) (c := 100) (S := [.int x3]) [] dX13_matches_6 mX13_cells lMX13_307 clX13 rfl iM100 sC100 rfl (by decide) (Nat.le_of_ble_eq_true rfl) h (fun r1 M1 h => ?_) rfl
  refine r_icmp_ge (t := 37) dX13_matches_9 (by decide) (fun q => ?_) (fun q => ?_)
  · replace h := h.1 q
    refine r_iload_n 2 dX13_matches_37 rfl rfl ?_
    refine r_iconst (v := 2) dX13_matches_38 rfl ?_
    refine r_idiv dX13_matches_39 (by decide) ?_
    refine r_iretI dX13_matches_40 rfl (by decide) (by decide) h
  · replace h := h.2 q
    refine r_aload_n 1 dX13_matches_12 rfl rfl ?_
    refine r_getNR (c := 134) (k := 0) 135 dX13_matches_13 clX11 lFX13_280 (by decide) iM134 sC134 rfl ?_
    refine r_iload_n 3 dX13_matches_16 rfl rfl ?_
    have h1 := h.1
    replace h := h.2
    refine r_iald (c := 135) (N := 49) dX13_matches_17 iM135 sC135 h1 ?_
    refine r_iconst (v := (-1)) dX13_matches_18 rfl ?_
    refine r_icmp_eq (t := 31) dX13_matches_19 (by decide) (fun q => ?_) (fun q => ?_)
    · replace h := h.1 q
      exact h
    · replace h := h.2 q
      refine r_iload_n 2 dX13_matches_22 rfl rfl ?_
      refine r_aload_n 0 dX13_matches_23 rfl rfl ?_
      refine r_aload_n 1 dX13_matches_24 rfl rfl ?_
      refine r_iload_n 3 dX13_matches_25 rfl rfl ?_
      refine r_callVI (b' := (4, 0, 0)) (c := 100) (S := [.int x2]) [.ref (G.1 134), .int x3] dX13_matches_26 mX13_tilesBeside lMX13_299 clX13 rfl iM100 sC100 rfl (by decide) (Nat.le_of_ble_eq_true rfl) h (fun r2 M2 h => ?_) rfl
      refine r_iadd dX13_matches_29 ?_
      refine r_istore_n (l' := [(2, .int (x2 + r2)), (0, .ref (G.1 100)), (1, .ref (G.1 134)), (3, .int x3)]) dX13_matches_30 rfl (by decide) rfl ?_
      exact Ev.sub (ks := [1, 2, 0, 3]) rfl h
set_option maxHeartbeats 4000000 in
set_option maxRecDepth 100000 in
theorem C_X13_matches_134 (G : eG) (M : eM) (F : Int32 → eM → Prop) 
    (h : Ev (eZ G 100 40 0 0 (eFI F)) G 100 40 (5, 0, 0) kX13_matches 4 [(0, .ref (G.1 100)), (1, .ref (G.1 134)), (2, .int 0), (3, .int 0)] [] M 0 0) :
    Cal G 100 40 (5, 0, 0) kX13_matches [.ref (G.1 100), .ref (G.1 134)] M (eFI F) := by
  refine Cal.of (by decide +kernel) rfl (Nat.le_of_ble_eq_true rfl) ?_
  show Ev (eZ G 100 40 0 0 (eFI F)) G 100 40 (5, 0, 0) kX13_matches 0 [(0, .ref (G.1 100)), (1, .ref (G.1 134))] [] M 0 0
  refine r_iconst (v := 0) dX13_matches_0 rfl ?_
  refine r_istore_n (l' := [(2, .int 0), (0, .ref (G.1 100)), (1, .ref (G.1 134))]) dX13_matches_1 rfl (by decide) rfl ?_
  refine r_iconst (v := 0) dX13_matches_2 rfl ?_
  refine r_istore_n (l' := [(3, .int 0), (2, .int 0), (0, .ref (G.1 100)), (1, .ref (G.1 134))]) dX13_matches_3 rfl (by decide) rfl ?_
  exact Ev.sub (ks := [2, 3, 1, 0]) rfl h
set_option maxHeartbeats 4000000 in
set_option maxRecDepth 100000 in
theorem B_X13_matched_130_67 (G : eG) (M : eM) (F : Int32 → eM → Prop) (x2 : Int32) (x3 : Int32)
    (h : Ev (eZ G 100 40 0 0 (eFI F)) G 100 40 (4, 0, 0) kX13_matched 4 [(0, .ref (G.1 100)), (1, .ref (G.1 130)), (2, .int x2), (3, .int (x3 + 1))] [] M 0 0) :
    Ev (eZ G 100 40 0 0 (eFI F)) G 100 40 (4, 0, 0) kX13_matched 67 [(0, .ref (G.1 100)), (1, .ref (G.1 130)), (2, .int x2), (3, .int x3)] [] M 0 0 := by
  refine r_iinc (v := x3 + 1) (l' := [(3, .int (x3 + 1)), (0, .ref (G.1 100)), (1, .ref (G.1 130)), (2, .int x2)]) 3 dX13_matched_67 rfl rfl (by decide) rfl ?_
  refine r_goto (t := 4) dX13_matched_70 (by decide) ?_
  exact Ev.sub (ks := [1, 2, 3, 0]) rfl h
set_option maxHeartbeats 4000000 in
set_option maxRecDepth 100000 in
theorem B_X13_matched_130_28 (G : eG) (M : eM) (F : Int32 → eM → Prop) (x2 : Int32) (x3 : Int32) (x4 : Int32)
    (h : ((3 ≤ x4) → Ev (eZ G 100 40 0 0 (eFI F)) G 100 40 (4, 0, 0) kX13_matched 67 [(0, .ref (G.1 100)), (1, .ref (G.1 130)), (2, .int x2), (3, .int x3)] [] M 0 0) ∧ ((¬ 3 ≤ x4) → Cal G 100 40 (3, 0, 0) kX13_tileBeside [.ref (G.1 100), .ref (G.1 130), .int x3, .int x4] M (eFI (fun (r1 : Int32) (M1 : eM) => ((¬ r1 = (-1)) → Cal G 100 40 (2, 0, 0) kX13_numberAt [.ref (G.1 100), .ref (G.1 130), .int x3, .int x4] M1 (eFI (fun (r2 : Int32) (M2 : eM) => Ev (eZ G 100 40 0 0 (eFI F)) G 100 40 (4, 0, 0) kX13_matched 28 [(0, .ref (G.1 100)), (1, .ref (G.1 130)), (2, .int (x2 + r2)), (3, .int x3), (4, .int (x4 + 1))] [] M2 0 0))) ∧ ((r1 = (-1)) → Ev (eZ G 100 40 0 0 (eFI F)) G 100 40 (4, 0, 0) kX13_matched 28 [(0, .ref (G.1 100)), (1, .ref (G.1 130)), (2, .int (x2 + 0)), (3, .int x3), (4, .int (x4 + 1))] [] M1 0 0))))) :
    Ev (eZ G 100 40 0 0 (eFI F)) G 100 40 (4, 0, 0) kX13_matched 28 [(0, .ref (G.1 100)), (1, .ref (G.1 130)), (2, .int x2), (3, .int x3), (4, .int x4)] [] M 0 0 := by
  refine r_iload 4 dX13_matched_28 rfl ?_
  refine r_iconst (v := 3) dX13_matched_30 rfl ?_
  refine r_icmp_ge (t := 67) dX13_matched_31 (by decide) (fun q => ?_) (fun q => ?_)
  · replace h := h.1 q
    exact Ev.sub (ks := [0, 1, 2, 3]) rfl h
  · replace h := h.2 q
    refine r_iload_n 2 dX13_matched_34 rfl rfl ?_
    refine r_aload_n 0 dX13_matched_35 rfl rfl ?_
    refine r_aload_n 1 dX13_matched_36 rfl rfl ?_
    refine r_iload_n 3 dX13_matched_37 rfl rfl ?_
    refine r_iload 4 dX13_matched_38 rfl ?_
    refine r_callVI (b' := (3, 0, 0)) (c := 100) (S := [.int x2]) [.ref (G.1 130), .int x3, .int x4] dX13_matched_40 mX13_tileBeside lMX13_289 clX13 rfl iM100 sC100 rfl (by decide) (Nat.le_of_ble_eq_true rfl) h (fun r1 M1 h => ?_) rfl
    refine r_iconst (v := (-1)) dX13_matched_43 rfl ?_
    refine r_icmp_ne (t := 51) dX13_matched_44 (by decide) (fun q => ?_) (fun q => ?_)
    · replace h := h.1 q
      refine r_aload_n 0 dX13_matched_51 rfl rfl ?_
      refine r_aload_n 1 dX13_matched_52 rfl rfl ?_
      refine r_iload_n 3 dX13_matched_53 rfl rfl ?_
      refine r_iload 4 dX13_matched_54 rfl ?_
      refine r_callVI (b' := (2, 0, 0)) (c := 100) (S := [.int x2]) [.ref (G.1 130), .int x3, .int x4] dX13_matched_56 mX13_numberAt lMX13_318 clX13 rfl iM100 sC100 rfl (by decide) (Nat.le_of_ble_eq_true rfl) h (fun r2 M2 h => ?_) rfl
      refine r_iadd dX13_matched_59 ?_
      refine r_istore_n (l' := [(2, .int (x2 + r2)), (0, .ref (G.1 100)), (1, .ref (G.1 130)), (3, .int x3), (4, .int x4)]) dX13_matched_60 rfl (by decide) rfl ?_
      refine r_iinc (v := x4 + 1) (l' := [(4, .int (x4 + 1)), (2, .int (x2 + r2)), (0, .ref (G.1 100)), (1, .ref (G.1 130)), (3, .int x3)]) 4 dX13_matched_61 rfl rfl (by decide) rfl ?_
      refine r_goto (t := 28) dX13_matched_64 (by decide) ?_
      exact Ev.sub (ks := [2, 3, 1, 4, 0]) rfl h
    · replace h := h.2 q
      refine r_iconst (v := 0) dX13_matched_47 rfl ?_
      refine r_goto (t := 59) dX13_matched_48 (by decide) ?_
      refine r_iadd dX13_matched_59 ?_
      refine r_istore_n (l' := [(2, .int (x2 + 0)), (0, .ref (G.1 100)), (1, .ref (G.1 130)), (3, .int x3), (4, .int x4)]) dX13_matched_60 rfl (by decide) rfl ?_
      refine r_iinc (v := x4 + 1) (l' := [(4, .int (x4 + 1)), (2, .int (x2 + 0)), (0, .ref (G.1 100)), (1, .ref (G.1 130)), (3, .int x3)]) 4 dX13_matched_61 rfl rfl (by decide) rfl ?_
      refine r_goto (t := 28) dX13_matched_64 (by decide) ?_
      exact Ev.sub (ks := [2, 3, 1, 4, 0]) rfl h
set_option maxHeartbeats 4000000 in
set_option maxRecDepth 100000 in
theorem B_X13_matched_130_4 (G : eG) (M : eM) (F : Int32 → eM → Prop) (x2 : Int32) (x3 : Int32)
    (h : Cal G 100 40 (1, 0, 0) kX13_cells [.ref (G.1 100)] M (eFI (fun (r1 : Int32) (M1 : eM) => ((r1 ≤ x3) → F x2 M1) ∧ ((¬ r1 ≤ x3) → vp_in x3 49 ∧ (((¬ (M1 131 x3.toNatClampNeg) = (-1)) → Ev (eZ G 100 40 0 0 (eFI F)) G 100 40 (4, 0, 0) kX13_matched 28 [(0, .ref (G.1 100)), (1, .ref (G.1 130)), (2, .int x2), (3, .int x3), (4, .int 0)] [] M1 0 0) ∧ (((M1 131 x3.toNatClampNeg) = (-1)) → Ev (eZ G 100 40 0 0 (eFI F)) G 100 40 (4, 0, 0) kX13_matched 67 [(0, .ref (G.1 100)), (1, .ref (G.1 130)), (2, .int x2), (3, .int x3)] [] M1 0 0)))))) :
    Ev (eZ G 100 40 0 0 (eFI F)) G 100 40 (4, 0, 0) kX13_matched 4 [(0, .ref (G.1 100)), (1, .ref (G.1 130)), (2, .int x2), (3, .int x3)] [] M 0 0 := by
  refine r_iload_n 3 dX13_matched_4 rfl rfl ?_
  refine r_aload_n 0 dX13_matched_5 rfl rfl ?_
  refine r_callVI (b' := (1, 0, 0)) (c := 100) (S := [.int x3]) [] dX13_matched_6 mX13_cells lMX13_307 clX13 rfl iM100 sC100 rfl (by decide) (Nat.le_of_ble_eq_true rfl) h (fun r1 M1 h => ?_) rfl
  refine r_icmp_ge (t := 73) dX13_matched_9 (by decide) (fun q => ?_) (fun q => ?_)
  · replace h := h.1 q
    refine r_iload_n 2 dX13_matched_73 rfl rfl ?_
    refine r_iretI dX13_matched_74 rfl (by decide) (by decide) h
  · replace h := h.2 q
    refine r_aload_n 1 dX13_matched_12 rfl rfl ?_
    refine r_getNR (c := 130) (k := 0) 131 dX13_matched_13 clX11 lFX13_280 (by decide) iM130 sC130 rfl ?_
    refine r_iload_n 3 dX13_matched_16 rfl rfl ?_
    have h1 := h.1
    replace h := h.2
    refine r_iald (c := 131) (N := 49) dX13_matched_17 iM131 sC131 h1 ?_
    refine r_iconst (v := (-1)) dX13_matched_18 rfl ?_
    refine r_icmp_ne (t := 25) dX13_matched_19 (by decide) (fun q => ?_) (fun q => ?_)
    · replace h := h.1 q
      refine r_iconst (v := 0) dX13_matched_25 rfl ?_
      refine r_istore (l' := [(4, .int 0), (0, .ref (G.1 100)), (1, .ref (G.1 130)), (2, .int x2), (3, .int x3)]) dX13_matched_26 (by decide) rfl ?_
      exact Ev.sub (ks := [1, 2, 3, 4, 0]) rfl h
    · replace h := h.2 q
      refine r_goto (t := 67) dX13_matched_22 (by decide) ?_
      exact h
set_option maxHeartbeats 4000000 in
set_option maxRecDepth 100000 in
theorem C_X13_matched_130 (G : eG) (M : eM) (F : Int32 → eM → Prop) 
    (h : Ev (eZ G 100 40 0 0 (eFI F)) G 100 40 (4, 0, 0) kX13_matched 4 [(0, .ref (G.1 100)), (1, .ref (G.1 130)), (2, .int 0), (3, .int 0)] [] M 0 0) :
    Cal G 100 40 (4, 0, 0) kX13_matched [.ref (G.1 100), .ref (G.1 130)] M (eFI F) := by
  refine Cal.of (by decide +kernel) rfl (Nat.le_of_ble_eq_true rfl) ?_
  show Ev (eZ G 100 40 0 0 (eFI F)) G 100 40 (4, 0, 0) kX13_matched 0 [(0, .ref (G.1 100)), (1, .ref (G.1 130))] [] M 0 0
  refine r_iconst (v := 0) dX13_matched_0 rfl ?_
  refine r_istore_n (l' := [(2, .int 0), (0, .ref (G.1 100)), (1, .ref (G.1 130))]) dX13_matched_1 rfl (by decide) rfl ?_
  refine r_iconst (v := 0) dX13_matched_2 rfl ?_
  refine r_istore_n (l' := [(3, .int 0), (2, .int 0), (0, .ref (G.1 100)), (1, .ref (G.1 130))]) dX13_matched_3 rfl (by decide) rfl ?_
  exact Ev.sub (ks := [2, 3, 1, 0]) rfl h
set_option maxHeartbeats 4000000 in
set_option maxRecDepth 100000 in
theorem B_X13_matched_134_67 (G : eG) (M : eM) (F : Int32 → eM → Prop) (x2 : Int32) (x3 : Int32)
    (h : Ev (eZ G 100 40 0 0 (eFI F)) G 100 40 (4, 0, 0) kX13_matched 4 [(0, .ref (G.1 100)), (1, .ref (G.1 134)), (2, .int x2), (3, .int (x3 + 1))] [] M 0 0) :
    Ev (eZ G 100 40 0 0 (eFI F)) G 100 40 (4, 0, 0) kX13_matched 67 [(0, .ref (G.1 100)), (1, .ref (G.1 134)), (2, .int x2), (3, .int x3)] [] M 0 0 := by
  refine r_iinc (v := x3 + 1) (l' := [(3, .int (x3 + 1)), (0, .ref (G.1 100)), (1, .ref (G.1 134)), (2, .int x2)]) 3 dX13_matched_67 rfl rfl (by decide) rfl ?_
  refine r_goto (t := 4) dX13_matched_70 (by decide) ?_
  exact Ev.sub (ks := [1, 2, 3, 0]) rfl h
set_option maxHeartbeats 4000000 in
set_option maxRecDepth 100000 in
theorem B_X13_matched_134_28 (G : eG) (M : eM) (F : Int32 → eM → Prop) (x2 : Int32) (x3 : Int32) (x4 : Int32)
    (h : ((3 ≤ x4) → Ev (eZ G 100 40 0 0 (eFI F)) G 100 40 (4, 0, 0) kX13_matched 67 [(0, .ref (G.1 100)), (1, .ref (G.1 134)), (2, .int x2), (3, .int x3)] [] M 0 0) ∧ ((¬ 3 ≤ x4) → Cal G 100 40 (3, 0, 0) kX13_tileBeside [.ref (G.1 100), .ref (G.1 134), .int x3, .int x4] M (eFI (fun (r1 : Int32) (M1 : eM) => ((¬ r1 = (-1)) → Cal G 100 40 (2, 0, 0) kX13_numberAt [.ref (G.1 100), .ref (G.1 134), .int x3, .int x4] M1 (eFI (fun (r2 : Int32) (M2 : eM) => Ev (eZ G 100 40 0 0 (eFI F)) G 100 40 (4, 0, 0) kX13_matched 28 [(0, .ref (G.1 100)), (1, .ref (G.1 134)), (2, .int (x2 + r2)), (3, .int x3), (4, .int (x4 + 1))] [] M2 0 0))) ∧ ((r1 = (-1)) → Ev (eZ G 100 40 0 0 (eFI F)) G 100 40 (4, 0, 0) kX13_matched 28 [(0, .ref (G.1 100)), (1, .ref (G.1 134)), (2, .int (x2 + 0)), (3, .int x3), (4, .int (x4 + 1))] [] M1 0 0))))) :
    Ev (eZ G 100 40 0 0 (eFI F)) G 100 40 (4, 0, 0) kX13_matched 28 [(0, .ref (G.1 100)), (1, .ref (G.1 134)), (2, .int x2), (3, .int x3), (4, .int x4)] [] M 0 0 := by
  refine r_iload 4 dX13_matched_28 rfl ?_
  refine r_iconst (v := 3) dX13_matched_30 rfl ?_
  refine r_icmp_ge (t := 67) dX13_matched_31 (by decide) (fun q => ?_) (fun q => ?_)
  · replace h := h.1 q
    exact Ev.sub (ks := [0, 1, 2, 3]) rfl h
  · replace h := h.2 q
    refine r_iload_n 2 dX13_matched_34 rfl rfl ?_
    refine r_aload_n 0 dX13_matched_35 rfl rfl ?_
    refine r_aload_n 1 dX13_matched_36 rfl rfl ?_
    refine r_iload_n 3 dX13_matched_37 rfl rfl ?_
    refine r_iload 4 dX13_matched_38 rfl ?_
    refine r_callVI (b' := (3, 0, 0)) (c := 100) (S := [.int x2]) [.ref (G.1 134), .int x3, .int x4] dX13_matched_40 mX13_tileBeside lMX13_289 clX13 rfl iM100 sC100 rfl (by decide) (Nat.le_of_ble_eq_true rfl) h (fun r1 M1 h => ?_) rfl
    refine r_iconst (v := (-1)) dX13_matched_43 rfl ?_
    refine r_icmp_ne (t := 51) dX13_matched_44 (by decide) (fun q => ?_) (fun q => ?_)
    · replace h := h.1 q
      refine r_aload_n 0 dX13_matched_51 rfl rfl ?_
      refine r_aload_n 1 dX13_matched_52 rfl rfl ?_
      refine r_iload_n 3 dX13_matched_53 rfl rfl ?_
      refine r_iload 4 dX13_matched_54 rfl ?_
      refine r_callVI (b' := (2, 0, 0)) (c := 100) (S := [.int x2]) [.ref (G.1 134), .int x3, .int x4] dX13_matched_56 mX13_numberAt lMX13_318 clX13 rfl iM100 sC100 rfl (by decide) (Nat.le_of_ble_eq_true rfl) h (fun r2 M2 h => ?_) rfl
      refine r_iadd dX13_matched_59 ?_
      refine r_istore_n (l' := [(2, .int (x2 + r2)), (0, .ref (G.1 100)), (1, .ref (G.1 134)), (3, .int x3), (4, .int x4)]) dX13_matched_60 rfl (by decide) rfl ?_
      refine r_iinc (v := x4 + 1) (l' := [(4, .int (x4 + 1)), (2, .int (x2 + r2)), (0, .ref (G.1 100)), (1, .ref (G.1 134)), (3, .int x3)]) 4 dX13_matched_61 rfl rfl (by decide) rfl ?_
      refine r_goto (t := 28) dX13_matched_64 (by decide) ?_
      exact Ev.sub (ks := [2, 3, 1, 4, 0]) rfl h
    · replace h := h.2 q
      refine r_iconst (v := 0) dX13_matched_47 rfl ?_
      refine r_goto (t := 59) dX13_matched_48 (by decide) ?_
      refine r_iadd dX13_matched_59 ?_
      refine r_istore_n (l' := [(2, .int (x2 + 0)), (0, .ref (G.1 100)), (1, .ref (G.1 134)), (3, .int x3), (4, .int x4)]) dX13_matched_60 rfl (by decide) rfl ?_
      refine r_iinc (v := x4 + 1) (l' := [(4, .int (x4 + 1)), (2, .int (x2 + 0)), (0, .ref (G.1 100)), (1, .ref (G.1 134)), (3, .int x3)]) 4 dX13_matched_61 rfl rfl (by decide) rfl ?_
      refine r_goto (t := 28) dX13_matched_64 (by decide) ?_
      exact Ev.sub (ks := [2, 3, 1, 4, 0]) rfl h
set_option maxHeartbeats 4000000 in
set_option maxRecDepth 100000 in
theorem B_X13_matched_134_4 (G : eG) (M : eM) (F : Int32 → eM → Prop) (x2 : Int32) (x3 : Int32)
    (h : Cal G 100 40 (1, 0, 0) kX13_cells [.ref (G.1 100)] M (eFI (fun (r1 : Int32) (M1 : eM) => ((r1 ≤ x3) → F x2 M1) ∧ ((¬ r1 ≤ x3) → vp_in x3 49 ∧ (((¬ (M1 135 x3.toNatClampNeg) = (-1)) → Ev (eZ G 100 40 0 0 (eFI F)) G 100 40 (4, 0, 0) kX13_matched 28 [(0, .ref (G.1 100)), (1, .ref (G.1 134)), (2, .int x2), (3, .int x3), (4, .int 0)] [] M1 0 0) ∧ (((M1 135 x3.toNatClampNeg) = (-1)) → Ev (eZ G 100 40 0 0 (eFI F)) G 100 40 (4, 0, 0) kX13_matched 67 [(0, .ref (G.1 100)), (1, .ref (G.1 134)), (2, .int x2), (3, .int x3)] [] M1 0 0)))))) :
    Ev (eZ G 100 40 0 0 (eFI F)) G 100 40 (4, 0, 0) kX13_matched 4 [(0, .ref (G.1 100)), (1, .ref (G.1 134)), (2, .int x2), (3, .int x3)] [] M 0 0 := by
  refine r_iload_n 3 dX13_matched_4 rfl rfl ?_
  refine r_aload_n 0 dX13_matched_5 rfl rfl ?_
  refine r_callVI (b' := (1, 0, 0)) (c := 100) (S := [.int x3]) [] dX13_matched_6 mX13_cells lMX13_307 clX13 rfl iM100 sC100 rfl (by decide) (Nat.le_of_ble_eq_true rfl) h (fun r1 M1 h => ?_) rfl
  refine r_icmp_ge (t := 73) dX13_matched_9 (by decide) (fun q => ?_) (fun q => ?_)
  · replace h := h.1 q
    refine r_iload_n 2 dX13_matched_73 rfl rfl ?_
    refine r_iretI dX13_matched_74 rfl (by decide) (by decide) h
  · replace h := h.2 q
    refine r_aload_n 1 dX13_matched_12 rfl rfl ?_
    refine r_getNR (c := 134) (k := 0) 135 dX13_matched_13 clX11 lFX13_280 (by decide) iM134 sC134 rfl ?_
    refine r_iload_n 3 dX13_matched_16 rfl rfl ?_
    have h1 := h.1
    replace h := h.2
    refine r_iald (c := 135) (N := 49) dX13_matched_17 iM135 sC135 h1 ?_
    refine r_iconst (v := (-1)) dX13_matched_18 rfl ?_
    refine r_icmp_ne (t := 25) dX13_matched_19 (by decide) (fun q => ?_) (fun q => ?_)
    · replace h := h.1 q
      refine r_iconst (v := 0) dX13_matched_25 rfl ?_
      refine r_istore (l' := [(4, .int 0), (0, .ref (G.1 100)), (1, .ref (G.1 134)), (2, .int x2), (3, .int x3)]) dX13_matched_26 (by decide) rfl ?_
      exact Ev.sub (ks := [1, 2, 3, 4, 0]) rfl h
    · replace h := h.2 q
      refine r_goto (t := 67) dX13_matched_22 (by decide) ?_
      exact h
set_option maxHeartbeats 4000000 in
set_option maxRecDepth 100000 in
theorem C_X13_matched_134 (G : eG) (M : eM) (F : Int32 → eM → Prop) 
    (h : Ev (eZ G 100 40 0 0 (eFI F)) G 100 40 (4, 0, 0) kX13_matched 4 [(0, .ref (G.1 100)), (1, .ref (G.1 134)), (2, .int 0), (3, .int 0)] [] M 0 0) :
    Cal G 100 40 (4, 0, 0) kX13_matched [.ref (G.1 100), .ref (G.1 134)] M (eFI F) := by
  refine Cal.of (by decide +kernel) rfl (Nat.le_of_ble_eq_true rfl) ?_
  show Ev (eZ G 100 40 0 0 (eFI F)) G 100 40 (4, 0, 0) kX13_matched 0 [(0, .ref (G.1 100)), (1, .ref (G.1 134))] [] M 0 0
  refine r_iconst (v := 0) dX13_matched_0 rfl ?_
  refine r_istore_n (l' := [(2, .int 0), (0, .ref (G.1 100)), (1, .ref (G.1 134))]) dX13_matched_1 rfl (by decide) rfl ?_
  refine r_iconst (v := 0) dX13_matched_2 rfl ?_
  refine r_istore_n (l' := [(3, .int 0), (2, .int 0), (0, .ref (G.1 100)), (1, .ref (G.1 134))]) dX13_matched_3 rfl (by decide) rfl ?_
  exact Ev.sub (ks := [2, 3, 1, 0]) rfl h
set_option maxHeartbeats 4000000 in
set_option maxRecDepth 100000 in
theorem C_X13_points_130 (G : eG) (M : eM) (F : Int32 → eM → Prop) 
    (h : Cal G 100 40 (4, 0, 0) kX13_matched [.ref (G.1 100), .ref (G.1 130)] M (eFI (fun (r1 : Int32) (M1 : eM) => Cal G 100 40 (6, 0, 0) kX13_rings [.ref (G.1 100), .ref (G.1 130)] M1 (eFI (fun (r2 : Int32) (M2 : eM) => F (r1 + (10 * r2)) M2))))) :
    Cal G 100 40 (7, 0, 0) kX13_points [.ref (G.1 100), .ref (G.1 130)] M (eFI F) := by
  refine Cal.of (by decide +kernel) rfl (Nat.le_of_ble_eq_true rfl) ?_
  show Ev (eZ G 100 40 0 0 (eFI F)) G 100 40 (7, 0, 0) kX13_points 0 [(0, .ref (G.1 100)), (1, .ref (G.1 130))] [] M 0 0
  refine r_aload_n 0 dX13_points_0 rfl rfl ?_
  refine r_aload_n 1 dX13_points_1 rfl rfl ?_
  refine r_callVI (b' := (4, 0, 0)) (c := 100) (S := []) [.ref (G.1 130)] dX13_points_2 mX13_matched lMX13_321 clX13 rfl iM100 sC100 rfl (by decide) (Nat.le_of_ble_eq_true rfl) h (fun r1 M1 h => ?_) rfl
  refine r_bipush (v := 10) dX13_points_5 rfl ?_
  refine r_aload_n 0 dX13_points_7 rfl rfl ?_
  refine r_aload_n 1 dX13_points_8 rfl rfl ?_
  refine r_callVI (b' := (6, 0, 0)) (c := 100) (S := [.int 10, .int r1]) [.ref (G.1 130)] dX13_points_9 mX13_rings lMX13_325 clX13 rfl iM100 sC100 rfl (by decide) (Nat.le_of_ble_eq_true rfl) h (fun r2 M2 h => ?_) rfl
  refine r_imul dX13_points_12 ?_
  refine r_iadd dX13_points_13 ?_
  refine r_iretI dX13_points_14 rfl (by decide) (by decide) h
set_option maxHeartbeats 4000000 in
set_option maxRecDepth 100000 in
theorem C_X13_points_134 (G : eG) (M : eM) (F : Int32 → eM → Prop) 
    (h : Cal G 100 40 (4, 0, 0) kX13_matched [.ref (G.1 100), .ref (G.1 134)] M (eFI (fun (r1 : Int32) (M1 : eM) => Cal G 100 40 (6, 0, 0) kX13_rings [.ref (G.1 100), .ref (G.1 134)] M1 (eFI (fun (r2 : Int32) (M2 : eM) => F (r1 + (10 * r2)) M2))))) :
    Cal G 100 40 (7, 0, 0) kX13_points [.ref (G.1 100), .ref (G.1 134)] M (eFI F) := by
  refine Cal.of (by decide +kernel) rfl (Nat.le_of_ble_eq_true rfl) ?_
  show Ev (eZ G 100 40 0 0 (eFI F)) G 100 40 (7, 0, 0) kX13_points 0 [(0, .ref (G.1 100)), (1, .ref (G.1 134))] [] M 0 0
  refine r_aload_n 0 dX13_points_0 rfl rfl ?_
  refine r_aload_n 1 dX13_points_1 rfl rfl ?_
  refine r_callVI (b' := (4, 0, 0)) (c := 100) (S := []) [.ref (G.1 134)] dX13_points_2 mX13_matched lMX13_321 clX13 rfl iM100 sC100 rfl (by decide) (Nat.le_of_ble_eq_true rfl) h (fun r1 M1 h => ?_) rfl
  refine r_bipush (v := 10) dX13_points_5 rfl ?_
  refine r_aload_n 0 dX13_points_7 rfl rfl ?_
  refine r_aload_n 1 dX13_points_8 rfl rfl ?_
  refine r_callVI (b' := (6, 0, 0)) (c := 100) (S := [.int 10, .int r1]) [.ref (G.1 134)] dX13_points_9 mX13_rings lMX13_325 clX13 rfl iM100 sC100 rfl (by decide) (Nat.le_of_ble_eq_true rfl) h (fun r2 M2 h => ?_) rfl
  refine r_imul dX13_points_12 ?_
  refine r_iadd dX13_points_13 ?_
  refine r_iretI dX13_points_14 rfl (by decide) (by decide) h
set_option maxHeartbeats 4000000 in
set_option maxRecDepth 100000 in
theorem B_X13_gain_130_110 (G : eG) (M : eM) (F : Int32 → eM → Prop) (x2 : Int32) (x3 : Int32) (x4 : Int32) (x5 : Int32) (x6 : Int32)
    (h : Ev (eZ G 100 40 0 0 (eFI F)) G 100 40 (5, 0, 0) kX13_gain 15 [(0, .ref (G.1 100)), (1, .ref (G.1 130)), (2, .int x2), (3, .int x3), (4, .int x4), (5, .int x5), (6, .int (x6 + 1))] [] M 0 0) :
    Ev (eZ G 100 40 0 0 (eFI F)) G 100 40 (5, 0, 0) kX13_gain 110 [(0, .ref (G.1 100)), (1, .ref (G.1 130)), (2, .int x2), (3, .int x3), (4, .int x4), (5, .int x5), (6, .int x6)] [] M 0 0 := by
  refine r_iinc (v := x6 + 1) (l' := [(6, .int (x6 + 1)), (0, .ref (G.1 100)), (1, .ref (G.1 130)), (2, .int x2), (3, .int x3), (4, .int x4), (5, .int x5)]) 6 dX13_gain_110 rfl rfl (by decide) rfl ?_
  refine r_goto (t := 15) dX13_gain_113 (by decide) ?_
  exact Ev.sub (ks := [1, 2, 3, 4, 5, 6, 0]) rfl h
set_option maxHeartbeats 4000000 in
set_option maxRecDepth 100000 in
theorem B_X13_gain_130_15 (G : eG) (M : eM) (F : Int32 → eM → Prop) (x2 : Int32) (x3 : Int32) (x4 : Int32) (x5 : Int32) (x6 : Int32)
    (h : ((6 ≤ x6) → F x5 M) ∧ ((¬ 6 ≤ x6) → Cal G 100 40 (2, 0, 0) kX13_beside [.ref (G.1 100), .int x3, .int x6] M (eFI (fun (r1 : Int32) (M1 : eM) => ((¬ r1 = (-1)) → vp_in r1 49 ∧ (((¬ (M1 131 r1.toNatClampNeg) = (-1)) → Cal G 100 40 (1, 0, 0) kX13_numberOf [.ref (G.1 100), .int x2, .int x4, .int x6] M1 (eFI (fun (r2 : Int32) (M2 : eM) => Cal G 100 40 (4, 0, 0) kX13_tilesBeside [.ref (G.1 100), .ref (G.1 130), .int r1] M2 (eFI (fun (r3 : Int32) (M3 : eM) => ((¬ r3 = 5) → Ev (eZ G 100 40 0 0 (eFI F)) G 100 40 (5, 0, 0) kX13_gain 110 [(0, .ref (G.1 100)), (1, .ref (G.1 130)), (2, .int x2), (3, .int x3), (4, .int x4), (5, .int ((x5 + r2) + 0)), (6, .int x6)] [] M3 0 0) ∧ ((r3 = 5) → vp_in x3 49 ∧ (((¬ (M3 131 x3.toNatClampNeg) = (-1)) → Ev (eZ G 100 40 0 0 (eFI F)) G 100 40 (5, 0, 0) kX13_gain 110 [(0, .ref (G.1 100)), (1, .ref (G.1 130)), (2, .int x2), (3, .int x3), (4, .int x4), (5, .int ((x5 + r2) + 0)), (6, .int x6)] [] M3 0 0) ∧ (((M3 131 x3.toNatClampNeg) = (-1)) → Cal G 100 40 (3, 0, 0) kX13_isInside [.ref (G.1 100), .int r1] M3 (eFZ (fun (r4 : Bool) (M4 : eM) => ((r4 = false) → Ev (eZ G 100 40 0 0 (eFI F)) G 100 40 (5, 0, 0) kX13_gain 110 [(0, .ref (G.1 100)), (1, .ref (G.1 130)), (2, .int x2), (3, .int x3), (4, .int x4), (5, .int ((x5 + r2) + 0)), (6, .int x6)] [] M4 0 0) ∧ ((r4 = true) → Ev (eZ G 100 40 0 0 (eFI F)) G 100 40 (5, 0, 0) kX13_gain 110 [(0, .ref (G.1 100)), (1, .ref (G.1 130)), (2, .int x2), (3, .int x3), (4, .int x4), (5, .int ((x5 + r2) + 10)), (6, .int x6)] [] M4 0 0))))))))))) ∧ (((M1 131 r1.toNatClampNeg) = (-1)) → Cal G 100 40 (4, 0, 0) kX13_tilesBeside [.ref (G.1 100), .ref (G.1 130), .int r1] M1 (eFI (fun (r5 : Int32) (M5 : eM) => ((¬ r5 = 5) → Ev (eZ G 100 40 0 0 (eFI F)) G 100 40 (5, 0, 0) kX13_gain 110 [(0, .ref (G.1 100)), (1, .ref (G.1 130)), (2, .int x2), (3, .int x3), (4, .int x4), (5, .int ((x5 + 0) + 0)), (6, .int x6)] [] M5 0 0) ∧ ((r5 = 5) → vp_in x3 49 ∧ (((¬ (M5 131 x3.toNatClampNeg) = (-1)) → Ev (eZ G 100 40 0 0 (eFI F)) G 100 40 (5, 0, 0) kX13_gain 110 [(0, .ref (G.1 100)), (1, .ref (G.1 130)), (2, .int x2), (3, .int x3), (4, .int x4), (5, .int ((x5 + 0) + 0)), (6, .int x6)] [] M5 0 0) ∧ (((M5 131 x3.toNatClampNeg) = (-1)) → Cal G 100 40 (3, 0, 0) kX13_isInside [.ref (G.1 100), .int r1] M5 (eFZ (fun (r6 : Bool) (M6 : eM) => ((r6 = false) → Ev (eZ G 100 40 0 0 (eFI F)) G 100 40 (5, 0, 0) kX13_gain 110 [(0, .ref (G.1 100)), (1, .ref (G.1 130)), (2, .int x2), (3, .int x3), (4, .int x4), (5, .int ((x5 + 0) + 0)), (6, .int x6)] [] M6 0 0) ∧ ((r6 = true) → Ev (eZ G 100 40 0 0 (eFI F)) G 100 40 (5, 0, 0) kX13_gain 110 [(0, .ref (G.1 100)), (1, .ref (G.1 130)), (2, .int x2), (3, .int x3), (4, .int x4), (5, .int ((x5 + 0) + 10)), (6, .int x6)] [] M6 0 0))))))))))) ∧ ((r1 = (-1)) → Ev (eZ G 100 40 0 0 (eFI F)) G 100 40 (5, 0, 0) kX13_gain 110 [(0, .ref (G.1 100)), (1, .ref (G.1 130)), (2, .int x2), (3, .int x3), (4, .int x4), (5, .int x5), (6, .int x6)] [] M1 0 0))))) :
    Ev (eZ G 100 40 0 0 (eFI F)) G 100 40 (5, 0, 0) kX13_gain 15 [(0, .ref (G.1 100)), (1, .ref (G.1 130)), (2, .int x2), (3, .int x3), (4, .int x4), (5, .int x5), (6, .int x6)] [] M 0 0 := by
  refine r_iload 6 dX13_gain_15 rfl ?_
  refine r_bipush (v := 6) dX13_gain_17 rfl ?_
  refine r_icmp_ge (t := 116) dX13_gain_19 (by decide) (fun q => ?_) (fun q => ?_)
  · replace h := h.1 q
    refine r_iload 5 dX13_gain_116 rfl ?_
    refine r_iretI dX13_gain_118 rfl (by decide) (by decide) h
  · replace h := h.2 q
    refine r_aload_n 0 dX13_gain_22 rfl rfl ?_
    refine r_iload_n 3 dX13_gain_23 rfl rfl ?_
    refine r_iload 6 dX13_gain_24 rfl ?_
    refine r_callVI (b' := (2, 0, 0)) (c := 100) (S := []) [.int x3, .int x6] dX13_gain_26 mX13_beside lMX13_277 clX13 rfl iM100 sC100 rfl (by decide) (Nat.le_of_ble_eq_true rfl) h (fun r1 M1 h => ?_) rfl
    refine r_istore (l' := [(7, .int r1), (0, .ref (G.1 100)), (1, .ref (G.1 130)), (2, .int x2), (3, .int x3), (4, .int x4), (5, .int x5), (6, .int x6)]) dX13_gain_29 (by decide) rfl ?_
    refine r_iload 0 dX13_gain_31 rfl ?_
    refine r_iconst (v := (-1)) dX13_gain_33 rfl ?_
    refine r_icmp_ne (t := 40) dX13_gain_34 (by decide) (fun q => ?_) (fun q => ?_)
    · replace h := h.1 q
      refine r_iload 6 dX13_gain_40 rfl ?_
      refine r_aload_n 2 dX13_gain_42 rfl rfl ?_
      refine r_getNR (c := 130) (k := 0) 131 dX13_gain_43 clX11 lFX13_280 (by decide) iM130 sC130 rfl ?_
      refine r_iload 0 dX13_gain_46 rfl ?_
      have h1 := h.1
      replace h := h.2
      refine r_iald (c := 131) (N := 49) dX13_gain_48 iM131 sC131 h1 ?_
      refine r_iconst (v := (-1)) dX13_gain_49 rfl ?_
      refine r_icmp_ne (t := 57) dX13_gain_50 (by decide) (fun q => ?_) (fun q => ?_)
      · replace h := h.1 q
        refine r_aload_n 1 dX13_gain_57 rfl rfl ?_
        refine r_iload_n 3 dX13_gain_58 rfl rfl ?_
        refine r_iload 5 dX13_gain_59 rfl ?_
        refine r_iload 7 dX13_gain_61 rfl ?_
        refine r_callVI (b' := (1, 0, 0)) (c := 100) (S := [.int x5]) [.int x2, .int x4, .int x6] dX13_gain_63 mX13_numberOf lMX13_286 clX13 rfl iM100 sC100 rfl (by decide) (Nat.le_of_ble_eq_true rfl) h (fun r2 M2 h => ?_) rfl
        refine r_iadd dX13_gain_66 ?_
        refine r_istore (l' := [(5, .int (x5 + r2)), (7, .int r1), (0, .ref (G.1 100)), (1, .ref (G.1 130)), (2, .int x2), (3, .int x3), (4, .int x4), (6, .int x6)]) dX13_gain_67 (by decide) rfl ?_
        refine r_iload 0 dX13_gain_69 rfl ?_
        refine r_aload_n 2 dX13_gain_71 rfl rfl ?_
        refine r_aload_n 3 dX13_gain_72 rfl rfl ?_
        refine r_iload 1 dX13_gain_73 rfl ?_
        refine r_callVI (b' := (4, 0, 0)) (c := 100) (S := [.int (x5 + r2)]) [.ref (G.1 130), .int r1] dX13_gain_75 mX13_tilesBeside lMX13_299 clX13 rfl iM100 sC100 rfl (by decide) (Nat.le_of_ble_eq_true rfl) h (fun r3 M3 h => ?_) rfl
        refine r_iconst (v := 5) dX13_gain_78 rfl ?_
        refine r_icmp_ne (t := 106) dX13_gain_79 (by decide) (fun q => ?_) (fun q => ?_)
        · replace h := h.1 q
          refine r_iconst (v := 0) dX13_gain_106 rfl ?_
          refine r_iadd dX13_gain_107 ?_
          refine r_istore (l' := [(5, .int ((x5 + r2) + 0)), (7, .int r1), (0, .ref (G.1 100)), (1, .ref (G.1 130)), (2, .int x2), (3, .int x3), (4, .int x4), (6, .int x6)]) dX13_gain_108 (by decide) rfl ?_
          exact Ev.sub (ks := [2, 3, 4, 5, 6, 0, 7]) rfl h
        · replace h := h.2 q
          refine r_aload_n 3 dX13_gain_82 rfl rfl ?_
          refine r_getNR (c := 130) (k := 0) 131 dX13_gain_83 clX11 lFX13_280 (by decide) iM130 sC130 rfl ?_
          refine r_iload_n 5 dX13_gain_86 rfl rfl ?_
          have h1 := h.1
          replace h := h.2
          refine r_iald (c := 131) (N := 49) dX13_gain_87 iM131 sC131 h1 ?_
          refine r_iconst (v := (-1)) dX13_gain_88 rfl ?_
          refine r_icmp_ne (t := 106) dX13_gain_89 (by decide) (fun q => ?_) (fun q => ?_)
          · replace h := h.1 q
            refine r_iconst (v := 0) dX13_gain_106 rfl ?_
            refine r_iadd dX13_gain_107 ?_
            refine r_istore (l' := [(5, .int ((x5 + r2) + 0)), (7, .int r1), (0, .ref (G.1 100)), (1, .ref (G.1 130)), (2, .int x2), (3, .int x3), (4, .int x4), (6, .int x6)]) dX13_gain_108 (by decide) rfl ?_
            exact Ev.sub (ks := [2, 3, 4, 5, 6, 0, 7]) rfl h
          · replace h := h.2 q
            refine r_aload_n 2 dX13_gain_92 rfl rfl ?_
            refine r_iload 1 dX13_gain_93 rfl ?_
            refine r_callVZ (b' := (3, 0, 0)) (c := 100) (S := [.int (x5 + r2)]) [.int r1] dX13_gain_95 mX13_isInside lMX13_328 clX13 rfl iM100 sC100 rfl (by decide) (Nat.le_of_ble_eq_true rfl) h (fun r4 M4 h => ?_) rfl
            refine r_zif_eq (t := 106) dX13_gain_98 (by decide) (fun q => ?_) (fun q => ?_)
            · replace h := h.1 q
              refine r_iconst (v := 0) dX13_gain_106 rfl ?_
              refine r_iadd dX13_gain_107 ?_
              refine r_istore (l' := [(5, .int ((x5 + r2) + 0)), (7, .int r1), (0, .ref (G.1 100)), (1, .ref (G.1 130)), (2, .int x2), (3, .int x3), (4, .int x4), (6, .int x6)]) dX13_gain_108 (by decide) rfl ?_
              exact Ev.sub (ks := [2, 3, 4, 5, 6, 0, 7]) rfl h
            · replace h := h.2 q
              refine r_bipush (v := 10) dX13_gain_101 rfl ?_
              refine r_goto (t := 107) dX13_gain_103 (by decide) ?_
              refine r_iadd dX13_gain_107 ?_
              refine r_istore (l' := [(5, .int ((x5 + r2) + 10)), (7, .int r1), (0, .ref (G.1 100)), (1, .ref (G.1 130)), (2, .int x2), (3, .int x3), (4, .int x4), (6, .int x6)]) dX13_gain_108 (by decide) rfl ?_
              exact Ev.sub (ks := [2, 3, 4, 5, 6, 0, 7]) rfl h
      · replace h := h.2 q
        refine r_iconst (v := 0) dX13_gain_53 rfl ?_
        refine r_goto (t := 66) dX13_gain_54 (by decide) ?_
        refine r_iadd dX13_gain_66 ?_
        refine r_istore (l' := [(5, .int (x5 + 0)), (7, .int r1), (0, .ref (G.1 100)), (1, .ref (G.1 130)), (2, .int x2), (3, .int x3), (4, .int x4), (6, .int x6)]) dX13_gain_67 (by decide) rfl ?_
        refine r_iload 0 dX13_gain_69 rfl ?_
        refine r_aload_n 2 dX13_gain_71 rfl rfl ?_
        refine r_aload_n 3 dX13_gain_72 rfl rfl ?_
        refine r_iload 1 dX13_gain_73 rfl ?_
        refine r_callVI (b' := (4, 0, 0)) (c := 100) (S := [.int (x5 + 0)]) [.ref (G.1 130), .int r1] dX13_gain_75 mX13_tilesBeside lMX13_299 clX13 rfl iM100 sC100 rfl (by decide) (Nat.le_of_ble_eq_true rfl) h (fun r5 M5 h => ?_) rfl
        refine r_iconst (v := 5) dX13_gain_78 rfl ?_
        refine r_icmp_ne (t := 106) dX13_gain_79 (by decide) (fun q => ?_) (fun q => ?_)
        · replace h := h.1 q
          refine r_iconst (v := 0) dX13_gain_106 rfl ?_
          refine r_iadd dX13_gain_107 ?_
          refine r_istore (l' := [(5, .int ((x5 + 0) + 0)), (7, .int r1), (0, .ref (G.1 100)), (1, .ref (G.1 130)), (2, .int x2), (3, .int x3), (4, .int x4), (6, .int x6)]) dX13_gain_108 (by decide) rfl ?_
          exact Ev.sub (ks := [2, 3, 4, 5, 6, 0, 7]) rfl h
        · replace h := h.2 q
          refine r_aload_n 3 dX13_gain_82 rfl rfl ?_
          refine r_getNR (c := 130) (k := 0) 131 dX13_gain_83 clX11 lFX13_280 (by decide) iM130 sC130 rfl ?_
          refine r_iload_n 5 dX13_gain_86 rfl rfl ?_
          have h1 := h.1
          replace h := h.2
          refine r_iald (c := 131) (N := 49) dX13_gain_87 iM131 sC131 h1 ?_
          refine r_iconst (v := (-1)) dX13_gain_88 rfl ?_
          refine r_icmp_ne (t := 106) dX13_gain_89 (by decide) (fun q => ?_) (fun q => ?_)
          · replace h := h.1 q
            refine r_iconst (v := 0) dX13_gain_106 rfl ?_
            refine r_iadd dX13_gain_107 ?_
            refine r_istore (l' := [(5, .int ((x5 + 0) + 0)), (7, .int r1), (0, .ref (G.1 100)), (1, .ref (G.1 130)), (2, .int x2), (3, .int x3), (4, .int x4), (6, .int x6)]) dX13_gain_108 (by decide) rfl ?_
            exact Ev.sub (ks := [2, 3, 4, 5, 6, 0, 7]) rfl h
          · replace h := h.2 q
            refine r_aload_n 2 dX13_gain_92 rfl rfl ?_
            refine r_iload 1 dX13_gain_93 rfl ?_
            refine r_callVZ (b' := (3, 0, 0)) (c := 100) (S := [.int (x5 + 0)]) [.int r1] dX13_gain_95 mX13_isInside lMX13_328 clX13 rfl iM100 sC100 rfl (by decide) (Nat.le_of_ble_eq_true rfl) h (fun r6 M6 h => ?_) rfl
            refine r_zif_eq (t := 106) dX13_gain_98 (by decide) (fun q => ?_) (fun q => ?_)
            · replace h := h.1 q
              refine r_iconst (v := 0) dX13_gain_106 rfl ?_
              refine r_iadd dX13_gain_107 ?_
              refine r_istore (l' := [(5, .int ((x5 + 0) + 0)), (7, .int r1), (0, .ref (G.1 100)), (1, .ref (G.1 130)), (2, .int x2), (3, .int x3), (4, .int x4), (6, .int x6)]) dX13_gain_108 (by decide) rfl ?_
              exact Ev.sub (ks := [2, 3, 4, 5, 6, 0, 7]) rfl h
            · replace h := h.2 q
              refine r_bipush (v := 10) dX13_gain_101 rfl ?_
              refine r_goto (t := 107) dX13_gain_103 (by decide) ?_
              refine r_iadd dX13_gain_107 ?_
              refine r_istore (l' := [(5, .int ((x5 + 0) + 10)), (7, .int r1), (0, .ref (G.1 100)), (1, .ref (G.1 130)), (2, .int x2), (3, .int x3), (4, .int x4), (6, .int x6)]) dX13_gain_108 (by decide) rfl ?_
              exact Ev.sub (ks := [2, 3, 4, 5, 6, 0, 7]) rfl h
    · replace h := h.2 q
      refine r_goto (t := 110) dX13_gain_37 (by decide) ?_
      exact Ev.sub (ks := [1, 2, 3, 4, 5, 6, 7]) rfl h
set_option maxHeartbeats 4000000 in
set_option maxRecDepth 100000 in
theorem C_X13_gain_130 (G : eG) (M : eM) (F : Int32 → eM → Prop) (a2 : Int32) (a3 : Int32) (a4 : Int32)
    (h : ((¬ (M 130 3) = 0) → Ev (eZ G 100 40 0 0 (eFI F)) G 100 40 (5, 0, 0) kX13_gain 15 [(0, .ref (G.1 100)), (1, .ref (G.1 130)), (2, .int a2), (3, .int a3), (4, .int a4), (5, .int 0), (6, .int 0)] [] M 0 0) ∧ (((M 130 3) = 0) → F 0 M)) :
    Cal G 100 40 (5, 0, 0) kX13_gain [.ref (G.1 100), .ref (G.1 130), .int a2, .int a3, .int a4] M (eFI F) := by
  refine Cal.of (by decide +kernel) rfl (Nat.le_of_ble_eq_true rfl) ?_
  show Ev (eZ G 100 40 0 0 (eFI F)) G 100 40 (5, 0, 0) kX13_gain 0 [(0, .ref (G.1 100)), (1, .ref (G.1 130)), (2, .int a2), (3, .int a3), (4, .int a4)] [] M 0 0
  refine r_aload_n 1 dX13_gain_0 rfl rfl ?_
  refine r_getNI (c := 130) (k := 3) dX13_gain_1 clX11 lFX13_296 (by decide) iM130 sC130 rfl ?_
  refine r_if_ne (t := 9) dX13_gain_4 (by decide) (fun q => ?_) (fun q => ?_)
  · replace h := h.1 q
    refine r_iconst (v := 0) dX13_gain_9 rfl ?_
    refine r_istore (l' := [(5, .int 0), (0, .ref (G.1 100)), (1, .ref (G.1 130)), (2, .int a2), (3, .int a3), (4, .int a4)]) dX13_gain_10 (by decide) rfl ?_
    refine r_iconst (v := 0) dX13_gain_12 rfl ?_
    refine r_istore (l' := [(6, .int 0), (5, .int 0), (0, .ref (G.1 100)), (1, .ref (G.1 130)), (2, .int a2), (3, .int a3), (4, .int a4)]) dX13_gain_13 (by decide) rfl ?_
    exact Ev.sub (ks := [2, 3, 4, 5, 6, 1, 0]) rfl h
  · replace h := h.2 q
    refine r_iconst (v := 0) dX13_gain_7 rfl ?_
    refine r_iretI dX13_gain_8 rfl (by decide) (by decide) h
set_option maxHeartbeats 4000000 in
set_option maxRecDepth 100000 in
theorem B_X13_gain_134_110 (G : eG) (M : eM) (F : Int32 → eM → Prop) (x2 : Int32) (x3 : Int32) (x4 : Int32) (x5 : Int32) (x6 : Int32)
    (h : Ev (eZ G 100 40 0 0 (eFI F)) G 100 40 (5, 0, 0) kX13_gain 15 [(0, .ref (G.1 100)), (1, .ref (G.1 134)), (2, .int x2), (3, .int x3), (4, .int x4), (5, .int x5), (6, .int (x6 + 1))] [] M 0 0) :
    Ev (eZ G 100 40 0 0 (eFI F)) G 100 40 (5, 0, 0) kX13_gain 110 [(0, .ref (G.1 100)), (1, .ref (G.1 134)), (2, .int x2), (3, .int x3), (4, .int x4), (5, .int x5), (6, .int x6)] [] M 0 0 := by
  refine r_iinc (v := x6 + 1) (l' := [(6, .int (x6 + 1)), (0, .ref (G.1 100)), (1, .ref (G.1 134)), (2, .int x2), (3, .int x3), (4, .int x4), (5, .int x5)]) 6 dX13_gain_110 rfl rfl (by decide) rfl ?_
  refine r_goto (t := 15) dX13_gain_113 (by decide) ?_
  exact Ev.sub (ks := [1, 2, 3, 4, 5, 6, 0]) rfl h
set_option maxHeartbeats 4000000 in
set_option maxRecDepth 100000 in
theorem B_X13_gain_134_15 (G : eG) (M : eM) (F : Int32 → eM → Prop) (x2 : Int32) (x3 : Int32) (x4 : Int32) (x5 : Int32) (x6 : Int32)
    (h : ((6 ≤ x6) → F x5 M) ∧ ((¬ 6 ≤ x6) → Cal G 100 40 (2, 0, 0) kX13_beside [.ref (G.1 100), .int x3, .int x6] M (eFI (fun (r1 : Int32) (M1 : eM) => ((¬ r1 = (-1)) → vp_in r1 49 ∧ (((¬ (M1 135 r1.toNatClampNeg) = (-1)) → Cal G 100 40 (1, 0, 0) kX13_numberOf [.ref (G.1 100), .int x2, .int x4, .int x6] M1 (eFI (fun (r2 : Int32) (M2 : eM) => Cal G 100 40 (4, 0, 0) kX13_tilesBeside [.ref (G.1 100), .ref (G.1 134), .int r1] M2 (eFI (fun (r3 : Int32) (M3 : eM) => ((¬ r3 = 5) → Ev (eZ G 100 40 0 0 (eFI F)) G 100 40 (5, 0, 0) kX13_gain 110 [(0, .ref (G.1 100)), (1, .ref (G.1 134)), (2, .int x2), (3, .int x3), (4, .int x4), (5, .int ((x5 + r2) + 0)), (6, .int x6)] [] M3 0 0) ∧ ((r3 = 5) → vp_in x3 49 ∧ (((¬ (M3 135 x3.toNatClampNeg) = (-1)) → Ev (eZ G 100 40 0 0 (eFI F)) G 100 40 (5, 0, 0) kX13_gain 110 [(0, .ref (G.1 100)), (1, .ref (G.1 134)), (2, .int x2), (3, .int x3), (4, .int x4), (5, .int ((x5 + r2) + 0)), (6, .int x6)] [] M3 0 0) ∧ (((M3 135 x3.toNatClampNeg) = (-1)) → Cal G 100 40 (3, 0, 0) kX13_isInside [.ref (G.1 100), .int r1] M3 (eFZ (fun (r4 : Bool) (M4 : eM) => ((r4 = false) → Ev (eZ G 100 40 0 0 (eFI F)) G 100 40 (5, 0, 0) kX13_gain 110 [(0, .ref (G.1 100)), (1, .ref (G.1 134)), (2, .int x2), (3, .int x3), (4, .int x4), (5, .int ((x5 + r2) + 0)), (6, .int x6)] [] M4 0 0) ∧ ((r4 = true) → Ev (eZ G 100 40 0 0 (eFI F)) G 100 40 (5, 0, 0) kX13_gain 110 [(0, .ref (G.1 100)), (1, .ref (G.1 134)), (2, .int x2), (3, .int x3), (4, .int x4), (5, .int ((x5 + r2) + 10)), (6, .int x6)] [] M4 0 0))))))))))) ∧ (((M1 135 r1.toNatClampNeg) = (-1)) → Cal G 100 40 (4, 0, 0) kX13_tilesBeside [.ref (G.1 100), .ref (G.1 134), .int r1] M1 (eFI (fun (r5 : Int32) (M5 : eM) => ((¬ r5 = 5) → Ev (eZ G 100 40 0 0 (eFI F)) G 100 40 (5, 0, 0) kX13_gain 110 [(0, .ref (G.1 100)), (1, .ref (G.1 134)), (2, .int x2), (3, .int x3), (4, .int x4), (5, .int ((x5 + 0) + 0)), (6, .int x6)] [] M5 0 0) ∧ ((r5 = 5) → vp_in x3 49 ∧ (((¬ (M5 135 x3.toNatClampNeg) = (-1)) → Ev (eZ G 100 40 0 0 (eFI F)) G 100 40 (5, 0, 0) kX13_gain 110 [(0, .ref (G.1 100)), (1, .ref (G.1 134)), (2, .int x2), (3, .int x3), (4, .int x4), (5, .int ((x5 + 0) + 0)), (6, .int x6)] [] M5 0 0) ∧ (((M5 135 x3.toNatClampNeg) = (-1)) → Cal G 100 40 (3, 0, 0) kX13_isInside [.ref (G.1 100), .int r1] M5 (eFZ (fun (r6 : Bool) (M6 : eM) => ((r6 = false) → Ev (eZ G 100 40 0 0 (eFI F)) G 100 40 (5, 0, 0) kX13_gain 110 [(0, .ref (G.1 100)), (1, .ref (G.1 134)), (2, .int x2), (3, .int x3), (4, .int x4), (5, .int ((x5 + 0) + 0)), (6, .int x6)] [] M6 0 0) ∧ ((r6 = true) → Ev (eZ G 100 40 0 0 (eFI F)) G 100 40 (5, 0, 0) kX13_gain 110 [(0, .ref (G.1 100)), (1, .ref (G.1 134)), (2, .int x2), (3, .int x3), (4, .int x4), (5, .int ((x5 + 0) + 10)), (6, .int x6)] [] M6 0 0))))))))))) ∧ ((r1 = (-1)) → Ev (eZ G 100 40 0 0 (eFI F)) G 100 40 (5, 0, 0) kX13_gain 110 [(0, .ref (G.1 100)), (1, .ref (G.1 134)), (2, .int x2), (3, .int x3), (4, .int x4), (5, .int x5), (6, .int x6)] [] M1 0 0))))) :
    Ev (eZ G 100 40 0 0 (eFI F)) G 100 40 (5, 0, 0) kX13_gain 15 [(0, .ref (G.1 100)), (1, .ref (G.1 134)), (2, .int x2), (3, .int x3), (4, .int x4), (5, .int x5), (6, .int x6)] [] M 0 0 := by
  refine r_iload 6 dX13_gain_15 rfl ?_
  refine r_bipush (v := 6) dX13_gain_17 rfl ?_
  refine r_icmp_ge (t := 116) dX13_gain_19 (by decide) (fun q => ?_) (fun q => ?_)
  · replace h := h.1 q
    refine r_iload 5 dX13_gain_116 rfl ?_
    refine r_iretI dX13_gain_118 rfl (by decide) (by decide) h
  · replace h := h.2 q
    refine r_aload_n 0 dX13_gain_22 rfl rfl ?_
    refine r_iload_n 3 dX13_gain_23 rfl rfl ?_
    refine r_iload 6 dX13_gain_24 rfl ?_
    refine r_callVI (b' := (2, 0, 0)) (c := 100) (S := []) [.int x3, .int x6] dX13_gain_26 mX13_beside lMX13_277 clX13 rfl iM100 sC100 rfl (by decide) (Nat.le_of_ble_eq_true rfl) h (fun r1 M1 h => ?_) rfl
    refine r_istore (l' := [(7, .int r1), (0, .ref (G.1 100)), (1, .ref (G.1 134)), (2, .int x2), (3, .int x3), (4, .int x4), (5, .int x5), (6, .int x6)]) dX13_gain_29 (by decide) rfl ?_
    refine r_iload 0 dX13_gain_31 rfl ?_
    refine r_iconst (v := (-1)) dX13_gain_33 rfl ?_
    refine r_icmp_ne (t := 40) dX13_gain_34 (by decide) (fun q => ?_) (fun q => ?_)
    · replace h := h.1 q
      refine r_iload 6 dX13_gain_40 rfl ?_
      refine r_aload_n 2 dX13_gain_42 rfl rfl ?_
      refine r_getNR (c := 134) (k := 0) 135 dX13_gain_43 clX11 lFX13_280 (by decide) iM134 sC134 rfl ?_
      refine r_iload 0 dX13_gain_46 rfl ?_
      have h1 := h.1
      replace h := h.2
      refine r_iald (c := 135) (N := 49) dX13_gain_48 iM135 sC135 h1 ?_
      refine r_iconst (v := (-1)) dX13_gain_49 rfl ?_
      refine r_icmp_ne (t := 57) dX13_gain_50 (by decide) (fun q => ?_) (fun q => ?_)
      · replace h := h.1 q
        refine r_aload_n 1 dX13_gain_57 rfl rfl ?_
        refine r_iload_n 3 dX13_gain_58 rfl rfl ?_
        refine r_iload 5 dX13_gain_59 rfl ?_
        refine r_iload 7 dX13_gain_61 rfl ?_
        refine r_callVI (b' := (1, 0, 0)) (c := 100) (S := [.int x5]) [.int x2, .int x4, .int x6] dX13_gain_63 mX13_numberOf lMX13_286 clX13 rfl iM100 sC100 rfl (by decide) (Nat.le_of_ble_eq_true rfl) h (fun r2 M2 h => ?_) rfl
        refine r_iadd dX13_gain_66 ?_
        refine r_istore (l' := [(5, .int (x5 + r2)), (7, .int r1), (0, .ref (G.1 100)), (1, .ref (G.1 134)), (2, .int x2), (3, .int x3), (4, .int x4), (6, .int x6)]) dX13_gain_67 (by decide) rfl ?_
        refine r_iload 0 dX13_gain_69 rfl ?_
        refine r_aload_n 2 dX13_gain_71 rfl rfl ?_
        refine r_aload_n 3 dX13_gain_72 rfl rfl ?_
        refine r_iload 1 dX13_gain_73 rfl ?_
        refine r_callVI (b' := (4, 0, 0)) (c := 100) (S := [.int (x5 + r2)]) [.ref (G.1 134), .int r1] dX13_gain_75 mX13_tilesBeside lMX13_299 clX13 rfl iM100 sC100 rfl (by decide) (Nat.le_of_ble_eq_true rfl) h (fun r3 M3 h => ?_) rfl
        refine r_iconst (v := 5) dX13_gain_78 rfl ?_
        refine r_icmp_ne (t := 106) dX13_gain_79 (by decide) (fun q => ?_) (fun q => ?_)
        · replace h := h.1 q
          refine r_iconst (v := 0) dX13_gain_106 rfl ?_
          refine r_iadd dX13_gain_107 ?_
          refine r_istore (l' := [(5, .int ((x5 + r2) + 0)), (7, .int r1), (0, .ref (G.1 100)), (1, .ref (G.1 134)), (2, .int x2), (3, .int x3), (4, .int x4), (6, .int x6)]) dX13_gain_108 (by decide) rfl ?_
          exact Ev.sub (ks := [2, 3, 4, 5, 6, 0, 7]) rfl h
        · replace h := h.2 q
          refine r_aload_n 3 dX13_gain_82 rfl rfl ?_
          refine r_getNR (c := 134) (k := 0) 135 dX13_gain_83 clX11 lFX13_280 (by decide) iM134 sC134 rfl ?_
          refine r_iload_n 5 dX13_gain_86 rfl rfl ?_
          have h1 := h.1
          replace h := h.2
          refine r_iald (c := 135) (N := 49) dX13_gain_87 iM135 sC135 h1 ?_
          refine r_iconst (v := (-1)) dX13_gain_88 rfl ?_
          refine r_icmp_ne (t := 106) dX13_gain_89 (by decide) (fun q => ?_) (fun q => ?_)
          · replace h := h.1 q
            refine r_iconst (v := 0) dX13_gain_106 rfl ?_
            refine r_iadd dX13_gain_107 ?_
            refine r_istore (l' := [(5, .int ((x5 + r2) + 0)), (7, .int r1), (0, .ref (G.1 100)), (1, .ref (G.1 134)), (2, .int x2), (3, .int x3), (4, .int x4), (6, .int x6)]) dX13_gain_108 (by decide) rfl ?_
            exact Ev.sub (ks := [2, 3, 4, 5, 6, 0, 7]) rfl h
          · replace h := h.2 q
            refine r_aload_n 2 dX13_gain_92 rfl rfl ?_
            refine r_iload 1 dX13_gain_93 rfl ?_
            refine r_callVZ (b' := (3, 0, 0)) (c := 100) (S := [.int (x5 + r2)]) [.int r1] dX13_gain_95 mX13_isInside lMX13_328 clX13 rfl iM100 sC100 rfl (by decide) (Nat.le_of_ble_eq_true rfl) h (fun r4 M4 h => ?_) rfl
            refine r_zif_eq (t := 106) dX13_gain_98 (by decide) (fun q => ?_) (fun q => ?_)
            · replace h := h.1 q
              refine r_iconst (v := 0) dX13_gain_106 rfl ?_
              refine r_iadd dX13_gain_107 ?_
              refine r_istore (l' := [(5, .int ((x5 + r2) + 0)), (7, .int r1), (0, .ref (G.1 100)), (1, .ref (G.1 134)), (2, .int x2), (3, .int x3), (4, .int x4), (6, .int x6)]) dX13_gain_108 (by decide) rfl ?_
              exact Ev.sub (ks := [2, 3, 4, 5, 6, 0, 7]) rfl h
            · replace h := h.2 q
              refine r_bipush (v := 10) dX13_gain_101 rfl ?_
              refine r_goto (t := 107) dX13_gain_103 (by decide) ?_
              refine r_iadd dX13_gain_107 ?_
              refine r_istore (l' := [(5, .int ((x5 + r2) + 10)), (7, .int r1), (0, .ref (G.1 100)), (1, .ref (G.1 134)), (2, .int x2), (3, .int x3), (4, .int x4), (6, .int x6)]) dX13_gain_108 (by decide) rfl ?_
              exact Ev.sub (ks := [2, 3, 4, 5, 6, 0, 7]) rfl h
      · replace h := h.2 q
        refine r_iconst (v := 0) dX13_gain_53 rfl ?_
        refine r_goto (t := 66) dX13_gain_54 (by decide) ?_
        refine r_iadd dX13_gain_66 ?_
        refine r_istore (l' := [(5, .int (x5 + 0)), (7, .int r1), (0, .ref (G.1 100)), (1, .ref (G.1 134)), (2, .int x2), (3, .int x3), (4, .int x4), (6, .int x6)]) dX13_gain_67 (by decide) rfl ?_
        refine r_iload 0 dX13_gain_69 rfl ?_
        refine r_aload_n 2 dX13_gain_71 rfl rfl ?_
        refine r_aload_n 3 dX13_gain_72 rfl rfl ?_
        refine r_iload 1 dX13_gain_73 rfl ?_
        refine r_callVI (b' := (4, 0, 0)) (c := 100) (S := [.int (x5 + 0)]) [.ref (G.1 134), .int r1] dX13_gain_75 mX13_tilesBeside lMX13_299 clX13 rfl iM100 sC100 rfl (by decide) (Nat.le_of_ble_eq_true rfl) h (fun r5 M5 h => ?_) rfl
        refine r_iconst (v := 5) dX13_gain_78 rfl ?_
        refine r_icmp_ne (t := 106) dX13_gain_79 (by decide) (fun q => ?_) (fun q => ?_)
        · replace h := h.1 q
          refine r_iconst (v := 0) dX13_gain_106 rfl ?_
          refine r_iadd dX13_gain_107 ?_
          refine r_istore (l' := [(5, .int ((x5 + 0) + 0)), (7, .int r1), (0, .ref (G.1 100)), (1, .ref (G.1 134)), (2, .int x2), (3, .int x3), (4, .int x4), (6, .int x6)]) dX13_gain_108 (by decide) rfl ?_
          exact Ev.sub (ks := [2, 3, 4, 5, 6, 0, 7]) rfl h
        · replace h := h.2 q
          refine r_aload_n 3 dX13_gain_82 rfl rfl ?_
          refine r_getNR (c := 134) (k := 0) 135 dX13_gain_83 clX11 lFX13_280 (by decide) iM134 sC134 rfl ?_
          refine r_iload_n 5 dX13_gain_86 rfl rfl ?_
          have h1 := h.1
          replace h := h.2
          refine r_iald (c := 135) (N := 49) dX13_gain_87 iM135 sC135 h1 ?_
          refine r_iconst (v := (-1)) dX13_gain_88 rfl ?_
          refine r_icmp_ne (t := 106) dX13_gain_89 (by decide) (fun q => ?_) (fun q => ?_)
          · replace h := h.1 q
            refine r_iconst (v := 0) dX13_gain_106 rfl ?_
            refine r_iadd dX13_gain_107 ?_
            refine r_istore (l' := [(5, .int ((x5 + 0) + 0)), (7, .int r1), (0, .ref (G.1 100)), (1, .ref (G.1 134)), (2, .int x2), (3, .int x3), (4, .int x4), (6, .int x6)]) dX13_gain_108 (by decide) rfl ?_
            exact Ev.sub (ks := [2, 3, 4, 5, 6, 0, 7]) rfl h
          · replace h := h.2 q
            refine r_aload_n 2 dX13_gain_92 rfl rfl ?_
            refine r_iload 1 dX13_gain_93 rfl ?_
            refine r_callVZ (b' := (3, 0, 0)) (c := 100) (S := [.int (x5 + 0)]) [.int r1] dX13_gain_95 mX13_isInside lMX13_328 clX13 rfl iM100 sC100 rfl (by decide) (Nat.le_of_ble_eq_true rfl) h (fun r6 M6 h => ?_) rfl
            refine r_zif_eq (t := 106) dX13_gain_98 (by decide) (fun q => ?_) (fun q => ?_)
            · replace h := h.1 q
              refine r_iconst (v := 0) dX13_gain_106 rfl ?_
              refine r_iadd dX13_gain_107 ?_
              refine r_istore (l' := [(5, .int ((x5 + 0) + 0)), (7, .int r1), (0, .ref (G.1 100)), (1, .ref (G.1 134)), (2, .int x2), (3, .int x3), (4, .int x4), (6, .int x6)]) dX13_gain_108 (by decide) rfl ?_
              exact Ev.sub (ks := [2, 3, 4, 5, 6, 0, 7]) rfl h
            · replace h := h.2 q
              refine r_bipush (v := 10) dX13_gain_101 rfl ?_
              refine r_goto (t := 107) dX13_gain_103 (by decide) ?_
              refine r_iadd dX13_gain_107 ?_
              refine r_istore (l' := [(5, .int ((x5 + 0) + 10)), (7, .int r1), (0, .ref (G.1 100)), (1, .ref (G.1 134)), (2, .int x2), (3, .int x3), (4, .int x4), (6, .int x6)]) dX13_gain_108 (by decide) rfl ?_
              exact Ev.sub (ks := [2, 3, 4, 5, 6, 0, 7]) rfl h
    · replace h := h.2 q
      refine r_goto (t := 110) dX13_gain_37 (by decide) ?_
      exact Ev.sub (ks := [1, 2, 3, 4, 5, 6, 7]) rfl h
set_option maxHeartbeats 4000000 in
set_option maxRecDepth 100000 in
theorem C_X13_gain_134 (G : eG) (M : eM) (F : Int32 → eM → Prop) (a2 : Int32) (a3 : Int32) (a4 : Int32)
    (h : ((¬ (M 134 3) = 0) → Ev (eZ G 100 40 0 0 (eFI F)) G 100 40 (5, 0, 0) kX13_gain 15 [(0, .ref (G.1 100)), (1, .ref (G.1 134)), (2, .int a2), (3, .int a3), (4, .int a4), (5, .int 0), (6, .int 0)] [] M 0 0) ∧ (((M 134 3) = 0) → F 0 M)) :
    Cal G 100 40 (5, 0, 0) kX13_gain [.ref (G.1 100), .ref (G.1 134), .int a2, .int a3, .int a4] M (eFI F) := by
  refine Cal.of (by decide +kernel) rfl (Nat.le_of_ble_eq_true rfl) ?_
  show Ev (eZ G 100 40 0 0 (eFI F)) G 100 40 (5, 0, 0) kX13_gain 0 [(0, .ref (G.1 100)), (1, .ref (G.1 134)), (2, .int a2), (3, .int a3), (4, .int a4)] [] M 0 0
  refine r_aload_n 1 dX13_gain_0 rfl rfl ?_
  refine r_getNI (c := 134) (k := 3) dX13_gain_1 clX11 lFX13_296 (by decide) iM134 sC134 rfl ?_
  refine r_if_ne (t := 9) dX13_gain_4 (by decide) (fun q => ?_) (fun q => ?_)
  · replace h := h.1 q
    refine r_iconst (v := 0) dX13_gain_9 rfl ?_
    refine r_istore (l' := [(5, .int 0), (0, .ref (G.1 100)), (1, .ref (G.1 134)), (2, .int a2), (3, .int a3), (4, .int a4)]) dX13_gain_10 (by decide) rfl ?_
    refine r_iconst (v := 0) dX13_gain_12 rfl ?_
    refine r_istore (l' := [(6, .int 0), (5, .int 0), (0, .ref (G.1 100)), (1, .ref (G.1 134)), (2, .int a2), (3, .int a3), (4, .int a4)]) dX13_gain_13 (by decide) rfl ?_
    exact Ev.sub (ks := [2, 3, 4, 5, 6, 1, 0]) rfl h
  · replace h := h.2 q
    refine r_iconst (v := 0) dX13_gain_7 rfl ?_
    refine r_iretI dX13_gain_8 rfl (by decide) (by decide) h
set_option maxHeartbeats 4000000 in
set_option maxRecDepth 100000 in
theorem B_X13_isInside_2 (G : eG) (M : eM) (F : Bool → eM → Prop) (x1 : Int32) (x2 : Int32)
    (h : ((6 ≤ x2) → F true M) ∧ ((¬ 6 ≤ x2) → Cal G 100 40 (2, 0, 0) kX13_beside [.ref (G.1 100), .int x1, .int x2] M (eFI (fun (r1 : Int32) (M1 : eM) => ((¬ r1 = (-1)) → Ev (eZ G 100 40 0 0 (eFZ F)) G 100 40 (3, 0, 0) kX13_isInside 2 [(0, .ref (G.1 100)), (1, .int x1), (2, .int (x2 + 1))] [] M1 0 0) ∧ ((r1 = (-1)) → F false M1))))) :
    Ev (eZ G 100 40 0 0 (eFZ F)) G 100 40 (3, 0, 0) kX13_isInside 2 [(0, .ref (G.1 100)), (1, .int x1), (2, .int x2)] [] M 0 0 := by
  refine r_iload_n 2 dX13_isInside_2 rfl rfl ?_
  refine r_bipush (v := 6) dX13_isInside_3 rfl ?_
  refine r_icmp_ge (t := 26) dX13_isInside_5 (by decide) (fun q => ?_) (fun q => ?_)
  · replace h := h.1 q
    refine r_iconst (v := 1) dX13_isInside_26 rfl ?_
    refine r_iretZ1 dX13_isInside_27 rfl (by decide) (by decide) h
  · replace h := h.2 q
    refine r_aload_n 0 dX13_isInside_8 rfl rfl ?_
    refine r_iload_n 1 dX13_isInside_9 rfl rfl ?_
    refine r_iload_n 2 dX13_isInside_10 rfl rfl ?_
    refine r_callVI (b' := (2, 0, 0)) (c := 100) (S := []) [.int x1, .int x2] dX13_isInside_11 mX13_beside lMX13_277 clX13 rfl iM100 sC100 rfl (by decide) (Nat.le_of_ble_eq_true rfl) h (fun r1 M1 h => ?_) rfl
    refine r_iconst (v := (-1)) dX13_isInside_14 rfl ?_
    refine r_icmp_ne (t := 20) dX13_isInside_15 (by decide) (fun q => ?_) (fun q => ?_)
    · replace h := h.1 q
      refine r_iinc (v := x2 + 1) (l' := [(2, .int (x2 + 1)), (0, .ref (G.1 100)), (1, .int x1)]) 2 dX13_isInside_20 rfl rfl (by decide) rfl ?_
      refine r_goto (t := 2) dX13_isInside_23 (by decide) ?_
      exact Ev.sub (ks := [1, 2, 0]) rfl h
    · replace h := h.2 q
      refine r_iconst (v := 0) dX13_isInside_18 rfl ?_
      refine r_iretZ0 dX13_isInside_19 rfl (by decide) (by decide) h
set_option maxHeartbeats 4000000 in
set_option maxRecDepth 100000 in
theorem C_X13_isInside (G : eG) (M : eM) (F : Bool → eM → Prop) (a1 : Int32)
    (h : Ev (eZ G 100 40 0 0 (eFZ F)) G 100 40 (3, 0, 0) kX13_isInside 2 [(0, .ref (G.1 100)), (1, .int a1), (2, .int 0)] [] M 0 0) :
    Cal G 100 40 (3, 0, 0) kX13_isInside [.ref (G.1 100), .int a1] M (eFZ F) := by
  refine Cal.of (by decide +kernel) rfl (Nat.le_of_ble_eq_true rfl) ?_
  show Ev (eZ G 100 40 0 0 (eFZ F)) G 100 40 (3, 0, 0) kX13_isInside 0 [(0, .ref (G.1 100)), (1, .int a1)] [] M 0 0
  refine r_iconst (v := 0) dX13_isInside_0 rfl ?_
  refine r_istore_n (l' := [(2, .int 0), (0, .ref (G.1 100)), (1, .int a1)]) dX13_isInside_1 rfl (by decide) rfl ?_
  exact Ev.sub (ks := [1, 2, 0]) rfl h
set_option maxHeartbeats 4000000 in
set_option maxRecDepth 100000 in
theorem B_X13_hasBest_130_80 (G : eG) (M : eM) (F : Bool → eM → Prop) (x2 : Int32) (x3 : Int32) (x4 : Int32)
    (h : Ev (eZ G 100 40 0 0 (eFZ F)) G 100 40 (6, 0, 0) kX13_hasBest 18 [(0, .ref (G.1 100)), (1, .ref (G.1 130)), (2, .int x2), (3, .int x3), (4, .int (x4 + 1))] [] M 0 0) :
    Ev (eZ G 100 40 0 0 (eFZ F)) G 100 40 (6, 0, 0) kX13_hasBest 80 [(0, .ref (G.1 100)), (1, .ref (G.1 130)), (2, .int x2), (3, .int x3), (4, .int x4)] [] M 0 0 := by
  refine r_iinc (v := x4 + 1) (l' := [(4, .int (x4 + 1)), (0, .ref (G.1 100)), (1, .ref (G.1 130)), (2, .int x2), (3, .int x3)]) 4 dX13_hasBest_80 rfl rfl (by decide) rfl ?_
  refine r_goto (t := 18) dX13_hasBest_83 (by decide) ?_
  exact Ev.sub (ks := [1, 2, 3, 4, 0]) rfl h
set_option maxHeartbeats 4000000 in
set_option maxRecDepth 100000 in
theorem B_X13_hasBest_130_18 (G : eG) (M : eM) (F : Bool → eM → Prop) (x2 : Int32) (x3 : Int32) (x4 : Int32)
    (h : ((6 ≤ x4) → Ev (eZ G 100 40 0 0 (eFZ F)) G 100 40 (6, 0, 0) kX13_hasBest 7 [(0, .ref (G.1 100)), (1, .ref (G.1 130)), (2, .int x2), (3, .int (x3 + 1))] [] M 0 0) ∧ ((¬ 6 ≤ x4) → Cal G 100 40 (5, 0, 0) kX13_fits [.ref (G.1 100), .ref (G.1 130), .int x2, .int x3, .int x4] M (eFZ (fun (r1 : Bool) (M1 : eM) => ((r1 = true) → Cal G 100 40 (5, 0, 0) kX13_gain [.ref (G.1 100), .ref (G.1 130), .int x2, .int x3, .int x4] M1 (eFI (fun (r2 : Int32) (M2 : eM) => (((M2 100 21) < r2) → Ev (eZ G 100 40 0 0 (eFZ F)) G 100 40 (6, 0, 0) kX13_hasBest 80 [(0, .ref (G.1 100)), (1, .ref (G.1 130)), (2, .int x2), (3, .int x3), (4, .int x4)] [] (eU (eU (eU M2 100 21 r2) 100 22 x3) 100 23 x4) 0 0) ∧ ((¬ (M2 100 21) < r2) → Ev (eZ G 100 40 0 0 (eFZ F)) G 100 40 (6, 0, 0) kX13_hasBest 80 [(0, .ref (G.1 100)), (1, .ref (G.1 130)), (2, .int x2), (3, .int x3), (4, .int x4)] [] M2 0 0)))) ∧ ((r1 = false) → Ev (eZ G 100 40 0 0 (eFZ F)) G 100 40 (6, 0, 0) kX13_hasBest 80 [(0, .ref (G.1 100)), (1, .ref (G.1 130)), (2, .int x2), (3, .int x3), (4, .int x4)] [] M1 0 0))))) :
    Ev (eZ G 100 40 0 0 (eFZ F)) G 100 40 (6, 0, 0) kX13_hasBest 18 [(0, .ref (G.1 100)), (1, .ref (G.1 130)), (2, .int x2), (3, .int x3), (4, .int x4)] [] M 0 0 := by
  refine r_iload 4 dX13_hasBest_18 rfl ?_
  refine r_bipush (v := 6) dX13_hasBest_20 rfl ?_
  refine r_icmp_ge (t := 86) dX13_hasBest_22 (by decide) (fun q => ?_) (fun q => ?_)
  · replace h := h.1 q
    refine r_iinc (v := x3 + 1) (l' := [(3, .int (x3 + 1)), (0, .ref (G.1 100)), (1, .ref (G.1 130)), (2, .int x2), (4, .int x4)]) 3 dX13_hasBest_86 rfl rfl (by decide) rfl ?_
    refine r_goto (t := 7) dX13_hasBest_89 (by decide) ?_
    exact Ev.sub (ks := [1, 2, 3, 0]) rfl h
  · replace h := h.2 q
    refine r_aload_n 0 dX13_hasBest_25 rfl rfl ?_
    refine r_aload_n 1 dX13_hasBest_26 rfl rfl ?_
    refine r_iload_n 2 dX13_hasBest_27 rfl rfl ?_
    refine r_iload_n 3 dX13_hasBest_28 rfl rfl ?_
    refine r_iload 4 dX13_hasBest_29 rfl ?_
    refine r_callVZ (b' := (5, 0, 0)) (c := 100) (S := []) [.ref (G.1 130), .int x2, .int x3, .int x4] dX13_hasBest_31 mX13_fits lMX13_310 clX13 rfl iM100 sC100 rfl (by decide) (Nat.le_of_ble_eq_true rfl) h (fun r1 M1 h => ?_) rfl
    refine r_zif_ne (t := 40) dX13_hasBest_34 (by decide) (fun q => ?_) (fun q => ?_)
    · replace h := h.1 q
      refine r_aload_n 0 dX13_hasBest_40 rfl rfl ?_
      refine r_aload_n 1 dX13_hasBest_41 rfl rfl ?_
      refine r_iload_n 2 dX13_hasBest_42 rfl rfl ?_
      refine r_iload_n 3 dX13_hasBest_43 rfl rfl ?_
      refine r_iload 4 dX13_hasBest_44 rfl ?_
      refine r_callVI (b' := (5, 0, 0)) (c := 100) (S := []) [.ref (G.1 130), .int x2, .int x3, .int x4] dX13_hasBest_46 mX13_gain lMX13_334 clX13 rfl iM100 sC100 rfl (by decide) (Nat.le_of_ble_eq_true rfl) h (fun r2 M2 h => ?_) rfl
      refine r_istore (l' := [(5, .int r2), (0, .ref (G.1 100)), (1, .ref (G.1 130)), (2, .int x2), (3, .int x3), (4, .int x4)]) dX13_hasBest_49 (by decide) rfl ?_
      refine r_iload 0 dX13_hasBest_51 rfl ?_
      refine r_aload_n 1 dX13_hasBest_53 rfl rfl ?_
      refine r_getI (c := 100) (k := 21) dX13_hasBest_54 clX13 lFX13_331 (by decide) iM100 sC100 rfl ?_
      refine r_icmp_gt (t := 63) dX13_hasBest_57 (by decide) (fun q => ?_) (fun q => ?_)
      · replace h := h.1 q
        refine r_aload_n 1 dX13_hasBest_63 rfl rfl ?_
        refine r_iload 0 dX13_hasBest_64 rfl ?_
        refine r_putI (c := 100) (k := 21) dX13_hasBest_66 clX13 lFX13_331 (by decide) iM100 sC100 rfl rfl rfl ?_
        refine r_aload_n 1 dX13_hasBest_69 rfl rfl ?_
        refine r_iload_n 4 dX13_hasBest_70 rfl rfl ?_
        refine r_putI (c := 100) (k := 22) dX13_hasBest_71 clX13 lFX13_337 (by decide) iM100 sC100 rfl rfl rfl ?_
        refine r_aload_n 1 dX13_hasBest_74 rfl rfl ?_
        refine r_iload 5 dX13_hasBest_75 rfl ?_
        refine r_putI (c := 100) (k := 23) dX13_hasBest_77 clX13 lFX13_340 (by decide) iM100 sC100 rfl rfl rfl ?_
        exact Ev.sub (ks := [1, 2, 3, 4, 5]) rfl h
      · replace h := h.2 q
        refine r_goto (t := 80) dX13_hasBest_60 (by decide) ?_
        exact Ev.sub (ks := [1, 2, 3, 4, 5]) rfl h
    · replace h := h.2 q
      refine r_goto (t := 80) dX13_hasBest_37 (by decide) ?_
      exact h
set_option maxHeartbeats 4000000 in
set_option maxRecDepth 100000 in
theorem B_X13_hasBest_130_7 (G : eG) (M : eM) (F : Bool → eM → Prop) (x2 : Int32) (x3 : Int32)
    (h : Cal G 100 40 (1, 0, 0) kX13_cells [.ref (G.1 100)] M (eFI (fun (r1 : Int32) (M1 : eM) => ((r1 ≤ x3) → (((M1 100 21) = (-1)) → F false M1) ∧ ((¬ (M1 100 21) = (-1)) → F true M1)) ∧ ((¬ r1 ≤ x3) → Ev (eZ G 100 40 0 0 (eFZ F)) G 100 40 (6, 0, 0) kX13_hasBest 18 [(0, .ref (G.1 100)), (1, .ref (G.1 130)), (2, .int x2), (3, .int x3), (4, .int 0)] [] M1 0 0)))) :
    Ev (eZ G 100 40 0 0 (eFZ F)) G 100 40 (6, 0, 0) kX13_hasBest 7 [(0, .ref (G.1 100)), (1, .ref (G.1 130)), (2, .int x2), (3, .int x3)] [] M 0 0 := by
  refine r_iload_n 3 dX13_hasBest_7 rfl rfl ?_
  refine r_aload_n 0 dX13_hasBest_8 rfl rfl ?_
  refine r_callVI (b' := (1, 0, 0)) (c := 100) (S := [.int x3]) [] dX13_hasBest_9 mX13_cells lMX13_307 clX13 rfl iM100 sC100 rfl (by decide) (Nat.le_of_ble_eq_true rfl) h (fun r1 M1 h => ?_) rfl
  refine r_icmp_ge (t := 92) dX13_hasBest_12 (by decide) (fun q => ?_) (fun q => ?_)
  · replace h := h.1 q
    refine r_aload_n 0 dX13_hasBest_92 rfl rfl ?_
    refine r_getI (c := 100) (k := 21) dX13_hasBest_93 clX13 lFX13_331 (by decide) iM100 sC100 rfl ?_
    refine r_iconst (v := (-1)) dX13_hasBest_96 rfl ?_
    refine r_icmp_eq (t := 104) dX13_hasBest_97 (by decide) (fun q => ?_) (fun q => ?_)
    · replace h := h.1 q
      refine r_iconst (v := 0) dX13_hasBest_104 rfl ?_
      refine r_iretZ0 dX13_hasBest_105 rfl (by decide) (by decide) h
    · replace h := h.2 q
      refine r_iconst (v := 1) dX13_hasBest_100 rfl ?_
      refine r_goto (t := 105) dX13_hasBest_101 (by decide) ?_
      refine r_iretZ1 dX13_hasBest_105 rfl (by decide) (by decide) h
  · replace h := h.2 q
    refine r_iconst (v := 0) dX13_hasBest_15 rfl ?_
    refine r_istore (l' := [(4, .int 0), (0, .ref (G.1 100)), (1, .ref (G.1 130)), (2, .int x2), (3, .int x3)]) dX13_hasBest_16 (by decide) rfl ?_
    exact Ev.sub (ks := [1, 2, 3, 4, 0]) rfl h
set_option maxHeartbeats 4000000 in
set_option maxRecDepth 100000 in
theorem C_X13_hasBest_130 (G : eG) (M : eM) (F : Bool → eM → Prop) (a2 : Int32)
    (h : Ev (eZ G 100 40 0 0 (eFZ F)) G 100 40 (6, 0, 0) kX13_hasBest 7 [(0, .ref (G.1 100)), (1, .ref (G.1 130)), (2, .int a2), (3, .int 0)] [] (eU M 100 21 (-1)) 0 0) :
    Cal G 100 40 (6, 0, 0) kX13_hasBest [.ref (G.1 100), .ref (G.1 130), .int a2] M (eFZ F) := by
  refine Cal.of (by decide +kernel) rfl (Nat.le_of_ble_eq_true rfl) ?_
  show Ev (eZ G 100 40 0 0 (eFZ F)) G 100 40 (6, 0, 0) kX13_hasBest 0 [(0, .ref (G.1 100)), (1, .ref (G.1 130)), (2, .int a2)] [] M 0 0
  refine r_aload_n 0 dX13_hasBest_0 rfl rfl ?_
  refine r_iconst (v := (-1)) dX13_hasBest_1 rfl ?_
  refine r_putI (c := 100) (k := 21) dX13_hasBest_2 clX13 lFX13_331 (by decide) iM100 sC100 rfl rfl rfl ?_
  refine r_iconst (v := 0) dX13_hasBest_5 rfl ?_
  refine r_istore_n (l' := [(3, .int 0), (0, .ref (G.1 100)), (1, .ref (G.1 130)), (2, .int a2)]) dX13_hasBest_6 rfl (by decide) rfl ?_
  exact Ev.sub (ks := [1, 2, 3, 0]) rfl h
set_option maxHeartbeats 4000000 in
set_option maxRecDepth 100000 in
theorem B_X13_hasBest_134_80 (G : eG) (M : eM) (F : Bool → eM → Prop) (x2 : Int32) (x3 : Int32) (x4 : Int32)
    (h : Ev (eZ G 100 40 0 0 (eFZ F)) G 100 40 (6, 0, 0) kX13_hasBest 18 [(0, .ref (G.1 100)), (1, .ref (G.1 134)), (2, .int x2), (3, .int x3), (4, .int (x4 + 1))] [] M 0 0) :
    Ev (eZ G 100 40 0 0 (eFZ F)) G 100 40 (6, 0, 0) kX13_hasBest 80 [(0, .ref (G.1 100)), (1, .ref (G.1 134)), (2, .int x2), (3, .int x3), (4, .int x4)] [] M 0 0 := by
  refine r_iinc (v := x4 + 1) (l' := [(4, .int (x4 + 1)), (0, .ref (G.1 100)), (1, .ref (G.1 134)), (2, .int x2), (3, .int x3)]) 4 dX13_hasBest_80 rfl rfl (by decide) rfl ?_
  refine r_goto (t := 18) dX13_hasBest_83 (by decide) ?_
  exact Ev.sub (ks := [1, 2, 3, 4, 0]) rfl h
set_option maxHeartbeats 4000000 in
set_option maxRecDepth 100000 in
theorem B_X13_hasBest_134_18 (G : eG) (M : eM) (F : Bool → eM → Prop) (x2 : Int32) (x3 : Int32) (x4 : Int32)
    (h : ((6 ≤ x4) → Ev (eZ G 100 40 0 0 (eFZ F)) G 100 40 (6, 0, 0) kX13_hasBest 7 [(0, .ref (G.1 100)), (1, .ref (G.1 134)), (2, .int x2), (3, .int (x3 + 1))] [] M 0 0) ∧ ((¬ 6 ≤ x4) → Cal G 100 40 (5, 0, 0) kX13_fits [.ref (G.1 100), .ref (G.1 134), .int x2, .int x3, .int x4] M (eFZ (fun (r1 : Bool) (M1 : eM) => ((r1 = true) → Cal G 100 40 (5, 0, 0) kX13_gain [.ref (G.1 100), .ref (G.1 134), .int x2, .int x3, .int x4] M1 (eFI (fun (r2 : Int32) (M2 : eM) => (((M2 100 21) < r2) → Ev (eZ G 100 40 0 0 (eFZ F)) G 100 40 (6, 0, 0) kX13_hasBest 80 [(0, .ref (G.1 100)), (1, .ref (G.1 134)), (2, .int x2), (3, .int x3), (4, .int x4)] [] (eU (eU (eU M2 100 21 r2) 100 22 x3) 100 23 x4) 0 0) ∧ ((¬ (M2 100 21) < r2) → Ev (eZ G 100 40 0 0 (eFZ F)) G 100 40 (6, 0, 0) kX13_hasBest 80 [(0, .ref (G.1 100)), (1, .ref (G.1 134)), (2, .int x2), (3, .int x3), (4, .int x4)] [] M2 0 0)))) ∧ ((r1 = false) → Ev (eZ G 100 40 0 0 (eFZ F)) G 100 40 (6, 0, 0) kX13_hasBest 80 [(0, .ref (G.1 100)), (1, .ref (G.1 134)), (2, .int x2), (3, .int x3), (4, .int x4)] [] M1 0 0))))) :
    Ev (eZ G 100 40 0 0 (eFZ F)) G 100 40 (6, 0, 0) kX13_hasBest 18 [(0, .ref (G.1 100)), (1, .ref (G.1 134)), (2, .int x2), (3, .int x3), (4, .int x4)] [] M 0 0 := by
  refine r_iload 4 dX13_hasBest_18 rfl ?_
  refine r_bipush (v := 6) dX13_hasBest_20 rfl ?_
  refine r_icmp_ge (t := 86) dX13_hasBest_22 (by decide) (fun q => ?_) (fun q => ?_)
  · replace h := h.1 q
    refine r_iinc (v := x3 + 1) (l' := [(3, .int (x3 + 1)), (0, .ref (G.1 100)), (1, .ref (G.1 134)), (2, .int x2), (4, .int x4)]) 3 dX13_hasBest_86 rfl rfl (by decide) rfl ?_
    refine r_goto (t := 7) dX13_hasBest_89 (by decide) ?_
    exact Ev.sub (ks := [1, 2, 3, 0]) rfl h
  · replace h := h.2 q
    refine r_aload_n 0 dX13_hasBest_25 rfl rfl ?_
    refine r_aload_n 1 dX13_hasBest_26 rfl rfl ?_
    refine r_iload_n 2 dX13_hasBest_27 rfl rfl ?_
    refine r_iload_n 3 dX13_hasBest_28 rfl rfl ?_
    refine r_iload 4 dX13_hasBest_29 rfl ?_
    refine r_callVZ (b' := (5, 0, 0)) (c := 100) (S := []) [.ref (G.1 134), .int x2, .int x3, .int x4] dX13_hasBest_31 mX13_fits lMX13_310 clX13 rfl iM100 sC100 rfl (by decide) (Nat.le_of_ble_eq_true rfl) h (fun r1 M1 h => ?_) rfl
    refine r_zif_ne (t := 40) dX13_hasBest_34 (by decide) (fun q => ?_) (fun q => ?_)
    · replace h := h.1 q
      refine r_aload_n 0 dX13_hasBest_40 rfl rfl ?_
      refine r_aload_n 1 dX13_hasBest_41 rfl rfl ?_
      refine r_iload_n 2 dX13_hasBest_42 rfl rfl ?_
      refine r_iload_n 3 dX13_hasBest_43 rfl rfl ?_
      refine r_iload 4 dX13_hasBest_44 rfl ?_
      refine r_callVI (b' := (5, 0, 0)) (c := 100) (S := []) [.ref (G.1 134), .int x2, .int x3, .int x4] dX13_hasBest_46 mX13_gain lMX13_334 clX13 rfl iM100 sC100 rfl (by decide) (Nat.le_of_ble_eq_true rfl) h (fun r2 M2 h => ?_) rfl
      refine r_istore (l' := [(5, .int r2), (0, .ref (G.1 100)), (1, .ref (G.1 134)), (2, .int x2), (3, .int x3), (4, .int x4)]) dX13_hasBest_49 (by decide) rfl ?_
      refine r_iload 0 dX13_hasBest_51 rfl ?_
      refine r_aload_n 1 dX13_hasBest_53 rfl rfl ?_
      refine r_getI (c := 100) (k := 21) dX13_hasBest_54 clX13 lFX13_331 (by decide) iM100 sC100 rfl ?_
      refine r_icmp_gt (t := 63) dX13_hasBest_57 (by decide) (fun q => ?_) (fun q => ?_)
      · replace h := h.1 q
        refine r_aload_n 1 dX13_hasBest_63 rfl rfl ?_
        refine r_iload 0 dX13_hasBest_64 rfl ?_
        refine r_putI (c := 100) (k := 21) dX13_hasBest_66 clX13 lFX13_331 (by decide) iM100 sC100 rfl rfl rfl ?_
        refine r_aload_n 1 dX13_hasBest_69 rfl rfl ?_
        refine r_iload_n 4 dX13_hasBest_70 rfl rfl ?_
        refine r_putI (c := 100) (k := 22) dX13_hasBest_71 clX13 lFX13_337 (by decide) iM100 sC100 rfl rfl rfl ?_
        refine r_aload_n 1 dX13_hasBest_74 rfl rfl ?_
        refine r_iload 5 dX13_hasBest_75 rfl ?_
        refine r_putI (c := 100) (k := 23) dX13_hasBest_77 clX13 lFX13_340 (by decide) iM100 sC100 rfl rfl rfl ?_
        exact Ev.sub (ks := [1, 2, 3, 4, 5]) rfl h
      · replace h := h.2 q
        refine r_goto (t := 80) dX13_hasBest_60 (by decide) ?_
        exact Ev.sub (ks := [1, 2, 3, 4, 5]) rfl h
    · replace h := h.2 q
      refine r_goto (t := 80) dX13_hasBest_37 (by decide) ?_
      exact h
set_option maxHeartbeats 4000000 in
set_option maxRecDepth 100000 in
theorem B_X13_hasBest_134_7 (G : eG) (M : eM) (F : Bool → eM → Prop) (x2 : Int32) (x3 : Int32)
    (h : Cal G 100 40 (1, 0, 0) kX13_cells [.ref (G.1 100)] M (eFI (fun (r1 : Int32) (M1 : eM) => ((r1 ≤ x3) → (((M1 100 21) = (-1)) → F false M1) ∧ ((¬ (M1 100 21) = (-1)) → F true M1)) ∧ ((¬ r1 ≤ x3) → Ev (eZ G 100 40 0 0 (eFZ F)) G 100 40 (6, 0, 0) kX13_hasBest 18 [(0, .ref (G.1 100)), (1, .ref (G.1 134)), (2, .int x2), (3, .int x3), (4, .int 0)] [] M1 0 0)))) :
    Ev (eZ G 100 40 0 0 (eFZ F)) G 100 40 (6, 0, 0) kX13_hasBest 7 [(0, .ref (G.1 100)), (1, .ref (G.1 134)), (2, .int x2), (3, .int x3)] [] M 0 0 := by
  refine r_iload_n 3 dX13_hasBest_7 rfl rfl ?_
  refine r_aload_n 0 dX13_hasBest_8 rfl rfl ?_
  refine r_callVI (b' := (1, 0, 0)) (c := 100) (S := [.int x3]) [] dX13_hasBest_9 mX13_cells lMX13_307 clX13 rfl iM100 sC100 rfl (by decide) (Nat.le_of_ble_eq_true rfl) h (fun r1 M1 h => ?_) rfl
  refine r_icmp_ge (t := 92) dX13_hasBest_12 (by decide) (fun q => ?_) (fun q => ?_)
  · replace h := h.1 q
    refine r_aload_n 0 dX13_hasBest_92 rfl rfl ?_
    refine r_getI (c := 100) (k := 21) dX13_hasBest_93 clX13 lFX13_331 (by decide) iM100 sC100 rfl ?_
    refine r_iconst (v := (-1)) dX13_hasBest_96 rfl ?_
    refine r_icmp_eq (t := 104) dX13_hasBest_97 (by decide) (fun q => ?_) (fun q => ?_)
    · replace h := h.1 q
      refine r_iconst (v := 0) dX13_hasBest_104 rfl ?_
      refine r_iretZ0 dX13_hasBest_105 rfl (by decide) (by decide) h
    · replace h := h.2 q
      refine r_iconst (v := 1) dX13_hasBest_100 rfl ?_
      refine r_goto (t := 105) dX13_hasBest_101 (by decide) ?_
      refine r_iretZ1 dX13_hasBest_105 rfl (by decide) (by decide) h
  · replace h := h.2 q
    refine r_iconst (v := 0) dX13_hasBest_15 rfl ?_
    refine r_istore (l' := [(4, .int 0), (0, .ref (G.1 100)), (1, .ref (G.1 134)), (2, .int x2), (3, .int x3)]) dX13_hasBest_16 (by decide) rfl ?_
    exact Ev.sub (ks := [1, 2, 3, 4, 0]) rfl h
set_option maxHeartbeats 4000000 in
set_option maxRecDepth 100000 in
theorem C_X13_hasBest_134 (G : eG) (M : eM) (F : Bool → eM → Prop) (a2 : Int32)
    (h : Ev (eZ G 100 40 0 0 (eFZ F)) G 100 40 (6, 0, 0) kX13_hasBest 7 [(0, .ref (G.1 100)), (1, .ref (G.1 134)), (2, .int a2), (3, .int 0)] [] (eU M 100 21 (-1)) 0 0) :
    Cal G 100 40 (6, 0, 0) kX13_hasBest [.ref (G.1 100), .ref (G.1 134), .int a2] M (eFZ F) := by
  refine Cal.of (by decide +kernel) rfl (Nat.le_of_ble_eq_true rfl) ?_
  show Ev (eZ G 100 40 0 0 (eFZ F)) G 100 40 (6, 0, 0) kX13_hasBest 0 [(0, .ref (G.1 100)), (1, .ref (G.1 134)), (2, .int a2)] [] M 0 0
  refine r_aload_n 0 dX13_hasBest_0 rfl rfl ?_
  refine r_iconst (v := (-1)) dX13_hasBest_1 rfl ?_
  refine r_putI (c := 100) (k := 21) dX13_hasBest_2 clX13 lFX13_331 (by decide) iM100 sC100 rfl rfl rfl ?_
  refine r_iconst (v := 0) dX13_hasBest_5 rfl ?_
  refine r_istore_n (l' := [(3, .int 0), (0, .ref (G.1 100)), (1, .ref (G.1 134)), (2, .int a2)]) dX13_hasBest_6 rfl (by decide) rfl ?_
  exact Ev.sub (ks := [1, 2, 3, 0]) rfl h
set_option maxHeartbeats 4000000 in
set_option maxRecDepth 100000 in
theorem B_X13_reckon_130_204 (G : eG) (M : eM) (F : Int32 → eM → Prop) (x2 : Int32) (x3 : Int32) (x4 : Int32)
    (h : vp_in x3 800 ∧ (vp_in x4 800 ∧ (Cal G 100 40 (2, 0, 0) kX13_joined [.int x2, .int (M 129 x3.toNatClampNeg), .int (M 129 x4.toNatClampNeg)] M (eFI (fun (r1 : Int32) (M1 : eM) => F r1 M1))))) :
    Ev (eZ G 100 40 0 0 (eFI F)) G 100 40 (8, 0, 0) kX13_reckon 204 [(0, .ref (G.1 100)), (2, .int x2), (3, .int x3), (4, .int x4)] [] M 0 0 := by
  refine r_iload_n 1 dX13_reckon_204 rfl rfl ?_
  refine r_aload_n 0 dX13_reckon_205 rfl rfl ?_
  refine r_getR (c := 100) (k := 16) 129 dX13_reckon_206 clX13 lFX13_42 (by decide) iM100 sC100 rfl ?_
  refine r_iload_n 2 dX13_reckon_209 rfl rfl ?_
  have h1 := h.1
  replace h := h.2
  refine r_iald (c := 129) (N := 800) dX13_reckon_210 iM129 sC129 h1 ?_
  refine r_aload_n 0 dX13_reckon_211 rfl rfl ?_
  refine r_getR (c := 100) (k := 16) 129 dX13_reckon_212 clX13 lFX13_42 (by decide) iM100 sC100 rfl ?_
  refine r_iload 3 dX13_reckon_215 rfl ?_
  have h1 := h.1
  replace h := h.2
  refine r_iald (c := 129) (N := 800) dX13_reckon_217 iM129 sC129 h1 ?_
  refine r_callSI (b' := (2, 0, 0)) (S := []) [.int x2, .int (M 129 x3.toNatClampNeg), .int (M 129 x4.toNatClampNeg)] dX13_reckon_218 mX13_joined lMX13_358 rfl (by decide) (Nat.le_of_ble_eq_true rfl) h (fun r1 M1 h => ?_) rfl
  refine r_iretI dX13_reckon_221 rfl (by decide) (by decide) h
set_option maxHeartbeats 4000000 in
set_option maxRecDepth 100000 in
theorem B_X13_reckon_130_195 (G : eG) (M : eM) (F : Int32 → eM → Prop) (x3 : Int32)
    (h : vp_in x3 800 ∧ (F (1 - (M 129 x3.toNatClampNeg)) M)) :
    Ev (eZ G 100 40 0 0 (eFI F)) G 100 40 (8, 0, 0) kX13_reckon 195 [(0, .ref (G.1 100)), (3, .int x3)] [] M 0 0 := by
  refine r_iconst (v := 1) dX13_reckon_195 rfl ?_
  refine r_aload_n 0 dX13_reckon_196 rfl rfl ?_
  refine r_getR (c := 100) (k := 16) 129 dX13_reckon_197 clX13 lFX13_42 (by decide) iM100 sC100 rfl ?_
  refine r_iload_n 1 dX13_reckon_200 rfl rfl ?_
  have h1 := h.1
  replace h := h.2
  refine r_iald (c := 129) (N := 800) dX13_reckon_201 iM129 sC129 h1 ?_
  refine r_isub dX13_reckon_202 ?_
  refine r_iretI dX13_reckon_203 rfl (by decide) (by decide) h
set_option maxHeartbeats 4000000 in
set_option maxRecDepth 100000 in
theorem B_X13_reckon_130_187 (G : eG) (M : eM) (F : Int32 → eM → Prop) (x3 : Int32)
    (h : vp_in x3 800 ∧ (F (-(M 129 x3.toNatClampNeg)) M)) :
    Ev (eZ G 100 40 0 0 (eFI F)) G 100 40 (8, 0, 0) kX13_reckon 187 [(0, .ref (G.1 100)), (3, .int x3)] [] M 0 0 := by
  refine r_aload_n 0 dX13_reckon_187 rfl rfl ?_
  refine r_getR (c := 100) (k := 16) 129 dX13_reckon_188 clX13 lFX13_42 (by decide) iM100 sC100 rfl ?_
  refine r_iload_n 1 dX13_reckon_191 rfl rfl ?_
  have h1 := h.1
  replace h := h.2
  refine r_iald (c := 129) (N := 800) dX13_reckon_192 iM129 sC129 h1 ?_
  refine r_ineg dX13_reckon_193 ?_
  refine r_iretI dX13_reckon_194 rfl (by decide) (by decide) h
set_option maxHeartbeats 4000000 in
set_option maxRecDepth 100000 in
theorem B_X13_reckon_130_171 (G : eG) (M : eM) (F : Int32 → eM → Prop) (x3 : Int32)
    (h : Cal G 100 40 (6, 0, 0) kX13_firstWay [.ref (G.1 100), .ref (G.1 130), .int x3] M (eFI (fun (r1 : Int32) (M1 : eM) => ((r1 = (-1)) → F 0 M1) ∧ ((¬ r1 = (-1)) → F 1 M1)))) :
    Ev (eZ G 100 40 0 0 (eFI F)) G 100 40 (8, 0, 0) kX13_reckon 171 [(0, .ref (G.1 100)), (1, .ref (G.1 130)), (3, .int x3)] [] M 0 0 := by
  refine r_aload_n 0 dX13_reckon_171 rfl rfl ?_
  refine r_aload_n 1 dX13_reckon_172 rfl rfl ?_
  refine r_iload_n 2 dX13_reckon_173 rfl rfl ?_
  refine r_callVI (b' := (6, 0, 0)) (c := 100) (S := []) [.ref (G.1 130), .int x3] dX13_reckon_174 mX13_firstWay lMX13_355 clX13 rfl iM100 sC100 rfl (by decide) (Nat.le_of_ble_eq_true rfl) h (fun r1 M1 h => ?_) rfl
  refine r_iconst (v := (-1)) dX13_reckon_177 rfl ?_
  refine r_icmp_eq (t := 185) dX13_reckon_178 (by decide) (fun q => ?_) (fun q => ?_)
  · replace h := h.1 q
    refine r_iconst (v := 0) dX13_reckon_185 rfl ?_
    refine r_iretI dX13_reckon_186 rfl (by decide) (by decide) h
  · replace h := h.2 q
    refine r_iconst (v := 1) dX13_reckon_181 rfl ?_
    refine r_goto (t := 186) dX13_reckon_182 (by decide) ?_
    refine r_iretI dX13_reckon_186 rfl (by decide) (by decide) h
set_option maxHeartbeats 4000000 in
set_option maxRecDepth 100000 in
theorem B_X13_reckon_130_155 (G : eG) (M : eM) (F : Int32 → eM → Prop) (x3 : Int32)
    (h : vp_in x3 16 ∧ ((((M 132 x3.toNatClampNeg) = (-1)) → F 0 M) ∧ ((¬ (M 132 x3.toNatClampNeg) = (-1)) → F 1 M))) :
    Ev (eZ G 100 40 0 0 (eFI F)) G 100 40 (8, 0, 0) kX13_reckon 155 [(1, .ref (G.1 130)), (3, .int x3)] [] M 0 0 := by
  refine r_aload_n 0 dX13_reckon_155 rfl rfl ?_
  refine r_getNR (c := 130) (k := 1) 132 dX13_reckon_156 clX11 lFX13_293 (by decide) iM130 sC130 rfl ?_
  refine r_iload_n 1 dX13_reckon_159 rfl rfl ?_
  have h1 := h.1
  replace h := h.2
  refine r_iald (c := 132) (N := 16) dX13_reckon_160 iM132 sC132 h1 ?_
  refine r_iconst (v := (-1)) dX13_reckon_161 rfl ?_
  refine r_icmp_eq (t := 169) dX13_reckon_162 (by decide) (fun q => ?_) (fun q => ?_)
  · replace h := h.1 q
    refine r_iconst (v := 0) dX13_reckon_169 rfl ?_
    refine r_iretI dX13_reckon_170 rfl (by decide) (by decide) h
  · replace h := h.2 q
    refine r_iconst (v := 1) dX13_reckon_165 rfl ?_
    refine r_goto (t := 170) dX13_reckon_166 (by decide) ?_
    refine r_iretI dX13_reckon_170 rfl (by decide) (by decide) h
set_option maxHeartbeats 4000000 in
set_option maxRecDepth 100000 in
theorem B_X13_reckon_130_148 (G : eG) (M : eM) (F : Int32 → eM → Prop) (x3 : Int32)
    (h : Cal G 100 40 (6, 0, 0) kX13_ways [.ref (G.1 100), .ref (G.1 130), .int x3] M (eFI (fun (r1 : Int32) (M1 : eM) => F r1 M1))) :
    Ev (eZ G 100 40 0 0 (eFI F)) G 100 40 (8, 0, 0) kX13_reckon 148 [(0, .ref (G.1 100)), (1, .ref (G.1 130)), (3, .int x3)] [] M 0 0 := by
  refine r_aload_n 0 dX13_reckon_148 rfl rfl ?_
  refine r_aload_n 1 dX13_reckon_149 rfl rfl ?_
  refine r_iload_n 2 dX13_reckon_150 rfl rfl ?_
  refine r_callVI (b' := (6, 0, 0)) (c := 100) (S := []) [.ref (G.1 130), .int x3] dX13_reckon_151 mX13_ways lMX13_352 clX13 rfl iM100 sC100 rfl (by decide) (Nat.le_of_ble_eq_true rfl) h (fun r1 M1 h => ?_) rfl
  refine r_iretI dX13_reckon_154 rfl (by decide) (by decide) h
set_option maxHeartbeats 4000000 in
set_option maxRecDepth 100000 in
theorem B_X13_reckon_130_138 (G : eG) (M : eM) (F : Int32 → eM → Prop) 
    (h : Cal G 100 40 (1, 0, 0) kX13_cells [.ref (G.1 100)] M (eFI (fun (r1 : Int32) (M1 : eM) => F (r1 - (M1 130 3)) M1))) :
    Ev (eZ G 100 40 0 0 (eFI F)) G 100 40 (8, 0, 0) kX13_reckon 138 [(0, .ref (G.1 100)), (1, .ref (G.1 130))] [] M 0 0 := by
  refine r_aload_n 0 dX13_reckon_138 rfl rfl ?_
  refine r_callVI (b' := (1, 0, 0)) (c := 100) (S := []) [] dX13_reckon_139 mX13_cells lMX13_307 clX13 rfl iM100 sC100 rfl (by decide) (Nat.le_of_ble_eq_true rfl) h (fun r1 M1 h => ?_) rfl
  refine r_aload_n 1 dX13_reckon_142 rfl rfl ?_
  refine r_getNI (c := 130) (k := 3) dX13_reckon_143 clX11 lFX13_296 (by decide) iM130 sC130 rfl ?_
  refine r_isub dX13_reckon_146 ?_
  refine r_iretI dX13_reckon_147 rfl (by decide) (by decide) h
set_option maxHeartbeats 4000000 in
set_option maxRecDepth 100000 in
theorem C_X13_reckon_130 (G : eG) (M : eM) (F : Int32 → eM → Prop) (a2 : Int32) (a3 : Int32) (a4 : Int32)
    (h : ((¬ (a2 : Int32) = 9 ∧ ¬ (a2 : Int32) = 10 ∧ ¬ (a2 : Int32) = 11 ∧ ¬ (a2 : Int32) = 12 ∧ ¬ (a2 : Int32) = 13 ∧ ¬ (a2 : Int32) = 14 ∧ ¬ (a2 : Int32) = 15 ∧ ¬ (a2 : Int32) = 17 ∧ ¬ (a2 : Int32) = 18 ∧ ¬ (a2 : Int32) = 19 ∧ ¬ (a2 : Int32) = 31 ∧ ¬ (a2 : Int32) = 60) → Ev (eZ G 100 40 0 0 (eFI F)) G 100 40 (8, 0, 0) kX13_reckon 204 [(0, .ref (G.1 100)), (2, .int a2), (3, .int a3), (4, .int a4)] [] M 0 0) ∧ ((a2 : Int32) = 9 → F (M 130 4) M) ∧ ((a2 : Int32) = 10 → F (M 130 3) M) ∧ ((a2 : Int32) = 11 → Cal G 100 40 (5, 0, 0) kX13_matches [.ref (G.1 100), .ref (G.1 130)] M (eFI (fun (r1 : Int32) (M1 : eM) => F r1 M1))) ∧ ((a2 : Int32) = 12 → Cal G 100 40 (7, 0, 0) kX13_points [.ref (G.1 100), .ref (G.1 130)] M (eFI (fun (r2 : Int32) (M2 : eM) => F r2 M2))) ∧ ((a2 : Int32) = 13 → Cal G 100 40 (6, 0, 0) kX13_rings [.ref (G.1 100), .ref (G.1 130)] M (eFI (fun (r3 : Int32) (M3 : eM) => F r3 M3))) ∧ ((a2 : Int32) = 14 → Ev (eZ G 100 40 0 0 (eFI F)) G 100 40 (8, 0, 0) kX13_reckon 138 [(0, .ref (G.1 100)), (1, .ref (G.1 130))] [] M 0 0) ∧ ((a2 : Int32) = 15 → Ev (eZ G 100 40 0 0 (eFI F)) G 100 40 (8, 0, 0) kX13_reckon 148 [(0, .ref (G.1 100)), (1, .ref (G.1 130)), (3, .int a3)] [] M 0 0) ∧ ((a2 : Int32) = 17 → Ev (eZ G 100 40 0 0 (eFI F)) G 100 40 (8, 0, 0) kX13_reckon 155 [(1, .ref (G.1 130)), (3, .int a3)] [] M 0 0) ∧ ((a2 : Int32) = 18 → Ev (eZ G 100 40 0 0 (eFI F)) G 100 40 (8, 0, 0) kX13_reckon 171 [(0, .ref (G.1 100)), (1, .ref (G.1 130)), (3, .int a3)] [] M 0 0) ∧ ((a2 : Int32) = 19 → Ev (eZ G 100 40 0 0 (eFI F)) G 100 40 (8, 0, 0) kX13_reckon 195 [(0, .ref (G.1 100)), (3, .int a3)] [] M 0 0) ∧ ((a2 : Int32) = 31 → F a3 M) ∧ ((a2 : Int32) = 60 → Ev (eZ G 100 40 0 0 (eFI F)) G 100 40 (8, 0, 0) kX13_reckon 187 [(0, .ref (G.1 100)), (3, .int a3)] [] M 0 0)) :
    Cal G 100 40 (8, 0, 0) kX13_reckon [.ref (G.1 100), .ref (G.1 130), .int a2, .int a3, .int a4] M (eFI F) := by
  refine Cal.of (by decide +kernel) rfl (Nat.le_of_ble_eq_true rfl) ?_
  show Ev (eZ G 100 40 0 0 (eFI F)) G 100 40 (8, 0, 0) kX13_reckon 0 [(0, .ref (G.1 100)), (1, .ref (G.1 130)), (2, .int a2), (3, .int a3), (4, .int a4)] [] M 0 0
  refine r_iload_n 2 dX13_reckon_0 rfl rfl ?_
  by_cases q0 : (a2 : Int32) = 9
  · replace h := h.2.1 q0
    refine r_lookup (off := 109) (t := 110) dX13_reckon_1 rfl (by rw [q0]; rfl) (by decide) ?_
    refine r_aload_n 1 dX13_reckon_110 rfl rfl ?_
    refine r_getNI (c := 130) (k := 4) dX13_reckon_111 clX11 lFX13_343 (by decide) iM130 sC130 rfl ?_
    refine r_iretI dX13_reckon_114 rfl (by decide) (by decide) h
  by_cases q1 : (a2 : Int32) = 10
  · replace h := h.2.2.1 q1
    refine r_lookup (off := 114) (t := 115) dX13_reckon_1 rfl (by rw [q1]; rfl) (by decide) ?_
    refine r_aload_n 1 dX13_reckon_115 rfl rfl ?_
    refine r_getNI (c := 130) (k := 3) dX13_reckon_116 clX11 lFX13_296 (by decide) iM130 sC130 rfl ?_
    refine r_iretI dX13_reckon_119 rfl (by decide) (by decide) h
  by_cases q2 : (a2 : Int32) = 11
  · replace h := h.2.2.2.1 q2
    refine r_lookup (off := 119) (t := 120) dX13_reckon_1 rfl (by rw [q2]; rfl) (by decide) ?_
    refine r_aload_n 0 dX13_reckon_120 rfl rfl ?_
    refine r_aload_n 1 dX13_reckon_121 rfl rfl ?_
    refine r_callVI (b' := (5, 0, 0)) (c := 100) (S := []) [.ref (G.1 130)] dX13_reckon_122 mX13_matches lMX13_346 clX13 rfl iM100 sC100 rfl (by decide) (Nat.le_of_ble_eq_true rfl) h (fun r1 M1 h => ?_) rfl
    refine r_iretI dX13_reckon_125 rfl (by decide) (by decide) h
  by_cases q3 : (a2 : Int32) = 12
  · replace h := h.2.2.2.2.1 q3
    refine r_lookup (off := 125) (t := 126) dX13_reckon_1 rfl (by rw [q3]; rfl) (by decide) ?_
    refine r_aload_n 0 dX13_reckon_126 rfl rfl ?_
    refine r_aload_n 1 dX13_reckon_127 rfl rfl ?_
    refine r_callVI (b' := (7, 0, 0)) (c := 100) (S := []) [.ref (G.1 130)] dX13_reckon_128 mX13_points lMX13_349 clX13 rfl iM100 sC100 rfl (by decide) (Nat.le_of_ble_eq_true rfl) h (fun r2 M2 h => ?_) rfl
    refine r_iretI dX13_reckon_131 rfl (by decide) (by decide) h
  by_cases q4 : (a2 : Int32) = 13
  · replace h := h.2.2.2.2.2.1 q4
    refine r_lookup (off := 131) (t := 132) dX13_reckon_1 rfl (by rw [q4]; rfl) (by decide) ?_
    refine r_aload_n 0 dX13_reckon_132 rfl rfl ?_
    refine r_aload_n 1 dX13_reckon_133 rfl rfl ?_
    refine r_callVI (b' := (6, 0, 0)) (c := 100) (S := []) [.ref (G.1 130)] dX13_reckon_134 mX13_rings lMX13_325 clX13 rfl iM100 sC100 rfl (by decide) (Nat.le_of_ble_eq_true rfl) h (fun r3 M3 h => ?_) rfl
    refine r_iretI dX13_reckon_137 rfl (by decide) (by decide) h
  by_cases q5 : (a2 : Int32) = 14
  · replace h := h.2.2.2.2.2.2.1 q5
    refine r_lookup (off := 137) (t := 138) dX13_reckon_1 rfl (by rw [q5]; rfl) (by decide) ?_
    exact Ev.sub (ks := [0, 1]) rfl h
  by_cases q6 : (a2 : Int32) = 15
  · replace h := h.2.2.2.2.2.2.2.1 q6
    refine r_lookup (off := 147) (t := 148) dX13_reckon_1 rfl (by rw [q6]; rfl) (by decide) ?_
    exact Ev.sub (ks := [0, 1, 3]) rfl h
  by_cases q7 : (a2 : Int32) = 17
  · replace h := h.2.2.2.2.2.2.2.2.1 q7
    refine r_lookup (off := 154) (t := 155) dX13_reckon_1 rfl (by rw [q7]; rfl) (by decide) ?_
    exact Ev.sub (ks := [1, 3]) rfl h
  by_cases q8 : (a2 : Int32) = 18
  · replace h := h.2.2.2.2.2.2.2.2.2.1 q8
    refine r_lookup (off := 170) (t := 171) dX13_reckon_1 rfl (by rw [q8]; rfl) (by decide) ?_
    exact Ev.sub (ks := [0, 1, 3]) rfl h
  by_cases q9 : (a2 : Int32) = 19
  · replace h := h.2.2.2.2.2.2.2.2.2.2.1 q9
    refine r_lookup (off := 194) (t := 195) dX13_reckon_1 rfl (by rw [q9]; rfl) (by decide) ?_
    exact Ev.sub (ks := [0, 3]) rfl h
  by_cases q10 : (a2 : Int32) = 31
  · replace h := h.2.2.2.2.2.2.2.2.2.2.2.1 q10
    refine r_lookup (off := 107) (t := 108) dX13_reckon_1 rfl (by rw [q10]; rfl) (by decide) ?_
    refine r_iload_n 3 dX13_reckon_108 rfl rfl ?_
    refine r_iretI dX13_reckon_109 rfl (by decide) (by decide) h
  by_cases q11 : (a2 : Int32) = 60
  · replace h := h.2.2.2.2.2.2.2.2.2.2.2.2 q11
    refine r_lookup (off := 186) (t := 187) dX13_reckon_1 rfl (by rw [q11]; rfl) (by decide) ?_
    exact Ev.sub (ks := [0, 3]) rfl h
  replace h := h.1 ⟨q0, q1, q2, q3, q4, q5, q6, q7, q8, q9, q10, q11⟩
  refine r_lookup (off := 203) (t := 204) dX13_reckon_1 rfl (by simp only [Op.lookupswitch.offset_cons, Op.lookupswitch.offset_nil]; rw [if_neg (fun z => q0 (eToI (z.symm.trans rfl))), if_neg (fun z => q1 (eToI (z.symm.trans rfl))), if_neg (fun z => q2 (eToI (z.symm.trans rfl))), if_neg (fun z => q3 (eToI (z.symm.trans rfl))), if_neg (fun z => q4 (eToI (z.symm.trans rfl))), if_neg (fun z => q5 (eToI (z.symm.trans rfl))), if_neg (fun z => q6 (eToI (z.symm.trans rfl))), if_neg (fun z => q7 (eToI (z.symm.trans rfl))), if_neg (fun z => q8 (eToI (z.symm.trans rfl))), if_neg (fun z => q9 (eToI (z.symm.trans rfl))), if_neg (fun z => q10 (eToI (z.symm.trans rfl))), if_neg (fun z => q11 (eToI (z.symm.trans rfl)))]) (by decide) ?_
  exact Ev.sub (ks := [0, 2, 3, 4]) rfl h
set_option maxHeartbeats 4000000 in
set_option maxRecDepth 100000 in
theorem B_X13_reckon_134_204 (G : eG) (M : eM) (F : Int32 → eM → Prop) (x2 : Int32) (x3 : Int32) (x4 : Int32)
    (h : vp_in x3 800 ∧ (vp_in x4 800 ∧ (Cal G 100 40 (2, 0, 0) kX13_joined [.int x2, .int (M 129 x3.toNatClampNeg), .int (M 129 x4.toNatClampNeg)] M (eFI (fun (r1 : Int32) (M1 : eM) => F r1 M1))))) :
    Ev (eZ G 100 40 0 0 (eFI F)) G 100 40 (8, 0, 0) kX13_reckon 204 [(0, .ref (G.1 100)), (2, .int x2), (3, .int x3), (4, .int x4)] [] M 0 0 := by
  refine r_iload_n 1 dX13_reckon_204 rfl rfl ?_
  refine r_aload_n 0 dX13_reckon_205 rfl rfl ?_
  refine r_getR (c := 100) (k := 16) 129 dX13_reckon_206 clX13 lFX13_42 (by decide) iM100 sC100 rfl ?_
  refine r_iload_n 2 dX13_reckon_209 rfl rfl ?_
  have h1 := h.1
  replace h := h.2
  refine r_iald (c := 129) (N := 800) dX13_reckon_210 iM129 sC129 h1 ?_
  refine r_aload_n 0 dX13_reckon_211 rfl rfl ?_
  refine r_getR (c := 100) (k := 16) 129 dX13_reckon_212 clX13 lFX13_42 (by decide) iM100 sC100 rfl ?_
  refine r_iload 3 dX13_reckon_215 rfl ?_
  have h1 := h.1
  replace h := h.2
  refine r_iald (c := 129) (N := 800) dX13_reckon_217 iM129 sC129 h1 ?_
  refine r_callSI (b' := (2, 0, 0)) (S := []) [.int x2, .int (M 129 x3.toNatClampNeg), .int (M 129 x4.toNatClampNeg)] dX13_reckon_218 mX13_joined lMX13_358 rfl (by decide) (Nat.le_of_ble_eq_true rfl) h (fun r1 M1 h => ?_) rfl
  refine r_iretI dX13_reckon_221 rfl (by decide) (by decide) h
set_option maxHeartbeats 4000000 in
set_option maxRecDepth 100000 in
theorem B_X13_reckon_134_195 (G : eG) (M : eM) (F : Int32 → eM → Prop) (x3 : Int32)
    (h : vp_in x3 800 ∧ (F (1 - (M 129 x3.toNatClampNeg)) M)) :
    Ev (eZ G 100 40 0 0 (eFI F)) G 100 40 (8, 0, 0) kX13_reckon 195 [(0, .ref (G.1 100)), (3, .int x3)] [] M 0 0 := by
  refine r_iconst (v := 1) dX13_reckon_195 rfl ?_
  refine r_aload_n 0 dX13_reckon_196 rfl rfl ?_
  refine r_getR (c := 100) (k := 16) 129 dX13_reckon_197 clX13 lFX13_42 (by decide) iM100 sC100 rfl ?_
  refine r_iload_n 1 dX13_reckon_200 rfl rfl ?_
  have h1 := h.1
  replace h := h.2
  refine r_iald (c := 129) (N := 800) dX13_reckon_201 iM129 sC129 h1 ?_
  refine r_isub dX13_reckon_202 ?_
  refine r_iretI dX13_reckon_203 rfl (by decide) (by decide) h
set_option maxHeartbeats 4000000 in
set_option maxRecDepth 100000 in
theorem B_X13_reckon_134_187 (G : eG) (M : eM) (F : Int32 → eM → Prop) (x3 : Int32)
    (h : vp_in x3 800 ∧ (F (-(M 129 x3.toNatClampNeg)) M)) :
    Ev (eZ G 100 40 0 0 (eFI F)) G 100 40 (8, 0, 0) kX13_reckon 187 [(0, .ref (G.1 100)), (3, .int x3)] [] M 0 0 := by
  refine r_aload_n 0 dX13_reckon_187 rfl rfl ?_
  refine r_getR (c := 100) (k := 16) 129 dX13_reckon_188 clX13 lFX13_42 (by decide) iM100 sC100 rfl ?_
  refine r_iload_n 1 dX13_reckon_191 rfl rfl ?_
  have h1 := h.1
  replace h := h.2
  refine r_iald (c := 129) (N := 800) dX13_reckon_192 iM129 sC129 h1 ?_
  refine r_ineg dX13_reckon_193 ?_
  refine r_iretI dX13_reckon_194 rfl (by decide) (by decide) h
set_option maxHeartbeats 4000000 in
set_option maxRecDepth 100000 in
theorem B_X13_reckon_134_171 (G : eG) (M : eM) (F : Int32 → eM → Prop) (x3 : Int32)
    (h : Cal G 100 40 (6, 0, 0) kX13_firstWay [.ref (G.1 100), .ref (G.1 134), .int x3] M (eFI (fun (r1 : Int32) (M1 : eM) => ((r1 = (-1)) → F 0 M1) ∧ ((¬ r1 = (-1)) → F 1 M1)))) :
    Ev (eZ G 100 40 0 0 (eFI F)) G 100 40 (8, 0, 0) kX13_reckon 171 [(0, .ref (G.1 100)), (1, .ref (G.1 134)), (3, .int x3)] [] M 0 0 := by
  refine r_aload_n 0 dX13_reckon_171 rfl rfl ?_
  refine r_aload_n 1 dX13_reckon_172 rfl rfl ?_
  refine r_iload_n 2 dX13_reckon_173 rfl rfl ?_
  refine r_callVI (b' := (6, 0, 0)) (c := 100) (S := []) [.ref (G.1 134), .int x3] dX13_reckon_174 mX13_firstWay lMX13_355 clX13 rfl iM100 sC100 rfl (by decide) (Nat.le_of_ble_eq_true rfl) h (fun r1 M1 h => ?_) rfl
  refine r_iconst (v := (-1)) dX13_reckon_177 rfl ?_
  refine r_icmp_eq (t := 185) dX13_reckon_178 (by decide) (fun q => ?_) (fun q => ?_)
  · replace h := h.1 q
    refine r_iconst (v := 0) dX13_reckon_185 rfl ?_
    refine r_iretI dX13_reckon_186 rfl (by decide) (by decide) h
  · replace h := h.2 q
    refine r_iconst (v := 1) dX13_reckon_181 rfl ?_
    refine r_goto (t := 186) dX13_reckon_182 (by decide) ?_
    refine r_iretI dX13_reckon_186 rfl (by decide) (by decide) h
set_option maxHeartbeats 4000000 in
set_option maxRecDepth 100000 in
theorem B_X13_reckon_134_155 (G : eG) (M : eM) (F : Int32 → eM → Prop) (x3 : Int32)
    (h : vp_in x3 16 ∧ ((((M 136 x3.toNatClampNeg) = (-1)) → F 0 M) ∧ ((¬ (M 136 x3.toNatClampNeg) = (-1)) → F 1 M))) :
    Ev (eZ G 100 40 0 0 (eFI F)) G 100 40 (8, 0, 0) kX13_reckon 155 [(1, .ref (G.1 134)), (3, .int x3)] [] M 0 0 := by
  refine r_aload_n 0 dX13_reckon_155 rfl rfl ?_
  refine r_getNR (c := 134) (k := 1) 136 dX13_reckon_156 clX11 lFX13_293 (by decide) iM134 sC134 rfl ?_
  refine r_iload_n 1 dX13_reckon_159 rfl rfl ?_
  have h1 := h.1
  replace h := h.2
  refine r_iald (c := 136) (N := 16) dX13_reckon_160 iM136 sC136 h1 ?_
  refine r_iconst (v := (-1)) dX13_reckon_161 rfl ?_
  refine r_icmp_eq (t := 169) dX13_reckon_162 (by decide) (fun q => ?_) (fun q => ?_)
  · replace h := h.1 q
    refine r_iconst (v := 0) dX13_reckon_169 rfl ?_
    refine r_iretI dX13_reckon_170 rfl (by decide) (by decide) h
  · replace h := h.2 q
    refine r_iconst (v := 1) dX13_reckon_165 rfl ?_
    refine r_goto (t := 170) dX13_reckon_166 (by decide) ?_
    refine r_iretI dX13_reckon_170 rfl (by decide) (by decide) h
set_option maxHeartbeats 4000000 in
set_option maxRecDepth 100000 in
theorem B_X13_reckon_134_148 (G : eG) (M : eM) (F : Int32 → eM → Prop) (x3 : Int32)
    (h : Cal G 100 40 (6, 0, 0) kX13_ways [.ref (G.1 100), .ref (G.1 134), .int x3] M (eFI (fun (r1 : Int32) (M1 : eM) => F r1 M1))) :
    Ev (eZ G 100 40 0 0 (eFI F)) G 100 40 (8, 0, 0) kX13_reckon 148 [(0, .ref (G.1 100)), (1, .ref (G.1 134)), (3, .int x3)] [] M 0 0 := by
  refine r_aload_n 0 dX13_reckon_148 rfl rfl ?_
  refine r_aload_n 1 dX13_reckon_149 rfl rfl ?_
  refine r_iload_n 2 dX13_reckon_150 rfl rfl ?_
  refine r_callVI (b' := (6, 0, 0)) (c := 100) (S := []) [.ref (G.1 134), .int x3] dX13_reckon_151 mX13_ways lMX13_352 clX13 rfl iM100 sC100 rfl (by decide) (Nat.le_of_ble_eq_true rfl) h (fun r1 M1 h => ?_) rfl
  refine r_iretI dX13_reckon_154 rfl (by decide) (by decide) h
set_option maxHeartbeats 4000000 in
set_option maxRecDepth 100000 in
theorem B_X13_reckon_134_138 (G : eG) (M : eM) (F : Int32 → eM → Prop) 
    (h : Cal G 100 40 (1, 0, 0) kX13_cells [.ref (G.1 100)] M (eFI (fun (r1 : Int32) (M1 : eM) => F (r1 - (M1 134 3)) M1))) :
    Ev (eZ G 100 40 0 0 (eFI F)) G 100 40 (8, 0, 0) kX13_reckon 138 [(0, .ref (G.1 100)), (1, .ref (G.1 134))] [] M 0 0 := by
  refine r_aload_n 0 dX13_reckon_138 rfl rfl ?_
  refine r_callVI (b' := (1, 0, 0)) (c := 100) (S := []) [] dX13_reckon_139 mX13_cells lMX13_307 clX13 rfl iM100 sC100 rfl (by decide) (Nat.le_of_ble_eq_true rfl) h (fun r1 M1 h => ?_) rfl
  refine r_aload_n 1 dX13_reckon_142 rfl rfl ?_
  refine r_getNI (c := 134) (k := 3) dX13_reckon_143 clX11 lFX13_296 (by decide) iM134 sC134 rfl ?_
  refine r_isub dX13_reckon_146 ?_
  refine r_iretI dX13_reckon_147 rfl (by decide) (by decide) h
set_option maxHeartbeats 4000000 in
set_option maxRecDepth 100000 in
theorem C_X13_reckon_134 (G : eG) (M : eM) (F : Int32 → eM → Prop) (a2 : Int32) (a3 : Int32) (a4 : Int32)
    (h : ((¬ (a2 : Int32) = 9 ∧ ¬ (a2 : Int32) = 10 ∧ ¬ (a2 : Int32) = 11 ∧ ¬ (a2 : Int32) = 12 ∧ ¬ (a2 : Int32) = 13 ∧ ¬ (a2 : Int32) = 14 ∧ ¬ (a2 : Int32) = 15 ∧ ¬ (a2 : Int32) = 17 ∧ ¬ (a2 : Int32) = 18 ∧ ¬ (a2 : Int32) = 19 ∧ ¬ (a2 : Int32) = 31 ∧ ¬ (a2 : Int32) = 60) → Ev (eZ G 100 40 0 0 (eFI F)) G 100 40 (8, 0, 0) kX13_reckon 204 [(0, .ref (G.1 100)), (2, .int a2), (3, .int a3), (4, .int a4)] [] M 0 0) ∧ ((a2 : Int32) = 9 → F (M 134 4) M) ∧ ((a2 : Int32) = 10 → F (M 134 3) M) ∧ ((a2 : Int32) = 11 → Cal G 100 40 (5, 0, 0) kX13_matches [.ref (G.1 100), .ref (G.1 134)] M (eFI (fun (r1 : Int32) (M1 : eM) => F r1 M1))) ∧ ((a2 : Int32) = 12 → Cal G 100 40 (7, 0, 0) kX13_points [.ref (G.1 100), .ref (G.1 134)] M (eFI (fun (r2 : Int32) (M2 : eM) => F r2 M2))) ∧ ((a2 : Int32) = 13 → Cal G 100 40 (6, 0, 0) kX13_rings [.ref (G.1 100), .ref (G.1 134)] M (eFI (fun (r3 : Int32) (M3 : eM) => F r3 M3))) ∧ ((a2 : Int32) = 14 → Ev (eZ G 100 40 0 0 (eFI F)) G 100 40 (8, 0, 0) kX13_reckon 138 [(0, .ref (G.1 100)), (1, .ref (G.1 134))] [] M 0 0) ∧ ((a2 : Int32) = 15 → Ev (eZ G 100 40 0 0 (eFI F)) G 100 40 (8, 0, 0) kX13_reckon 148 [(0, .ref (G.1 100)), (1, .ref (G.1 134)), (3, .int a3)] [] M 0 0) ∧ ((a2 : Int32) = 17 → Ev (eZ G 100 40 0 0 (eFI F)) G 100 40 (8, 0, 0) kX13_reckon 155 [(1, .ref (G.1 134)), (3, .int a3)] [] M 0 0) ∧ ((a2 : Int32) = 18 → Ev (eZ G 100 40 0 0 (eFI F)) G 100 40 (8, 0, 0) kX13_reckon 171 [(0, .ref (G.1 100)), (1, .ref (G.1 134)), (3, .int a3)] [] M 0 0) ∧ ((a2 : Int32) = 19 → Ev (eZ G 100 40 0 0 (eFI F)) G 100 40 (8, 0, 0) kX13_reckon 195 [(0, .ref (G.1 100)), (3, .int a3)] [] M 0 0) ∧ ((a2 : Int32) = 31 → F a3 M) ∧ ((a2 : Int32) = 60 → Ev (eZ G 100 40 0 0 (eFI F)) G 100 40 (8, 0, 0) kX13_reckon 187 [(0, .ref (G.1 100)), (3, .int a3)] [] M 0 0)) :
    Cal G 100 40 (8, 0, 0) kX13_reckon [.ref (G.1 100), .ref (G.1 134), .int a2, .int a3, .int a4] M (eFI F) := by
  refine Cal.of (by decide +kernel) rfl (Nat.le_of_ble_eq_true rfl) ?_
  show Ev (eZ G 100 40 0 0 (eFI F)) G 100 40 (8, 0, 0) kX13_reckon 0 [(0, .ref (G.1 100)), (1, .ref (G.1 134)), (2, .int a2), (3, .int a3), (4, .int a4)] [] M 0 0
  refine r_iload_n 2 dX13_reckon_0 rfl rfl ?_
  by_cases q0 : (a2 : Int32) = 9
  · replace h := h.2.1 q0
    refine r_lookup (off := 109) (t := 110) dX13_reckon_1 rfl (by rw [q0]; rfl) (by decide) ?_
    refine r_aload_n 1 dX13_reckon_110 rfl rfl ?_
    refine r_getNI (c := 134) (k := 4) dX13_reckon_111 clX11 lFX13_343 (by decide) iM134 sC134 rfl ?_
    refine r_iretI dX13_reckon_114 rfl (by decide) (by decide) h
  by_cases q1 : (a2 : Int32) = 10
  · replace h := h.2.2.1 q1
    refine r_lookup (off := 114) (t := 115) dX13_reckon_1 rfl (by rw [q1]; rfl) (by decide) ?_
    refine r_aload_n 1 dX13_reckon_115 rfl rfl ?_
    refine r_getNI (c := 134) (k := 3) dX13_reckon_116 clX11 lFX13_296 (by decide) iM134 sC134 rfl ?_
    refine r_iretI dX13_reckon_119 rfl (by decide) (by decide) h
  by_cases q2 : (a2 : Int32) = 11
  · replace h := h.2.2.2.1 q2
    refine r_lookup (off := 119) (t := 120) dX13_reckon_1 rfl (by rw [q2]; rfl) (by decide) ?_
    refine r_aload_n 0 dX13_reckon_120 rfl rfl ?_
    refine r_aload_n 1 dX13_reckon_121 rfl rfl ?_
    refine r_callVI (b' := (5, 0, 0)) (c := 100) (S := []) [.ref (G.1 134)] dX13_reckon_122 mX13_matches lMX13_346 clX13 rfl iM100 sC100 rfl (by decide) (Nat.le_of_ble_eq_true rfl) h (fun r1 M1 h => ?_) rfl
    refine r_iretI dX13_reckon_125 rfl (by decide) (by decide) h
  by_cases q3 : (a2 : Int32) = 12
  · replace h := h.2.2.2.2.1 q3
    refine r_lookup (off := 125) (t := 126) dX13_reckon_1 rfl (by rw [q3]; rfl) (by decide) ?_
    refine r_aload_n 0 dX13_reckon_126 rfl rfl ?_
    refine r_aload_n 1 dX13_reckon_127 rfl rfl ?_
    refine r_callVI (b' := (7, 0, 0)) (c := 100) (S := []) [.ref (G.1 134)] dX13_reckon_128 mX13_points lMX13_349 clX13 rfl iM100 sC100 rfl (by decide) (Nat.le_of_ble_eq_true rfl) h (fun r2 M2 h => ?_) rfl
    refine r_iretI dX13_reckon_131 rfl (by decide) (by decide) h
  by_cases q4 : (a2 : Int32) = 13
  · replace h := h.2.2.2.2.2.1 q4
    refine r_lookup (off := 131) (t := 132) dX13_reckon_1 rfl (by rw [q4]; rfl) (by decide) ?_
    refine r_aload_n 0 dX13_reckon_132 rfl rfl ?_
    refine r_aload_n 1 dX13_reckon_133 rfl rfl ?_
    refine r_callVI (b' := (6, 0, 0)) (c := 100) (S := []) [.ref (G.1 134)] dX13_reckon_134 mX13_rings lMX13_325 clX13 rfl iM100 sC100 rfl (by decide) (Nat.le_of_ble_eq_true rfl) h (fun r3 M3 h => ?_) rfl
    refine r_iretI dX13_reckon_137 rfl (by decide) (by decide) h
  by_cases q5 : (a2 : Int32) = 14
  · replace h := h.2.2.2.2.2.2.1 q5
    refine r_lookup (off := 137) (t := 138) dX13_reckon_1 rfl (by rw [q5]; rfl) (by decide) ?_
    exact Ev.sub (ks := [0, 1]) rfl h
  by_cases q6 : (a2 : Int32) = 15
  · replace h := h.2.2.2.2.2.2.2.1 q6
    refine r_lookup (off := 147) (t := 148) dX13_reckon_1 rfl (by rw [q6]; rfl) (by decide) ?_
    exact Ev.sub (ks := [0, 1, 3]) rfl h
  by_cases q7 : (a2 : Int32) = 17
  · replace h := h.2.2.2.2.2.2.2.2.1 q7
    refine r_lookup (off := 154) (t := 155) dX13_reckon_1 rfl (by rw [q7]; rfl) (by decide) ?_
    exact Ev.sub (ks := [1, 3]) rfl h
  by_cases q8 : (a2 : Int32) = 18
  · replace h := h.2.2.2.2.2.2.2.2.2.1 q8
    refine r_lookup (off := 170) (t := 171) dX13_reckon_1 rfl (by rw [q8]; rfl) (by decide) ?_
    exact Ev.sub (ks := [0, 1, 3]) rfl h
  by_cases q9 : (a2 : Int32) = 19
  · replace h := h.2.2.2.2.2.2.2.2.2.2.1 q9
    refine r_lookup (off := 194) (t := 195) dX13_reckon_1 rfl (by rw [q9]; rfl) (by decide) ?_
    exact Ev.sub (ks := [0, 3]) rfl h
  by_cases q10 : (a2 : Int32) = 31
  · replace h := h.2.2.2.2.2.2.2.2.2.2.2.1 q10
    refine r_lookup (off := 107) (t := 108) dX13_reckon_1 rfl (by rw [q10]; rfl) (by decide) ?_
    refine r_iload_n 3 dX13_reckon_108 rfl rfl ?_
    refine r_iretI dX13_reckon_109 rfl (by decide) (by decide) h
  by_cases q11 : (a2 : Int32) = 60
  · replace h := h.2.2.2.2.2.2.2.2.2.2.2.2 q11
    refine r_lookup (off := 186) (t := 187) dX13_reckon_1 rfl (by rw [q11]; rfl) (by decide) ?_
    exact Ev.sub (ks := [0, 3]) rfl h
  replace h := h.1 ⟨q0, q1, q2, q3, q4, q5, q6, q7, q8, q9, q10, q11⟩
  refine r_lookup (off := 203) (t := 204) dX13_reckon_1 rfl (by simp only [Op.lookupswitch.offset_cons, Op.lookupswitch.offset_nil]; rw [if_neg (fun z => q0 (eToI (z.symm.trans rfl))), if_neg (fun z => q1 (eToI (z.symm.trans rfl))), if_neg (fun z => q2 (eToI (z.symm.trans rfl))), if_neg (fun z => q3 (eToI (z.symm.trans rfl))), if_neg (fun z => q4 (eToI (z.symm.trans rfl))), if_neg (fun z => q5 (eToI (z.symm.trans rfl))), if_neg (fun z => q6 (eToI (z.symm.trans rfl))), if_neg (fun z => q7 (eToI (z.symm.trans rfl))), if_neg (fun z => q8 (eToI (z.symm.trans rfl))), if_neg (fun z => q9 (eToI (z.symm.trans rfl))), if_neg (fun z => q10 (eToI (z.symm.trans rfl))), if_neg (fun z => q11 (eToI (z.symm.trans rfl)))]) (by decide) ?_
  exact Ev.sub (ks := [0, 2, 3, 4]) rfl h
set_option maxHeartbeats 4000000 in
set_option maxRecDepth 100000 in
theorem B_X13_joined_216 (G : eG) (M : eM) (F : Int32 → eM → Prop) (x1 : Int32) (x2 : Int32)
    (h : ((x1 < x2) → F 0 M) ∧ ((¬ x1 < x2) → F 1 M)) :
    Ev (eZ G 100 40 0 0 (eFI F)) G 100 40 (2, 0, 0) kX13_joined 216 [(1, .int x1), (2, .int x2)] [] M 0 0 := by
  refine r_iload_n 0 dX13_joined_216 rfl rfl ?_
  refine r_iload_n 1 dX13_joined_217 rfl rfl ?_
  refine r_icmp_lt (t := 225) dX13_joined_218 (by decide) (fun q => ?_) (fun q => ?_)
  · replace h := h.1 q
    refine r_iconst (v := 0) dX13_joined_225 rfl ?_
    refine r_iretI dX13_joined_226 rfl (by decide) (by decide) h
  · replace h := h.2 q
    refine r_iconst (v := 1) dX13_joined_221 rfl ?_
    refine r_goto (t := 226) dX13_joined_222 (by decide) ?_
    refine r_iretI dX13_joined_226 rfl (by decide) (by decide) h
set_option maxHeartbeats 4000000 in
set_option maxRecDepth 100000 in
theorem B_X13_joined_205 (G : eG) (M : eM) (F : Int32 → eM → Prop) (x1 : Int32) (x2 : Int32)
    (h : ((x2 < x1) → F 0 M) ∧ ((¬ x2 < x1) → F 1 M)) :
    Ev (eZ G 100 40 0 0 (eFI F)) G 100 40 (2, 0, 0) kX13_joined 205 [(1, .int x1), (2, .int x2)] [] M 0 0 := by
  refine r_iload_n 0 dX13_joined_205 rfl rfl ?_
  refine r_iload_n 1 dX13_joined_206 rfl rfl ?_
  refine r_icmp_gt (t := 214) dX13_joined_207 (by decide) (fun q => ?_) (fun q => ?_)
  · replace h := h.1 q
    refine r_iconst (v := 0) dX13_joined_214 rfl ?_
    refine r_iretI dX13_joined_215 rfl (by decide) (by decide) h
  · replace h := h.2 q
    refine r_iconst (v := 1) dX13_joined_210 rfl ?_
    refine r_goto (t := 215) dX13_joined_211 (by decide) ?_
    refine r_iretI dX13_joined_215 rfl (by decide) (by decide) h
set_option maxHeartbeats 4000000 in
set_option maxRecDepth 100000 in
theorem B_X13_joined_194 (G : eG) (M : eM) (F : Int32 → eM → Prop) (x1 : Int32) (x2 : Int32)
    (h : ((¬ x1 = x2) → F 0 M) ∧ ((x1 = x2) → F 1 M)) :
    Ev (eZ G 100 40 0 0 (eFI F)) G 100 40 (2, 0, 0) kX13_joined 194 [(1, .int x1), (2, .int x2)] [] M 0 0 := by
  refine r_iload_n 0 dX13_joined_194 rfl rfl ?_
  refine r_iload_n 1 dX13_joined_195 rfl rfl ?_
  refine r_icmp_ne (t := 203) dX13_joined_196 (by decide) (fun q => ?_) (fun q => ?_)
  · replace h := h.1 q
    refine r_iconst (v := 0) dX13_joined_203 rfl ?_
    refine r_iretI dX13_joined_204 rfl (by decide) (by decide) h
  · replace h := h.2 q
    refine r_iconst (v := 1) dX13_joined_199 rfl ?_
    refine r_goto (t := 204) dX13_joined_200 (by decide) ?_
    refine r_iretI dX13_joined_204 rfl (by decide) (by decide) h
set_option maxHeartbeats 4000000 in
set_option maxRecDepth 100000 in
theorem B_X13_joined_183 (G : eG) (M : eM) (F : Int32 → eM → Prop) (x1 : Int32) (x2 : Int32)
    (h : ((x1 ≤ x2) → F 0 M) ∧ ((¬ x1 ≤ x2) → F 1 M)) :
    Ev (eZ G 100 40 0 0 (eFI F)) G 100 40 (2, 0, 0) kX13_joined 183 [(1, .int x1), (2, .int x2)] [] M 0 0 := by
  refine r_iload_n 0 dX13_joined_183 rfl rfl ?_
  refine r_iload_n 1 dX13_joined_184 rfl rfl ?_
  refine r_icmp_le (t := 192) dX13_joined_185 (by decide) (fun q => ?_) (fun q => ?_)
  · replace h := h.1 q
    refine r_iconst (v := 0) dX13_joined_192 rfl ?_
    refine r_iretI dX13_joined_193 rfl (by decide) (by decide) h
  · replace h := h.2 q
    refine r_iconst (v := 1) dX13_joined_188 rfl ?_
    refine r_goto (t := 193) dX13_joined_189 (by decide) ?_
    refine r_iretI dX13_joined_193 rfl (by decide) (by decide) h
set_option maxHeartbeats 4000000 in
set_option maxRecDepth 100000 in
theorem B_X13_joined_172 (G : eG) (M : eM) (F : Int32 → eM → Prop) (x1 : Int32) (x2 : Int32)
    (h : ((x2 ≤ x1) → F 0 M) ∧ ((¬ x2 ≤ x1) → F 1 M)) :
    Ev (eZ G 100 40 0 0 (eFI F)) G 100 40 (2, 0, 0) kX13_joined 172 [(1, .int x1), (2, .int x2)] [] M 0 0 := by
  refine r_iload_n 0 dX13_joined_172 rfl rfl ?_
  refine r_iload_n 1 dX13_joined_173 rfl rfl ?_
  refine r_icmp_ge (t := 181) dX13_joined_174 (by decide) (fun q => ?_) (fun q => ?_)
  · replace h := h.1 q
    refine r_iconst (v := 0) dX13_joined_181 rfl ?_
    refine r_iretI dX13_joined_182 rfl (by decide) (by decide) h
  · replace h := h.2 q
    refine r_iconst (v := 1) dX13_joined_177 rfl ?_
    refine r_goto (t := 182) dX13_joined_178 (by decide) ?_
    refine r_iretI dX13_joined_182 rfl (by decide) (by decide) h
set_option maxHeartbeats 4000000 in
set_option maxRecDepth 100000 in
theorem B_X13_joined_140 (G : eG) (M : eM) (F : Int32 → eM → Prop) (x1 : Int32) (x2 : Int32)
    (h : ((¬ x2 = 0) → (¬ x2 = 0) ∧ (F (x1 / x2) M)) ∧ ((x2 = 0) → F 0 M)) :
    Ev (eZ G 100 40 0 0 (eFI F)) G 100 40 (2, 0, 0) kX13_joined 140 [(1, .int x1), (2, .int x2)] [] M 0 0 := by
  refine r_iload_n 1 dX13_joined_140 rfl rfl ?_
  refine r_if_ne (t := 148) dX13_joined_141 (by decide) (fun q => ?_) (fun q => ?_)
  · replace h := h.1 q
    refine r_iload_n 0 dX13_joined_148 rfl rfl ?_
    refine r_iload_n 1 dX13_joined_149 rfl rfl ?_
    have h1 := h.1
    replace h := h.2
    refine r_idiv dX13_joined_150 h1 ?_
    refine r_iretI dX13_joined_151 rfl (by decide) (by decide) h
  · replace h := h.2 q
    refine r_iconst (v := 0) dX13_joined_144 rfl ?_
    refine r_goto (t := 151) dX13_joined_145 (by decide) ?_
    refine r_iretI dX13_joined_151 rfl (by decide) (by decide) h
set_option maxHeartbeats 4000000 in
set_option maxRecDepth 100000 in
theorem C_X13_joined (G : eG) (M : eM) (F : Int32 → eM → Prop) (a1 : Int32) (a2 : Int32) (a3 : Int32)
    (h : (((a1 : Int32).toInt < 20 ∨ 47 < (a1 : Int32).toInt) → Ev (eZ G 100 40 0 0 (eFI F)) G 100 40 (2, 0, 0) kX13_joined 216 [(1, .int a2), (2, .int a3)] [] M 0 0) ∧ ((a1 : Int32) = 20 → F (a2 &&& a3) M) ∧ ((a1 : Int32) = 21 → F (a2 ||| a3) M) ∧ ((a1 : Int32) = 22 → F (if a3 < a2 then a3 else a2) M) ∧ ((a1 : Int32) = 23 → F (if a2 < a3 then a3 else a2) M) ∧ ((a1 : Int32) = 24 → Ev (eZ G 100 40 0 0 (eFI F)) G 100 40 (2, 0, 0) kX13_joined 216 [(1, .int a2), (2, .int a3)] [] M 0 0) ∧ ((a1 : Int32) = 25 → Ev (eZ G 100 40 0 0 (eFI F)) G 100 40 (2, 0, 0) kX13_joined 216 [(1, .int a2), (2, .int a3)] [] M 0 0) ∧ ((a1 : Int32) = 26 → Ev (eZ G 100 40 0 0 (eFI F)) G 100 40 (2, 0, 0) kX13_joined 216 [(1, .int a2), (2, .int a3)] [] M 0 0) ∧ ((a1 : Int32) = 27 → Ev (eZ G 100 40 0 0 (eFI F)) G 100 40 (2, 0, 0) kX13_joined 216 [(1, .int a2), (2, .int a3)] [] M 0 0) ∧ ((a1 : Int32) = 28 → Ev (eZ G 100 40 0 0 (eFI F)) G 100 40 (2, 0, 0) kX13_joined 216 [(1, .int a2), (2, .int a3)] [] M 0 0) ∧ ((a1 : Int32) = 29 → Ev (eZ G 100 40 0 0 (eFI F)) G 100 40 (2, 0, 0) kX13_joined 216 [(1, .int a2), (2, .int a3)] [] M 0 0) ∧ ((a1 : Int32) = 30 → Ev (eZ G 100 40 0 0 (eFI F)) G 100 40 (2, 0, 0) kX13_joined 216 [(1, .int a2), (2, .int a3)] [] M 0 0) ∧ ((a1 : Int32) = 31 → Ev (eZ G 100 40 0 0 (eFI F)) G 100 40 (2, 0, 0) kX13_joined 216 [(1, .int a2), (2, .int a3)] [] M 0 0) ∧ ((a1 : Int32) = 32 → Ev (eZ G 100 40 0 0 (eFI F)) G 100 40 (2, 0, 0) kX13_joined 216 [(1, .int a2), (2, .int a3)] [] M 0 0) ∧ ((a1 : Int32) = 33 → Ev (eZ G 100 40 0 0 (eFI F)) G 100 40 (2, 0, 0) kX13_joined 216 [(1, .int a2), (2, .int a3)] [] M 0 0) ∧ ((a1 : Int32) = 34 → Ev (eZ G 100 40 0 0 (eFI F)) G 100 40 (2, 0, 0) kX13_joined 216 [(1, .int a2), (2, .int a3)] [] M 0 0) ∧ ((a1 : Int32) = 35 → Ev (eZ G 100 40 0 0 (eFI F)) G 100 40 (2, 0, 0) kX13_joined 216 [(1, .int a2), (2, .int a3)] [] M 0 0) ∧ ((a1 : Int32) = 36 → Ev (eZ G 100 40 0 0 (eFI F)) G 100 40 (2, 0, 0) kX13_joined 216 [(1, .int a2), (2, .int a3)] [] M 0 0) ∧ ((a1 : Int32) = 37 → Ev (eZ G 100 40 0 0 (eFI F)) G 100 40 (2, 0, 0) kX13_joined 216 [(1, .int a2), (2, .int a3)] [] M 0 0) ∧ ((a1 : Int32) = 38 → Ev (eZ G 100 40 0 0 (eFI F)) G 100 40 (2, 0, 0) kX13_joined 216 [(1, .int a2), (2, .int a3)] [] M 0 0) ∧ ((a1 : Int32) = 39 → Ev (eZ G 100 40 0 0 (eFI F)) G 100 40 (2, 0, 0) kX13_joined 216 [(1, .int a2), (2, .int a3)] [] M 0 0) ∧ ((a1 : Int32) = 40 → F (a2 + a3) M) ∧ ((a1 : Int32) = 41 → F (a2 - a3) M) ∧ ((a1 : Int32) = 42 → F (a2 * a3) M) ∧ ((a1 : Int32) = 43 → Ev (eZ G 100 40 0 0 (eFI F)) G 100 40 (2, 0, 0) kX13_joined 140 [(1, .int a2), (2, .int a3)] [] M 0 0) ∧ ((a1 : Int32) = 44 → Ev (eZ G 100 40 0 0 (eFI F)) G 100 40 (2, 0, 0) kX13_joined 172 [(1, .int a2), (2, .int a3)] [] M 0 0) ∧ ((a1 : Int32) = 45 → Ev (eZ G 100 40 0 0 (eFI F)) G 100 40 (2, 0, 0) kX13_joined 183 [(1, .int a2), (2, .int a3)] [] M 0 0) ∧ ((a1 : Int32) = 46 → Ev (eZ G 100 40 0 0 (eFI F)) G 100 40 (2, 0, 0) kX13_joined 194 [(1, .int a2), (2, .int a3)] [] M 0 0) ∧ ((a1 : Int32) = 47 → Ev (eZ G 100 40 0 0 (eFI F)) G 100 40 (2, 0, 0) kX13_joined 205 [(1, .int a2), (2, .int a3)] [] M 0 0)) :
    Cal G 100 40 (2, 0, 0) kX13_joined [.int a1, .int a2, .int a3] M (eFI F) := by
  refine Cal.of (by decide +kernel) rfl (Nat.le_of_ble_eq_true rfl) ?_
  show Ev (eZ G 100 40 0 0 (eFI F)) G 100 40 (2, 0, 0) kX13_joined 0 [(0, .int a1), (1, .int a2), (2, .int a3)] [] M 0 0
  refine r_iload_n 0 dX13_joined_0 rfl rfl ?_
  by_cases q : (a1 : Int32).toInt < 20 ∨ 47 < (a1 : Int32).toInt
  · replace h := h.1 q
    refine r_tableOut (tg := 216) dX13_joined_1 q (by decide) ?_
    exact Ev.sub (ks := [1, 2]) rfl h
  · replace h := h.2
    refine eTabCases (N := 28) q (by decide) (fun i9 hi hx => ?_)
    match i9, hi, hx with
    | 0, hi, hx =>
      have q3 : (a1 : Int32) = 20 := eToI (hx.trans (by decide))
      replace h := h.1 q3
      refine r_tableAt (tg := 164) dX13_joined_1 q3 (by decide) (by decide) rfl (by decide) ?_
      refine r_iload_n 1 dX13_joined_164 rfl rfl ?_
      refine r_iload_n 2 dX13_joined_165 rfl rfl ?_
      refine r_iand dX13_joined_166 ?_
      refine r_iretI dX13_joined_167 rfl (by decide) (by decide) h
    | 1, hi, hx =>
      have q3 : (a1 : Int32) = 21 := eToI (hx.trans (by decide))
      replace h := h.2.1 q3
      refine r_tableAt (tg := 168) dX13_joined_1 q3 (by decide) (by decide) rfl (by decide) ?_
      refine r_iload_n 1 dX13_joined_168 rfl rfl ?_
      refine r_iload_n 2 dX13_joined_169 rfl rfl ?_
      refine r_ior dX13_joined_170 ?_
      refine r_iretI dX13_joined_171 rfl (by decide) (by decide) h
    | 2, hi, hx =>
      have q3 : (a1 : Int32) = 22 := eToI (hx.trans (by decide))
      replace h := h.2.2.1 q3
      refine r_tableAt (tg := 152) dX13_joined_1 q3 (by decide) (by decide) rfl (by decide) ?_
      refine r_iload_n 1 dX13_joined_152 rfl rfl ?_
      refine r_iload_n 2 dX13_joined_153 rfl rfl ?_
      refine r_mmin dX13_joined_154 lMX13_211 eMm_min1 eMm_i eMm_min2 (by decide) (Nat.le_of_ble_eq_true rfl) ⟨Nat.le_refl _, Nat.le_refl _⟩ ?_
      refine r_iretI dX13_joined_157 rfl (by decide) (by decide) h
    | 3, hi, hx =>
      have q3 : (a1 : Int32) = 23 := eToI (hx.trans (by decide))
      replace h := h.2.2.2.1 q3
      refine r_tableAt (tg := 158) dX13_joined_1 q3 (by decide) (by decide) rfl (by decide) ?_
      refine r_iload_n 1 dX13_joined_158 rfl rfl ?_
      refine r_iload_n 2 dX13_joined_159 rfl rfl ?_
      refine r_mmax dX13_joined_160 lMX13_167 eMm_max1 eMm_i eMm_max2 (by decide) (Nat.le_of_ble_eq_true rfl) ⟨Nat.le_refl _, Nat.le_refl _⟩ ?_
      refine r_iretI dX13_joined_163 rfl (by decide) (by decide) h
    | 4, hi, hx =>
      have q3 : (a1 : Int32) = 24 := eToI (hx.trans (by decide))
      replace h := h.2.2.2.2.1 q3
      refine r_tableAt (tg := 216) dX13_joined_1 q3 (by decide) (by decide) rfl (by decide) ?_
      exact Ev.sub (ks := [1, 2]) rfl h
    | 5, hi, hx =>
      have q3 : (a1 : Int32) = 25 := eToI (hx.trans (by decide))
      replace h := h.2.2.2.2.2.1 q3
      refine r_tableAt (tg := 216) dX13_joined_1 q3 (by decide) (by decide) rfl (by decide) ?_
      exact Ev.sub (ks := [1, 2]) rfl h
    | 6, hi, hx =>
      have q3 : (a1 : Int32) = 26 := eToI (hx.trans (by decide))
      replace h := h.2.2.2.2.2.2.1 q3
      refine r_tableAt (tg := 216) dX13_joined_1 q3 (by decide) (by decide) rfl (by decide) ?_
      exact Ev.sub (ks := [1, 2]) rfl h
    | 7, hi, hx =>
      have q3 : (a1 : Int32) = 27 := eToI (hx.trans (by decide))
      replace h := h.2.2.2.2.2.2.2.1 q3
      refine r_tableAt (tg := 216) dX13_joined_1 q3 (by decide) (by decide) rfl (by decide) ?_
      exact Ev.sub (ks := [1, 2]) rfl h
    | 8, hi, hx =>
      have q3 : (a1 : Int32) = 28 := eToI (hx.trans (by decide))
      replace h := h.2.2.2.2.2.2.2.2.1 q3
      refine r_tableAt (tg := 216) dX13_joined_1 q3 (by decide) (by decide) rfl (by decide) ?_
      exact Ev.sub (ks := [1, 2]) rfl h
    | 9, hi, hx =>
      have q3 : (a1 : Int32) = 29 := eToI (hx.trans (by decide))
      replace h := h.2.2.2.2.2.2.2.2.2.1 q3
      refine r_tableAt (tg := 216) dX13_joined_1 q3 (by decide) (by decide) rfl (by decide) ?_
      exact Ev.sub (ks := [1, 2]) rfl h
    | 10, hi, hx =>
      have q3 : (a1 : Int32) = 30 := eToI (hx.trans (by decide))
      replace h := h.2.2.2.2.2.2.2.2.2.2.1 q3
      refine r_tableAt (tg := 216) dX13_joined_1 q3 (by decide) (by decide) rfl (by decide) ?_
      exact Ev.sub (ks := [1, 2]) rfl h
    | 11, hi, hx =>
      have q3 : (a1 : Int32) = 31 := eToI (hx.trans (by decide))
      replace h := h.2.2.2.2.2.2.2.2.2.2.2.1 q3
      refine r_tableAt (tg := 216) dX13_joined_1 q3 (by decide) (by decide) rfl (by decide) ?_
      exact Ev.sub (ks := [1, 2]) rfl h
    | 12, hi, hx =>
      have q3 : (a1 : Int32) = 32 := eToI (hx.trans (by decide))
      replace h := h.2.2.2.2.2.2.2.2.2.2.2.2.1 q3
      refine r_tableAt (tg := 216) dX13_joined_1 q3 (by decide) (by decide) rfl (by decide) ?_
      exact Ev.sub (ks := [1, 2]) rfl h
    | 13, hi, hx =>
      have q3 : (a1 : Int32) = 33 := eToI (hx.trans (by decide))
      replace h := h.2.2.2.2.2.2.2.2.2.2.2.2.2.1 q3
      refine r_tableAt (tg := 216) dX13_joined_1 q3 (by decide) (by decide) rfl (by decide) ?_
      exact Ev.sub (ks := [1, 2]) rfl h
    | 14, hi, hx =>
      have q3 : (a1 : Int32) = 34 := eToI (hx.trans (by decide))
      replace h := h.2.2.2.2.2.2.2.2.2.2.2.2.2.2.1 q3
      refine r_tableAt (tg := 216) dX13_joined_1 q3 (by decide) (by decide) rfl (by decide) ?_
      exact Ev.sub (ks := [1, 2]) rfl h
    | 15, hi, hx =>
      have q3 : (a1 : Int32) = 35 := eToI (hx.trans (by decide))
      replace h := h.2.2.2.2.2.2.2.2.2.2.2.2.2.2.2.1 q3
      refine r_tableAt (tg := 216) dX13_joined_1 q3 (by decide) (by decide) rfl (by decide) ?_
      exact Ev.sub (ks := [1, 2]) rfl h
    | 16, hi, hx =>
      have q3 : (a1 : Int32) = 36 := eToI (hx.trans (by decide))
      replace h := h.2.2.2.2.2.2.2.2.2.2.2.2.2.2.2.2.1 q3
      refine r_tableAt (tg := 216) dX13_joined_1 q3 (by decide) (by decide) rfl (by decide) ?_
      exact Ev.sub (ks := [1, 2]) rfl h
    | 17, hi, hx =>
      have q3 : (a1 : Int32) = 37 := eToI (hx.trans (by decide))
      replace h := h.2.2.2.2.2.2.2.2.2.2.2.2.2.2.2.2.2.1 q3
      refine r_tableAt (tg := 216) dX13_joined_1 q3 (by decide) (by decide) rfl (by decide) ?_
      exact Ev.sub (ks := [1, 2]) rfl h
    | 18, hi, hx =>
      have q3 : (a1 : Int32) = 38 := eToI (hx.trans (by decide))
      replace h := h.2.2.2.2.2.2.2.2.2.2.2.2.2.2.2.2.2.2.1 q3
      refine r_tableAt (tg := 216) dX13_joined_1 q3 (by decide) (by decide) rfl (by decide) ?_
      exact Ev.sub (ks := [1, 2]) rfl h
    | 19, hi, hx =>
      have q3 : (a1 : Int32) = 39 := eToI (hx.trans (by decide))
      replace h := h.2.2.2.2.2.2.2.2.2.2.2.2.2.2.2.2.2.2.2.1 q3
      refine r_tableAt (tg := 216) dX13_joined_1 q3 (by decide) (by decide) rfl (by decide) ?_
      exact Ev.sub (ks := [1, 2]) rfl h
    | 20, hi, hx =>
      have q3 : (a1 : Int32) = 40 := eToI (hx.trans (by decide))
      replace h := h.2.2.2.2.2.2.2.2.2.2.2.2.2.2.2.2.2.2.2.2.1 q3
      refine r_tableAt (tg := 128) dX13_joined_1 q3 (by decide) (by decide) rfl (by decide) ?_
      refine r_iload_n 1 dX13_joined_128 rfl rfl ?_
      refine r_iload_n 2 dX13_joined_129 rfl rfl ?_
      refine r_iadd dX13_joined_130 ?_
      refine r_iretI dX13_joined_131 rfl (by decide) (by decide) h
    | 21, hi, hx =>
      have q3 : (a1 : Int32) = 41 := eToI (hx.trans (by decide))
      replace h := h.2.2.2.2.2.2.2.2.2.2.2.2.2.2.2.2.2.2.2.2.2.1 q3
      refine r_tableAt (tg := 132) dX13_joined_1 q3 (by decide) (by decide) rfl (by decide) ?_
      refine r_iload_n 1 dX13_joined_132 rfl rfl ?_
      refine r_iload_n 2 dX13_joined_133 rfl rfl ?_
      refine r_isub dX13_joined_134 ?_
      refine r_iretI dX13_joined_135 rfl (by decide) (by decide) h
    | 22, hi, hx =>
      have q3 : (a1 : Int32) = 42 := eToI (hx.trans (by decide))
      replace h := h.2.2.2.2.2.2.2.2.2.2.2.2.2.2.2.2.2.2.2.2.2.2.1 q3
      refine r_tableAt (tg := 136) dX13_joined_1 q3 (by decide) (by decide) rfl (by decide) ?_
      refine r_iload_n 1 dX13_joined_136 rfl rfl ?_
      refine r_iload_n 2 dX13_joined_137 rfl rfl ?_
      refine r_imul dX13_joined_138 ?_
      refine r_iretI dX13_joined_139 rfl (by decide) (by decide) h
    | 23, hi, hx =>
      have q3 : (a1 : Int32) = 43 := eToI (hx.trans (by decide))
      replace h := h.2.2.2.2.2.2.2.2.2.2.2.2.2.2.2.2.2.2.2.2.2.2.2.1 q3
      refine r_tableAt (tg := 140) dX13_joined_1 q3 (by decide) (by decide) rfl (by decide) ?_
      exact Ev.sub (ks := [1, 2]) rfl h
    | 24, hi, hx =>
      have q3 : (a1 : Int32) = 44 := eToI (hx.trans (by decide))
      replace h := h.2.2.2.2.2.2.2.2.2.2.2.2.2.2.2.2.2.2.2.2.2.2.2.2.1 q3
      refine r_tableAt (tg := 172) dX13_joined_1 q3 (by decide) (by decide) rfl (by decide) ?_
      exact Ev.sub (ks := [1, 2]) rfl h
    | 25, hi, hx =>
      have q3 : (a1 : Int32) = 45 := eToI (hx.trans (by decide))
      replace h := h.2.2.2.2.2.2.2.2.2.2.2.2.2.2.2.2.2.2.2.2.2.2.2.2.2.1 q3
      refine r_tableAt (tg := 183) dX13_joined_1 q3 (by decide) (by decide) rfl (by decide) ?_
      exact Ev.sub (ks := [1, 2]) rfl h
    | 26, hi, hx =>
      have q3 : (a1 : Int32) = 46 := eToI (hx.trans (by decide))
      replace h := h.2.2.2.2.2.2.2.2.2.2.2.2.2.2.2.2.2.2.2.2.2.2.2.2.2.2.1 q3
      refine r_tableAt (tg := 194) dX13_joined_1 q3 (by decide) (by decide) rfl (by decide) ?_
      exact Ev.sub (ks := [1, 2]) rfl h
    | 27, hi, hx =>
      have q3 : (a1 : Int32) = 47 := eToI (hx.trans (by decide))
      replace h := h.2.2.2.2.2.2.2.2.2.2.2.2.2.2.2.2.2.2.2.2.2.2.2.2.2.2.2 q3
      refine r_tableAt (tg := 205) dX13_joined_1 q3 (by decide) (by decide) rfl (by decide) ?_
      exact Ev.sub (ks := [1, 2]) rfl h
    | i + 28, hi, hx => exact absurd hi (by omega)
