set_option maxHeartbeats 4000000 in
set_option maxRecDepth 100000 in
theorem C_X13_isPut_130 (G : eG) (M : eM) (F : Bool → eM → Prop) (a2 : Int32) (a3 : Int32) (a4 : Int32) (a5 : Int32)
    (h : Cal G 100 40 (1, 0, 0) kJ9_floorMod_7cf53 [.int a4, .int (M 107 1)] M (eFI (fun (r1 : Int32) (M1 : eM) => Cal G 100 40 (1, 0, 0) kJ9_floorMod_7cf53 [.int a3, .int (M1 107 0)] M1 (eFI (fun (r2 : Int32) (M2 : eM) => Cal G 100 40 (1, 0, 0) kJ9_floorMod_7cf53 [.int a5, .int 6] M2 (eFI (fun (r3 : Int32) (M3 : eM) => Cal G 100 40 (5, 0, 0) kX13_fits [.ref (G.1 100), .ref (G.1 130), .int a2, .int ((r1 * (M1 107 0)) + r2), .int r3] M3 (eFZ (fun (r4 : Bool) (M4 : eM) => ((r4 = true) → Cal G 100 40 (1, 0, 0) kX11_put [.ref (G.1 130), .int a2, .int ((r1 * (M1 107 0)) + r2), .int r3] M4 (eFV (fun (M5 : eM) => F true M5))) ∧ ((r4 = false) → F false M4)))))))))) :
    Cal G 100 40 (6, 0, 0) kX13_isPut [.ref (G.1 100), .ref (G.1 130), .int a2, .int a3, .int a4, .int a5] M (eFZ F) := by
  refine Cal.of (by decide +kernel) rfl (Nat.le_of_ble_eq_true rfl) ?_
  show Ev (eZ G 100 40 0 0 (eFZ F)) G 100 40 (6, 0, 0) kX13_isPut 0 [(0, .ref (G.1 100)), (1, .ref (G.1 130)), (2, .int a2), (3, .int a3), (4, .int a4), (5, .int a5)] [] M 0 0
  refine r_iload 4 dX13_isPut_0 rfl ?_
  refine r_aload_n 0 dX13_isPut_2 rfl rfl ?_
  refine r_getR (c := 100) (k := 14) 107 dX13_isPut_3 clX13 lFX13_35 (by decide) iM100 sC100 rfl ?_
  refine r_getNI (c := 107) (k := 1) dX13_isPut_6 clX12 lFX13_248 (by decide) iM107 sC107 rfl ?_
  refine r_callSI (b' := (1, 0, 0)) (S := []) [.int a4, .int (M 107 1)] dX13_isPut_9 mJ9_floorMod_7cf53 lMX13_361 rfl (by decide) (Nat.le_of_ble_eq_true rfl) h (fun r1 M1 h => ?_) rfl
  refine r_aload_n 0 dX13_isPut_12 rfl rfl ?_
  refine r_getR (c := 100) (k := 14) 107 dX13_isPut_13 clX13 lFX13_35 (by decide) iM100 sC100 rfl ?_
  refine r_getNI (c := 107) (k := 0) dX13_isPut_16 clX12 lFX13_245 (by decide) iM107 sC107 rfl ?_
  refine r_imul dX13_isPut_19 ?_
  refine r_iload_n 3 dX13_isPut_20 rfl rfl ?_
  refine r_aload_n 0 dX13_isPut_21 rfl rfl ?_
  refine r_getR (c := 100) (k := 14) 107 dX13_isPut_22 clX13 lFX13_35 (by decide) iM100 sC100 rfl ?_
  refine r_getNI (c := 107) (k := 0) dX13_isPut_25 clX12 lFX13_245 (by decide) iM107 sC107 rfl ?_
  refine r_callSI (b' := (1, 0, 0)) (S := [.int (r1 * (M1 107 0))]) [.int a3, .int (M1 107 0)] dX13_isPut_28 mJ9_floorMod_7cf53 lMX13_361 rfl (by decide) (Nat.le_of_ble_eq_true rfl) h (fun r2 M2 h => ?_) rfl
  refine r_iadd dX13_isPut_31 ?_
  refine r_istore (l' := [(6, .int ((r1 * (M1 107 0)) + r2)), (0, .ref (G.1 100)), (1, .ref (G.1 130)), (2, .int a2), (3, .int a3), (4, .int a4), (5, .int a5)]) dX13_isPut_32 (by decide) rfl ?_
  refine r_iload 6 dX13_isPut_34 rfl ?_
  refine r_bipush (v := 6) dX13_isPut_36 rfl ?_
  refine r_callSI (b' := (1, 0, 0)) (S := []) [.int a5, .int 6] dX13_isPut_38 mJ9_floorMod_7cf53 lMX13_361 rfl (by decide) (Nat.le_of_ble_eq_true rfl) h (fun r3 M3 h => ?_) rfl
  refine r_istore (l' := [(7, .int r3), (6, .int ((r1 * (M1 107 0)) + r2)), (0, .ref (G.1 100)), (1, .ref (G.1 130)), (2, .int a2), (3, .int a3), (4, .int a4), (5, .int a5)]) dX13_isPut_41 (by decide) rfl ?_
  refine r_aload_n 2 dX13_isPut_43 rfl rfl ?_
  refine r_aload_n 3 dX13_isPut_44 rfl rfl ?_
  refine r_iload_n 4 dX13_isPut_45 rfl rfl ?_
  refine r_iload 1 dX13_isPut_46 rfl ?_
  refine r_iload 0 dX13_isPut_48 rfl ?_
  refine r_callVZ (b' := (5, 0, 0)) (c := 100) (S := []) [.ref (G.1 130), .int a2, .int ((r1 * (M1 107 0)) + r2), .int r3] dX13_isPut_50 mX13_fits lMX13_310 clX13 rfl iM100 sC100 rfl (by decide) (Nat.le_of_ble_eq_true rfl) h (fun r4 M4 h => ?_) rfl
  refine r_zif_ne (t := 58) dX13_isPut_53 (by decide) (fun q => ?_) (fun q => ?_)
  · replace h := h.1 q
    refine r_aload_n 3 dX13_isPut_58 rfl rfl ?_
    refine r_iload_n 4 dX13_isPut_59 rfl rfl ?_
    refine r_iload 1 dX13_isPut_60 rfl ?_
    refine r_iload 0 dX13_isPut_62 rfl ?_
    refine r_callVV (b' := (1, 0, 0)) (c := 130) (S := []) [.int a2, .int ((r1 * (M1 107 0)) + r2), .int r3] dX13_isPut_64 mX11_put lMX13_364 clX11 rfl iM130 sC130 rfl (by decide) (Nat.le_of_ble_eq_true rfl) h (fun M5 h => ?_) rfl
    refine r_iconst (v := 1) dX13_isPut_67 rfl ?_
    refine r_iretZ1 dX13_isPut_68 rfl (by decide) (by decide) h
  · replace h := h.2 q
    refine r_iconst (v := 0) dX13_isPut_56 rfl ?_
    refine r_iretZ0 dX13_isPut_57 rfl (by decide) (by decide) h
set_option maxHeartbeats 4000000 in
set_option maxRecDepth 100000 in
theorem C_X13_isPut_134 (G : eG) (M : eM) (F : Bool → eM → Prop) (a2 : Int32) (a3 : Int32) (a4 : Int32) (a5 : Int32)
    (h : Cal G 100 40 (1, 0, 0) kJ9_floorMod_7cf53 [.int a4, .int (M 107 1)] M (eFI (fun (r1 : Int32) (M1 : eM) => Cal G 100 40 (1, 0, 0) kJ9_floorMod_7cf53 [.int a3, .int (M1 107 0)] M1 (eFI (fun (r2 : Int32) (M2 : eM) => Cal G 100 40 (1, 0, 0) kJ9_floorMod_7cf53 [.int a5, .int 6] M2 (eFI (fun (r3 : Int32) (M3 : eM) => Cal G 100 40 (5, 0, 0) kX13_fits [.ref (G.1 100), .ref (G.1 134), .int a2, .int ((r1 * (M1 107 0)) + r2), .int r3] M3 (eFZ (fun (r4 : Bool) (M4 : eM) => ((r4 = true) → Cal G 100 40 (1, 0, 0) kX11_put [.ref (G.1 134), .int a2, .int ((r1 * (M1 107 0)) + r2), .int r3] M4 (eFV (fun (M5 : eM) => F true M5))) ∧ ((r4 = false) → F false M4)))))))))) :
    Cal G 100 40 (6, 0, 0) kX13_isPut [.ref (G.1 100), .ref (G.1 134), .int a2, .int a3, .int a4, .int a5] M (eFZ F) := by
  refine Cal.of (by decide +kernel) rfl (Nat.le_of_ble_eq_true rfl) ?_
  show Ev (eZ G 100 40 0 0 (eFZ F)) G 100 40 (6, 0, 0) kX13_isPut 0 [(0, .ref (G.1 100)), (1, .ref (G.1 134)), (2, .int a2), (3, .int a3), (4, .int a4), (5, .int a5)] [] M 0 0
  refine r_iload 4 dX13_isPut_0 rfl ?_
  refine r_aload_n 0 dX13_isPut_2 rfl rfl ?_
  refine r_getR (c := 100) (k := 14) 107 dX13_isPut_3 clX13 lFX13_35 (by decide) iM100 sC100 rfl ?_
  refine r_getNI (c := 107) (k := 1) dX13_isPut_6 clX12 lFX13_248 (by decide) iM107 sC107 rfl ?_
  refine r_callSI (b' := (1, 0, 0)) (S := []) [.int a4, .int (M 107 1)] dX13_isPut_9 mJ9_floorMod_7cf53 lMX13_361 rfl (by decide) (Nat.le_of_ble_eq_true rfl) h (fun r1 M1 h => ?_) rfl
  refine r_aload_n 0 dX13_isPut_12 rfl rfl ?_
  refine r_getR (c := 100) (k := 14) 107 dX13_isPut_13 clX13 lFX13_35 (by decide) iM100 sC100 rfl ?_
  refine r_getNI (c := 107) (k := 0) dX13_isPut_16 clX12 lFX13_245 (by decide) iM107 sC107 rfl ?_
  refine r_imul dX13_isPut_19 ?_
  refine r_iload_n 3 dX13_isPut_20 rfl rfl ?_
  refine r_aload_n 0 dX13_isPut_21 rfl rfl ?_
  refine r_getR (c := 100) (k := 14) 107 dX13_isPut_22 clX13 lFX13_35 (by decide) iM100 sC100 rfl ?_
  refine r_getNI (c := 107) (k := 0) dX13_isPut_25 clX12 lFX13_245 (by decide) iM107 sC107 rfl ?_
  refine r_callSI (b' := (1, 0, 0)) (S := [.int (r1 * (M1 107 0))]) [.int a3, .int (M1 107 0)] dX13_isPut_28 mJ9_floorMod_7cf53 lMX13_361 rfl (by decide) (Nat.le_of_ble_eq_true rfl) h (fun r2 M2 h => ?_) rfl
  refine r_iadd dX13_isPut_31 ?_
  refine r_istore (l' := [(6, .int ((r1 * (M1 107 0)) + r2)), (0, .ref (G.1 100)), (1, .ref (G.1 134)), (2, .int a2), (3, .int a3), (4, .int a4), (5, .int a5)]) dX13_isPut_32 (by decide) rfl ?_
  refine r_iload 6 dX13_isPut_34 rfl ?_
  refine r_bipush (v := 6) dX13_isPut_36 rfl ?_
  refine r_callSI (b' := (1, 0, 0)) (S := []) [.int a5, .int 6] dX13_isPut_38 mJ9_floorMod_7cf53 lMX13_361 rfl (by decide) (Nat.le_of_ble_eq_true rfl) h (fun r3 M3 h => ?_) rfl
  refine r_istore (l' := [(7, .int r3), (6, .int ((r1 * (M1 107 0)) + r2)), (0, .ref (G.1 100)), (1, .ref (G.1 134)), (2, .int a2), (3, .int a3), (4, .int a4), (5, .int a5)]) dX13_isPut_41 (by decide) rfl ?_
  refine r_aload_n 2 dX13_isPut_43 rfl rfl ?_
  refine r_aload_n 3 dX13_isPut_44 rfl rfl ?_
  refine r_iload_n 4 dX13_isPut_45 rfl rfl ?_
  refine r_iload 1 dX13_isPut_46 rfl ?_
  refine r_iload 0 dX13_isPut_48 rfl ?_
  refine r_callVZ (b' := (5, 0, 0)) (c := 100) (S := []) [.ref (G.1 134), .int a2, .int ((r1 * (M1 107 0)) + r2), .int r3] dX13_isPut_50 mX13_fits lMX13_310 clX13 rfl iM100 sC100 rfl (by decide) (Nat.le_of_ble_eq_true rfl) h (fun r4 M4 h => ?_) rfl
  refine r_zif_ne (t := 58) dX13_isPut_53 (by decide) (fun q => ?_) (fun q => ?_)
  · replace h := h.1 q
    refine r_aload_n 3 dX13_isPut_58 rfl rfl ?_
    refine r_iload_n 4 dX13_isPut_59 rfl rfl ?_
    refine r_iload 1 dX13_isPut_60 rfl ?_
    refine r_iload 0 dX13_isPut_62 rfl ?_
    refine r_callVV (b' := (1, 0, 0)) (c := 134) (S := []) [.int a2, .int ((r1 * (M1 107 0)) + r2), .int r3] dX13_isPut_64 mX11_put lMX13_364 clX11 rfl iM134 sC134 rfl (by decide) (Nat.le_of_ble_eq_true rfl) h (fun M5 h => ?_) rfl
    refine r_iconst (v := 1) dX13_isPut_67 rfl ?_
    refine r_iretZ1 dX13_isPut_68 rfl (by decide) (by decide) h
  · replace h := h.2 q
    refine r_iconst (v := 0) dX13_isPut_56 rfl ?_
    refine r_iretZ0 dX13_isPut_57 rfl (by decide) (by decide) h
set_option maxHeartbeats 4000000 in
set_option maxRecDepth 100000 in
theorem C_X13_isFitted_130 (G : eG) (M : eM) (F : Bool → eM → Prop) (a2 : Int32)
    (h : Cal G 100 40 (6, 0, 0) kX13_firstWay [.ref (G.1 100), .ref (G.1 130), .int a2] M (eFI (fun (r1 : Int32) (M1 : eM) => ((¬ r1 = (-1)) → Cal G 100 40 (1, 0, 0) kX11_put [.ref (G.1 130), .int a2, .int (r1 / 6), .int (r1 - r1 / 6 * 6)] M1 (eFV (fun (M2 : eM) => F true M2))) ∧ ((r1 = (-1)) → F false M1)))) :
    Cal G 100 40 (7, 0, 0) kX13_isFitted [.ref (G.1 100), .ref (G.1 130), .int a2] M (eFZ F) := by
  refine Cal.of (by decide +kernel) rfl (Nat.le_of_ble_eq_true rfl) ?_
  show Ev (eZ G 100 40 0 0 (eFZ F)) G 100 40 (7, 0, 0) kX13_isFitted 0 [(0, .ref (G.1 100)), (1, .ref (G.1 130)), (2, .int a2)] [] M 0 0
  refine r_aload_n 0 dX13_isFitted_0 rfl rfl ?_
  refine r_aload_n 1 dX13_isFitted_1 rfl rfl ?_
  refine r_iload_n 2 dX13_isFitted_2 rfl rfl ?_
  refine r_callVI (b' := (6, 0, 0)) (c := 100) (S := []) [.ref (G.1 130), .int a2] dX13_isFitted_3 mX13_firstWay lMX13_355 clX13 rfl iM100 sC100 rfl (by decide) (Nat.le_of_ble_eq_true rfl) h (fun r1 M1 h => ?_) rfl
  refine r_istore_n (l' := [(3, .int r1), (0, .ref (G.1 100)), (1, .ref (G.1 130)), (2, .int a2)]) dX13_isFitted_6 rfl (by decide) rfl ?_
  refine r_iload_n 0 dX13_isFitted_7 rfl rfl ?_
  refine r_iconst (v := (-1)) dX13_isFitted_8 rfl ?_
  refine r_icmp_ne (t := 14) dX13_isFitted_9 (by decide) (fun q => ?_) (fun q => ?_)
  · replace h := h.1 q
    refine r_aload_n 2 dX13_isFitted_14 rfl rfl ?_
    refine r_iload_n 3 dX13_isFitted_15 rfl rfl ?_
    refine r_iload_n 0 dX13_isFitted_16 rfl rfl ?_
    refine r_bipush (v := 6) dX13_isFitted_17 rfl ?_
    refine r_idiv dX13_isFitted_19 (by decide) ?_
    refine r_iload_n 0 dX13_isFitted_20 rfl rfl ?_
    refine r_bipush (v := 6) dX13_isFitted_21 rfl ?_
    refine r_irem dX13_isFitted_23 (by decide) ?_
    refine r_callVV (b' := (1, 0, 0)) (c := 130) (S := []) [.int a2, .int (r1 / 6), .int (r1 - r1 / 6 * 6)] dX13_isFitted_24 mX11_put lMX13_364 clX11 rfl iM130 sC130 rfl (by decide) (Nat.le_of_ble_eq_true rfl) h (fun M2 h => ?_) rfl
    refine r_iconst (v := 1) dX13_isFitted_27 rfl ?_
    refine r_iretZ1 dX13_isFitted_28 rfl (by decide) (by decide) h
  · replace h := h.2 q
    refine r_iconst (v := 0) dX13_isFitted_12 rfl ?_
    refine r_iretZ0 dX13_isFitted_13 rfl (by decide) (by decide) h
set_option maxHeartbeats 4000000 in
set_option maxRecDepth 100000 in
theorem C_X13_isFitted_134 (G : eG) (M : eM) (F : Bool → eM → Prop) (a2 : Int32)
    (h : Cal G 100 40 (6, 0, 0) kX13_firstWay [.ref (G.1 100), .ref (G.1 134), .int a2] M (eFI (fun (r1 : Int32) (M1 : eM) => ((¬ r1 = (-1)) → Cal G 100 40 (1, 0, 0) kX11_put [.ref (G.1 134), .int a2, .int (r1 / 6), .int (r1 - r1 / 6 * 6)] M1 (eFV (fun (M2 : eM) => F true M2))) ∧ ((r1 = (-1)) → F false M1)))) :
    Cal G 100 40 (7, 0, 0) kX13_isFitted [.ref (G.1 100), .ref (G.1 134), .int a2] M (eFZ F) := by
  refine Cal.of (by decide +kernel) rfl (Nat.le_of_ble_eq_true rfl) ?_
  show Ev (eZ G 100 40 0 0 (eFZ F)) G 100 40 (7, 0, 0) kX13_isFitted 0 [(0, .ref (G.1 100)), (1, .ref (G.1 134)), (2, .int a2)] [] M 0 0
  refine r_aload_n 0 dX13_isFitted_0 rfl rfl ?_
  refine r_aload_n 1 dX13_isFitted_1 rfl rfl ?_
  refine r_iload_n 2 dX13_isFitted_2 rfl rfl ?_
  refine r_callVI (b' := (6, 0, 0)) (c := 100) (S := []) [.ref (G.1 134), .int a2] dX13_isFitted_3 mX13_firstWay lMX13_355 clX13 rfl iM100 sC100 rfl (by decide) (Nat.le_of_ble_eq_true rfl) h (fun r1 M1 h => ?_) rfl
  refine r_istore_n (l' := [(3, .int r1), (0, .ref (G.1 100)), (1, .ref (G.1 134)), (2, .int a2)]) dX13_isFitted_6 rfl (by decide) rfl ?_
  refine r_iload_n 0 dX13_isFitted_7 rfl rfl ?_
  refine r_iconst (v := (-1)) dX13_isFitted_8 rfl ?_
  refine r_icmp_ne (t := 14) dX13_isFitted_9 (by decide) (fun q => ?_) (fun q => ?_)
  · replace h := h.1 q
    refine r_aload_n 2 dX13_isFitted_14 rfl rfl ?_
    refine r_iload_n 3 dX13_isFitted_15 rfl rfl ?_
    refine r_iload_n 0 dX13_isFitted_16 rfl rfl ?_
    refine r_bipush (v := 6) dX13_isFitted_17 rfl ?_
    refine r_idiv dX13_isFitted_19 (by decide) ?_
    refine r_iload_n 0 dX13_isFitted_20 rfl rfl ?_
    refine r_bipush (v := 6) dX13_isFitted_21 rfl ?_
    refine r_irem dX13_isFitted_23 (by decide) ?_
    refine r_callVV (b' := (1, 0, 0)) (c := 134) (S := []) [.int a2, .int (r1 / 6), .int (r1 - r1 / 6 * 6)] dX13_isFitted_24 mX11_put lMX13_364 clX11 rfl iM134 sC134 rfl (by decide) (Nat.le_of_ble_eq_true rfl) h (fun M2 h => ?_) rfl
    refine r_iconst (v := 1) dX13_isFitted_27 rfl ?_
    refine r_iretZ1 dX13_isFitted_28 rfl (by decide) (by decide) h
  · replace h := h.2 q
    refine r_iconst (v := 0) dX13_isFitted_12 rfl ?_
    refine r_iretZ0 dX13_isFitted_13 rfl (by decide) (by decide) h
set_option maxHeartbeats 4000000 in
set_option maxRecDepth 100000 in
theorem B_X13_carryOut_130_99 (G : eG) (M : eM) (F : Bool → eM → Prop) (x2 : Int32)
    (h : vp_in x2 17 ∧ (vp_in x2 17 ∧ (((¬ (M 109 x2.toNatClampNeg) = 2) → vp_in x2 17 ∧ (((¬ (M 109 x2.toNatClampNeg) = 0) → vp_in (M 110 x2.toNatClampNeg) 16 ∧ (((¬ (M 132 (M 110 x2.toNatClampNeg).toNatClampNeg) = (-1)) → Cal G 100 40 (1, 0, 0) kX11_take [.ref (G.1 130), .int (M 110 x2.toNatClampNeg)] M (eFV (fun (M1 : eM) => F true M1))) ∧ (((M 132 (M 110 x2.toNatClampNeg).toNatClampNeg) = (-1)) → F false M))) ∧ (((M 109 x2.toNatClampNeg) = 0) → vp_in (3 * x2) 51 ∧ (vp_in (M 113 (3 * x2).toNatClampNeg) 800 ∧ (vp_in ((3 * x2) + 1) 51 ∧ (vp_in (M 113 ((3 * x2) + 1).toNatClampNeg) 800 ∧ (vp_in ((3 * x2) + 2) 51 ∧ (vp_in (M 113 ((3 * x2) + 2).toNatClampNeg) 800 ∧ (Cal G 100 40 (6, 0, 0) kX13_isPut [.ref (G.1 100), .ref (G.1 130), .int (M 110 x2.toNatClampNeg), .int (M 129 (M 113 (3 * x2).toNatClampNeg).toNatClampNeg), .int (M 129 (M 113 ((3 * x2) + 1).toNatClampNeg).toNatClampNeg), .int (M 129 (M 113 ((3 * x2) + 2).toNatClampNeg).toNatClampNeg)] M (eFZ (fun (r2 : Bool) (M2 : eM) => F r2 M2))))))))))) ∧ (((M 109 x2.toNatClampNeg) = 2) → Cal G 100 40 (7, 0, 0) kX13_isFitted [.ref (G.1 100), .ref (G.1 130), .int (M 110 x2.toNatClampNeg)] M (eFZ (fun (r3 : Bool) (M3 : eM) => F r3 M3)))))) :
    Ev (eZ G 100 40 0 0 (eFZ F)) G 100 40 (9, 0, 0) kX13_carryOut 99 [(0, .ref (G.1 100)), (1, .ref (G.1 130)), (2, .int x2)] [] M 0 0 := by
  refine r_aload_n 0 dX13_carryOut_99 rfl rfl ?_
  refine r_getR (c := 100) (k := 14) 107 dX13_carryOut_100 clX13 lFX13_35 (by decide) iM100 sC100 rfl ?_
  refine r_getNR (c := 107) (k := 6) 110 dX13_carryOut_103 clX12 lFX13_229 (by decide) iM107 sC107 rfl ?_
  refine r_iload_n 2 dX13_carryOut_106 rfl rfl ?_
  have h1 := h.1
  replace h := h.2
  refine r_iald (c := 110) (N := 17) dX13_carryOut_107 iM110 sC110 h1 ?_
  refine r_istore_n (l' := [(3, .int (M 110 x2.toNatClampNeg)), (0, .ref (G.1 100)), (1, .ref (G.1 130)), (2, .int x2)]) dX13_carryOut_108 rfl (by decide) rfl ?_
  refine r_aload_n 1 dX13_carryOut_109 rfl rfl ?_
  refine r_getR (c := 100) (k := 14) 107 dX13_carryOut_110 clX13 lFX13_35 (by decide) iM100 sC100 rfl ?_
  refine r_getNR (c := 107) (k := 5) 109 dX13_carryOut_113 clX12 lFX13_226 (by decide) iM107 sC107 rfl ?_
  refine r_iload_n 3 dX13_carryOut_116 rfl rfl ?_
  have h1 := h.1
  replace h := h.2
  refine r_iald (c := 109) (N := 17) dX13_carryOut_117 iM109 sC109 h1 ?_
  refine r_iconst (v := 2) dX13_carryOut_118 rfl ?_
  refine r_icmp_ne (t := 129) dX13_carryOut_119 (by decide) (fun q => ?_) (fun q => ?_)
  · replace h := h.1 q
    refine r_aload_n 1 dX13_carryOut_129 rfl rfl ?_
    refine r_getR (c := 100) (k := 14) 107 dX13_carryOut_130 clX13 lFX13_35 (by decide) iM100 sC100 rfl ?_
    refine r_getNR (c := 107) (k := 5) 109 dX13_carryOut_133 clX12 lFX13_226 (by decide) iM107 sC107 rfl ?_
    refine r_iload_n 3 dX13_carryOut_136 rfl rfl ?_
    have h1 := h.1
    replace h := h.2
    refine r_iald (c := 109) (N := 17) dX13_carryOut_137 iM109 sC109 h1 ?_
    refine r_if_ne (t := 200) dX13_carryOut_138 (by decide) (fun q => ?_) (fun q => ?_)
    · replace h := h.1 q
      refine r_aload_n 2 dX13_carryOut_200 rfl rfl ?_
      refine r_getNR (c := 130) (k := 1) 132 dX13_carryOut_201 clX11 lFX13_293 (by decide) iM130 sC130 rfl ?_
      refine r_iload_n 0 dX13_carryOut_204 rfl rfl ?_
      have h1 := h.1
      replace h := h.2
      refine r_iald (c := 132) (N := 16) dX13_carryOut_205 iM132 sC132 h1 ?_
      refine r_iconst (v := (-1)) dX13_carryOut_206 rfl ?_
      refine r_icmp_ne (t := 212) dX13_carryOut_207 (by decide) (fun q => ?_) (fun q => ?_)
      · replace h := h.1 q
        refine r_aload_n 2 dX13_carryOut_212 rfl rfl ?_
        refine r_iload_n 0 dX13_carryOut_213 rfl rfl ?_
        refine r_callVV (b' := (1, 0, 0)) (c := 130) (S := []) [.int (M 110 x2.toNatClampNeg)] dX13_carryOut_214 mX11_take lMX13_378 clX11 rfl iM130 sC130 rfl (by decide) (Nat.le_of_ble_eq_true rfl) h (fun M1 h => ?_) rfl
        refine r_iconst (v := 1) dX13_carryOut_217 rfl ?_
        refine r_iretZ1 dX13_carryOut_218 rfl (by decide) (by decide) h
      · replace h := h.2 q
        refine r_iconst (v := 0) dX13_carryOut_210 rfl ?_
        refine r_iretZ0 dX13_carryOut_211 rfl (by decide) (by decide) h
    · replace h := h.2 q
      refine r_aload_n 1 dX13_carryOut_141 rfl rfl ?_
      refine r_aload_n 2 dX13_carryOut_142 rfl rfl ?_
      refine r_iload_n 0 dX13_carryOut_143 rfl rfl ?_
      refine r_aload_n 1 dX13_carryOut_144 rfl rfl ?_
      refine r_getR (c := 100) (k := 16) 129 dX13_carryOut_145 clX13 lFX13_42 (by decide) iM100 sC100 rfl ?_
      refine r_aload_n 1 dX13_carryOut_148 rfl rfl ?_
      refine r_getR (c := 100) (k := 14) 107 dX13_carryOut_149 clX13 lFX13_35 (by decide) iM100 sC100 rfl ?_
      refine r_getNR (c := 107) (k := 9) 113 dX13_carryOut_152 clX12 lFX13_232 (by decide) iM107 sC107 rfl ?_
      refine r_iconst (v := 3) dX13_carryOut_155 rfl ?_
      refine r_iload_n 3 dX13_carryOut_156 rfl rfl ?_
      refine r_imul dX13_carryOut_157 ?_
      have h1 := h.1
      replace h := h.2
      refine r_iald (c := 113) (N := 51) dX13_carryOut_158 iM113 sC113 h1 ?_
      have h1 := h.1
      replace h := h.2
      refine r_iald (c := 129) (N := 800) dX13_carryOut_159 iM129 sC129 h1 ?_
      refine r_aload_n 1 dX13_carryOut_160 rfl rfl ?_
      refine r_getR (c := 100) (k := 16) 129 dX13_carryOut_161 clX13 lFX13_42 (by decide) iM100 sC100 rfl ?_
      refine r_aload_n 1 dX13_carryOut_164 rfl rfl ?_
      refine r_getR (c := 100) (k := 14) 107 dX13_carryOut_165 clX13 lFX13_35 (by decide) iM100 sC100 rfl ?_
      refine r_getNR (c := 107) (k := 9) 113 dX13_carryOut_168 clX12 lFX13_232 (by decide) iM107 sC107 rfl ?_
      refine r_iconst (v := 3) dX13_carryOut_171 rfl ?_
      refine r_iload_n 3 dX13_carryOut_172 rfl rfl ?_
      refine r_imul dX13_carryOut_173 ?_
      refine r_iconst (v := 1) dX13_carryOut_174 rfl ?_
      refine r_iadd dX13_carryOut_175 ?_
      have h1 := h.1
      replace h := h.2
      refine r_iald (c := 113) (N := 51) dX13_carryOut_176 iM113 sC113 h1 ?_
      have h1 := h.1
      replace h := h.2
      refine r_iald (c := 129) (N := 800) dX13_carryOut_177 iM129 sC129 h1 ?_
      refine r_aload_n 1 dX13_carryOut_178 rfl rfl ?_
      refine r_getR (c := 100) (k := 16) 129 dX13_carryOut_179 clX13 lFX13_42 (by decide) iM100 sC100 rfl ?_
      refine r_aload_n 1 dX13_carryOut_182 rfl rfl ?_
      refine r_getR (c := 100) (k := 14) 107 dX13_carryOut_183 clX13 lFX13_35 (by decide) iM100 sC100 rfl ?_
      refine r_getNR (c := 107) (k := 9) 113 dX13_carryOut_186 clX12 lFX13_232 (by decide) iM107 sC107 rfl ?_
      refine r_iconst (v := 3) dX13_carryOut_189 rfl ?_
      refine r_iload_n 3 dX13_carryOut_190 rfl rfl ?_
      refine r_imul dX13_carryOut_191 ?_
      refine r_iconst (v := 2) dX13_carryOut_192 rfl ?_
      refine r_iadd dX13_carryOut_193 ?_
      have h1 := h.1
      replace h := h.2
      refine r_iald (c := 113) (N := 51) dX13_carryOut_194 iM113 sC113 h1 ?_
      have h1 := h.1
      replace h := h.2
      refine r_iald (c := 129) (N := 800) dX13_carryOut_195 iM129 sC129 h1 ?_
      refine r_callVZ (b' := (6, 0, 0)) (c := 100) (S := []) [.ref (G.1 130), .int (M 110 x2.toNatClampNeg), .int (M 129 (M 113 (3 * x2).toNatClampNeg).toNatClampNeg), .int (M 129 (M 113 ((3 * x2) + 1).toNatClampNeg).toNatClampNeg), .int (M 129 (M 113 ((3 * x2) + 2).toNatClampNeg).toNatClampNeg)] dX13_carryOut_196 mX13_isPut lMX13_374 clX13 rfl iM100 sC100 rfl (by decide) (Nat.le_of_ble_eq_true rfl) h (fun r2 M2 h => ?_) rfl
      refine r_iretZ dX13_carryOut_199 rfl (by decide) (by decide) h
  · replace h := h.2 q
    refine r_aload_n 1 dX13_carryOut_122 rfl rfl ?_
    refine r_aload_n 2 dX13_carryOut_123 rfl rfl ?_
    refine r_iload_n 0 dX13_carryOut_124 rfl rfl ?_
    refine r_callVZ (b' := (7, 0, 0)) (c := 100) (S := []) [.ref (G.1 130), .int (M 110 x2.toNatClampNeg)] dX13_carryOut_125 mX13_isFitted lMX13_371 clX13 rfl iM100 sC100 rfl (by decide) (Nat.le_of_ble_eq_true rfl) h (fun r3 M3 h => ?_) rfl
    refine r_iretZ dX13_carryOut_128 rfl (by decide) (by decide) h
set_option maxHeartbeats 4000000 in
set_option maxRecDepth 100000 in
theorem B_X13_carryOut_130_10 (G : eG) (M : eM) (F : Bool → eM → Prop) (x2 : Int32) (x3 : Int32)
    (h : vp_in x2 17 ∧ ((((M 112 x2.toNatClampNeg) ≤ x3) → vp_in x2 17 ∧ ((((M 114 x2.toNatClampNeg) = (-1)) → Ev (eZ G 100 40 0 0 (eFZ F)) G 100 40 (9, 0, 0) kX13_carryOut 99 [(0, .ref (G.1 100)), (1, .ref (G.1 130)), (2, .int x2)] [] M 0 0) ∧ ((¬ (M 114 x2.toNatClampNeg) = (-1)) → vp_in x2 17 ∧ (vp_in (M 114 x2.toNatClampNeg) 800 ∧ (((¬ (M 129 (M 114 x2.toNatClampNeg).toNatClampNeg) = 0) → Ev (eZ G 100 40 0 0 (eFZ F)) G 100 40 (9, 0, 0) kX13_carryOut 99 [(0, .ref (G.1 100)), (1, .ref (G.1 130)), (2, .int x2)] [] M 0 0) ∧ (((M 129 (M 114 x2.toNatClampNeg).toNatClampNeg) = 0) → F false M)))))) ∧ ((¬ (M 112 x2.toNatClampNeg) ≤ x3) → vp_in x3 800 ∧ (vp_in x3 800 ∧ (vp_in x3 800 ∧ (Cal G 100 40 (8, 0, 0) kX13_reckon [.ref (G.1 100), .ref (G.1 130), .int (M 115 x3.toNatClampNeg), .int (M 116 x3.toNatClampNeg), .int (M 117 x3.toNatClampNeg)] M (eFI (fun (r1 : Int32) (M1 : eM) => vp_in x3 800 ∧ (Ev (eZ G 100 40 0 0 (eFZ F)) G 100 40 (9, 0, 0) kX13_carryOut 10 [(0, .ref (G.1 100)), (1, .ref (G.1 130)), (2, .int x2), (3, .int (x3 + 1))] [] (eU M1 129 x3.toNatClampNeg r1) 0 0))))))))) :
    Ev (eZ G 100 40 0 0 (eFZ F)) G 100 40 (9, 0, 0) kX13_carryOut 10 [(0, .ref (G.1 100)), (1, .ref (G.1 130)), (2, .int x2), (3, .int x3)] [] M 0 0 := by
  refine r_iload_n 3 dX13_carryOut_10 rfl rfl ?_
  refine r_aload_n 0 dX13_carryOut_11 rfl rfl ?_
  refine r_getR (c := 100) (k := 14) 107 dX13_carryOut_12 clX13 lFX13_35 (by decide) iM100 sC100 rfl ?_
  refine r_getNR (c := 107) (k := 8) 112 dX13_carryOut_15 clX12 lFX13_237 (by decide) iM107 sC107 rfl ?_
  refine r_iload_n 2 dX13_carryOut_18 rfl rfl ?_
  have h1 := h.1
  replace h := h.2
  refine r_iald (c := 112) (N := 17) dX13_carryOut_19 iM112 sC112 h1 ?_
  refine r_icmp_ge (t := 67) dX13_carryOut_20 (by decide) (fun q => ?_) (fun q => ?_)
  · replace h := h.1 q
    refine r_aload_n 0 dX13_carryOut_67 rfl rfl ?_
    refine r_getR (c := 100) (k := 14) 107 dX13_carryOut_68 clX13 lFX13_35 (by decide) iM100 sC100 rfl ?_
    refine r_getNR (c := 107) (k := 10) 114 dX13_carryOut_71 clX12 lFX13_235 (by decide) iM107 sC107 rfl ?_
    refine r_iload_n 2 dX13_carryOut_74 rfl rfl ?_
    have h1 := h.1
    replace h := h.2
    refine r_iald (c := 114) (N := 17) dX13_carryOut_75 iM114 sC114 h1 ?_
    refine r_iconst (v := (-1)) dX13_carryOut_76 rfl ?_
    refine r_icmp_eq (t := 99) dX13_carryOut_77 (by decide) (fun q => ?_) (fun q => ?_)
    · replace h := h.1 q
      exact Ev.sub (ks := [0, 1, 2]) rfl h
    · replace h := h.2 q
      refine r_aload_n 0 dX13_carryOut_80 rfl rfl ?_
      refine r_getR (c := 100) (k := 16) 129 dX13_carryOut_81 clX13 lFX13_42 (by decide) iM100 sC100 rfl ?_
      refine r_aload_n 0 dX13_carryOut_84 rfl rfl ?_
      refine r_getR (c := 100) (k := 14) 107 dX13_carryOut_85 clX13 lFX13_35 (by decide) iM100 sC100 rfl ?_
      refine r_getNR (c := 107) (k := 10) 114 dX13_carryOut_88 clX12 lFX13_235 (by decide) iM107 sC107 rfl ?_
      refine r_iload_n 2 dX13_carryOut_91 rfl rfl ?_
      have h1 := h.1
      replace h := h.2
      refine r_iald (c := 114) (N := 17) dX13_carryOut_92 iM114 sC114 h1 ?_
      have h1 := h.1
      replace h := h.2
      refine r_iald (c := 129) (N := 800) dX13_carryOut_93 iM129 sC129 h1 ?_
      refine r_if_ne (t := 99) dX13_carryOut_94 (by decide) (fun q => ?_) (fun q => ?_)
      · replace h := h.1 q
        exact Ev.sub (ks := [0, 1, 2]) rfl h
      · replace h := h.2 q
        refine r_iconst (v := 0) dX13_carryOut_97 rfl ?_
        refine r_iretZ0 dX13_carryOut_98 rfl (by decide) (by decide) h
  · replace h := h.2 q
    refine r_aload_n 0 dX13_carryOut_23 rfl rfl ?_
    refine r_getR (c := 100) (k := 16) 129 dX13_carryOut_24 clX13 lFX13_42 (by decide) iM100 sC100 rfl ?_
    refine r_iload_n 3 dX13_carryOut_27 rfl rfl ?_
    refine r_aload_n 0 dX13_carryOut_28 rfl rfl ?_
    refine r_aload_n 1 dX13_carryOut_29 rfl rfl ?_
    refine r_aload_n 0 dX13_carryOut_30 rfl rfl ?_
    refine r_getR (c := 100) (k := 14) 107 dX13_carryOut_31 clX13 lFX13_35 (by decide) iM100 sC100 rfl ?_
    refine r_getNR (c := 107) (k := 12) 115 dX13_carryOut_34 clX12 lFX13_141 (by decide) iM107 sC107 rfl ?_
    refine r_iload_n 3 dX13_carryOut_37 rfl rfl ?_
    have h1 := h.1
    replace h := h.2
    refine r_iald (c := 115) (N := 800) dX13_carryOut_38 iM115 sC115 h1 ?_
    refine r_aload_n 0 dX13_carryOut_39 rfl rfl ?_
    refine r_getR (c := 100) (k := 14) 107 dX13_carryOut_40 clX13 lFX13_35 (by decide) iM100 sC100 rfl ?_
    refine r_getNR (c := 107) (k := 13) 116 dX13_carryOut_43 clX12 lFX13_144 (by decide) iM107 sC107 rfl ?_
    refine r_iload_n 3 dX13_carryOut_46 rfl rfl ?_
    have h1 := h.1
    replace h := h.2
    refine r_iald (c := 116) (N := 800) dX13_carryOut_47 iM116 sC116 h1 ?_
    refine r_aload_n 0 dX13_carryOut_48 rfl rfl ?_
    refine r_getR (c := 100) (k := 14) 107 dX13_carryOut_49 clX13 lFX13_35 (by decide) iM100 sC100 rfl ?_
    refine r_getNR (c := 107) (k := 14) 117 dX13_carryOut_52 clX12 lFX13_147 (by decide) iM107 sC107 rfl ?_
    refine r_iload_n 3 dX13_carryOut_55 rfl rfl ?_
    have h1 := h.1
    replace h := h.2
    refine r_iald (c := 117) (N := 800) dX13_carryOut_56 iM117 sC117 h1 ?_
    refine r_callVI (b' := (8, 0, 0)) (c := 100) (S := [.int x3, .ref (G.1 129)]) [.ref (G.1 130), .int (M 115 x3.toNatClampNeg), .int (M 116 x3.toNatClampNeg), .int (M 117 x3.toNatClampNeg)] dX13_carryOut_57 mX13_reckon lMX13_368 clX13 rfl iM100 sC100 rfl (by decide) (Nat.le_of_ble_eq_true rfl) h (fun r1 M1 h => ?_) rfl
    have h1 := h.1
    replace h := h.2
    refine r_iast (c := 129) (N := 800) dX13_carryOut_60 iM129 sC129 h1 ?_
    refine r_iinc (v := x3 + 1) (l' := [(3, .int (x3 + 1)), (0, .ref (G.1 100)), (1, .ref (G.1 130)), (2, .int x2)]) 3 dX13_carryOut_61 rfl rfl (by decide) rfl ?_
    refine r_goto (t := 10) dX13_carryOut_64 (by decide) ?_
    exact Ev.sub (ks := [1, 2, 3, 0]) rfl h
set_option maxHeartbeats 4000000 in
set_option maxRecDepth 100000 in
theorem C_X13_carryOut_130 (G : eG) (M : eM) (F : Bool → eM → Prop) (a2 : Int32)
    (h : vp_in a2 17 ∧ (Ev (eZ G 100 40 0 0 (eFZ F)) G 100 40 (9, 0, 0) kX13_carryOut 10 [(0, .ref (G.1 100)), (1, .ref (G.1 130)), (2, .int a2), (3, .int (M 111 a2.toNatClampNeg))] [] M 0 0)) :
    Cal G 100 40 (9, 0, 0) kX13_carryOut [.ref (G.1 100), .ref (G.1 130), .int a2] M (eFZ F) := by
  refine Cal.of (by decide +kernel) rfl (Nat.le_of_ble_eq_true rfl) ?_
  show Ev (eZ G 100 40 0 0 (eFZ F)) G 100 40 (9, 0, 0) kX13_carryOut 0 [(0, .ref (G.1 100)), (1, .ref (G.1 130)), (2, .int a2)] [] M 0 0
  refine r_aload_n 0 dX13_carryOut_0 rfl rfl ?_
  refine r_getR (c := 100) (k := 14) 107 dX13_carryOut_1 clX13 lFX13_35 (by decide) iM100 sC100 rfl ?_
  refine r_getNR (c := 107) (k := 7) 111 dX13_carryOut_4 clX12 lFX13_223 (by decide) iM107 sC107 rfl ?_
  refine r_iload_n 2 dX13_carryOut_7 rfl rfl ?_
  have h1 := h.1
  replace h := h.2
  refine r_iald (c := 111) (N := 17) dX13_carryOut_8 iM111 sC111 h1 ?_
  refine r_istore_n (l' := [(3, .int (M 111 a2.toNatClampNeg)), (0, .ref (G.1 100)), (1, .ref (G.1 130)), (2, .int a2)]) dX13_carryOut_9 rfl (by decide) rfl ?_
  exact Ev.sub (ks := [1, 2, 3, 0]) rfl h
set_option maxHeartbeats 4000000 in
set_option maxRecDepth 100000 in
theorem B_X13_carryOut_134_99 (G : eG) (M : eM) (F : Bool → eM → Prop) (x2 : Int32)
    (h : vp_in x2 17 ∧ (vp_in x2 17 ∧ (((¬ (M 109 x2.toNatClampNeg) = 2) → vp_in x2 17 ∧ (((¬ (M 109 x2.toNatClampNeg) = 0) → vp_in (M 110 x2.toNatClampNeg) 16 ∧ (((¬ (M 136 (M 110 x2.toNatClampNeg).toNatClampNeg) = (-1)) → Cal G 100 40 (1, 0, 0) kX11_take [.ref (G.1 134), .int (M 110 x2.toNatClampNeg)] M (eFV (fun (M1 : eM) => F true M1))) ∧ (((M 136 (M 110 x2.toNatClampNeg).toNatClampNeg) = (-1)) → F false M))) ∧ (((M 109 x2.toNatClampNeg) = 0) → vp_in (3 * x2) 51 ∧ (vp_in (M 113 (3 * x2).toNatClampNeg) 800 ∧ (vp_in ((3 * x2) + 1) 51 ∧ (vp_in (M 113 ((3 * x2) + 1).toNatClampNeg) 800 ∧ (vp_in ((3 * x2) + 2) 51 ∧ (vp_in (M 113 ((3 * x2) + 2).toNatClampNeg) 800 ∧ (Cal G 100 40 (6, 0, 0) kX13_isPut [.ref (G.1 100), .ref (G.1 134), .int (M 110 x2.toNatClampNeg), .int (M 129 (M 113 (3 * x2).toNatClampNeg).toNatClampNeg), .int (M 129 (M 113 ((3 * x2) + 1).toNatClampNeg).toNatClampNeg), .int (M 129 (M 113 ((3 * x2) + 2).toNatClampNeg).toNatClampNeg)] M (eFZ (fun (r2 : Bool) (M2 : eM) => F r2 M2))))))))))) ∧ (((M 109 x2.toNatClampNeg) = 2) → Cal G 100 40 (7, 0, 0) kX13_isFitted [.ref (G.1 100), .ref (G.1 134), .int (M 110 x2.toNatClampNeg)] M (eFZ (fun (r3 : Bool) (M3 : eM) => F r3 M3)))))) :
    Ev (eZ G 100 40 0 0 (eFZ F)) G 100 40 (9, 0, 0) kX13_carryOut 99 [(0, .ref (G.1 100)), (1, .ref (G.1 134)), (2, .int x2)] [] M 0 0 := by
  refine r_aload_n 0 dX13_carryOut_99 rfl rfl ?_
  refine r_getR (c := 100) (k := 14) 107 dX13_carryOut_100 clX13 lFX13_35 (by decide) iM100 sC100 rfl ?_
  refine r_getNR (c := 107) (k := 6) 110 dX13_carryOut_103 clX12 lFX13_229 (by decide) iM107 sC107 rfl ?_
  refine r_iload_n 2 dX13_carryOut_106 rfl rfl ?_
  have h1 := h.1
  replace h := h.2
  refine r_iald (c := 110) (N := 17) dX13_carryOut_107 iM110 sC110 h1 ?_
  refine r_istore_n (l' := [(3, .int (M 110 x2.toNatClampNeg)), (0, .ref (G.1 100)), (1, .ref (G.1 134)), (2, .int x2)]) dX13_carryOut_108 rfl (by decide) rfl ?_
  refine r_aload_n 1 dX13_carryOut_109 rfl rfl ?_
  refine r_getR (c := 100) (k := 14) 107 dX13_carryOut_110 clX13 lFX13_35 (by decide) iM100 sC100 rfl ?_
  refine r_getNR (c := 107) (k := 5) 109 dX13_carryOut_113 clX12 lFX13_226 (by decide) iM107 sC107 rfl ?_
  refine r_iload_n 3 dX13_carryOut_116 rfl rfl ?_
  have h1 := h.1
  replace h := h.2
  refine r_iald (c := 109) (N := 17) dX13_carryOut_117 iM109 sC109 h1 ?_
  refine r_iconst (v := 2) dX13_carryOut_118 rfl ?_
  refine r_icmp_ne (t := 129) dX13_carryOut_119 (by decide) (fun q => ?_) (fun q => ?_)
  · replace h := h.1 q
    refine r_aload_n 1 dX13_carryOut_129 rfl rfl ?_
    refine r_getR (c := 100) (k := 14) 107 dX13_carryOut_130 clX13 lFX13_35 (by decide) iM100 sC100 rfl ?_
    refine r_getNR (c := 107) (k := 5) 109 dX13_carryOut_133 clX12 lFX13_226 (by decide) iM107 sC107 rfl ?_
    refine r_iload_n 3 dX13_carryOut_136 rfl rfl ?_
    have h1 := h.1
    replace h := h.2
    refine r_iald (c := 109) (N := 17) dX13_carryOut_137 iM109 sC109 h1 ?_
    refine r_if_ne (t := 200) dX13_carryOut_138 (by decide) (fun q => ?_) (fun q => ?_)
    · replace h := h.1 q
      refine r_aload_n 2 dX13_carryOut_200 rfl rfl ?_
      refine r_getNR (c := 134) (k := 1) 136 dX13_carryOut_201 clX11 lFX13_293 (by decide) iM134 sC134 rfl ?_
      refine r_iload_n 0 dX13_carryOut_204 rfl rfl ?_
      have h1 := h.1
      replace h := h.2
      refine r_iald (c := 136) (N := 16) dX13_carryOut_205 iM136 sC136 h1 ?_
      refine r_iconst (v := (-1)) dX13_carryOut_206 rfl ?_
      refine r_icmp_ne (t := 212) dX13_carryOut_207 (by decide) (fun q => ?_) (fun q => ?_)
      · replace h := h.1 q
        refine r_aload_n 2 dX13_carryOut_212 rfl rfl ?_
        refine r_iload_n 0 dX13_carryOut_213 rfl rfl ?_
        refine r_callVV (b' := (1, 0, 0)) (c := 134) (S := []) [.int (M 110 x2.toNatClampNeg)] dX13_carryOut_214 mX11_take lMX13_378 clX11 rfl iM134 sC134 rfl (by decide) (Nat.le_of_ble_eq_true rfl) h (fun M1 h => ?_) rfl
        refine r_iconst (v := 1) dX13_carryOut_217 rfl ?_
        refine r_iretZ1 dX13_carryOut_218 rfl (by decide) (by decide) h
      · replace h := h.2 q
        refine r_iconst (v := 0) dX13_carryOut_210 rfl ?_
        refine r_iretZ0 dX13_carryOut_211 rfl (by decide) (by decide) h
    · replace h := h.2 q
      refine r_aload_n 1 dX13_carryOut_141 rfl rfl ?_
      refine r_aload_n 2 dX13_carryOut_142 rfl rfl ?_
      refine r_iload_n 0 dX13_carryOut_143 rfl rfl ?_
      refine r_aload_n 1 dX13_carryOut_144 rfl rfl ?_
      refine r_getR (c := 100) (k := 16) 129 dX13_carryOut_145 clX13 lFX13_42 (by decide) iM100 sC100 rfl ?_
      refine r_aload_n 1 dX13_carryOut_148 rfl rfl ?_
      refine r_getR (c := 100) (k := 14) 107 dX13_carryOut_149 clX13 lFX13_35 (by decide) iM100 sC100 rfl ?_
      refine r_getNR (c := 107) (k := 9) 113 dX13_carryOut_152 clX12 lFX13_232 (by decide) iM107 sC107 rfl ?_
      refine r_iconst (v := 3) dX13_carryOut_155 rfl ?_
      refine r_iload_n 3 dX13_carryOut_156 rfl rfl ?_
      refine r_imul dX13_carryOut_157 ?_
      have h1 := h.1
      replace h := h.2
      refine r_iald (c := 113) (N := 51) dX13_carryOut_158 iM113 sC113 h1 ?_
      have h1 := h.1
      replace h := h.2
      refine r_iald (c := 129) (N := 800) dX13_carryOut_159 iM129 sC129 h1 ?_
      refine r_aload_n 1 dX13_carryOut_160 rfl rfl ?_
      refine r_getR (c := 100) (k := 16) 129 dX13_carryOut_161 clX13 lFX13_42 (by decide) iM100 sC100 rfl ?_
      refine r_aload_n 1 dX13_carryOut_164 rfl rfl ?_
      refine r_getR (c := 100) (k := 14) 107 dX13_carryOut_165 clX13 lFX13_35 (by decide) iM100 sC100 rfl ?_
      refine r_getNR (c := 107) (k := 9) 113 dX13_carryOut_168 clX12 lFX13_232 (by decide) iM107 sC107 rfl ?_
      refine r_iconst (v := 3) dX13_carryOut_171 rfl ?_
      refine r_iload_n 3 dX13_carryOut_172 rfl rfl ?_
      refine r_imul dX13_carryOut_173 ?_
      refine r_iconst (v := 1) dX13_carryOut_174 rfl ?_
      refine r_iadd dX13_carryOut_175 ?_
      have h1 := h.1
      replace h := h.2
      refine r_iald (c := 113) (N := 51) dX13_carryOut_176 iM113 sC113 h1 ?_
      have h1 := h.1
      replace h := h.2
      refine r_iald (c := 129) (N := 800) dX13_carryOut_177 iM129 sC129 h1 ?_
      refine r_aload_n 1 dX13_carryOut_178 rfl rfl ?_
      refine r_getR (c := 100) (k := 16) 129 dX13_carryOut_179 clX13 lFX13_42 (by decide) iM100 sC100 rfl ?_
      refine r_aload_n 1 dX13_carryOut_182 rfl rfl ?_
      refine r_getR (c := 100) (k := 14) 107 dX13_carryOut_183 clX13 lFX13_35 (by decide) iM100 sC100 rfl ?_
      refine r_getNR (c := 107) (k := 9) 113 dX13_carryOut_186 clX12 lFX13_232 (by decide) iM107 sC107 rfl ?_
      refine r_iconst (v := 3) dX13_carryOut_189 rfl ?_
      refine r_iload_n 3 dX13_carryOut_190 rfl rfl ?_
      refine r_imul dX13_carryOut_191 ?_
      refine r_iconst (v := 2) dX13_carryOut_192 rfl ?_
      refine r_iadd dX13_carryOut_193 ?_
      have h1 := h.1
      replace h := h.2
      refine r_iald (c := 113) (N := 51) dX13_carryOut_194 iM113 sC113 h1 ?_
      have h1 := h.1
      replace h := h.2
      refine r_iald (c := 129) (N := 800) dX13_carryOut_195 iM129 sC129 h1 ?_
      refine r_callVZ (b' := (6, 0, 0)) (c := 100) (S := []) [.ref (G.1 134), .int (M 110 x2.toNatClampNeg), .int (M 129 (M 113 (3 * x2).toNatClampNeg).toNatClampNeg), .int (M 129 (M 113 ((3 * x2) + 1).toNatClampNeg).toNatClampNeg), .int (M 129 (M 113 ((3 * x2) + 2).toNatClampNeg).toNatClampNeg)] dX13_carryOut_196 mX13_isPut lMX13_374 clX13 rfl iM100 sC100 rfl (by decide) (Nat.le_of_ble_eq_true rfl) h (fun r2 M2 h => ?_) rfl
      refine r_iretZ dX13_carryOut_199 rfl (by decide) (by decide) h
  · replace h := h.2 q
    refine r_aload_n 1 dX13_carryOut_122 rfl rfl ?_
    refine r_aload_n 2 dX13_carryOut_123 rfl rfl ?_
    refine r_iload_n 0 dX13_carryOut_124 rfl rfl ?_
    refine r_callVZ (b' := (7, 0, 0)) (c := 100) (S := []) [.ref (G.1 134), .int (M 110 x2.toNatClampNeg)] dX13_carryOut_125 mX13_isFitted lMX13_371 clX13 rfl iM100 sC100 rfl (by decide) (Nat.le_of_ble_eq_true rfl) h (fun r3 M3 h => ?_) rfl
    refine r_iretZ dX13_carryOut_128 rfl (by decide) (by decide) h
set_option maxHeartbeats 4000000 in
set_option maxRecDepth 100000 in
theorem B_X13_carryOut_134_10 (G : eG) (M : eM) (F : Bool → eM → Prop) (x2 : Int32) (x3 : Int32)
    (h : vp_in x2 17 ∧ ((((M 112 x2.toNatClampNeg) ≤ x3) → vp_in x2 17 ∧ ((((M 114 x2.toNatClampNeg) = (-1)) → Ev (eZ G 100 40 0 0 (eFZ F)) G 100 40 (9, 0, 0) kX13_carryOut 99 [(0, .ref (G.1 100)), (1, .ref (G.1 134)), (2, .int x2)] [] M 0 0) ∧ ((¬ (M 114 x2.toNatClampNeg) = (-1)) → vp_in x2 17 ∧ (vp_in (M 114 x2.toNatClampNeg) 800 ∧ (((¬ (M 129 (M 114 x2.toNatClampNeg).toNatClampNeg) = 0) → Ev (eZ G 100 40 0 0 (eFZ F)) G 100 40 (9, 0, 0) kX13_carryOut 99 [(0, .ref (G.1 100)), (1, .ref (G.1 134)), (2, .int x2)] [] M 0 0) ∧ (((M 129 (M 114 x2.toNatClampNeg).toNatClampNeg) = 0) → F false M)))))) ∧ ((¬ (M 112 x2.toNatClampNeg) ≤ x3) → vp_in x3 800 ∧ (vp_in x3 800 ∧ (vp_in x3 800 ∧ (Cal G 100 40 (8, 0, 0) kX13_reckon [.ref (G.1 100), .ref (G.1 134), .int (M 115 x3.toNatClampNeg), .int (M 116 x3.toNatClampNeg), .int (M 117 x3.toNatClampNeg)] M (eFI (fun (r1 : Int32) (M1 : eM) => vp_in x3 800 ∧ (Ev (eZ G 100 40 0 0 (eFZ F)) G 100 40 (9, 0, 0) kX13_carryOut 10 [(0, .ref (G.1 100)), (1, .ref (G.1 134)), (2, .int x2), (3, .int (x3 + 1))] [] (eU M1 129 x3.toNatClampNeg r1) 0 0))))))))) :
    Ev (eZ G 100 40 0 0 (eFZ F)) G 100 40 (9, 0, 0) kX13_carryOut 10 [(0, .ref (G.1 100)), (1, .ref (G.1 134)), (2, .int x2), (3, .int x3)] [] M 0 0 := by
  refine r_iload_n 3 dX13_carryOut_10 rfl rfl ?_
  refine r_aload_n 0 dX13_carryOut_11 rfl rfl ?_
  refine r_getR (c := 100) (k := 14) 107 dX13_carryOut_12 clX13 lFX13_35 (by decide) iM100 sC100 rfl ?_
  refine r_getNR (c := 107) (k := 8) 112 dX13_carryOut_15 clX12 lFX13_237 (by decide) iM107 sC107 rfl ?_
  refine r_iload_n 2 dX13_carryOut_18 rfl rfl ?_
  have h1 := h.1
  replace h := h.2
  refine r_iald (c := 112) (N := 17) dX13_carryOut_19 iM112 sC112 h1 ?_
  refine r_icmp_ge (t := 67) dX13_carryOut_20 (by decide) (fun q => ?_) (fun q => ?_)
  · replace h := h.1 q
    refine r_aload_n 0 dX13_carryOut_67 rfl rfl ?_
    refine r_getR (c := 100) (k := 14) 107 dX13_carryOut_68 clX13 lFX13_35 (by decide) iM100 sC100 rfl ?_
    refine r_getNR (c := 107) (k := 10) 114 dX13_carryOut_71 clX12 lFX13_235 (by decide) iM107 sC107 rfl ?_
    refine r_iload_n 2 dX13_carryOut_74 rfl rfl ?_
    have h1 := h.1
    replace h := h.2
    refine r_iald (c := 114) (N := 17) dX13_carryOut_75 iM114 sC114 h1 ?_
    refine r_iconst (v := (-1)) dX13_carryOut_76 rfl ?_
    refine r_icmp_eq (t := 99) dX13_carryOut_77 (by decide) (fun q => ?_) (fun q => ?_)
    · replace h := h.1 q
      exact Ev.sub (ks := [0, 1, 2]) rfl h
    · replace h := h.2 q
      refine r_aload_n 0 dX13_carryOut_80 rfl rfl ?_
      refine r_getR (c := 100) (k := 16) 129 dX13_carryOut_81 clX13 lFX13_42 (by decide) iM100 sC100 rfl ?_
      refine r_aload_n 0 dX13_carryOut_84 rfl rfl ?_
      refine r_getR (c := 100) (k := 14) 107 dX13_carryOut_85 clX13 lFX13_35 (by decide) iM100 sC100 rfl ?_
      refine r_getNR (c := 107) (k := 10) 114 dX13_carryOut_88 clX12 lFX13_235 (by decide) iM107 sC107 rfl ?_
      refine r_iload_n 2 dX13_carryOut_91 rfl rfl ?_
      have h1 := h.1
      replace h := h.2
      refine r_iald (c := 114) (N := 17) dX13_carryOut_92 iM114 sC114 h1 ?_
      have h1 := h.1
      replace h := h.2
      refine r_iald (c := 129) (N := 800) dX13_carryOut_93 iM129 sC129 h1 ?_
      refine r_if_ne (t := 99) dX13_carryOut_94 (by decide) (fun q => ?_) (fun q => ?_)
      · replace h := h.1 q
        exact Ev.sub (ks := [0, 1, 2]) rfl h
      · replace h := h.2 q
        refine r_iconst (v := 0) dX13_carryOut_97 rfl ?_
        refine r_iretZ0 dX13_carryOut_98 rfl (by decide) (by decide) h
  · replace h := h.2 q
    refine r_aload_n 0 dX13_carryOut_23 rfl rfl ?_
    refine r_getR (c := 100) (k := 16) 129 dX13_carryOut_24 clX13 lFX13_42 (by decide) iM100 sC100 rfl ?_
    refine r_iload_n 3 dX13_carryOut_27 rfl rfl ?_
    refine r_aload_n 0 dX13_carryOut_28 rfl rfl ?_
    refine r_aload_n 1 dX13_carryOut_29 rfl rfl ?_
    refine r_aload_n 0 dX13_carryOut_30 rfl rfl ?_
    refine r_getR (c := 100) (k := 14) 107 dX13_carryOut_31 clX13 lFX13_35 (by decide) iM100 sC100 rfl ?_
    refine r_getNR (c := 107) (k := 12) 115 dX13_carryOut_34 clX12 lFX13_141 (by decide) iM107 sC107 rfl ?_
    refine r_iload_n 3 dX13_carryOut_37 rfl rfl ?_
    have h1 := h.1
    replace h := h.2
    refine r_iald (c := 115) (N := 800) dX13_carryOut_38 iM115 sC115 h1 ?_
    refine r_aload_n 0 dX13_carryOut_39 rfl rfl ?_
    refine r_getR (c := 100) (k := 14) 107 dX13_carryOut_40 clX13 lFX13_35 (by decide) iM100 sC100 rfl ?_
    refine r_getNR (c := 107) (k := 13) 116 dX13_carryOut_43 clX12 lFX13_144 (by decide) iM107 sC107 rfl ?_
    refine r_iload_n 3 dX13_carryOut_46 rfl rfl ?_
    have h1 := h.1
    replace h := h.2
    refine r_iald (c := 116) (N := 800) dX13_carryOut_47 iM116 sC116 h1 ?_
    refine r_aload_n 0 dX13_carryOut_48 rfl rfl ?_
    refine r_getR (c := 100) (k := 14) 107 dX13_carryOut_49 clX13 lFX13_35 (by decide) iM100 sC100 rfl ?_
    refine r_getNR (c := 107) (k := 14) 117 dX13_carryOut_52 clX12 lFX13_147 (by decide) iM107 sC107 rfl ?_
    refine r_iload_n 3 dX13_carryOut_55 rfl rfl ?_
    have h1 := h.1
    replace h := h.2
    refine r_iald (c := 117) (N := 800) dX13_carryOut_56 iM117 sC117 h1 ?_
    refine r_callVI (b' := (8, 0, 0)) (c := 100) (S := [.int x3, .ref (G.1 129)]) [.ref (G.1 134), .int (M 115 x3.toNatClampNeg), .int (M 116 x3.toNatClampNeg), .int (M 117 x3.toNatClampNeg)] dX13_carryOut_57 mX13_reckon lMX13_368 clX13 rfl iM100 sC100 rfl (by decide) (Nat.le_of_ble_eq_true rfl) h (fun r1 M1 h => ?_) rfl
    have h1 := h.1
    replace h := h.2
    refine r_iast (c := 129) (N := 800) dX13_carryOut_60 iM129 sC129 h1 ?_
    refine r_iinc (v := x3 + 1) (l' := [(3, .int (x3 + 1)), (0, .ref (G.1 100)), (1, .ref (G.1 134)), (2, .int x2)]) 3 dX13_carryOut_61 rfl rfl (by decide) rfl ?_
    refine r_goto (t := 10) dX13_carryOut_64 (by decide) ?_
    exact Ev.sub (ks := [1, 2, 3, 0]) rfl h
set_option maxHeartbeats 4000000 in
set_option maxRecDepth 100000 in
theorem C_X13_carryOut_134 (G : eG) (M : eM) (F : Bool → eM → Prop) (a2 : Int32)
    (h : vp_in a2 17 ∧ (Ev (eZ G 100 40 0 0 (eFZ F)) G 100 40 (9, 0, 0) kX13_carryOut 10 [(0, .ref (G.1 100)), (1, .ref (G.1 134)), (2, .int a2), (3, .int (M 111 a2.toNatClampNeg))] [] M 0 0)) :
    Cal G 100 40 (9, 0, 0) kX13_carryOut [.ref (G.1 100), .ref (G.1 134), .int a2] M (eFZ F) := by
  refine Cal.of (by decide +kernel) rfl (Nat.le_of_ble_eq_true rfl) ?_
  show Ev (eZ G 100 40 0 0 (eFZ F)) G 100 40 (9, 0, 0) kX13_carryOut 0 [(0, .ref (G.1 100)), (1, .ref (G.1 134)), (2, .int a2)] [] M 0 0
  refine r_aload_n 0 dX13_carryOut_0 rfl rfl ?_
  refine r_getR (c := 100) (k := 14) 107 dX13_carryOut_1 clX13 lFX13_35 (by decide) iM100 sC100 rfl ?_
  refine r_getNR (c := 107) (k := 7) 111 dX13_carryOut_4 clX12 lFX13_223 (by decide) iM107 sC107 rfl ?_
  refine r_iload_n 2 dX13_carryOut_7 rfl rfl ?_
  have h1 := h.1
  replace h := h.2
  refine r_iald (c := 111) (N := 17) dX13_carryOut_8 iM111 sC111 h1 ?_
  refine r_istore_n (l' := [(3, .int (M 111 a2.toNatClampNeg)), (0, .ref (G.1 100)), (1, .ref (G.1 134)), (2, .int a2)]) dX13_carryOut_9 rfl (by decide) rfl ?_
  exact Ev.sub (ks := [1, 2, 3, 0]) rfl h
set_option maxHeartbeats 4000000 in
set_option maxRecDepth 100000 in
theorem B_X13_play_130_4 (G : eG) (M : eM) (F : Int32 → eM → Prop) (x2 : Int32) (x3 : Int32)
    (h : (((M 107 4) ≤ x3) → F x2 (eU M 130 4 ((M 130 4) + 1))) ∧ ((¬ (M 107 4) ≤ x3) → Cal G 100 40 (9, 0, 0) kX13_carryOut [.ref (G.1 100), .ref (G.1 130), .int x3] M (eFZ (fun (r1 : Bool) (M1 : eM) => ((r1 = false) → Ev (eZ G 100 40 0 0 (eFI F)) G 100 40 (10, 0, 0) kX13_play 4 [(0, .ref (G.1 100)), (1, .ref (G.1 130)), (2, .int (x2 + 0)), (3, .int (x3 + 1))] [] M1 0 0) ∧ ((r1 = true) → Ev (eZ G 100 40 0 0 (eFI F)) G 100 40 (10, 0, 0) kX13_play 4 [(0, .ref (G.1 100)), (1, .ref (G.1 130)), (2, .int (x2 + 1)), (3, .int (x3 + 1))] [] M1 0 0))))) :
    Ev (eZ G 100 40 0 0 (eFI F)) G 100 40 (10, 0, 0) kX13_play 4 [(0, .ref (G.1 100)), (1, .ref (G.1 130)), (2, .int x2), (3, .int x3)] [] M 0 0 := by
  refine r_iload_n 3 dX13_play_4 rfl rfl ?_
  refine r_aload_n 0 dX13_play_5 rfl rfl ?_
  refine r_getR (c := 100) (k := 14) 107 dX13_play_6 clX13 lFX13_35 (by decide) iM100 sC100 rfl ?_
  refine r_getNI (c := 107) (k := 4) dX13_play_9 clX12 lFX13_220 (by decide) iM107 sC107 rfl ?_
  refine r_icmp_ge (t := 38) dX13_play_12 (by decide) (fun q => ?_) (fun q => ?_)
  · replace h := h.1 q
    refine r_aload_n 1 dX13_play_38 rfl rfl ?_
    refine r_dup dX13_play_39 rfl ?_
    refine r_getNI (c := 130) (k := 4) dX13_play_40 clX11 lFX13_343 (by decide) iM130 sC130 rfl ?_
    refine r_iconst (v := 1) dX13_play_43 rfl ?_
    refine r_iadd dX13_play_44 ?_
    refine r_putNI (c := 130) (k := 4) dX13_play_45 clX11 lFX13_343 (by decide) iM130 sC130 rfl rfl rfl ?_
    refine r_iload_n 2 dX13_play_48 rfl rfl ?_
    refine r_iretI dX13_play_49 rfl (by decide) (by decide) h
  · replace h := h.2 q
    refine r_iload_n 2 dX13_play_15 rfl rfl ?_
    refine r_aload_n 0 dX13_play_16 rfl rfl ?_
    refine r_aload_n 1 dX13_play_17 rfl rfl ?_
    refine r_iload_n 3 dX13_play_18 rfl rfl ?_
    refine r_callVZ (b' := (9, 0, 0)) (c := 100) (S := [.int x2]) [.ref (G.1 130), .int x3] dX13_play_19 mX13_carryOut lMX13_379 clX13 rfl iM100 sC100 rfl (by decide) (Nat.le_of_ble_eq_true rfl) h (fun r1 M1 h => ?_) rfl
    refine r_zif_eq (t := 29) dX13_play_22 (by decide) (fun q => ?_) (fun q => ?_)
    · replace h := h.1 q
      refine r_iconst (v := 0) dX13_play_29 rfl ?_
      refine r_iadd dX13_play_30 ?_
      refine r_istore_n (l' := [(2, .int (x2 + 0)), (0, .ref (G.1 100)), (1, .ref (G.1 130)), (3, .int x3)]) dX13_play_31 rfl (by decide) rfl ?_
      refine r_iinc (v := x3 + 1) (l' := [(3, .int (x3 + 1)), (2, .int (x2 + 0)), (0, .ref (G.1 100)), (1, .ref (G.1 130))]) 3 dX13_play_32 rfl rfl (by decide) rfl ?_
      refine r_goto (t := 4) dX13_play_35 (by decide) ?_
      exact Ev.sub (ks := [2, 3, 1, 0]) rfl h
    · replace h := h.2 q
      refine r_iconst (v := 1) dX13_play_25 rfl ?_
      refine r_goto (t := 30) dX13_play_26 (by decide) ?_
      refine r_iadd dX13_play_30 ?_
      refine r_istore_n (l' := [(2, .int (x2 + 1)), (0, .ref (G.1 100)), (1, .ref (G.1 130)), (3, .int x3)]) dX13_play_31 rfl (by decide) rfl ?_
      refine r_iinc (v := x3 + 1) (l' := [(3, .int (x3 + 1)), (2, .int (x2 + 1)), (0, .ref (G.1 100)), (1, .ref (G.1 130))]) 3 dX13_play_32 rfl rfl (by decide) rfl ?_
      refine r_goto (t := 4) dX13_play_35 (by decide) ?_
      exact Ev.sub (ks := [2, 3, 1, 0]) rfl h
set_option maxHeartbeats 4000000 in
set_option maxRecDepth 100000 in
theorem C_X13_play_130 (G : eG) (M : eM) (F : Int32 → eM → Prop) 
    (h : Ev (eZ G 100 40 0 0 (eFI F)) G 100 40 (10, 0, 0) kX13_play 4 [(0, .ref (G.1 100)), (1, .ref (G.1 130)), (2, .int 0), (3, .int 0)] [] M 0 0) :
    Cal G 100 40 (10, 0, 0) kX13_play [.ref (G.1 100), .ref (G.1 130)] M (eFI F) := by
  refine Cal.of (by decide +kernel) rfl (Nat.le_of_ble_eq_true rfl) ?_
  show Ev (eZ G 100 40 0 0 (eFI F)) G 100 40 (10, 0, 0) kX13_play 0 [(0, .ref (G.1 100)), (1, .ref (G.1 130))] [] M 0 0
  refine r_iconst (v := 0) dX13_play_0 rfl ?_
  refine r_istore_n (l' := [(2, .int 0), (0, .ref (G.1 100)), (1, .ref (G.1 130))]) dX13_play_1 rfl (by decide) rfl ?_
  refine r_iconst (v := 0) dX13_play_2 rfl ?_
  refine r_istore_n (l' := [(3, .int 0), (2, .int 0), (0, .ref (G.1 100)), (1, .ref (G.1 130))]) dX13_play_3 rfl (by decide) rfl ?_
  exact Ev.sub (ks := [2, 3, 1, 0]) rfl h
set_option maxHeartbeats 4000000 in
set_option maxRecDepth 100000 in
theorem B_X13_play_134_4 (G : eG) (M : eM) (F : Int32 → eM → Prop) (x2 : Int32) (x3 : Int32)
    (h : (((M 107 4) ≤ x3) → F x2 (eU M 134 4 ((M 134 4) + 1))) ∧ ((¬ (M 107 4) ≤ x3) → Cal G 100 40 (9, 0, 0) kX13_carryOut [.ref (G.1 100), .ref (G.1 134), .int x3] M (eFZ (fun (r1 : Bool) (M1 : eM) => ((r1 = false) → Ev (eZ G 100 40 0 0 (eFI F)) G 100 40 (10, 0, 0) kX13_play 4 [(0, .ref (G.1 100)), (1, .ref (G.1 134)), (2, .int (x2 + 0)), (3, .int (x3 + 1))] [] M1 0 0) ∧ ((r1 = true) → Ev (eZ G 100 40 0 0 (eFI F)) G 100 40 (10, 0, 0) kX13_play 4 [(0, .ref (G.1 100)), (1, .ref (G.1 134)), (2, .int (x2 + 1)), (3, .int (x3 + 1))] [] M1 0 0))))) :
    Ev (eZ G 100 40 0 0 (eFI F)) G 100 40 (10, 0, 0) kX13_play 4 [(0, .ref (G.1 100)), (1, .ref (G.1 134)), (2, .int x2), (3, .int x3)] [] M 0 0 := by
  refine r_iload_n 3 dX13_play_4 rfl rfl ?_
  refine r_aload_n 0 dX13_play_5 rfl rfl ?_
  refine r_getR (c := 100) (k := 14) 107 dX13_play_6 clX13 lFX13_35 (by decide) iM100 sC100 rfl ?_
  refine r_getNI (c := 107) (k := 4) dX13_play_9 clX12 lFX13_220 (by decide) iM107 sC107 rfl ?_
  refine r_icmp_ge (t := 38) dX13_play_12 (by decide) (fun q => ?_) (fun q => ?_)
  · replace h := h.1 q
    refine r_aload_n 1 dX13_play_38 rfl rfl ?_
    refine r_dup dX13_play_39 rfl ?_
    refine r_getNI (c := 134) (k := 4) dX13_play_40 clX11 lFX13_343 (by decide) iM134 sC134 rfl ?_
    refine r_iconst (v := 1) dX13_play_43 rfl ?_
    refine r_iadd dX13_play_44 ?_
    refine r_putNI (c := 134) (k := 4) dX13_play_45 clX11 lFX13_343 (by decide) iM134 sC134 rfl rfl rfl ?_
    refine r_iload_n 2 dX13_play_48 rfl rfl ?_
    refine r_iretI dX13_play_49 rfl (by decide) (by decide) h
  · replace h := h.2 q
    refine r_iload_n 2 dX13_play_15 rfl rfl ?_
    refine r_aload_n 0 dX13_play_16 rfl rfl ?_
    refine r_aload_n 1 dX13_play_17 rfl rfl ?_
    refine r_iload_n 3 dX13_play_18 rfl rfl ?_
    refine r_callVZ (b' := (9, 0, 0)) (c := 100) (S := [.int x2]) [.ref (G.1 134), .int x3] dX13_play_19 mX13_carryOut lMX13_379 clX13 rfl iM100 sC100 rfl (by decide) (Nat.le_of_ble_eq_true rfl) h (fun r1 M1 h => ?_) rfl
    refine r_zif_eq (t := 29) dX13_play_22 (by decide) (fun q => ?_) (fun q => ?_)
    · replace h := h.1 q
      refine r_iconst (v := 0) dX13_play_29 rfl ?_
      refine r_iadd dX13_play_30 ?_
      refine r_istore_n (l' := [(2, .int (x2 + 0)), (0, .ref (G.1 100)), (1, .ref (G.1 134)), (3, .int x3)]) dX13_play_31 rfl (by decide) rfl ?_
      refine r_iinc (v := x3 + 1) (l' := [(3, .int (x3 + 1)), (2, .int (x2 + 0)), (0, .ref (G.1 100)), (1, .ref (G.1 134))]) 3 dX13_play_32 rfl rfl (by decide) rfl ?_
      refine r_goto (t := 4) dX13_play_35 (by decide) ?_
      exact Ev.sub (ks := [2, 3, 1, 0]) rfl h
    · replace h := h.2 q
      refine r_iconst (v := 1) dX13_play_25 rfl ?_
      refine r_goto (t := 30) dX13_play_26 (by decide) ?_
      refine r_iadd dX13_play_30 ?_
      refine r_istore_n (l' := [(2, .int (x2 + 1)), (0, .ref (G.1 100)), (1, .ref (G.1 134)), (3, .int x3)]) dX13_play_31 rfl (by decide) rfl ?_
      refine r_iinc (v := x3 + 1) (l' := [(3, .int (x3 + 1)), (2, .int (x2 + 1)), (0, .ref (G.1 100)), (1, .ref (G.1 134))]) 3 dX13_play_32 rfl rfl (by decide) rfl ?_
      refine r_goto (t := 4) dX13_play_35 (by decide) ?_
      exact Ev.sub (ks := [2, 3, 1, 0]) rfl h
set_option maxHeartbeats 4000000 in
set_option maxRecDepth 100000 in
theorem C_X13_play_134 (G : eG) (M : eM) (F : Int32 → eM → Prop) 
    (h : Ev (eZ G 100 40 0 0 (eFI F)) G 100 40 (10, 0, 0) kX13_play 4 [(0, .ref (G.1 100)), (1, .ref (G.1 134)), (2, .int 0), (3, .int 0)] [] M 0 0) :
    Cal G 100 40 (10, 0, 0) kX13_play [.ref (G.1 100), .ref (G.1 134)] M (eFI F) := by
  refine Cal.of (by decide +kernel) rfl (Nat.le_of_ble_eq_true rfl) ?_
  show Ev (eZ G 100 40 0 0 (eFI F)) G 100 40 (10, 0, 0) kX13_play 0 [(0, .ref (G.1 100)), (1, .ref (G.1 134))] [] M 0 0
  refine r_iconst (v := 0) dX13_play_0 rfl ?_
  refine r_istore_n (l' := [(2, .int 0), (0, .ref (G.1 100)), (1, .ref (G.1 134))]) dX13_play_1 rfl (by decide) rfl ?_
  refine r_iconst (v := 0) dX13_play_2 rfl ?_
  refine r_istore_n (l' := [(3, .int 0), (2, .int 0), (0, .ref (G.1 100)), (1, .ref (G.1 134))]) dX13_play_3 rfl (by decide) rfl ?_
  exact Ev.sub (ks := [2, 3, 1, 0]) rfl h
set_option maxHeartbeats 4000000 in
set_option maxRecDepth 100000 in
theorem C_X13_columns (G : eG) (M : eM) (F : Int32 → eM → Prop) 
    (h : Cal G 100 40 (1, 0, 0) kX13_ok [.ref (G.1 100), .int (M 107 0)] M (eFI (fun (r1 : Int32) (M1 : eM) => F r1 M1))) :
    Cal G 100 40 (2, 0, 0) kX13_columns [.ref (G.1 100)] M (eFI F) := by
  refine Cal.of (by decide +kernel) rfl (Nat.le_of_ble_eq_true rfl) ?_
  show Ev (eZ G 100 40 0 0 (eFI F)) G 100 40 (2, 0, 0) kX13_columns 0 [(0, .ref (G.1 100))] [] M 0 0
  refine r_aload_n 0 dX13_columns_0 rfl rfl ?_
  refine r_aload_n 0 dX13_columns_1 rfl rfl ?_
  refine r_getR (c := 100) (k := 14) 107 dX13_columns_2 clX13 lFX13_35 (by decide) iM100 sC100 rfl ?_
  refine r_getNI (c := 107) (k := 0) dX13_columns_5 clX12 lFX13_245 (by decide) iM107 sC107 rfl ?_
  refine r_callVI (b' := (1, 0, 0)) (c := 100) (S := []) [.int (M 107 0)] dX13_columns_8 mX13_ok lMX13_268 clX13 rfl iM100 sC100 rfl (by decide) (Nat.le_of_ble_eq_true rfl) h (fun r1 M1 h => ?_) rfl
  refine r_iretI dX13_columns_11 rfl (by decide) (by decide) h
set_option maxHeartbeats 4000000 in
set_option maxRecDepth 100000 in
theorem C_X13_rows (G : eG) (M : eM) (F : Int32 → eM → Prop) 
    (h : Cal G 100 40 (1, 0, 0) kX13_ok [.ref (G.1 100), .int (M 107 1)] M (eFI (fun (r1 : Int32) (M1 : eM) => F r1 M1))) :
    Cal G 100 40 (2, 0, 0) kX13_rows [.ref (G.1 100)] M (eFI F) := by
  refine Cal.of (by decide +kernel) rfl (Nat.le_of_ble_eq_true rfl) ?_
  show Ev (eZ G 100 40 0 0 (eFI F)) G 100 40 (2, 0, 0) kX13_rows 0 [(0, .ref (G.1 100))] [] M 0 0
  refine r_aload_n 0 dX13_rows_0 rfl rfl ?_
  refine r_aload_n 0 dX13_rows_1 rfl rfl ?_
  refine r_getR (c := 100) (k := 14) 107 dX13_rows_2 clX13 lFX13_35 (by decide) iM100 sC100 rfl ?_
  refine r_getNI (c := 107) (k := 1) dX13_rows_5 clX12 lFX13_248 (by decide) iM107 sC107 rfl ?_
  refine r_callVI (b' := (1, 0, 0)) (c := 100) (S := []) [.int (M 107 1)] dX13_rows_8 mX13_ok lMX13_268 clX13 rfl iM100 sC100 rfl (by decide) (Nat.le_of_ble_eq_true rfl) h (fun r1 M1 h => ?_) rfl
  refine r_iretI dX13_rows_11 rfl (by decide) (by decide) h
set_option maxHeartbeats 4000000 in
set_option maxRecDepth 100000 in
theorem C_X13_tiles (G : eG) (M : eM) (F : Int32 → eM → Prop) 
    (h : Cal G 100 40 (1, 0, 0) kX13_ok [.ref (G.1 100), .int (M 107 2)] M (eFI (fun (r1 : Int32) (M1 : eM) => F r1 M1))) :
    Cal G 100 40 (2, 0, 0) kX13_tiles [.ref (G.1 100)] M (eFI F) := by
  refine Cal.of (by decide +kernel) rfl (Nat.le_of_ble_eq_true rfl) ?_
  show Ev (eZ G 100 40 0 0 (eFI F)) G 100 40 (2, 0, 0) kX13_tiles 0 [(0, .ref (G.1 100))] [] M 0 0
  refine r_aload_n 0 dX13_tiles_0 rfl rfl ?_
  refine r_aload_n 0 dX13_tiles_1 rfl rfl ?_
  refine r_getR (c := 100) (k := 14) 107 dX13_tiles_2 clX13 lFX13_35 (by decide) iM100 sC100 rfl ?_
  refine r_getNI (c := 107) (k := 2) dX13_tiles_5 clX12 lFX13_150 (by decide) iM107 sC107 rfl ?_
  refine r_callVI (b' := (1, 0, 0)) (c := 100) (S := []) [.int (M 107 2)] dX13_tiles_8 mX13_ok lMX13_268 clX13 rfl iM100 sC100 rfl (by decide) (Nat.le_of_ble_eq_true rfl) h (fun r1 M1 h => ?_) rfl
  refine r_iretI dX13_tiles_11 rfl (by decide) (by decide) h
set_option maxHeartbeats 4000000 in
set_option maxRecDepth 100000 in
theorem C_X13_rounds (G : eG) (M : eM) (F : Int32 → eM → Prop) 
    (h : Cal G 100 40 (1, 0, 0) kX13_ok [.ref (G.1 100), .int (M 130 4)] M (eFI (fun (r1 : Int32) (M1 : eM) => F r1 M1))) :
    Cal G 100 40 (2, 0, 0) kX13_rounds [.ref (G.1 100)] M (eFI F) := by
  refine Cal.of (by decide +kernel) rfl (Nat.le_of_ble_eq_true rfl) ?_
  show Ev (eZ G 100 40 0 0 (eFI F)) G 100 40 (2, 0, 0) kX13_rounds 0 [(0, .ref (G.1 100))] [] M 0 0
  refine r_aload_n 0 dX13_rounds_0 rfl rfl ?_
  refine r_aload_n 0 dX13_rounds_1 rfl rfl ?_
  refine r_getR (c := 100) (k := 17) 130 dX13_rounds_2 clX13 lFX13_48 (by decide) iM100 sC100 rfl ?_
  refine r_getNI (c := 130) (k := 4) dX13_rounds_5 clX11 lFX13_343 (by decide) iM130 sC130 rfl ?_
  refine r_callVI (b' := (1, 0, 0)) (c := 100) (S := []) [.int (M 130 4)] dX13_rounds_8 mX13_ok lMX13_268 clX13 rfl iM100 sC100 rfl (by decide) (Nat.le_of_ble_eq_true rfl) h (fun r1 M1 h => ?_) rfl
  refine r_iretI dX13_rounds_11 rfl (by decide) (by decide) h
set_option maxHeartbeats 4000000 in
set_option maxRecDepth 100000 in
theorem C_X13_placedTiles (G : eG) (M : eM) (F : Int32 → eM → Prop) 
    (h : Cal G 100 40 (1, 0, 0) kX13_ok [.ref (G.1 100), .int (M 130 3)] M (eFI (fun (r1 : Int32) (M1 : eM) => F r1 M1))) :
    Cal G 100 40 (2, 0, 0) kX13_placedTiles [.ref (G.1 100)] M (eFI F) := by
  refine Cal.of (by decide +kernel) rfl (Nat.le_of_ble_eq_true rfl) ?_
  show Ev (eZ G 100 40 0 0 (eFI F)) G 100 40 (2, 0, 0) kX13_placedTiles 0 [(0, .ref (G.1 100))] [] M 0 0
  refine r_aload_n 0 dX13_placedTiles_0 rfl rfl ?_
  refine r_aload_n 0 dX13_placedTiles_1 rfl rfl ?_
  refine r_getR (c := 100) (k := 17) 130 dX13_placedTiles_2 clX13 lFX13_48 (by decide) iM100 sC100 rfl ?_
  refine r_getNI (c := 130) (k := 3) dX13_placedTiles_5 clX11 lFX13_296 (by decide) iM130 sC130 rfl ?_
  refine r_callVI (b' := (1, 0, 0)) (c := 100) (S := []) [.int (M 130 3)] dX13_placedTiles_8 mX13_ok lMX13_268 clX13 rfl iM100 sC100 rfl (by decide) (Nat.le_of_ble_eq_true rfl) h (fun r1 M1 h => ?_) rfl
  refine r_iretI dX13_placedTiles_11 rfl (by decide) (by decide) h
set_option maxHeartbeats 4000000 in
set_option maxRecDepth 100000 in
theorem C_X13_matches_ (G : eG) (M : eM) (F : Int32 → eM → Prop) 
    (h : Cal G 100 40 (5, 0, 0) kX13_matches [.ref (G.1 100), .ref (G.1 130)] M (eFI (fun (r1 : Int32) (M1 : eM) => Cal G 100 40 (1, 0, 0) kX13_ok [.ref (G.1 100), .int r1] M1 (eFI (fun (r2 : Int32) (M2 : eM) => F r2 M2))))) :
    Cal G 100 40 (6, 0, 0) kX13_matches_ [.ref (G.1 100)] M (eFI F) := by
  refine Cal.of (by decide +kernel) rfl (Nat.le_of_ble_eq_true rfl) ?_
  show Ev (eZ G 100 40 0 0 (eFI F)) G 100 40 (6, 0, 0) kX13_matches_ 0 [(0, .ref (G.1 100))] [] M 0 0
  refine r_aload_n 0 dX13_matches__0 rfl rfl ?_
  refine r_aload_n 0 dX13_matches__1 rfl rfl ?_
  refine r_aload_n 0 dX13_matches__2 rfl rfl ?_
  refine r_getR (c := 100) (k := 17) 130 dX13_matches__3 clX13 lFX13_48 (by decide) iM100 sC100 rfl ?_
  refine r_callVI (b' := (5, 0, 0)) (c := 100) (S := [.ref (G.1 100)]) [.ref (G.1 130)] dX13_matches__6 mX13_matches lMX13_346 clX13 rfl iM100 sC100 rfl (by decide) (Nat.le_of_ble_eq_true rfl) h (fun r1 M1 h => ?_) rfl
  refine r_callVI (b' := (1, 0, 0)) (c := 100) (S := []) [.int r1] dX13_matches__9 mX13_ok lMX13_268 clX13 rfl iM100 sC100 rfl (by decide) (Nat.le_of_ble_eq_true rfl) h (fun r2 M2 h => ?_) rfl
  refine r_iretI dX13_matches__12 rfl (by decide) (by decide) h
set_option maxHeartbeats 4000000 in
set_option maxRecDepth 100000 in
theorem C_X13_points_ (G : eG) (M : eM) (F : Int32 → eM → Prop) 
    (h : Cal G 100 40 (7, 0, 0) kX13_points [.ref (G.1 100), .ref (G.1 130)] M (eFI (fun (r1 : Int32) (M1 : eM) => Cal G 100 40 (1, 0, 0) kX13_ok [.ref (G.1 100), .int r1] M1 (eFI (fun (r2 : Int32) (M2 : eM) => F r2 M2))))) :
    Cal G 100 40 (8, 0, 0) kX13_points_ [.ref (G.1 100)] M (eFI F) := by
  refine Cal.of (by decide +kernel) rfl (Nat.le_of_ble_eq_true rfl) ?_
  show Ev (eZ G 100 40 0 0 (eFI F)) G 100 40 (8, 0, 0) kX13_points_ 0 [(0, .ref (G.1 100))] [] M 0 0
  refine r_aload_n 0 dX13_points__0 rfl rfl ?_
  refine r_aload_n 0 dX13_points__1 rfl rfl ?_
  refine r_aload_n 0 dX13_points__2 rfl rfl ?_
  refine r_getR (c := 100) (k := 17) 130 dX13_points__3 clX13 lFX13_48 (by decide) iM100 sC100 rfl ?_
  refine r_callVI (b' := (7, 0, 0)) (c := 100) (S := [.ref (G.1 100)]) [.ref (G.1 130)] dX13_points__6 mX13_points lMX13_349 clX13 rfl iM100 sC100 rfl (by decide) (Nat.le_of_ble_eq_true rfl) h (fun r1 M1 h => ?_) rfl
  refine r_callVI (b' := (1, 0, 0)) (c := 100) (S := []) [.int r1] dX13_points__9 mX13_ok lMX13_268 clX13 rfl iM100 sC100 rfl (by decide) (Nat.le_of_ble_eq_true rfl) h (fun r2 M2 h => ?_) rfl
  refine r_iretI dX13_points__12 rfl (by decide) (by decide) h
set_option maxHeartbeats 4000000 in
set_option maxRecDepth 100000 in
theorem C_X13_rings_ (G : eG) (M : eM) (F : Int32 → eM → Prop) 
    (h : Cal G 100 40 (6, 0, 0) kX13_rings [.ref (G.1 100), .ref (G.1 130)] M (eFI (fun (r1 : Int32) (M1 : eM) => Cal G 100 40 (1, 0, 0) kX13_ok [.ref (G.1 100), .int r1] M1 (eFI (fun (r2 : Int32) (M2 : eM) => F r2 M2))))) :
    Cal G 100 40 (7, 0, 0) kX13_rings_ [.ref (G.1 100)] M (eFI F) := by
  refine Cal.of (by decide +kernel) rfl (Nat.le_of_ble_eq_true rfl) ?_
  show Ev (eZ G 100 40 0 0 (eFI F)) G 100 40 (7, 0, 0) kX13_rings_ 0 [(0, .ref (G.1 100))] [] M 0 0
  refine r_aload_n 0 dX13_rings__0 rfl rfl ?_
  refine r_aload_n 0 dX13_rings__1 rfl rfl ?_
  refine r_aload_n 0 dX13_rings__2 rfl rfl ?_
  refine r_getR (c := 100) (k := 17) 130 dX13_rings__3 clX13 lFX13_48 (by decide) iM100 sC100 rfl ?_
  refine r_callVI (b' := (6, 0, 0)) (c := 100) (S := [.ref (G.1 100)]) [.ref (G.1 130)] dX13_rings__6 mX13_rings lMX13_325 clX13 rfl iM100 sC100 rfl (by decide) (Nat.le_of_ble_eq_true rfl) h (fun r1 M1 h => ?_) rfl
  refine r_callVI (b' := (1, 0, 0)) (c := 100) (S := []) [.int r1] dX13_rings__9 mX13_ok lMX13_268 clX13 rfl iM100 sC100 rfl (by decide) (Nat.le_of_ble_eq_true rfl) h (fun r2 M2 h => ?_) rfl
  refine r_iretI dX13_rings__12 rfl (by decide) (by decide) h
set_option maxHeartbeats 4000000 in
set_option maxRecDepth 100000 in
theorem B_X13_reach_99 (G : eG) (M : eM) (F : eM → Prop) (x2 : Int32) (x3 : Int32) (x4 : Int32)
    (h : Ev (eZ G 100 40 0 0 (eFV F)) G 100 40 (3, 0, 0) kX13_reach 26 [(0, .ref (G.1 100)), (2, .int x2), (3, .int x3), (4, .int (x4 + 1))] [] M 0 0) :
    Ev (eZ G 100 40 0 0 (eFV F)) G 100 40 (3, 0, 0) kX13_reach 99 [(0, .ref (G.1 100)), (2, .int x2), (3, .int x3), (4, .int x4)] [] M 0 0 := by
  refine r_iinc (v := x4 + 1) (l' := [(4, .int (x4 + 1)), (0, .ref (G.1 100)), (2, .int x2), (3, .int x3)]) 3 dX13_reach_99 rfl rfl (by decide) rfl ?_
  refine r_goto (t := 26) dX13_reach_102 (by decide) ?_
  exact Ev.sub (ks := [1, 2, 3, 0]) rfl h
set_option maxHeartbeats 4000000 in
set_option maxRecDepth 100000 in
theorem B_X13_reach_26 (G : eG) (M : eM) (F : eM → Prop) (x2 : Int32) (x3 : Int32) (x4 : Int32)
    (h : ((6 ≤ x4) → Ev (eZ G 100 40 0 0 (eFV F)) G 100 40 (3, 0, 0) kX13_reach 18 [(0, .ref (G.1 100)), (2, .int x2), (3, .int (x3 + 1))] [] M 0 0) ∧ ((¬ 6 ≤ x4) → vp_in x3 49 ∧ (Cal G 100 40 (2, 0, 0) kX13_beside [.ref (G.1 100), .int (M 138 x3.toNatClampNeg), .int x4] M (eFI (fun (r1 : Int32) (M1 : eM) => ((r1 = (-1)) → Ev (eZ G 100 40 0 0 (eFV F)) G 100 40 (3, 0, 0) kX13_reach 99 [(0, .ref (G.1 100)), (2, .int x2), (3, .int x3), (4, .int x4)] [] M1 0 0) ∧ ((¬ r1 = (-1)) → vp_in r1 49 ∧ ((((M1 131 r1.toNatClampNeg) = (-1)) → Ev (eZ G 100 40 0 0 (eFV F)) G 100 40 (3, 0, 0) kX13_reach 99 [(0, .ref (G.1 100)), (2, .int x2), (3, .int x3), (4, .int x4)] [] M1 0 0) ∧ ((¬ (M1 131 r1.toNatClampNeg) = (-1)) → vp_in r1 49 ∧ ((((M1 139 r1.toNatClampNeg) = 0) → vp_in r1 49 ∧ (vp_in x2 49 ∧ (Ev (eZ G 100 40 0 0 (eFV F)) G 100 40 (3, 0, 0) kX13_reach 99 [(0, .ref (G.1 100)), (2, .int (x2 + 1)), (3, .int x3), (4, .int x4)] [] (eU (eU M1 139 r1.toNatClampNeg (1 &&& 1)) 138 x2.toNatClampNeg r1) 0 0))) ∧ ((¬ (M1 139 r1.toNatClampNeg) = 0) → Ev (eZ G 100 40 0 0 (eFV F)) G 100 40 (3, 0, 0) kX13_reach 99 [(0, .ref (G.1 100)), (2, .int x2), (3, .int x3), (4, .int x4)] [] M1 0 0)))))))))) :
    Ev (eZ G 100 40 0 0 (eFV F)) G 100 40 (3, 0, 0) kX13_reach 26 [(0, .ref (G.1 100)), (2, .int x2), (3, .int x3), (4, .int x4)] [] M 0 0 := by
  refine r_iload 3 dX13_reach_26 rfl ?_
  refine r_bipush (v := 6) dX13_reach_28 rfl ?_
  refine r_icmp_ge (t := 105) dX13_reach_30 (by decide) (fun q => ?_) (fun q => ?_)
  · replace h := h.1 q
    refine r_iinc (v := x3 + 1) (l' := [(3, .int (x3 + 1)), (0, .ref (G.1 100)), (2, .int x2), (4, .int x4)]) 2 dX13_reach_105 rfl rfl (by decide) rfl ?_
    refine r_goto (t := 18) dX13_reach_108 (by decide) ?_
    exact Ev.sub (ks := [1, 2, 0]) rfl h
  · replace h := h.2 q
    refine r_aload_n 0 dX13_reach_33 rfl rfl ?_
    refine r_aload_n 0 dX13_reach_34 rfl rfl ?_
    refine r_getR (c := 100) (k := 19) 138 dX13_reach_35 clX13 lFX13_55 (by decide) iM100 sC100 rfl ?_
    refine r_iload_n 2 dX13_reach_38 rfl rfl ?_
    have h1 := h.1
    replace h := h.2
    refine r_iald (c := 138) (N := 49) dX13_reach_39 iM138 sC138 h1 ?_
    refine r_iload 3 dX13_reach_40 rfl ?_
    refine r_callVI (b' := (2, 0, 0)) (c := 100) (S := []) [.int (M 138 x3.toNatClampNeg), .int x4] dX13_reach_42 mX13_beside lMX13_277 clX13 rfl iM100 sC100 rfl (by decide) (Nat.le_of_ble_eq_true rfl) h (fun r1 M1 h => ?_) rfl
    refine r_istore (l' := [(5, .int r1), (0, .ref (G.1 100)), (2, .int x2), (3, .int x3), (4, .int x4)]) dX13_reach_45 (by decide) rfl ?_
    refine r_iload 0 dX13_reach_47 rfl ?_
    refine r_iconst (v := (-1)) dX13_reach_49 rfl ?_
    refine r_icmp_eq (t := 99) dX13_reach_50 (by decide) (fun q => ?_) (fun q => ?_)
    · replace h := h.1 q
      exact Ev.sub (ks := [1, 2, 3, 4]) rfl h
    · replace h := h.2 q
      refine r_aload_n 1 dX13_reach_53 rfl rfl ?_
      refine r_getR (c := 100) (k := 17) 130 dX13_reach_54 clX13 lFX13_48 (by decide) iM100 sC100 rfl ?_
      refine r_getNR (c := 130) (k := 0) 131 dX13_reach_57 clX11 lFX13_280 (by decide) iM130 sC130 rfl ?_
      refine r_iload 0 dX13_reach_60 rfl ?_
      have h1 := h.1
      replace h := h.2
      refine r_iald (c := 131) (N := 49) dX13_reach_62 iM131 sC131 h1 ?_
      refine r_iconst (v := (-1)) dX13_reach_63 rfl ?_
      refine r_icmp_eq (t := 99) dX13_reach_64 (by decide) (fun q => ?_) (fun q => ?_)
      · replace h := h.1 q
        exact Ev.sub (ks := [1, 2, 3, 4]) rfl h
      · replace h := h.2 q
        refine r_aload_n 1 dX13_reach_67 rfl rfl ?_
        refine r_getR (c := 100) (k := 20) 139 dX13_reach_68 clX13 lFX13_58 (by decide) iM100 sC100 rfl ?_
        refine r_iload 0 dX13_reach_71 rfl ?_
        have h1 := h.1
        replace h := h.2
        refine r_zald (c := 139) (N := 49) dX13_reach_73 iM139 sC139 h1 ?_
        refine r_if_eq (t := 80) dX13_reach_74 (by decide) (fun q => ?_) (fun q => ?_)
        · replace h := h.1 q
          refine r_aload_n 1 dX13_reach_80 rfl rfl ?_
          refine r_getR (c := 100) (k := 20) 139 dX13_reach_81 clX13 lFX13_58 (by decide) iM100 sC100 rfl ?_
          refine r_iload 0 dX13_reach_84 rfl ?_
          refine r_iconst (v := 1) dX13_reach_86 rfl ?_
          have h1 := h.1
          replace h := h.2
          refine r_zast (c := 139) (N := 49) dX13_reach_87 iM139 sC139 h1 ?_
          refine r_aload_n 1 dX13_reach_88 rfl rfl ?_
          refine r_getR (c := 100) (k := 19) 138 dX13_reach_89 clX13 lFX13_55 (by decide) iM100 sC100 rfl ?_
          refine r_iload_n 2 dX13_reach_92 rfl rfl ?_
          refine r_iload 0 dX13_reach_93 rfl ?_
          have h1 := h.1
          replace h := h.2
          refine r_iast (c := 138) (N := 49) dX13_reach_95 iM138 sC138 h1 ?_
          refine r_iinc (v := x2 + 1) (l' := [(2, .int (x2 + 1)), (5, .int r1), (0, .ref (G.1 100)), (3, .int x3), (4, .int x4)]) 2 dX13_reach_96 rfl rfl (by decide) rfl ?_
          exact Ev.sub (ks := [2, 0, 3, 4]) rfl h
        · replace h := h.2 q
          refine r_goto (t := 99) dX13_reach_77 (by decide) ?_
          exact Ev.sub (ks := [1, 2, 3, 4]) rfl h
set_option maxHeartbeats 4000000 in
set_option maxRecDepth 100000 in
theorem B_X13_reach_18 (G : eG) (M : eM) (F : eM → Prop) (x2 : Int32) (x3 : Int32)
    (h : ((x2 ≤ x3) → F M) ∧ ((¬ x2 ≤ x3) → Ev (eZ G 100 40 0 0 (eFV F)) G 100 40 (3, 0, 0) kX13_reach 26 [(0, .ref (G.1 100)), (2, .int x2), (3, .int x3), (4, .int 0)] [] M 0 0)) :
    Ev (eZ G 100 40 0 0 (eFV F)) G 100 40 (3, 0, 0) kX13_reach 18 [(0, .ref (G.1 100)), (2, .int x2), (3, .int x3)] [] M 0 0 := by
  refine r_iload_n 2 dX13_reach_18 rfl rfl ?_
  refine r_iload_n 1 dX13_reach_19 rfl rfl ?_
  refine r_icmp_ge (t := 111) dX13_reach_20 (by decide) (fun q => ?_) (fun q => ?_)
  · replace h := h.1 q
    refine r_vretV dX13_reach_111 rfl (by decide) (by decide) h
  · replace h := h.2 q
    refine r_iconst (v := 0) dX13_reach_23 rfl ?_
    refine r_istore (l' := [(4, .int 0), (0, .ref (G.1 100)), (2, .int x2), (3, .int x3)]) dX13_reach_24 (by decide) rfl ?_
    exact Ev.sub (ks := [1, 2, 3, 0]) rfl h
set_option maxHeartbeats 4000000 in
set_option maxRecDepth 100000 in
theorem C_X13_reach (G : eG) (M : eM) (F : eM → Prop) (a1 : Int32)
    (h : vp_in 0 49 ∧ (vp_in a1 49 ∧ (Ev (eZ G 100 40 0 0 (eFV F)) G 100 40 (3, 0, 0) kX13_reach 18 [(0, .ref (G.1 100)), (2, .int 1), (3, .int 0)] [] (eU (eU M 138 (0 : Int32).toNatClampNeg a1) 139 a1.toNatClampNeg (1 &&& 1)) 0 0))) :
    Cal G 100 40 (3, 0, 0) kX13_reach [.ref (G.1 100), .int a1] M (eFV F) := by
  refine Cal.of (by decide +kernel) rfl (Nat.le_of_ble_eq_true rfl) ?_
  show Ev (eZ G 100 40 0 0 (eFV F)) G 100 40 (3, 0, 0) kX13_reach 0 [(0, .ref (G.1 100)), (1, .int a1)] [] M 0 0
  refine r_iconst (v := 1) dX13_reach_0 rfl ?_
  refine r_istore_n (l' := [(2, .int 1), (0, .ref (G.1 100)), (1, .int a1)]) dX13_reach_1 rfl (by decide) rfl ?_
  refine r_aload_n 1 dX13_reach_2 rfl rfl ?_
  refine r_getR (c := 100) (k := 19) 138 dX13_reach_3 clX13 lFX13_55 (by decide) iM100 sC100 rfl ?_
  refine r_iconst (v := 0) dX13_reach_6 rfl ?_
  refine r_iload_n 2 dX13_reach_7 rfl rfl ?_
  have h1 := h.1
  replace h := h.2
  refine r_iast (c := 138) (N := 49) dX13_reach_8 iM138 sC138 h1 ?_
  refine r_aload_n 1 dX13_reach_9 rfl rfl ?_
  refine r_getR (c := 100) (k := 20) 139 dX13_reach_10 clX13 lFX13_58 (by decide) iM100 sC100 rfl ?_
  refine r_iload_n 2 dX13_reach_13 rfl rfl ?_
  refine r_iconst (v := 1) dX13_reach_14 rfl ?_
  have h1 := h.1
  replace h := h.2
  refine r_zast (c := 139) (N := 49) dX13_reach_15 iM139 sC139 h1 ?_
  refine r_iconst (v := 0) dX13_reach_16 rfl ?_
  refine r_istore_n (l' := [(3, .int 0), (2, .int 1), (0, .ref (G.1 100)), (1, .int a1)]) dX13_reach_17 rfl (by decide) rfl ?_
  exact Ev.sub (ks := [2, 1, 0]) rfl h
set_option maxHeartbeats 4000000 in
set_option maxRecDepth 100000 in
theorem B_X13_groupsOf_66 (G : eG) (M : eM) (F : Int32 → eM → Prop) (x1 : Int32) (x2 : Int32)
    (h : Ev (eZ G 100 40 0 0 (eFI F)) G 100 40 (4, 0, 0) kX13_groupsOf 25 [(0, .ref (G.1 100)), (1, .int x1), (2, .int (x2 + 1))] [] M 0 0) :
    Ev (eZ G 100 40 0 0 (eFI F)) G 100 40 (4, 0, 0) kX13_groupsOf 66 [(0, .ref (G.1 100)), (1, .int x1), (2, .int x2)] [] M 0 0 := by
  refine r_iinc (v := x2 + 1) (l' := [(2, .int (x2 + 1)), (0, .ref (G.1 100)), (1, .int x1)]) 2 dX13_groupsOf_66 rfl rfl (by decide) rfl ?_
  refine r_goto (t := 25) dX13_groupsOf_69 (by decide) ?_
  exact Ev.sub (ks := [1, 2, 0]) rfl h
set_option maxHeartbeats 4000000 in
set_option maxRecDepth 100000 in
theorem B_X13_groupsOf_25 (G : eG) (M : eM) (F : Int32 → eM → Prop) (x1 : Int32) (x2 : Int32)
    (h : Cal G 100 40 (1, 0, 0) kX13_cells [.ref (G.1 100)] M (eFI (fun (r1 : Int32) (M1 : eM) => ((r1 ≤ x2) → F x1 M1) ∧ ((¬ r1 ≤ x2) → vp_in x2 49 ∧ ((((M1 131 x2.toNatClampNeg) = (-1)) → Ev (eZ G 100 40 0 0 (eFI F)) G 100 40 (4, 0, 0) kX13_groupsOf 66 [(0, .ref (G.1 100)), (1, .int x1), (2, .int x2)] [] M1 0 0) ∧ ((¬ (M1 131 x2.toNatClampNeg) = (-1)) → vp_in x2 49 ∧ ((((M1 139 x2.toNatClampNeg) = 0) → Cal G 100 40 (3, 0, 0) kX13_reach [.ref (G.1 100), .int x2] M1 (eFV (fun (M2 : eM) => Ev (eZ G 100 40 0 0 (eFI F)) G 100 40 (4, 0, 0) kX13_groupsOf 66 [(0, .ref (G.1 100)), (1, .int (x1 + 1)), (2, .int x2)] [] M2 0 0))) ∧ ((¬ (M1 139 x2.toNatClampNeg) = 0) → Ev (eZ G 100 40 0 0 (eFI F)) G 100 40 (4, 0, 0) kX13_groupsOf 66 [(0, .ref (G.1 100)), (1, .int x1), (2, .int x2)] [] M1 0 0)))))))) :
    Ev (eZ G 100 40 0 0 (eFI F)) G 100 40 (4, 0, 0) kX13_groupsOf 25 [(0, .ref (G.1 100)), (1, .int x1), (2, .int x2)] [] M 0 0 := by
  refine r_iload_n 2 dX13_groupsOf_25 rfl rfl ?_
  refine r_aload_n 0 dX13_groupsOf_26 rfl rfl ?_
  refine r_callVI (b' := (1, 0, 0)) (c := 100) (S := [.int x2]) [] dX13_groupsOf_27 mX13_cells lMX13_307 clX13 rfl iM100 sC100 rfl (by decide) (Nat.le_of_ble_eq_true rfl) h (fun r1 M1 h => ?_) rfl
  refine r_icmp_ge (t := 72) dX13_groupsOf_30 (by decide) (fun q => ?_) (fun q => ?_)
  · replace h := h.1 q
    refine r_iload_n 1 dX13_groupsOf_72 rfl rfl ?_
    refine r_iretI dX13_groupsOf_73 rfl (by decide) (by decide) h
  · replace h := h.2 q
    refine r_aload_n 0 dX13_groupsOf_33 rfl rfl ?_
    refine r_getR (c := 100) (k := 17) 130 dX13_groupsOf_34 clX13 lFX13_48 (by decide) iM100 sC100 rfl ?_
    refine r_getNR (c := 130) (k := 0) 131 dX13_groupsOf_37 clX11 lFX13_280 (by decide) iM130 sC130 rfl ?_
    refine r_iload_n 2 dX13_groupsOf_40 rfl rfl ?_
    have h1 := h.1
    replace h := h.2
    refine r_iald (c := 131) (N := 49) dX13_groupsOf_41 iM131 sC131 h1 ?_
    refine r_iconst (v := (-1)) dX13_groupsOf_42 rfl ?_
    refine r_icmp_eq (t := 66) dX13_groupsOf_43 (by decide) (fun q => ?_) (fun q => ?_)
    · replace h := h.1 q
      exact h
    · replace h := h.2 q
      refine r_aload_n 0 dX13_groupsOf_46 rfl rfl ?_
      refine r_getR (c := 100) (k := 20) 139 dX13_groupsOf_47 clX13 lFX13_58 (by decide) iM100 sC100 rfl ?_
      refine r_iload_n 2 dX13_groupsOf_50 rfl rfl ?_
      have h1 := h.1
      replace h := h.2
      refine r_zald (c := 139) (N := 49) dX13_groupsOf_51 iM139 sC139 h1 ?_
      refine r_if_eq (t := 58) dX13_groupsOf_52 (by decide) (fun q => ?_) (fun q => ?_)
      · replace h := h.1 q
        refine r_aload_n 0 dX13_groupsOf_58 rfl rfl ?_
        refine r_iload_n 2 dX13_groupsOf_59 rfl rfl ?_
        refine r_callVV (b' := (3, 0, 0)) (c := 100) (S := []) [.int x2] dX13_groupsOf_60 mX13_reach lMX13_382 clX13 rfl iM100 sC100 rfl (by decide) (Nat.le_of_ble_eq_true rfl) h (fun M2 h => ?_) rfl
        refine r_iinc (v := x1 + 1) (l' := [(1, .int (x1 + 1)), (0, .ref (G.1 100)), (2, .int x2)]) 1 dX13_groupsOf_63 rfl rfl (by decide) rfl ?_
        exact Ev.sub (ks := [1, 0, 2]) rfl h
      · replace h := h.2 q
        refine r_goto (t := 66) dX13_groupsOf_55 (by decide) ?_
        exact h
set_option maxHeartbeats 4000000 in
set_option maxRecDepth 100000 in
theorem B_X13_groupsOf_2 (G : eG) (M : eM) (F : Int32 → eM → Prop) (x1 : Int32)
    (h : ((49 ≤ x1) → Ev (eZ G 100 40 0 0 (eFI F)) G 100 40 (4, 0, 0) kX13_groupsOf 25 [(0, .ref (G.1 100)), (1, .int 0), (2, .int 0)] [] M 0 0) ∧ ((¬ 49 ≤ x1) → vp_in x1 49 ∧ (Ev (eZ G 100 40 0 0 (eFI F)) G 100 40 (4, 0, 0) kX13_groupsOf 2 [(0, .ref (G.1 100)), (1, .int (x1 + 1))] [] (eU M 139 x1.toNatClampNeg (0 &&& 1)) 0 0))) :
    Ev (eZ G 100 40 0 0 (eFI F)) G 100 40 (4, 0, 0) kX13_groupsOf 2 [(0, .ref (G.1 100)), (1, .int x1)] [] M 0 0 := by
  refine r_iload_n 1 dX13_groupsOf_2 rfl rfl ?_
  refine r_bipush (v := 49) dX13_groupsOf_3 rfl ?_
  refine r_icmp_ge (t := 21) dX13_groupsOf_5 (by decide) (fun q => ?_) (fun q => ?_)
  · replace h := h.1 q
    refine r_iconst (v := 0) dX13_groupsOf_21 rfl ?_
    refine r_istore_n (l' := [(1, .int 0), (0, .ref (G.1 100))]) dX13_groupsOf_22 rfl (by decide) rfl ?_
    refine r_iconst (v := 0) dX13_groupsOf_23 rfl ?_
    refine r_istore_n (l' := [(2, .int 0), (1, .int 0), (0, .ref (G.1 100))]) dX13_groupsOf_24 rfl (by decide) rfl ?_
    exact Ev.sub (ks := [2, 1, 0]) rfl h
  · replace h := h.2 q
    refine r_aload_n 0 dX13_groupsOf_8 rfl rfl ?_
    refine r_getR (c := 100) (k := 20) 139 dX13_groupsOf_9 clX13 lFX13_58 (by decide) iM100 sC100 rfl ?_
    refine r_iload_n 1 dX13_groupsOf_12 rfl rfl ?_
    refine r_iconst (v := 0) dX13_groupsOf_13 rfl ?_
    have h1 := h.1
    replace h := h.2
    refine r_zast (c := 139) (N := 49) dX13_groupsOf_14 iM139 sC139 h1 ?_
    refine r_iinc (v := x1 + 1) (l' := [(1, .int (x1 + 1)), (0, .ref (G.1 100))]) 1 dX13_groupsOf_15 rfl rfl (by decide) rfl ?_
    refine r_goto (t := 2) dX13_groupsOf_18 (by decide) ?_
    exact Ev.sub (ks := [1, 0]) rfl h
set_option maxHeartbeats 4000000 in
set_option maxRecDepth 100000 in
theorem C_X13_groupsOf (G : eG) (M : eM) (F : Int32 → eM → Prop) 
    (h : Ev (eZ G 100 40 0 0 (eFI F)) G 100 40 (4, 0, 0) kX13_groupsOf 2 [(0, .ref (G.1 100)), (1, .int 0)] [] M 0 0) :
    Cal G 100 40 (4, 0, 0) kX13_groupsOf [.ref (G.1 100)] M (eFI F) := by
  refine Cal.of (by decide +kernel) rfl (Nat.le_of_ble_eq_true rfl) ?_
  show Ev (eZ G 100 40 0 0 (eFI F)) G 100 40 (4, 0, 0) kX13_groupsOf 0 [(0, .ref (G.1 100))] [] M 0 0
  refine r_iconst (v := 0) dX13_groupsOf_0 rfl ?_
  refine r_istore_n (l' := [(1, .int 0), (0, .ref (G.1 100))]) dX13_groupsOf_1 rfl (by decide) rfl ?_
  exact Ev.sub (ks := [1, 0]) rfl h
set_option maxHeartbeats 4000000 in
set_option maxRecDepth 100000 in
theorem C_X13_groups (G : eG) (M : eM) (F : Int32 → eM → Prop) 
    (h : Cal G 100 40 (4, 0, 0) kX13_groupsOf [.ref (G.1 100)] M (eFI (fun (r1 : Int32) (M1 : eM) => Cal G 100 40 (1, 0, 0) kX13_ok [.ref (G.1 100), .int r1] M1 (eFI (fun (r2 : Int32) (M2 : eM) => F r2 M2))))) :
    Cal G 100 40 (5, 0, 0) kX13_groups [.ref (G.1 100)] M (eFI F) := by
  refine Cal.of (by decide +kernel) rfl (Nat.le_of_ble_eq_true rfl) ?_
  show Ev (eZ G 100 40 0 0 (eFI F)) G 100 40 (5, 0, 0) kX13_groups 0 [(0, .ref (G.1 100))] [] M 0 0
  refine r_aload_n 0 dX13_groups_0 rfl rfl ?_
  refine r_aload_n 0 dX13_groups_1 rfl rfl ?_
  refine r_callVI (b' := (4, 0, 0)) (c := 100) (S := [.ref (G.1 100)]) [] dX13_groups_2 mX13_groupsOf lMX13_385 clX13 rfl iM100 sC100 rfl (by decide) (Nat.le_of_ble_eq_true rfl) h (fun r1 M1 h => ?_) rfl
  refine r_callVI (b' := (1, 0, 0)) (c := 100) (S := []) [.int r1] dX13_groups_5 mX13_ok lMX13_268 clX13 rfl iM100 sC100 rfl (by decide) (Nat.le_of_ble_eq_true rfl) h (fun r2 M2 h => ?_) rfl
  refine r_iretI dX13_groups_8 rfl (by decide) (by decide) h
set_option maxHeartbeats 4000000 in
set_option maxRecDepth 100000 in
theorem C_X13_isCell (G : eG) (M : eM) (F : Bool → eM → Prop) (a1 : Int32)
    (h : Cal G 100 40 (1, 0, 0) kX13_cells [.ref (G.1 100)] M (eFI (fun (r1 : Int32) (M1 : eM) => Cal G 100 40 (1, 0, 0) kX13_isIn [.int a1, .int 0, .int (r1 - 1)] M1 (eFZ (fun (r2 : Bool) (M2 : eM) => F r2 M2))))) :
    Cal G 100 40 (2, 0, 0) kX13_isCell [.ref (G.1 100), .int a1] M (eFZ F) := by
  refine Cal.of (by decide +kernel) rfl (Nat.le_of_ble_eq_true rfl) ?_
  show Ev (eZ G 100 40 0 0 (eFZ F)) G 100 40 (2, 0, 0) kX13_isCell 0 [(0, .ref (G.1 100)), (1, .int a1)] [] M 0 0
  refine r_iload_n 1 dX13_isCell_0 rfl rfl ?_
  refine r_iconst (v := 0) dX13_isCell_1 rfl ?_
  refine r_aload_n 0 dX13_isCell_2 rfl rfl ?_
  refine r_callVI (b' := (1, 0, 0)) (c := 100) (S := [.int 0, .int a1]) [] dX13_isCell_3 mX13_cells lMX13_307 clX13 rfl iM100 sC100 rfl (by decide) (Nat.le_of_ble_eq_true rfl) h (fun r1 M1 h => ?_) rfl
  refine r_iconst (v := 1) dX13_isCell_6 rfl ?_
  refine r_isub dX13_isCell_7 ?_
  refine r_callSZ (b' := (1, 0, 0)) (S := []) [.int a1, .int 0, .int (r1 - 1)] dX13_isCell_8 mX13_isIn lMX13_68 rfl (by decide) (Nat.le_of_ble_eq_true rfl) h (fun r2 M2 h => ?_) rfl
  refine r_iretZ dX13_isCell_11 rfl (by decide) (by decide) h
set_option maxHeartbeats 4000000 in
set_option maxRecDepth 100000 in
theorem C_X13_isTile (G : eG) (M : eM) (F : Bool → eM → Prop) (a1 : Int32)
    (h : Cal G 100 40 (1, 0, 0) kX13_isIn [.int a1, .int 0, .int ((M 107 2) - 1)] M (eFZ (fun (r1 : Bool) (M1 : eM) => F r1 M1))) :
    Cal G 100 40 (2, 0, 0) kX13_isTile [.ref (G.1 100), .int a1] M (eFZ F) := by
  refine Cal.of (by decide +kernel) rfl (Nat.le_of_ble_eq_true rfl) ?_
  show Ev (eZ G 100 40 0 0 (eFZ F)) G 100 40 (2, 0, 0) kX13_isTile 0 [(0, .ref (G.1 100)), (1, .int a1)] [] M 0 0
  refine r_iload_n 1 dX13_isTile_0 rfl rfl ?_
  refine r_iconst (v := 0) dX13_isTile_1 rfl ?_
  refine r_aload_n 0 dX13_isTile_2 rfl rfl ?_
  refine r_getR (c := 100) (k := 14) 107 dX13_isTile_3 clX13 lFX13_35 (by decide) iM100 sC100 rfl ?_
  refine r_getNI (c := 107) (k := 2) dX13_isTile_6 clX12 lFX13_150 (by decide) iM107 sC107 rfl ?_
  refine r_iconst (v := 1) dX13_isTile_9 rfl ?_
  refine r_isub dX13_isTile_10 ?_
  refine r_callSZ (b' := (1, 0, 0)) (S := []) [.int a1, .int 0, .int ((M 107 2) - 1)] dX13_isTile_11 mX13_isIn lMX13_68 rfl (by decide) (Nat.le_of_ble_eq_true rfl) h (fun r1 M1 h => ?_) rfl
  refine r_iretZ dX13_isTile_14 rfl (by decide) (by decide) h
set_option maxHeartbeats 4000000 in
set_option maxRecDepth 100000 in
theorem C_X13_isEdge (G : eG) (M : eM) (F : Bool → eM → Prop) (a1 : Int32)
    (h : Cal G 100 40 (1, 0, 0) kX13_isIn [.int a1, .int 0, .int 5] M (eFZ (fun (r1 : Bool) (M1 : eM) => F r1 M1))) :
    Cal G 100 40 (2, 0, 0) kX13_isEdge [.int a1] M (eFZ F) := by
  refine Cal.of (by decide +kernel) rfl (Nat.le_of_ble_eq_true rfl) ?_
  show Ev (eZ G 100 40 0 0 (eFZ F)) G 100 40 (2, 0, 0) kX13_isEdge 0 [(0, .int a1)] [] M 0 0
  refine r_iload_n 0 dX13_isEdge_0 rfl rfl ?_
  refine r_iconst (v := 0) dX13_isEdge_1 rfl ?_
  refine r_iconst (v := 5) dX13_isEdge_2 rfl ?_
  refine r_callSZ (b' := (1, 0, 0)) (S := []) [.int a1, .int 0, .int 5] dX13_isEdge_3 mX13_isIn lMX13_68 rfl (by decide) (Nat.le_of_ble_eq_true rfl) h (fun r1 M1 h => ?_) rfl
  refine r_iretZ dX13_isEdge_6 rfl (by decide) (by decide) h
set_option maxHeartbeats 4000000 in
set_option maxRecDepth 100000 in
theorem C_X13_hasTile (G : eG) (M : eM) (F : Bool → eM → Prop) (a1 : Int32)
    (h : Cal G 100 40 (2, 0, 0) kX13_isCell [.ref (G.1 100), .int a1] (eU M 100 0 0) (eFZ (fun (r1 : Bool) (M1 : eM) => ((r1 = false) → Cal G 100 40 (1, 0, 0) kX13_isNot [.ref (G.1 100), .int 1] M1 (eFZ (fun (r2 : Bool) (M2 : eM) => F r2 M2))) ∧ ((r1 = true) → vp_in a1 49 ∧ ((((M1 131 a1.toNatClampNeg) = (-1)) → F false M1) ∧ ((¬ (M1 131 a1.toNatClampNeg) = (-1)) → F true M1)))))) :
    Cal G 100 40 (3, 0, 0) kX13_hasTile [.ref (G.1 100), .int a1] M (eFZ F) := by
  refine Cal.of (by decide +kernel) rfl (Nat.le_of_ble_eq_true rfl) ?_
  show Ev (eZ G 100 40 0 0 (eFZ F)) G 100 40 (3, 0, 0) kX13_hasTile 0 [(0, .ref (G.1 100)), (1, .int a1)] [] M 0 0
  refine r_aload_n 0 dX13_hasTile_0 rfl rfl ?_
  refine r_iconst (v := 0) dX13_hasTile_1 rfl ?_
  refine r_putI (c := 100) (k := 0) dX13_hasTile_2 clX13 lFX13_65 (by decide) iM100 sC100 rfl rfl rfl ?_
  refine r_aload_n 0 dX13_hasTile_5 rfl rfl ?_
  refine r_iload_n 1 dX13_hasTile_6 rfl rfl ?_
  refine r_callVZ (b' := (2, 0, 0)) (c := 100) (S := []) [.int a1] dX13_hasTile_7 mX13_isCell lMX13_388 clX13 rfl iM100 sC100 rfl (by decide) (Nat.le_of_ble_eq_true rfl) h (fun r1 M1 h => ?_) rfl
  refine r_zif_eq (t := 34) dX13_hasTile_10 (by decide) (fun q => ?_) (fun q => ?_)
  · replace h := h.1 q
    refine r_aload_n 0 dX13_hasTile_34 rfl rfl ?_
    refine r_iconst (v := 1) dX13_hasTile_35 rfl ?_
    refine r_callVZ (b' := (1, 0, 0)) (c := 100) (S := []) [.int 1] dX13_hasTile_36 mX13_isNot lMX13_391 clX13 rfl iM100 sC100 rfl (by decide) (Nat.le_of_ble_eq_true rfl) h (fun r2 M2 h => ?_) rfl
    refine r_iretZ dX13_hasTile_39 rfl (by decide) (by decide) h
  · replace h := h.2 q
    refine r_aload_n 0 dX13_hasTile_13 rfl rfl ?_
    refine r_getR (c := 100) (k := 17) 130 dX13_hasTile_14 clX13 lFX13_48 (by decide) iM100 sC100 rfl ?_
    refine r_getNR (c := 130) (k := 0) 131 dX13_hasTile_17 clX11 lFX13_280 (by decide) iM130 sC130 rfl ?_
    refine r_iload_n 1 dX13_hasTile_20 rfl rfl ?_
    have h1 := h.1
    replace h := h.2
    refine r_iald (c := 131) (N := 49) dX13_hasTile_21 iM131 sC131 h1 ?_
    refine r_iconst (v := (-1)) dX13_hasTile_22 rfl ?_
    refine r_icmp_eq (t := 30) dX13_hasTile_23 (by decide) (fun q => ?_) (fun q => ?_)
    · replace h := h.1 q
      refine r_iconst (v := 0) dX13_hasTile_30 rfl ?_
      refine r_goto (t := 39) dX13_hasTile_31 (by decide) ?_
      refine r_iretZ0 dX13_hasTile_39 rfl (by decide) (by decide) h
    · replace h := h.2 q
      refine r_iconst (v := 1) dX13_hasTile_26 rfl ?_
      refine r_goto (t := 39) dX13_hasTile_27 (by decide) ?_
      refine r_iretZ1 dX13_hasTile_39 rfl (by decide) (by decide) h
set_option maxHeartbeats 4000000 in
set_option maxRecDepth 100000 in
theorem C_X13_tileAt (G : eG) (M : eM) (F : Int32 → eM → Prop) (a1 : Int32)
    (h : Cal G 100 40 (2, 0, 0) kX13_isCell [.ref (G.1 100), .int a1] (eU M 100 0 0) (eFZ (fun (r1 : Bool) (M1 : eM) => ((r1 = true) → vp_in a1 49 ∧ (((¬ (M1 131 a1.toNatClampNeg) = (-1)) → vp_in a1 49 ∧ (F (M1 131 a1.toNatClampNeg) M1)) ∧ (((M1 131 a1.toNatClampNeg) = (-1)) → Cal G 100 40 (1, 0, 0) kX13_no [.ref (G.1 100), .int 2] M1 (eFI (fun (r2 : Int32) (M2 : eM) => F r2 M2))))) ∧ ((r1 = false) → Cal G 100 40 (1, 0, 0) kX13_no [.ref (G.1 100), .int 1] M1 (eFI (fun (r3 : Int32) (M3 : eM) => F r3 M3)))))) :
    Cal G 100 40 (3, 0, 0) kX13_tileAt [.ref (G.1 100), .int a1] M (eFI F) := by
  refine Cal.of (by decide +kernel) rfl (Nat.le_of_ble_eq_true rfl) ?_
  show Ev (eZ G 100 40 0 0 (eFI F)) G 100 40 (3, 0, 0) kX13_tileAt 0 [(0, .ref (G.1 100)), (1, .int a1)] [] M 0 0
  refine r_aload_n 0 dX13_tileAt_0 rfl rfl ?_
  refine r_iconst (v := 0) dX13_tileAt_1 rfl ?_
  refine r_putI (c := 100) (k := 0) dX13_tileAt_2 clX13 lFX13_65 (by decide) iM100 sC100 rfl rfl rfl ?_
  refine r_aload_n 0 dX13_tileAt_5 rfl rfl ?_
  refine r_iload_n 1 dX13_tileAt_6 rfl rfl ?_
  refine r_callVZ (b' := (2, 0, 0)) (c := 100) (S := []) [.int a1] dX13_tileAt_7 mX13_isCell lMX13_388 clX13 rfl iM100 sC100 rfl (by decide) (Nat.le_of_ble_eq_true rfl) h (fun r1 M1 h => ?_) rfl
  refine r_zif_ne (t := 19) dX13_tileAt_10 (by decide) (fun q => ?_) (fun q => ?_)
  · replace h := h.1 q
    refine r_aload_n 0 dX13_tileAt_19 rfl rfl ?_
    refine r_getR (c := 100) (k := 17) 130 dX13_tileAt_20 clX13 lFX13_48 (by decide) iM100 sC100 rfl ?_
    refine r_getNR (c := 130) (k := 0) 131 dX13_tileAt_23 clX11 lFX13_280 (by decide) iM130 sC130 rfl ?_
    refine r_iload_n 1 dX13_tileAt_26 rfl rfl ?_
    have h1 := h.1
    replace h := h.2
    refine r_iald (c := 131) (N := 49) dX13_tileAt_27 iM131 sC131 h1 ?_
    refine r_iconst (v := (-1)) dX13_tileAt_28 rfl ?_
    refine r_icmp_ne (t := 40) dX13_tileAt_29 (by decide) (fun q => ?_) (fun q => ?_)
    · replace h := h.1 q
      refine r_aload_n 0 dX13_tileAt_40 rfl rfl ?_
      refine r_getR (c := 100) (k := 17) 130 dX13_tileAt_41 clX13 lFX13_48 (by decide) iM100 sC100 rfl ?_
      refine r_getNR (c := 130) (k := 0) 131 dX13_tileAt_44 clX11 lFX13_280 (by decide) iM130 sC130 rfl ?_
      refine r_iload_n 1 dX13_tileAt_47 rfl rfl ?_
      have h1 := h.1
      replace h := h.2
      refine r_iald (c := 131) (N := 49) dX13_tileAt_48 iM131 sC131 h1 ?_
      refine r_iretI dX13_tileAt_49 rfl (by decide) (by decide) h
    · replace h := h.2 q
      refine r_aload_n 0 dX13_tileAt_32 rfl rfl ?_
      refine r_iconst (v := 2) dX13_tileAt_33 rfl ?_
      refine r_callVI (b' := (1, 0, 0)) (c := 100) (S := []) [.int 2] dX13_tileAt_34 mX13_no lMX13_254 clX13 rfl iM100 sC100 rfl (by decide) (Nat.le_of_ble_eq_true rfl) h (fun r2 M2 h => ?_) rfl
      refine r_goto (t := 49) dX13_tileAt_37 (by decide) ?_
      refine r_iretI dX13_tileAt_49 rfl (by decide) (by decide) h
  · replace h := h.2 q
    refine r_aload_n 0 dX13_tileAt_13 rfl rfl ?_
    refine r_iconst (v := 1) dX13_tileAt_14 rfl ?_
    refine r_callVI (b' := (1, 0, 0)) (c := 100) (S := []) [.int 1] dX13_tileAt_15 mX13_no lMX13_254 clX13 rfl iM100 sC100 rfl (by decide) (Nat.le_of_ble_eq_true rfl) h (fun r3 M3 h => ?_) rfl
    refine r_iretI dX13_tileAt_18 rfl (by decide) (by decide) h
set_option maxHeartbeats 4000000 in
set_option maxRecDepth 100000 in
theorem C_X13_numberAt_ (G : eG) (M : eM) (F : Int32 → eM → Prop) (a1 : Int32) (a2 : Int32)
    (h : Cal G 100 40 (2, 0, 0) kX13_isCell [.ref (G.1 100), .int a1] (eU M 100 0 0) (eFZ (fun (r1 : Bool) (M1 : eM) => ((r1 = false) → Cal G 100 40 (1, 0, 0) kX13_no [.ref (G.1 100), .int 1] M1 (eFI (fun (r2 : Int32) (M2 : eM) => F r2 M2))) ∧ ((r1 = true) → Cal G 100 40 (2, 0, 0) kX13_isEdge [.int a2] M1 (eFZ (fun (r3 : Bool) (M3 : eM) => ((r3 = true) → vp_in a1 49 ∧ (((¬ (M3 131 a1.toNatClampNeg) = (-1)) → Cal G 100 40 (2, 0, 0) kX13_numberAt [.ref (G.1 100), .ref (G.1 130), .int a1, .int a2] M3 (eFI (fun (r4 : Int32) (M4 : eM) => F r4 M4))) ∧ (((M3 131 a1.toNatClampNeg) = (-1)) → Cal G 100 40 (1, 0, 0) kX13_no [.ref (G.1 100), .int 2] M3 (eFI (fun (r5 : Int32) (M5 : eM) => F r5 M5))))) ∧ ((r3 = false) → Cal G 100 40 (1, 0, 0) kX13_no [.ref (G.1 100), .int 1] M3 (eFI (fun (r6 : Int32) (M6 : eM) => F r6 M6))))))))) :
    Cal G 100 40 (3, 0, 0) kX13_numberAt_ [.ref (G.1 100), .int a1, .int a2] M (eFI F) := by
  refine Cal.of (by decide +kernel) rfl (Nat.le_of_ble_eq_true rfl) ?_
  show Ev (eZ G 100 40 0 0 (eFI F)) G 100 40 (3, 0, 0) kX13_numberAt_ 0 [(0, .ref (G.1 100)), (1, .int a1), (2, .int a2)] [] M 0 0
  refine r_aload_n 0 dX13_numberAt__0 rfl rfl ?_
  refine r_iconst (v := 0) dX13_numberAt__1 rfl ?_
  refine r_putI (c := 100) (k := 0) dX13_numberAt__2 clX13 lFX13_65 (by decide) iM100 sC100 rfl rfl rfl ?_
  refine r_aload_n 0 dX13_numberAt__5 rfl rfl ?_
  refine r_iload_n 1 dX13_numberAt__6 rfl rfl ?_
  refine r_callVZ (b' := (2, 0, 0)) (c := 100) (S := []) [.int a1] dX13_numberAt__7 mX13_isCell lMX13_388 clX13 rfl iM100 sC100 rfl (by decide) (Nat.le_of_ble_eq_true rfl) h (fun r1 M1 h => ?_) rfl
  refine r_zif_eq (t := 20) dX13_numberAt__10 (by decide) (fun q => ?_) (fun q => ?_)
  · replace h := h.1 q
    refine r_aload_n 0 dX13_numberAt__20 rfl rfl ?_
    refine r_iconst (v := 1) dX13_numberAt__21 rfl ?_
    refine r_callVI (b' := (1, 0, 0)) (c := 100) (S := []) [.int 1] dX13_numberAt__22 mX13_no lMX13_254 clX13 rfl iM100 sC100 rfl (by decide) (Nat.le_of_ble_eq_true rfl) h (fun r2 M2 h => ?_) rfl
    refine r_iretI dX13_numberAt__25 rfl (by decide) (by decide) h
  · replace h := h.2 q
    refine r_iload_n 2 dX13_numberAt__13 rfl rfl ?_
    refine r_callSZ (b' := (2, 0, 0)) (S := []) [.int a2] dX13_numberAt__14 mX13_isEdge lMX13_394 rfl (by decide) (Nat.le_of_ble_eq_true rfl) h (fun r3 M3 h => ?_) rfl
    refine r_zif_ne (t := 26) dX13_numberAt__17 (by decide) (fun q => ?_) (fun q => ?_)
    · replace h := h.1 q
      refine r_aload_n 0 dX13_numberAt__26 rfl rfl ?_
      refine r_getR (c := 100) (k := 17) 130 dX13_numberAt__27 clX13 lFX13_48 (by decide) iM100 sC100 rfl ?_
      refine r_getNR (c := 130) (k := 0) 131 dX13_numberAt__30 clX11 lFX13_280 (by decide) iM130 sC130 rfl ?_
      refine r_iload_n 1 dX13_numberAt__33 rfl rfl ?_
      have h1 := h.1
      replace h := h.2
      refine r_iald (c := 131) (N := 49) dX13_numberAt__34 iM131 sC131 h1 ?_
      refine r_iconst (v := (-1)) dX13_numberAt__35 rfl ?_
      refine r_icmp_ne (t := 47) dX13_numberAt__36 (by decide) (fun q => ?_) (fun q => ?_)
      · replace h := h.1 q
        refine r_aload_n 0 dX13_numberAt__47 rfl rfl ?_
        refine r_aload_n 0 dX13_numberAt__48 rfl rfl ?_
        refine r_getR (c := 100) (k := 17) 130 dX13_numberAt__49 clX13 lFX13_48 (by decide) iM100 sC100 rfl ?_
        refine r_iload_n 1 dX13_numberAt__52 rfl rfl ?_
        refine r_iload_n 2 dX13_numberAt__53 rfl rfl ?_
        refine r_callVI (b' := (2, 0, 0)) (c := 100) (S := []) [.ref (G.1 130), .int a1, .int a2] dX13_numberAt__54 mX13_numberAt lMX13_318 clX13 rfl iM100 sC100 rfl (by decide) (Nat.le_of_ble_eq_true rfl) h (fun r4 M4 h => ?_) rfl
        refine r_iretI dX13_numberAt__57 rfl (by decide) (by decide) h
      · replace h := h.2 q
        refine r_aload_n 0 dX13_numberAt__39 rfl rfl ?_
        refine r_iconst (v := 2) dX13_numberAt__40 rfl ?_
        refine r_callVI (b' := (1, 0, 0)) (c := 100) (S := []) [.int 2] dX13_numberAt__41 mX13_no lMX13_254 clX13 rfl iM100 sC100 rfl (by decide) (Nat.le_of_ble_eq_true rfl) h (fun r5 M5 h => ?_) rfl
        refine r_goto (t := 57) dX13_numberAt__44 (by decide) ?_
        refine r_iretI dX13_numberAt__57 rfl (by decide) (by decide) h
    · replace h := h.2 q
      refine r_aload_n 0 dX13_numberAt__20 rfl rfl ?_
      refine r_iconst (v := 1) dX13_numberAt__21 rfl ?_
      refine r_callVI (b' := (1, 0, 0)) (c := 100) (S := []) [.int 1] dX13_numberAt__22 mX13_no lMX13_254 clX13 rfl iM100 sC100 rfl (by decide) (Nat.le_of_ble_eq_true rfl) h (fun r6 M6 h => ?_) rfl
      refine r_iretI dX13_numberAt__25 rfl (by decide) (by decide) h
set_option maxHeartbeats 4000000 in
set_option maxRecDepth 100000 in
theorem C_X13_matchesAt (G : eG) (M : eM) (F : Int32 → eM → Prop) (a1 : Int32)
    (h : vp_in a1 49 ∧ (((¬ (M 131 a1.toNatClampNeg) = (-1)) → Cal G 100 40 (4, 0, 0) kX13_tilesBeside [.ref (G.1 100), .ref (G.1 130), .int a1] M (eFI (fun (r1 : Int32) (M1 : eM) => F r1 M1))) ∧ (((M 131 a1.toNatClampNeg) = (-1)) → F 0 M))) :
    Cal G 100 40 (5, 0, 0) kX13_matchesAt [.ref (G.1 100), .int a1] M (eFI F) := by
  refine Cal.of (by decide +kernel) rfl (Nat.le_of_ble_eq_true rfl) ?_
  show Ev (eZ G 100 40 0 0 (eFI F)) G 100 40 (5, 0, 0) kX13_matchesAt 0 [(0, .ref (G.1 100)), (1, .int a1)] [] M 0 0
  refine r_aload_n 0 dX13_matchesAt_0 rfl rfl ?_
  refine r_getR (c := 100) (k := 17) 130 dX13_matchesAt_1 clX13 lFX13_48 (by decide) iM100 sC100 rfl ?_
  refine r_getNR (c := 130) (k := 0) 131 dX13_matchesAt_4 clX11 lFX13_280 (by decide) iM130 sC130 rfl ?_
  refine r_iload_n 1 dX13_matchesAt_7 rfl rfl ?_
  have h1 := h.1
  replace h := h.2
  refine r_iald (c := 131) (N := 49) dX13_matchesAt_8 iM131 sC131 h1 ?_
  refine r_iconst (v := (-1)) dX13_matchesAt_9 rfl ?_
  refine r_icmp_ne (t := 17) dX13_matchesAt_10 (by decide) (fun q => ?_) (fun q => ?_)
  · replace h := h.1 q
    refine r_aload_n 0 dX13_matchesAt_17 rfl rfl ?_
    refine r_aload_n 0 dX13_matchesAt_18 rfl rfl ?_
    refine r_getR (c := 100) (k := 17) 130 dX13_matchesAt_19 clX13 lFX13_48 (by decide) iM100 sC100 rfl ?_
    refine r_iload_n 1 dX13_matchesAt_22 rfl rfl ?_
    refine r_callVI (b' := (4, 0, 0)) (c := 100) (S := []) [.ref (G.1 130), .int a1] dX13_matchesAt_23 mX13_tilesBeside lMX13_299 clX13 rfl iM100 sC100 rfl (by decide) (Nat.le_of_ble_eq_true rfl) h (fun r1 M1 h => ?_) rfl
    refine r_iretI dX13_matchesAt_26 rfl (by decide) (by decide) h
  · replace h := h.2 q
    refine r_iconst (v := 0) dX13_matchesAt_13 rfl ?_
    refine r_goto (t := 26) dX13_matchesAt_14 (by decide) ?_
    refine r_iretI dX13_matchesAt_26 rfl (by decide) (by decide) h
set_option maxHeartbeats 4000000 in
set_option maxRecDepth 100000 in
theorem C_X13_matchesOf (G : eG) (M : eM) (F : Int32 → eM → Prop) (a1 : Int32)
    (h : Cal G 100 40 (2, 0, 0) kX13_isCell [.ref (G.1 100), .int a1] (eU M 100 0 0) (eFZ (fun (r1 : Bool) (M1 : eM) => ((r1 = false) → Cal G 100 40 (1, 0, 0) kX13_no [.ref (G.1 100), .int 1] M1 (eFI (fun (r2 : Int32) (M2 : eM) => F r2 M2))) ∧ ((r1 = true) → Cal G 100 40 (5, 0, 0) kX13_matchesAt [.ref (G.1 100), .int a1] M1 (eFI (fun (r3 : Int32) (M3 : eM) => F r3 M3)))))) :
    Cal G 100 40 (6, 0, 0) kX13_matchesOf [.ref (G.1 100), .int a1] M (eFI F) := by
  refine Cal.of (by decide +kernel) rfl (Nat.le_of_ble_eq_true rfl) ?_
  show Ev (eZ G 100 40 0 0 (eFI F)) G 100 40 (6, 0, 0) kX13_matchesOf 0 [(0, .ref (G.1 100)), (1, .int a1)] [] M 0 0
  refine r_aload_n 0 dX13_matchesOf_0 rfl rfl ?_
  refine r_iconst (v := 0) dX13_matchesOf_1 rfl ?_
  refine r_putI (c := 100) (k := 0) dX13_matchesOf_2 clX13 lFX13_65 (by decide) iM100 sC100 rfl rfl rfl ?_
  refine r_aload_n 0 dX13_matchesOf_5 rfl rfl ?_
  refine r_iload_n 1 dX13_matchesOf_6 rfl rfl ?_
  refine r_callVZ (b' := (2, 0, 0)) (c := 100) (S := []) [.int a1] dX13_matchesOf_7 mX13_isCell lMX13_388 clX13 rfl iM100 sC100 rfl (by decide) (Nat.le_of_ble_eq_true rfl) h (fun r1 M1 h => ?_) rfl
  refine r_zif_eq (t := 21) dX13_matchesOf_10 (by decide) (fun q => ?_) (fun q => ?_)
  · replace h := h.1 q
    refine r_aload_n 0 dX13_matchesOf_21 rfl rfl ?_
    refine r_iconst (v := 1) dX13_matchesOf_22 rfl ?_
    refine r_callVI (b' := (1, 0, 0)) (c := 100) (S := []) [.int 1] dX13_matchesOf_23 mX13_no lMX13_254 clX13 rfl iM100 sC100 rfl (by decide) (Nat.le_of_ble_eq_true rfl) h (fun r2 M2 h => ?_) rfl
    refine r_iretI dX13_matchesOf_26 rfl (by decide) (by decide) h
  · replace h := h.2 q
    refine r_aload_n 0 dX13_matchesOf_13 rfl rfl ?_
    refine r_iload_n 1 dX13_matchesOf_14 rfl rfl ?_
    refine r_callVI (b' := (5, 0, 0)) (c := 100) (S := []) [.int a1] dX13_matchesOf_15 mX13_matchesAt lMX13_397 clX13 rfl iM100 sC100 rfl (by decide) (Nat.le_of_ble_eq_true rfl) h (fun r3 M3 h => ?_) rfl
    refine r_goto (t := 26) dX13_matchesOf_18 (by decide) ?_
    refine r_iretI dX13_matchesOf_26 rfl (by decide) (by decide) h
set_option maxHeartbeats 4000000 in
set_option maxRecDepth 100000 in
theorem C_X13_isRing (G : eG) (M : eM) (F : Bool → eM → Prop) (a1 : Int32)
    (h : Cal G 100 40 (2, 0, 0) kX13_isCell [.ref (G.1 100), .int a1] (eU M 100 0 0) (eFZ (fun (r1 : Bool) (M1 : eM) => ((r1 = false) → Cal G 100 40 (1, 0, 0) kX13_isNot [.ref (G.1 100), .int 1] M1 (eFZ (fun (r2 : Bool) (M2 : eM) => F r2 M2))) ∧ ((r1 = true) → Cal G 100 40 (5, 0, 0) kX13_ring [.ref (G.1 100), .ref (G.1 130), .int a1] M1 (eFZ (fun (r3 : Bool) (M3 : eM) => F r3 M3)))))) :
    Cal G 100 40 (6, 0, 0) kX13_isRing [.ref (G.1 100), .int a1] M (eFZ F) := by
  refine Cal.of (by decide +kernel) rfl (Nat.le_of_ble_eq_true rfl) ?_
  show Ev (eZ G 100 40 0 0 (eFZ F)) G 100 40 (6, 0, 0) kX13_isRing 0 [(0, .ref (G.1 100)), (1, .int a1)] [] M 0 0
  refine r_aload_n 0 dX13_isRing_0 rfl rfl ?_
  refine r_iconst (v := 0) dX13_isRing_1 rfl ?_
  refine r_putI (c := 100) (k := 0) dX13_isRing_2 clX13 lFX13_65 (by decide) iM100 sC100 rfl rfl rfl ?_
  refine r_aload_n 0 dX13_isRing_5 rfl rfl ?_
  refine r_iload_n 1 dX13_isRing_6 rfl rfl ?_
  refine r_callVZ (b' := (2, 0, 0)) (c := 100) (S := []) [.int a1] dX13_isRing_7 mX13_isCell lMX13_388 clX13 rfl iM100 sC100 rfl (by decide) (Nat.le_of_ble_eq_true rfl) h (fun r1 M1 h => ?_) rfl
  refine r_zif_eq (t := 25) dX13_isRing_10 (by decide) (fun q => ?_) (fun q => ?_)
  · replace h := h.1 q
    refine r_aload_n 0 dX13_isRing_25 rfl rfl ?_
    refine r_iconst (v := 1) dX13_isRing_26 rfl ?_
    refine r_callVZ (b' := (1, 0, 0)) (c := 100) (S := []) [.int 1] dX13_isRing_27 mX13_isNot lMX13_391 clX13 rfl iM100 sC100 rfl (by decide) (Nat.le_of_ble_eq_true rfl) h (fun r2 M2 h => ?_) rfl
    refine r_iretZ dX13_isRing_30 rfl (by decide) (by decide) h
  · replace h := h.2 q
    refine r_aload_n 0 dX13_isRing_13 rfl rfl ?_
    refine r_aload_n 0 dX13_isRing_14 rfl rfl ?_
    refine r_getR (c := 100) (k := 17) 130 dX13_isRing_15 clX13 lFX13_48 (by decide) iM100 sC100 rfl ?_
    refine r_iload_n 1 dX13_isRing_18 rfl rfl ?_
    refine r_callVZ (b' := (5, 0, 0)) (c := 100) (S := []) [.ref (G.1 130), .int a1] dX13_isRing_19 mX13_ring lMX13_314 clX13 rfl iM100 sC100 rfl (by decide) (Nat.le_of_ble_eq_true rfl) h (fun r3 M3 h => ?_) rfl
    refine r_goto (t := 30) dX13_isRing_22 (by decide) ?_
    refine r_iretZ dX13_isRing_30 rfl (by decide) (by decide) h
set_option maxHeartbeats 4000000 in
set_option maxRecDepth 100000 in
theorem C_X13_isPlaced (G : eG) (M : eM) (F : Bool → eM → Prop) (a1 : Int32)
    (h : Cal G 100 40 (2, 0, 0) kX13_isTile [.ref (G.1 100), .int a1] (eU M 100 0 0) (eFZ (fun (r1 : Bool) (M1 : eM) => ((r1 = false) → Cal G 100 40 (1, 0, 0) kX13_isNot [.ref (G.1 100), .int 1] M1 (eFZ (fun (r2 : Bool) (M2 : eM) => F r2 M2))) ∧ ((r1 = true) → vp_in a1 16 ∧ ((((M1 132 a1.toNatClampNeg) = (-1)) → F false M1) ∧ ((¬ (M1 132 a1.toNatClampNeg) = (-1)) → F true M1)))))) :
    Cal G 100 40 (3, 0, 0) kX13_isPlaced [.ref (G.1 100), .int a1] M (eFZ F) := by
  refine Cal.of (by decide +kernel) rfl (Nat.le_of_ble_eq_true rfl) ?_
  show Ev (eZ G 100 40 0 0 (eFZ F)) G 100 40 (3, 0, 0) kX13_isPlaced 0 [(0, .ref (G.1 100)), (1, .int a1)] [] M 0 0
  refine r_aload_n 0 dX13_isPlaced_0 rfl rfl ?_
  refine r_iconst (v := 0) dX13_isPlaced_1 rfl ?_
  refine r_putI (c := 100) (k := 0) dX13_isPlaced_2 clX13 lFX13_65 (by decide) iM100 sC100 rfl rfl rfl ?_
  refine r_aload_n 0 dX13_isPlaced_5 rfl rfl ?_
  refine r_iload_n 1 dX13_isPlaced_6 rfl rfl ?_
  refine r_callVZ (b' := (2, 0, 0)) (c := 100) (S := []) [.int a1] dX13_isPlaced_7 mX13_isTile lMX13_400 clX13 rfl iM100 sC100 rfl (by decide) (Nat.le_of_ble_eq_true rfl) h (fun r1 M1 h => ?_) rfl
  refine r_zif_eq (t := 34) dX13_isPlaced_10 (by decide) (fun q => ?_) (fun q => ?_)
  · replace h := h.1 q
    refine r_aload_n 0 dX13_isPlaced_34 rfl rfl ?_
    refine r_iconst (v := 1) dX13_isPlaced_35 rfl ?_
    refine r_callVZ (b' := (1, 0, 0)) (c := 100) (S := []) [.int 1] dX13_isPlaced_36 mX13_isNot lMX13_391 clX13 rfl iM100 sC100 rfl (by decide) (Nat.le_of_ble_eq_true rfl) h (fun r2 M2 h => ?_) rfl
    refine r_iretZ dX13_isPlaced_39 rfl (by decide) (by decide) h
  · replace h := h.2 q
    refine r_aload_n 0 dX13_isPlaced_13 rfl rfl ?_
    refine r_getR (c := 100) (k := 17) 130 dX13_isPlaced_14 clX13 lFX13_48 (by decide) iM100 sC100 rfl ?_
    refine r_getNR (c := 130) (k := 1) 132 dX13_isPlaced_17 clX11 lFX13_293 (by decide) iM130 sC130 rfl ?_
    refine r_iload_n 1 dX13_isPlaced_20 rfl rfl ?_
    have h1 := h.1
    replace h := h.2
    refine r_iald (c := 132) (N := 16) dX13_isPlaced_21 iM132 sC132 h1 ?_
    refine r_iconst (v := (-1)) dX13_isPlaced_22 rfl ?_
    refine r_icmp_eq (t := 30) dX13_isPlaced_23 (by decide) (fun q => ?_) (fun q => ?_)
    · replace h := h.1 q
      refine r_iconst (v := 0) dX13_isPlaced_30 rfl ?_
      refine r_goto (t := 39) dX13_isPlaced_31 (by decide) ?_
      refine r_iretZ0 dX13_isPlaced_39 rfl (by decide) (by decide) h
    · replace h := h.2 q
      refine r_iconst (v := 1) dX13_isPlaced_26 rfl ?_
      refine r_goto (t := 39) dX13_isPlaced_27 (by decide) ?_
      refine r_iretZ1 dX13_isPlaced_39 rfl (by decide) (by decide) h
set_option maxHeartbeats 4000000 in
set_option maxRecDepth 100000 in
theorem C_X13_lies (G : eG) (M : eM) (F : Bool → eM → Prop) (a1 : Int32)
    (h : Cal G 100 40 (2, 0, 0) kX13_isTile [.ref (G.1 100), .int a1] M (eFZ (fun (r1 : Bool) (M1 : eM) => ((r1 = true) → vp_in a1 16 ∧ (((¬ (M1 132 a1.toNatClampNeg) = (-1)) → ((¬ ((eU M1 100 0 0) 100 0) = 0) → F false (eU M1 100 0 0)) ∧ ((((eU M1 100 0 0) 100 0) = 0) → F true (eU M1 100 0 0))) ∧ (((M1 132 a1.toNatClampNeg) = (-1)) → ((¬ ((eU M1 100 0 2) 100 0) = 0) → F false (eU M1 100 0 2)) ∧ ((((eU M1 100 0 2) 100 0) = 0) → F true (eU M1 100 0 2))))) ∧ ((r1 = false) → ((¬ ((eU M1 100 0 1) 100 0) = 0) → F false (eU M1 100 0 1)) ∧ ((((eU M1 100 0 1) 100 0) = 0) → F true (eU M1 100 0 1)))))) :
    Cal G 100 40 (3, 0, 0) kX13_lies [.ref (G.1 100), .int a1] M (eFZ F) := by
  refine Cal.of (by decide +kernel) rfl (Nat.le_of_ble_eq_true rfl) ?_
  show Ev (eZ G 100 40 0 0 (eFZ F)) G 100 40 (3, 0, 0) kX13_lies 0 [(0, .ref (G.1 100)), (1, .int a1)] [] M 0 0
  refine r_aload_n 0 dX13_lies_0 rfl rfl ?_
  refine r_aload_n 0 dX13_lies_1 rfl rfl ?_
  refine r_iload_n 1 dX13_lies_2 rfl rfl ?_
  refine r_callVZ (b' := (2, 0, 0)) (c := 100) (S := [.ref (G.1 100)]) [.int a1] dX13_lies_3 mX13_isTile lMX13_400 clX13 rfl iM100 sC100 rfl (by decide) (Nat.le_of_ble_eq_true rfl) h (fun r1 M1 h => ?_) rfl
  refine r_zif_ne (t := 13) dX13_lies_6 (by decide) (fun q => ?_) (fun q => ?_)
  · replace h := h.1 q
    refine r_aload_n 0 dX13_lies_13 rfl rfl ?_
    refine r_getR (c := 100) (k := 17) 130 dX13_lies_14 clX13 lFX13_48 (by decide) iM100 sC100 rfl ?_
    refine r_getNR (c := 130) (k := 1) 132 dX13_lies_17 clX11 lFX13_293 (by decide) iM130 sC130 rfl ?_
    refine r_iload_n 1 dX13_lies_20 rfl rfl ?_
    have h1 := h.1
    replace h := h.2
    refine r_iald (c := 132) (N := 16) dX13_lies_21 iM132 sC132 h1 ?_
    refine r_iconst (v := (-1)) dX13_lies_22 rfl ?_
    refine r_icmp_ne (t := 30) dX13_lies_23 (by decide) (fun q => ?_) (fun q => ?_)
    · replace h := h.1 q
      refine r_iconst (v := 0) dX13_lies_30 rfl ?_
      refine r_putI (c := 100) (k := 0) dX13_lies_31 clX13 lFX13_65 (by decide) iM100 sC100 rfl rfl rfl ?_
      refine r_aload_n 0 dX13_lies_34 rfl rfl ?_
      refine r_getI (c := 100) (k := 0) dX13_lies_35 clX13 lFX13_65 (by decide) iM100 sC100 rfl ?_
      refine r_if_ne (t := 45) dX13_lies_38 (by decide) (fun q => ?_) (fun q => ?_)
      · replace h := h.1 q
        refine r_iconst (v := 0) dX13_lies_45 rfl ?_
        refine r_iretZ0 dX13_lies_46 rfl (by decide) (by decide) h
      · replace h := h.2 q
        refine r_iconst (v := 1) dX13_lies_41 rfl ?_
        refine r_goto (t := 46) dX13_lies_42 (by decide) ?_
        refine r_iretZ1 dX13_lies_46 rfl (by decide) (by decide) h
    · replace h := h.2 q
      refine r_iconst (v := 2) dX13_lies_26 rfl ?_
      refine r_goto (t := 31) dX13_lies_27 (by decide) ?_
      refine r_putI (c := 100) (k := 0) dX13_lies_31 clX13 lFX13_65 (by decide) iM100 sC100 rfl rfl rfl ?_
      refine r_aload_n 0 dX13_lies_34 rfl rfl ?_
      refine r_getI (c := 100) (k := 0) dX13_lies_35 clX13 lFX13_65 (by decide) iM100 sC100 rfl ?_
      refine r_if_ne (t := 45) dX13_lies_38 (by decide) (fun q => ?_) (fun q => ?_)
      · replace h := h.1 q
        refine r_iconst (v := 0) dX13_lies_45 rfl ?_
        refine r_iretZ0 dX13_lies_46 rfl (by decide) (by decide) h
      · replace h := h.2 q
        refine r_iconst (v := 1) dX13_lies_41 rfl ?_
        refine r_goto (t := 46) dX13_lies_42 (by decide) ?_
        refine r_iretZ1 dX13_lies_46 rfl (by decide) (by decide) h
  · replace h := h.2 q
    refine r_iconst (v := 1) dX13_lies_9 rfl ?_
    refine r_goto (t := 31) dX13_lies_10 (by decide) ?_
    refine r_putI (c := 100) (k := 0) dX13_lies_31 clX13 lFX13_65 (by decide) iM100 sC100 rfl rfl rfl ?_
    refine r_aload_n 0 dX13_lies_34 rfl rfl ?_
    refine r_getI (c := 100) (k := 0) dX13_lies_35 clX13 lFX13_65 (by decide) iM100 sC100 rfl ?_
    refine r_if_ne (t := 45) dX13_lies_38 (by decide) (fun q => ?_) (fun q => ?_)
    · replace h := h.1 q
      refine r_iconst (v := 0) dX13_lies_45 rfl ?_
      refine r_iretZ0 dX13_lies_46 rfl (by decide) (by decide) h
    · replace h := h.2 q
      refine r_iconst (v := 1) dX13_lies_41 rfl ?_
      refine r_goto (t := 46) dX13_lies_42 (by decide) ?_
      refine r_iretZ1 dX13_lies_46 rfl (by decide) (by decide) h
set_option maxHeartbeats 4000000 in
set_option maxRecDepth 100000 in
theorem C_X13_cellOf (G : eG) (M : eM) (F : Int32 → eM → Prop) (a1 : Int32)
    (h : Cal G 100 40 (3, 0, 0) kX13_lies [.ref (G.1 100), .int a1] M (eFZ (fun (r1 : Bool) (M1 : eM) => ((r1 = false) → F 0 M1) ∧ ((r1 = true) → vp_in a1 16 ∧ (F (M1 132 a1.toNatClampNeg) M1))))) :
    Cal G 100 40 (4, 0, 0) kX13_cellOf [.ref (G.1 100), .int a1] M (eFI F) := by
  refine Cal.of (by decide +kernel) rfl (Nat.le_of_ble_eq_true rfl) ?_
  show Ev (eZ G 100 40 0 0 (eFI F)) G 100 40 (4, 0, 0) kX13_cellOf 0 [(0, .ref (G.1 100)), (1, .int a1)] [] M 0 0
  refine r_aload_n 0 dX13_cellOf_0 rfl rfl ?_
  refine r_iload_n 1 dX13_cellOf_1 rfl rfl ?_
  refine r_callVZ (b' := (3, 0, 0)) (c := 100) (S := []) [.int a1] dX13_cellOf_2 mX13_lies lMX13_403 clX13 rfl iM100 sC100 rfl (by decide) (Nat.le_of_ble_eq_true rfl) h (fun r1 M1 h => ?_) rfl
  refine r_zif_eq (t := 20) dX13_cellOf_5 (by decide) (fun q => ?_) (fun q => ?_)
  · replace h := h.1 q
    refine r_iconst (v := 0) dX13_cellOf_20 rfl ?_
    refine r_iretI dX13_cellOf_21 rfl (by decide) (by decide) h
  · replace h := h.2 q
    refine r_aload_n 0 dX13_cellOf_8 rfl rfl ?_
    refine r_getR (c := 100) (k := 17) 130 dX13_cellOf_9 clX13 lFX13_48 (by decide) iM100 sC100 rfl ?_
    refine r_getNR (c := 130) (k := 1) 132 dX13_cellOf_12 clX11 lFX13_293 (by decide) iM130 sC130 rfl ?_
    refine r_iload_n 1 dX13_cellOf_15 rfl rfl ?_
    have h1 := h.1
    replace h := h.2
    refine r_iald (c := 132) (N := 16) dX13_cellOf_16 iM132 sC132 h1 ?_
    refine r_goto (t := 21) dX13_cellOf_17 (by decide) ?_
    refine r_iretI dX13_cellOf_21 rfl (by decide) (by decide) h
set_option maxHeartbeats 4000000 in
set_option maxRecDepth 100000 in
theorem C_X13_turnOf (G : eG) (M : eM) (F : Int32 → eM → Prop) (a1 : Int32)
    (h : Cal G 100 40 (3, 0, 0) kX13_lies [.ref (G.1 100), .int a1] M (eFZ (fun (r1 : Bool) (M1 : eM) => ((r1 = false) → F 0 M1) ∧ ((r1 = true) → vp_in a1 16 ∧ (F (M1 133 a1.toNatClampNeg) M1))))) :
    Cal G 100 40 (4, 0, 0) kX13_turnOf [.ref (G.1 100), .int a1] M (eFI F) := by
  refine Cal.of (by decide +kernel) rfl (Nat.le_of_ble_eq_true rfl) ?_
  show Ev (eZ G 100 40 0 0 (eFI F)) G 100 40 (4, 0, 0) kX13_turnOf 0 [(0, .ref (G.1 100)), (1, .int a1)] [] M 0 0
  refine r_aload_n 0 dX13_turnOf_0 rfl rfl ?_
  refine r_iload_n 1 dX13_turnOf_1 rfl rfl ?_
  refine r_callVZ (b' := (3, 0, 0)) (c := 100) (S := []) [.int a1] dX13_turnOf_2 mX13_lies lMX13_403 clX13 rfl iM100 sC100 rfl (by decide) (Nat.le_of_ble_eq_true rfl) h (fun r1 M1 h => ?_) rfl
  refine r_zif_eq (t := 20) dX13_turnOf_5 (by decide) (fun q => ?_) (fun q => ?_)
  · replace h := h.1 q
    refine r_iconst (v := 0) dX13_turnOf_20 rfl ?_
    refine r_iretI dX13_turnOf_21 rfl (by decide) (by decide) h
  · replace h := h.2 q
    refine r_aload_n 0 dX13_turnOf_8 rfl rfl ?_
    refine r_getR (c := 100) (k := 17) 130 dX13_turnOf_9 clX13 lFX13_48 (by decide) iM100 sC100 rfl ?_
    refine r_getNR (c := 130) (k := 2) 133 dX13_turnOf_12 clX11 lFX13_283 (by decide) iM130 sC130 rfl ?_
    refine r_iload_n 1 dX13_turnOf_15 rfl rfl ?_
    have h1 := h.1
    replace h := h.2
    refine r_iald (c := 133) (N := 16) dX13_turnOf_16 iM133 sC133 h1 ?_
    refine r_goto (t := 21) dX13_turnOf_17 (by decide) ?_
    refine r_iretI dX13_turnOf_21 rfl (by decide) (by decide) h
set_option maxHeartbeats 4000000 in
set_option maxRecDepth 100000 in
theorem B_X13_isAsked_27 (G : eG) (M : eM) (F : Bool → eM → Prop) 
    (h : (((0 : Int32) = 0) → F false (eU M 100 0 1)) ∧ ((¬ (0 : Int32) = 0) → F false (eU M 100 0 0))) :
    Ev (eZ G 100 40 0 0 (eFZ F)) G 100 40 (3, 0, 0) kX13_isAsked 27 [(0, .ref (G.1 100))] [] M 0 0 := by
  refine r_iconst (v := 0) dX13_isAsked_27 rfl ?_
  refine r_istore (l' := [(4, .int 0), (0, .ref (G.1 100))]) dX13_isAsked_28 (by decide) rfl ?_
  refine r_aload_n 1 dX13_isAsked_30 rfl rfl ?_
  refine r_iload 0 dX13_isAsked_31 rfl ?_
  refine r_if_eq (t := 40) dX13_isAsked_33 (by decide) (fun q => ?_) (fun q => ?_)
  · replace h := h.1 q
    refine r_iconst (v := 1) dX13_isAsked_40 rfl ?_
    refine r_putI (c := 100) (k := 0) dX13_isAsked_41 clX13 lFX13_65 (by decide) iM100 sC100 rfl rfl rfl ?_
    refine r_iload 0 dX13_isAsked_44 rfl ?_
    refine r_iretZ0 dX13_isAsked_46 rfl (by decide) (by decide) h
  · replace h := h.2 q
    refine r_iconst (v := 0) dX13_isAsked_36 rfl ?_
    refine r_goto (t := 41) dX13_isAsked_37 (by decide) ?_
    refine r_putI (c := 100) (k := 0) dX13_isAsked_41 clX13 lFX13_65 (by decide) iM100 sC100 rfl rfl rfl ?_
    refine r_iload 0 dX13_isAsked_44 rfl ?_
    refine r_iretZ0 dX13_isAsked_46 rfl (by decide) (by decide) h
set_option maxHeartbeats 4000000 in
set_option maxRecDepth 100000 in
theorem C_X13_isAsked (G : eG) (M : eM) (F : Bool → eM → Prop) (a1 : Int32) (a2 : Int32) (a3 : Int32)
    (h : Cal G 100 40 (2, 0, 0) kX13_isTile [.ref (G.1 100), .int a1] M (eFZ (fun (r1 : Bool) (M1 : eM) => ((r1 = false) → Ev (eZ G 100 40 0 0 (eFZ F)) G 100 40 (3, 0, 0) kX13_isAsked 27 [(0, .ref (G.1 100))] [] M1 0 0) ∧ ((r1 = true) → Cal G 100 40 (2, 0, 0) kX13_isCell [.ref (G.1 100), .int a2] M1 (eFZ (fun (r2 : Bool) (M2 : eM) => ((r2 = false) → Ev (eZ G 100 40 0 0 (eFZ F)) G 100 40 (3, 0, 0) kX13_isAsked 27 [(0, .ref (G.1 100))] [] M2 0 0) ∧ ((r2 = true) → Cal G 100 40 (2, 0, 0) kX13_isEdge [.int a3] M2 (eFZ (fun (r3 : Bool) (M3 : eM) => ((r3 = false) → Ev (eZ G 100 40 0 0 (eFZ F)) G 100 40 (3, 0, 0) kX13_isAsked 27 [(0, .ref (G.1 100))] [] M3 0 0) ∧ ((r3 = true) → (((1 : Int32) = 0) → F true (eU M3 100 0 1)) ∧ ((¬ (1 : Int32) = 0) → F true (eU M3 100 0 0)))))))))))) :
    Cal G 100 40 (3, 0, 0) kX13_isAsked [.ref (G.1 100), .int a1, .int a2, .int a3] M (eFZ F) := by
  refine Cal.of (by decide +kernel) rfl (Nat.le_of_ble_eq_true rfl) ?_
  show Ev (eZ G 100 40 0 0 (eFZ F)) G 100 40 (3, 0, 0) kX13_isAsked 0 [(0, .ref (G.1 100)), (1, .int a1), (2, .int a2), (3, .int a3)] [] M 0 0
  refine r_aload_n 0 dX13_isAsked_0 rfl rfl ?_
  refine r_iload_n 1 dX13_isAsked_1 rfl rfl ?_
  refine r_callVZ (b' := (2, 0, 0)) (c := 100) (S := []) [.int a1] dX13_isAsked_2 mX13_isTile lMX13_400 clX13 rfl iM100 sC100 rfl (by decide) (Nat.le_of_ble_eq_true rfl) h (fun r1 M1 h => ?_) rfl
  refine r_zif_eq (t := 27) dX13_isAsked_5 (by decide) (fun q => ?_) (fun q => ?_)
  · replace h := h.1 q
    exact Ev.sub (ks := [0]) rfl h
  · replace h := h.2 q
    refine r_aload_n 0 dX13_isAsked_8 rfl rfl ?_
    refine r_iload_n 2 dX13_isAsked_9 rfl rfl ?_
    refine r_callVZ (b' := (2, 0, 0)) (c := 100) (S := []) [.int a2] dX13_isAsked_10 mX13_isCell lMX13_388 clX13 rfl iM100 sC100 rfl (by decide) (Nat.le_of_ble_eq_true rfl) h (fun r2 M2 h => ?_) rfl
    refine r_zif_eq (t := 27) dX13_isAsked_13 (by decide) (fun q => ?_) (fun q => ?_)
    · replace h := h.1 q
      exact Ev.sub (ks := [0]) rfl h
    · replace h := h.2 q
      refine r_iload_n 3 dX13_isAsked_16 rfl rfl ?_
      refine r_callSZ (b' := (2, 0, 0)) (S := []) [.int a3] dX13_isAsked_17 mX13_isEdge lMX13_394 rfl (by decide) (Nat.le_of_ble_eq_true rfl) h (fun r3 M3 h => ?_) rfl
      refine r_zif_eq (t := 27) dX13_isAsked_20 (by decide) (fun q => ?_) (fun q => ?_)
      · replace h := h.1 q
        exact Ev.sub (ks := [0]) rfl h
      · replace h := h.2 q
        refine r_iconst (v := 1) dX13_isAsked_23 rfl ?_
        refine r_goto (t := 28) dX13_isAsked_24 (by decide) ?_
        refine r_istore (l' := [(4, .int 1), (0, .ref (G.1 100)), (1, .int a1), (2, .int a2), (3, .int a3)]) dX13_isAsked_28 (by decide) rfl ?_
        refine r_aload_n 1 dX13_isAsked_30 rfl rfl ?_
        refine r_iload 0 dX13_isAsked_31 rfl ?_
        refine r_if_eq (t := 40) dX13_isAsked_33 (by decide) (fun q => ?_) (fun q => ?_)
        · replace h := h.1 q
          refine r_iconst (v := 1) dX13_isAsked_40 rfl ?_
          refine r_putI (c := 100) (k := 0) dX13_isAsked_41 clX13 lFX13_65 (by decide) iM100 sC100 rfl rfl rfl ?_
          refine r_iload 0 dX13_isAsked_44 rfl ?_
          refine r_iretZ1 dX13_isAsked_46 rfl (by decide) (by decide) h
        · replace h := h.2 q
          refine r_iconst (v := 0) dX13_isAsked_36 rfl ?_
          refine r_goto (t := 41) dX13_isAsked_37 (by decide) ?_
          refine r_putI (c := 100) (k := 0) dX13_isAsked_41 clX13 lFX13_65 (by decide) iM100 sC100 rfl rfl rfl ?_
          refine r_iload 0 dX13_isAsked_44 rfl ?_
          refine r_iretZ1 dX13_isAsked_46 rfl (by decide) (by decide) h
set_option maxHeartbeats 4000000 in
set_option maxRecDepth 100000 in
theorem C_X13_fits_ (G : eG) (M : eM) (F : Bool → eM → Prop) (a1 : Int32) (a2 : Int32) (a3 : Int32)
    (h : Cal G 100 40 (3, 0, 0) kX13_isAsked [.ref (G.1 100), .int a1, .int a2, .int a3] M (eFZ (fun (r1 : Bool) (M1 : eM) => ((r1 = false) → F false M1) ∧ ((r1 = true) → Cal G 100 40 (5, 0, 0) kX13_fits [.ref (G.1 100), .ref (G.1 130), .int a1, .int a2, .int a3] M1 (eFZ (fun (r2 : Bool) (M2 : eM) => ((r2 = false) → F false M2) ∧ ((r2 = true) → F true M2))))))) :
    Cal G 100 40 (6, 0, 0) kX13_fits_ [.ref (G.1 100), .int a1, .int a2, .int a3] M (eFZ F) := by
  refine Cal.of (by decide +kernel) rfl (Nat.le_of_ble_eq_true rfl) ?_
  show Ev (eZ G 100 40 0 0 (eFZ F)) G 100 40 (6, 0, 0) kX13_fits_ 0 [(0, .ref (G.1 100)), (1, .int a1), (2, .int a2), (3, .int a3)] [] M 0 0
  refine r_aload_n 0 dX13_fits__0 rfl rfl ?_
  refine r_iload_n 1 dX13_fits__1 rfl rfl ?_
  refine r_iload_n 2 dX13_fits__2 rfl rfl ?_
  refine r_iload_n 3 dX13_fits__3 rfl rfl ?_
  refine r_callVZ (b' := (3, 0, 0)) (c := 100) (S := []) [.int a1, .int a2, .int a3] dX13_fits__4 mX13_isAsked lMX13_406 clX13 rfl iM100 sC100 rfl (by decide) (Nat.le_of_ble_eq_true rfl) h (fun r1 M1 h => ?_) rfl
  refine r_zif_eq (t := 28) dX13_fits__7 (by decide) (fun q => ?_) (fun q => ?_)
  · replace h := h.1 q
    refine r_iconst (v := 0) dX13_fits__28 rfl ?_
    refine r_iretZ0 dX13_fits__29 rfl (by decide) (by decide) h
  · replace h := h.2 q
    refine r_aload_n 0 dX13_fits__10 rfl rfl ?_
    refine r_aload_n 0 dX13_fits__11 rfl rfl ?_
    refine r_getR (c := 100) (k := 17) 130 dX13_fits__12 clX13 lFX13_48 (by decide) iM100 sC100 rfl ?_
    refine r_iload_n 1 dX13_fits__15 rfl rfl ?_
    refine r_iload_n 2 dX13_fits__16 rfl rfl ?_
    refine r_iload_n 3 dX13_fits__17 rfl rfl ?_
    refine r_callVZ (b' := (5, 0, 0)) (c := 100) (S := []) [.ref (G.1 130), .int a1, .int a2, .int a3] dX13_fits__18 mX13_fits lMX13_310 clX13 rfl iM100 sC100 rfl (by decide) (Nat.le_of_ble_eq_true rfl) h (fun r2 M2 h => ?_) rfl
    refine r_zif_eq (t := 28) dX13_fits__21 (by decide) (fun q => ?_) (fun q => ?_)
    · replace h := h.1 q
      refine r_iconst (v := 0) dX13_fits__28 rfl ?_
      refine r_iretZ0 dX13_fits__29 rfl (by decide) (by decide) h
    · replace h := h.2 q
      refine r_iconst (v := 1) dX13_fits__24 rfl ?_
      refine r_goto (t := 29) dX13_fits__25 (by decide) ?_
      refine r_iretZ1 dX13_fits__29 rfl (by decide) (by decide) h
set_option maxHeartbeats 4000000 in
set_option maxRecDepth 100000 in
theorem C_X13_edgeAgainst (G : eG) (M : eM) (F : Int32 → eM → Prop) (a1 : Int32) (a2 : Int32) (a3 : Int32)
    (h : Cal G 100 40 (3, 0, 0) kX13_isAsked [.ref (G.1 100), .int a1, .int a2, .int a3] M (eFZ (fun (r1 : Bool) (M1 : eM) => ((r1 = false) → F 0 M1) ∧ ((r1 = true) → Cal G 100 40 (4, 0, 0) kX13_against [.ref (G.1 100), .ref (G.1 130), .int a1, .int a2, .int a3] M1 (eFI (fun (r2 : Int32) (M2 : eM) => F r2 M2)))))) :
    Cal G 100 40 (5, 0, 0) kX13_edgeAgainst [.ref (G.1 100), .int a1, .int a2, .int a3] M (eFI F) := by
  refine Cal.of (by decide +kernel) rfl (Nat.le_of_ble_eq_true rfl) ?_
  show Ev (eZ G 100 40 0 0 (eFI F)) G 100 40 (5, 0, 0) kX13_edgeAgainst 0 [(0, .ref (G.1 100)), (1, .int a1), (2, .int a2), (3, .int a3)] [] M 0 0
  refine r_aload_n 0 dX13_edgeAgainst_0 rfl rfl ?_
  refine r_iload_n 1 dX13_edgeAgainst_1 rfl rfl ?_
  refine r_iload_n 2 dX13_edgeAgainst_2 rfl rfl ?_
  refine r_iload_n 3 dX13_edgeAgainst_3 rfl rfl ?_
  refine r_callVZ (b' := (3, 0, 0)) (c := 100) (S := []) [.int a1, .int a2, .int a3] dX13_edgeAgainst_4 mX13_isAsked lMX13_406 clX13 rfl iM100 sC100 rfl (by decide) (Nat.le_of_ble_eq_true rfl) h (fun r1 M1 h => ?_) rfl
  refine r_zif_eq (t := 24) dX13_edgeAgainst_7 (by decide) (fun q => ?_) (fun q => ?_)
  · replace h := h.1 q
    refine r_iconst (v := 0) dX13_edgeAgainst_24 rfl ?_
    refine r_iretI dX13_edgeAgainst_25 rfl (by decide) (by decide) h
  · replace h := h.2 q
    refine r_aload_n 0 dX13_edgeAgainst_10 rfl rfl ?_
    refine r_aload_n 0 dX13_edgeAgainst_11 rfl rfl ?_
    refine r_getR (c := 100) (k := 17) 130 dX13_edgeAgainst_12 clX13 lFX13_48 (by decide) iM100 sC100 rfl ?_
    refine r_iload_n 1 dX13_edgeAgainst_15 rfl rfl ?_
    refine r_iload_n 2 dX13_edgeAgainst_16 rfl rfl ?_
    refine r_iload_n 3 dX13_edgeAgainst_17 rfl rfl ?_
    refine r_callVI (b' := (4, 0, 0)) (c := 100) (S := []) [.ref (G.1 130), .int a1, .int a2, .int a3] dX13_edgeAgainst_18 mX13_against lMX13_303 clX13 rfl iM100 sC100 rfl (by decide) (Nat.le_of_ble_eq_true rfl) h (fun r2 M2 h => ?_) rfl
    refine r_goto (t := 25) dX13_edgeAgainst_21 (by decide) ?_
    refine r_iretI dX13_edgeAgainst_25 rfl (by decide) (by decide) h
set_option maxHeartbeats 4000000 in
set_option maxRecDepth 100000 in
theorem C_X13_waysOf (G : eG) (M : eM) (F : Int32 → eM → Prop) (a1 : Int32)
    (h : Cal G 100 40 (2, 0, 0) kX13_isTile [.ref (G.1 100), .int a1] (eU M 100 0 0) (eFZ (fun (r1 : Bool) (M1 : eM) => ((r1 = false) → Cal G 100 40 (1, 0, 0) kX13_no [.ref (G.1 100), .int 1] M1 (eFI (fun (r2 : Int32) (M2 : eM) => F r2 M2))) ∧ ((r1 = true) → Cal G 100 40 (6, 0, 0) kX13_ways [.ref (G.1 100), .ref (G.1 130), .int a1] M1 (eFI (fun (r3 : Int32) (M3 : eM) => F r3 M3)))))) :
    Cal G 100 40 (7, 0, 0) kX13_waysOf [.ref (G.1 100), .int a1] M (eFI F) := by
  refine Cal.of (by decide +kernel) rfl (Nat.le_of_ble_eq_true rfl) ?_
  show Ev (eZ G 100 40 0 0 (eFI F)) G 100 40 (7, 0, 0) kX13_waysOf 0 [(0, .ref (G.1 100)), (1, .int a1)] [] M 0 0
  refine r_aload_n 0 dX13_waysOf_0 rfl rfl ?_
  refine r_iconst (v := 0) dX13_waysOf_1 rfl ?_
  refine r_putI (c := 100) (k := 0) dX13_waysOf_2 clX13 lFX13_65 (by decide) iM100 sC100 rfl rfl rfl ?_
  refine r_aload_n 0 dX13_waysOf_5 rfl rfl ?_
  refine r_iload_n 1 dX13_waysOf_6 rfl rfl ?_
  refine r_callVZ (b' := (2, 0, 0)) (c := 100) (S := []) [.int a1] dX13_waysOf_7 mX13_isTile lMX13_400 clX13 rfl iM100 sC100 rfl (by decide) (Nat.le_of_ble_eq_true rfl) h (fun r1 M1 h => ?_) rfl
  refine r_zif_eq (t := 25) dX13_waysOf_10 (by decide) (fun q => ?_) (fun q => ?_)
  · replace h := h.1 q
    refine r_aload_n 0 dX13_waysOf_25 rfl rfl ?_
    refine r_iconst (v := 1) dX13_waysOf_26 rfl ?_
    refine r_callVI (b' := (1, 0, 0)) (c := 100) (S := []) [.int 1] dX13_waysOf_27 mX13_no lMX13_254 clX13 rfl iM100 sC100 rfl (by decide) (Nat.le_of_ble_eq_true rfl) h (fun r2 M2 h => ?_) rfl
    refine r_iretI dX13_waysOf_30 rfl (by decide) (by decide) h
  · replace h := h.2 q
    refine r_aload_n 0 dX13_waysOf_13 rfl rfl ?_
    refine r_aload_n 0 dX13_waysOf_14 rfl rfl ?_
    refine r_getR (c := 100) (k := 17) 130 dX13_waysOf_15 clX13 lFX13_48 (by decide) iM100 sC100 rfl ?_
    refine r_iload_n 1 dX13_waysOf_18 rfl rfl ?_
    refine r_callVI (b' := (6, 0, 0)) (c := 100) (S := []) [.ref (G.1 130), .int a1] dX13_waysOf_19 mX13_ways lMX13_352 clX13 rfl iM100 sC100 rfl (by decide) (Nat.le_of_ble_eq_true rfl) h (fun r3 M3 h => ?_) rfl
    refine r_goto (t := 30) dX13_waysOf_22 (by decide) ?_
    refine r_iretI dX13_waysOf_30 rfl (by decide) (by decide) h
set_option maxHeartbeats 4000000 in
set_option maxRecDepth 100000 in
theorem C_X13_leftover (G : eG) (M : eM) (F : Bool → eM → Prop) (a1 : Int32)
    (h : vp_in a1 16 ∧ (((¬ (M 132 a1.toNatClampNeg) = (-1)) → F false M) ∧ (((M 132 a1.toNatClampNeg) = (-1)) → Cal G 100 40 (6, 0, 0) kX13_firstWay [.ref (G.1 100), .ref (G.1 130), .int a1] M (eFI (fun (r1 : Int32) (M1 : eM) => ((¬ r1 = (-1)) → F false M1) ∧ ((r1 = (-1)) → F true M1)))))) :
    Cal G 100 40 (7, 0, 0) kX13_leftover [.ref (G.1 100), .int a1] M (eFZ F) := by
  refine Cal.of (by decide +kernel) rfl (Nat.le_of_ble_eq_true rfl) ?_
  show Ev (eZ G 100 40 0 0 (eFZ F)) G 100 40 (7, 0, 0) kX13_leftover 0 [(0, .ref (G.1 100)), (1, .int a1)] [] M 0 0
  refine r_aload_n 0 dX13_leftover_0 rfl rfl ?_
  refine r_getR (c := 100) (k := 17) 130 dX13_leftover_1 clX13 lFX13_48 (by decide) iM100 sC100 rfl ?_
  refine r_getNR (c := 130) (k := 1) 132 dX13_leftover_4 clX11 lFX13_293 (by decide) iM130 sC130 rfl ?_
  refine r_iload_n 1 dX13_leftover_7 rfl rfl ?_
  have h1 := h.1
  replace h := h.2
  refine r_iald (c := 132) (N := 16) dX13_leftover_8 iM132 sC132 h1 ?_
  refine r_iconst (v := (-1)) dX13_leftover_9 rfl ?_
  refine r_icmp_ne (t := 30) dX13_leftover_10 (by decide) (fun q => ?_) (fun q => ?_)
  · replace h := h.1 q
    refine r_iconst (v := 0) dX13_leftover_30 rfl ?_
    refine r_iretZ0 dX13_leftover_31 rfl (by decide) (by decide) h
  · replace h := h.2 q
    refine r_aload_n 0 dX13_leftover_13 rfl rfl ?_
    refine r_aload_n 0 dX13_leftover_14 rfl rfl ?_
    refine r_getR (c := 100) (k := 17) 130 dX13_leftover_15 clX13 lFX13_48 (by decide) iM100 sC100 rfl ?_
    refine r_iload_n 1 dX13_leftover_18 rfl rfl ?_
    refine r_callVI (b' := (6, 0, 0)) (c := 100) (S := []) [.ref (G.1 130), .int a1] dX13_leftover_19 mX13_firstWay lMX13_355 clX13 rfl iM100 sC100 rfl (by decide) (Nat.le_of_ble_eq_true rfl) h (fun r1 M1 h => ?_) rfl
    refine r_iconst (v := (-1)) dX13_leftover_22 rfl ?_
    refine r_icmp_ne (t := 30) dX13_leftover_23 (by decide) (fun q => ?_) (fun q => ?_)
    · replace h := h.1 q
      refine r_iconst (v := 0) dX13_leftover_30 rfl ?_
      refine r_iretZ0 dX13_leftover_31 rfl (by decide) (by decide) h
    · replace h := h.2 q
      refine r_iconst (v := 1) dX13_leftover_26 rfl ?_
      refine r_goto (t := 31) dX13_leftover_27 (by decide) ?_
      refine r_iretZ1 dX13_leftover_31 rfl (by decide) (by decide) h
set_option maxHeartbeats 4000000 in
set_option maxRecDepth 100000 in
theorem C_X13_isLeftover (G : eG) (M : eM) (F : Bool → eM → Prop) (a1 : Int32)
    (h : Cal G 100 40 (2, 0, 0) kX13_isTile [.ref (G.1 100), .int a1] (eU M 100 0 0) (eFZ (fun (r1 : Bool) (M1 : eM) => ((r1 = false) → Cal G 100 40 (1, 0, 0) kX13_isNot [.ref (G.1 100), .int 1] M1 (eFZ (fun (r2 : Bool) (M2 : eM) => F r2 M2))) ∧ ((r1 = true) → Cal G 100 40 (7, 0, 0) kX13_leftover [.ref (G.1 100), .int a1] M1 (eFZ (fun (r3 : Bool) (M3 : eM) => F r3 M3)))))) :
    Cal G 100 40 (8, 0, 0) kX13_isLeftover [.ref (G.1 100), .int a1] M (eFZ F) := by
  refine Cal.of (by decide +kernel) rfl (Nat.le_of_ble_eq_true rfl) ?_
  show Ev (eZ G 100 40 0 0 (eFZ F)) G 100 40 (8, 0, 0) kX13_isLeftover 0 [(0, .ref (G.1 100)), (1, .int a1)] [] M 0 0
  refine r_aload_n 0 dX13_isLeftover_0 rfl rfl ?_
  refine r_iconst (v := 0) dX13_isLeftover_1 rfl ?_
  refine r_putI (c := 100) (k := 0) dX13_isLeftover_2 clX13 lFX13_65 (by decide) iM100 sC100 rfl rfl rfl ?_
  refine r_aload_n 0 dX13_isLeftover_5 rfl rfl ?_
  refine r_iload_n 1 dX13_isLeftover_6 rfl rfl ?_
  refine r_callVZ (b' := (2, 0, 0)) (c := 100) (S := []) [.int a1] dX13_isLeftover_7 mX13_isTile lMX13_400 clX13 rfl iM100 sC100 rfl (by decide) (Nat.le_of_ble_eq_true rfl) h (fun r1 M1 h => ?_) rfl
  refine r_zif_eq (t := 21) dX13_isLeftover_10 (by decide) (fun q => ?_) (fun q => ?_)
  · replace h := h.1 q
    refine r_aload_n 0 dX13_isLeftover_21 rfl rfl ?_
    refine r_iconst (v := 1) dX13_isLeftover_22 rfl ?_
    refine r_callVZ (b' := (1, 0, 0)) (c := 100) (S := []) [.int 1] dX13_isLeftover_23 mX13_isNot lMX13_391 clX13 rfl iM100 sC100 rfl (by decide) (Nat.le_of_ble_eq_true rfl) h (fun r2 M2 h => ?_) rfl
    refine r_iretZ dX13_isLeftover_26 rfl (by decide) (by decide) h
  · replace h := h.2 q
    refine r_aload_n 0 dX13_isLeftover_13 rfl rfl ?_
    refine r_iload_n 1 dX13_isLeftover_14 rfl rfl ?_
    refine r_callVZ (b' := (7, 0, 0)) (c := 100) (S := []) [.int a1] dX13_isLeftover_15 mX13_leftover lMX13_409 clX13 rfl iM100 sC100 rfl (by decide) (Nat.le_of_ble_eq_true rfl) h (fun r3 M3 h => ?_) rfl
    refine r_goto (t := 26) dX13_isLeftover_18 (by decide) ?_
    refine r_iretZ dX13_isLeftover_26 rfl (by decide) (by decide) h
set_option maxHeartbeats 4000000 in
set_option maxRecDepth 100000 in
theorem B_X13_looksToProve_142 (G : eG) (M : eM) (F : Int32 → eM → Prop) (x2 : Int32)
    (h : (((0 : Int32) = 0) → F (6 * x2) M) ∧ ((¬ (0 : Int32) = 0) → F x2 M)) :
    Ev (eZ G 100 40 0 0 (eFI F)) G 100 40 (8, 0, 0) kX13_looksToProve 142 [(2, .int x2)] [] M 0 0 := by
  refine r_iconst (v := 0) dX13_looksToProve_142 rfl ?_
  refine r_istore_n (l' := [(3, .int 0), (2, .int x2)]) dX13_looksToProve_143 rfl (by decide) rfl ?_
  refine r_iload_n 0 dX13_looksToProve_144 rfl rfl ?_
  refine r_if_eq (t := 152) dX13_looksToProve_145 (by decide) (fun q => ?_) (fun q => ?_)
  · replace h := h.1 q
    refine r_bipush (v := 6) dX13_looksToProve_152 rfl ?_
    refine r_iload_n 1 dX13_looksToProve_154 rfl rfl ?_
    refine r_imul dX13_looksToProve_155 ?_
    refine r_iretI dX13_looksToProve_156 rfl (by decide) (by decide) h
  · replace h := h.2 q
    refine r_iload_n 1 dX13_looksToProve_148 rfl rfl ?_
    refine r_goto (t := 156) dX13_looksToProve_149 (by decide) ?_
    refine r_iretI dX13_looksToProve_156 rfl (by decide) (by decide) h
set_option maxHeartbeats 4000000 in
set_option maxRecDepth 100000 in
theorem B_X13_looksToProve_37 (G : eG) (M : eM) (F : Int32 → eM → Prop) (x1 : Int32) (x2 : Int32) (x3 : Int32)
    (h : Cal G 100 40 (1, 0, 0) kX13_cells [.ref (G.1 100)] M (eFI (fun (r1 : Int32) (M1 : eM) => ((r1 ≤ x3) → vp_in (3 * x1) 51 ∧ (vp_in ((3 * x1) + 1) 51 ∧ (((¬ (M1 108 (3 * x1).toNatClampNeg) = (M1 108 ((3 * x1) + 1).toNatClampNeg)) → Ev (eZ G 100 40 0 0 (eFI F)) G 100 40 (8, 0, 0) kX13_looksToProve 142 [(2, .int x2)] [] M1 0 0) ∧ (((M1 108 (3 * x1).toNatClampNeg) = (M1 108 ((3 * x1) + 1).toNatClampNeg)) → vp_in (3 * x1) 51 ∧ (vp_in ((3 * x1) + 2) 51 ∧ (((¬ (M1 108 (3 * x1).toNatClampNeg) = (M1 108 ((3 * x1) + 2).toNatClampNeg)) → Ev (eZ G 100 40 0 0 (eFI F)) G 100 40 (8, 0, 0) kX13_looksToProve 142 [(2, .int x2)] [] M1 0 0) ∧ (((M1 108 (3 * x1).toNatClampNeg) = (M1 108 ((3 * x1) + 2).toNatClampNeg)) → (((1 : Int32) = 0) → F (6 * x2) M1) ∧ ((¬ (1 : Int32) = 0) → F x2 M1)))))))) ∧ ((¬ r1 ≤ x3) → vp_in x3 49 ∧ (((¬ (M1 131 x3.toNatClampNeg) = (-1)) → Ev (eZ G 100 40 0 0 (eFI F)) G 100 40 (8, 0, 0) kX13_looksToProve 37 [(0, .ref (G.1 100)), (1, .int x1), (2, .int (x2 + 0)), (3, .int (x3 + 1))] [] M1 0 0) ∧ (((M1 131 x3.toNatClampNeg) = (-1)) → Cal G 100 40 (4, 0, 0) kX13_tilesBeside [.ref (G.1 100), .ref (G.1 130), .int x3] M1 (eFI (fun (r2 : Int32) (M2 : eM) => ((r2 ≤ 0) → Ev (eZ G 100 40 0 0 (eFI F)) G 100 40 (8, 0, 0) kX13_looksToProve 37 [(0, .ref (G.1 100)), (1, .int x1), (2, .int (x2 + 0)), (3, .int (x3 + 1))] [] M2 0 0) ∧ ((¬ r2 ≤ 0) → Ev (eZ G 100 40 0 0 (eFI F)) G 100 40 (8, 0, 0) kX13_looksToProve 37 [(0, .ref (G.1 100)), (1, .int x1), (2, .int (x2 + 1)), (3, .int (x3 + 1))] [] M2 0 0))))))))) :
    Ev (eZ G 100 40 0 0 (eFI F)) G 100 40 (8, 0, 0) kX13_looksToProve 37 [(0, .ref (G.1 100)), (1, .int x1), (2, .int x2), (3, .int x3)] [] M 0 0 := by
  refine r_iload_n 3 dX13_looksToProve_37 rfl rfl ?_
  refine r_aload_n 0 dX13_looksToProve_38 rfl rfl ?_
  refine r_callVI (b' := (1, 0, 0)) (c := 100) (S := [.int x3]) [] dX13_looksToProve_39 mX13_cells lMX13_307 clX13 rfl iM100 sC100 rfl (by decide) (Nat.le_of_ble_eq_true rfl) h (fun r1 M1 h => ?_) rfl
  refine r_icmp_ge (t := 84) dX13_looksToProve_42 (by decide) (fun q => ?_) (fun q => ?_)
  · replace h := h.1 q
    refine r_aload_n 0 dX13_looksToProve_84 rfl rfl ?_
    refine r_getR (c := 100) (k := 14) 107 dX13_looksToProve_85 clX13 lFX13_35 (by decide) iM100 sC100 rfl ?_
    refine r_getNR (c := 107) (k := 3) 108 dX13_looksToProve_88 clX12 lFX13_214 (by decide) iM107 sC107 rfl ?_
    refine r_iconst (v := 3) dX13_looksToProve_91 rfl ?_
    refine r_iload_n 1 dX13_looksToProve_92 rfl rfl ?_
    refine r_imul dX13_looksToProve_93 ?_
    have h1 := h.1
    replace h := h.2
    refine r_iald (c := 108) (N := 51) dX13_looksToProve_94 iM108 sC108 h1 ?_
    refine r_aload_n 0 dX13_looksToProve_95 rfl rfl ?_
    refine r_getR (c := 100) (k := 14) 107 dX13_looksToProve_96 clX13 lFX13_35 (by decide) iM100 sC100 rfl ?_
    refine r_getNR (c := 107) (k := 3) 108 dX13_looksToProve_99 clX12 lFX13_214 (by decide) iM107 sC107 rfl ?_
    refine r_iconst (v := 3) dX13_looksToProve_102 rfl ?_
    refine r_iload_n 1 dX13_looksToProve_103 rfl rfl ?_
    refine r_imul dX13_looksToProve_104 ?_
    refine r_iconst (v := 1) dX13_looksToProve_105 rfl ?_
    refine r_iadd dX13_looksToProve_106 ?_
    have h1 := h.1
    replace h := h.2
    refine r_iald (c := 108) (N := 51) dX13_looksToProve_107 iM108 sC108 h1 ?_
    refine r_icmp_ne (t := 142) dX13_looksToProve_108 (by decide) (fun q => ?_) (fun q => ?_)
    · replace h := h.1 q
      exact Ev.sub (ks := [2]) rfl h
    · replace h := h.2 q
      refine r_aload_n 0 dX13_looksToProve_111 rfl rfl ?_
      refine r_getR (c := 100) (k := 14) 107 dX13_looksToProve_112 clX13 lFX13_35 (by decide) iM100 sC100 rfl ?_
      refine r_getNR (c := 107) (k := 3) 108 dX13_looksToProve_115 clX12 lFX13_214 (by decide) iM107 sC107 rfl ?_
      refine r_iconst (v := 3) dX13_looksToProve_118 rfl ?_
      refine r_iload_n 1 dX13_looksToProve_119 rfl rfl ?_
      refine r_imul dX13_looksToProve_120 ?_
      have h1 := h.1
      replace h := h.2
      refine r_iald (c := 108) (N := 51) dX13_looksToProve_121 iM108 sC108 h1 ?_
      refine r_aload_n 0 dX13_looksToProve_122 rfl rfl ?_
      refine r_getR (c := 100) (k := 14) 107 dX13_looksToProve_123 clX13 lFX13_35 (by decide) iM100 sC100 rfl ?_
      refine r_getNR (c := 107) (k := 3) 108 dX13_looksToProve_126 clX12 lFX13_214 (by decide) iM107 sC107 rfl ?_
      refine r_iconst (v := 3) dX13_looksToProve_129 rfl ?_
      refine r_iload_n 1 dX13_looksToProve_130 rfl rfl ?_
      refine r_imul dX13_looksToProve_131 ?_
      refine r_iconst (v := 2) dX13_looksToProve_132 rfl ?_
      refine r_iadd dX13_looksToProve_133 ?_
      have h1 := h.1
      replace h := h.2
      refine r_iald (c := 108) (N := 51) dX13_looksToProve_134 iM108 sC108 h1 ?_
      refine r_icmp_ne (t := 142) dX13_looksToProve_135 (by decide) (fun q => ?_) (fun q => ?_)
      · replace h := h.1 q
        exact Ev.sub (ks := [2]) rfl h
      · replace h := h.2 q
        refine r_iconst (v := 1) dX13_looksToProve_138 rfl ?_
        refine r_goto (t := 143) dX13_looksToProve_139 (by decide) ?_
        refine r_istore_n (l' := [(3, .int 1), (0, .ref (G.1 100)), (1, .int x1), (2, .int x2)]) dX13_looksToProve_143 rfl (by decide) rfl ?_
        refine r_iload_n 0 dX13_looksToProve_144 rfl rfl ?_
        refine r_if_eq (t := 152) dX13_looksToProve_145 (by decide) (fun q => ?_) (fun q => ?_)
        · replace h := h.1 q
          refine r_bipush (v := 6) dX13_looksToProve_152 rfl ?_
          refine r_iload_n 3 dX13_looksToProve_154 rfl rfl ?_
          refine r_imul dX13_looksToProve_155 ?_
          refine r_iretI dX13_looksToProve_156 rfl (by decide) (by decide) h
        · replace h := h.2 q
          refine r_iload_n 3 dX13_looksToProve_148 rfl rfl ?_
          refine r_goto (t := 156) dX13_looksToProve_149 (by decide) ?_
          refine r_iretI dX13_looksToProve_156 rfl (by decide) (by decide) h
  · replace h := h.2 q
    refine r_iload_n 2 dX13_looksToProve_45 rfl rfl ?_
    refine r_aload_n 0 dX13_looksToProve_46 rfl rfl ?_
    refine r_getR (c := 100) (k := 17) 130 dX13_looksToProve_47 clX13 lFX13_48 (by decide) iM100 sC100 rfl ?_
    refine r_getNR (c := 130) (k := 0) 131 dX13_looksToProve_50 clX11 lFX13_280 (by decide) iM130 sC130 rfl ?_
    refine r_iload_n 3 dX13_looksToProve_53 rfl rfl ?_
    have h1 := h.1
    replace h := h.2
    refine r_iald (c := 131) (N := 49) dX13_looksToProve_54 iM131 sC131 h1 ?_
    refine r_iconst (v := (-1)) dX13_looksToProve_55 rfl ?_
    refine r_icmp_ne (t := 75) dX13_looksToProve_56 (by decide) (fun q => ?_) (fun q => ?_)
    · replace h := h.1 q
      refine r_iconst (v := 0) dX13_looksToProve_75 rfl ?_
      refine r_iadd dX13_looksToProve_76 ?_
      refine r_istore_n (l' := [(2, .int (x2 + 0)), (0, .ref (G.1 100)), (1, .int x1), (3, .int x3)]) dX13_looksToProve_77 rfl (by decide) rfl ?_
      refine r_iinc (v := x3 + 1) (l' := [(3, .int (x3 + 1)), (2, .int (x2 + 0)), (0, .ref (G.1 100)), (1, .int x1)]) 3 dX13_looksToProve_78 rfl rfl (by decide) rfl ?_
      refine r_goto (t := 37) dX13_looksToProve_81 (by decide) ?_
      exact Ev.sub (ks := [2, 3, 1, 0]) rfl h
    · replace h := h.2 q
      refine r_aload_n 0 dX13_looksToProve_59 rfl rfl ?_
      refine r_aload_n 0 dX13_looksToProve_60 rfl rfl ?_
      refine r_getR (c := 100) (k := 17) 130 dX13_looksToProve_61 clX13 lFX13_48 (by decide) iM100 sC100 rfl ?_
      refine r_iload_n 3 dX13_looksToProve_64 rfl rfl ?_
      refine r_callVI (b' := (4, 0, 0)) (c := 100) (S := [.int x2]) [.ref (G.1 130), .int x3] dX13_looksToProve_65 mX13_tilesBeside lMX13_299 clX13 rfl iM100 sC100 rfl (by decide) (Nat.le_of_ble_eq_true rfl) h (fun r2 M2 h => ?_) rfl
      refine r_if_le (t := 75) dX13_looksToProve_68 (by decide) (fun q => ?_) (fun q => ?_)
      · replace h := h.1 q
        refine r_iconst (v := 0) dX13_looksToProve_75 rfl ?_
        refine r_iadd dX13_looksToProve_76 ?_
        refine r_istore_n (l' := [(2, .int (x2 + 0)), (0, .ref (G.1 100)), (1, .int x1), (3, .int x3)]) dX13_looksToProve_77 rfl (by decide) rfl ?_
        refine r_iinc (v := x3 + 1) (l' := [(3, .int (x3 + 1)), (2, .int (x2 + 0)), (0, .ref (G.1 100)), (1, .int x1)]) 3 dX13_looksToProve_78 rfl rfl (by decide) rfl ?_
        refine r_goto (t := 37) dX13_looksToProve_81 (by decide) ?_
        exact Ev.sub (ks := [2, 3, 1, 0]) rfl h
      · replace h := h.2 q
        refine r_iconst (v := 1) dX13_looksToProve_71 rfl ?_
        refine r_goto (t := 76) dX13_looksToProve_72 (by decide) ?_
        refine r_iadd dX13_looksToProve_76 ?_
        refine r_istore_n (l' := [(2, .int (x2 + 1)), (0, .ref (G.1 100)), (1, .int x1), (3, .int x3)]) dX13_looksToProve_77 rfl (by decide) rfl ?_
        refine r_iinc (v := x3 + 1) (l' := [(3, .int (x3 + 1)), (2, .int (x2 + 1)), (0, .ref (G.1 100)), (1, .int x1)]) 3 dX13_looksToProve_78 rfl rfl (by decide) rfl ?_
        refine r_goto (t := 37) dX13_looksToProve_81 (by decide) ?_
        exact Ev.sub (ks := [2, 3, 1, 0]) rfl h
set_option maxHeartbeats 4000000 in
set_option maxRecDepth 100000 in
theorem C_X13_looksToProve (G : eG) (M : eM) (F : Int32 → eM → Prop) (a1 : Int32)
    (h : Cal G 100 40 (2, 0, 0) kX13_isTile [.ref (G.1 100), .int a1] (eU M 100 0 0) (eFZ (fun (r1 : Bool) (M1 : eM) => ((r1 = true) → Cal G 100 40 (7, 0, 0) kX13_leftover [.ref (G.1 100), .int a1] M1 (eFZ (fun (r2 : Bool) (M2 : eM) => ((r2 = true) → Ev (eZ G 100 40 0 0 (eFI F)) G 100 40 (8, 0, 0) kX13_looksToProve 37 [(0, .ref (G.1 100)), (1, .int a1), (2, .int 0), (3, .int 0)] [] M2 0 0) ∧ ((r2 = false) → Cal G 100 40 (1, 0, 0) kX13_no [.ref (G.1 100), .int 2] M2 (eFI (fun (r3 : Int32) (M3 : eM) => F r3 M3)))))) ∧ ((r1 = false) → Cal G 100 40 (1, 0, 0) kX13_no [.ref (G.1 100), .int 1] M1 (eFI (fun (r4 : Int32) (M4 : eM) => F r4 M4)))))) :
    Cal G 100 40 (8, 0, 0) kX13_looksToProve [.ref (G.1 100), .int a1] M (eFI F) := by
  refine Cal.of (by decide +kernel) rfl (Nat.le_of_ble_eq_true rfl) ?_
  show Ev (eZ G 100 40 0 0 (eFI F)) G 100 40 (8, 0, 0) kX13_looksToProve 0 [(0, .ref (G.1 100)), (1, .int a1)] [] M 0 0
  refine r_aload_n 0 dX13_looksToProve_0 rfl rfl ?_
  refine r_iconst (v := 0) dX13_looksToProve_1 rfl ?_
  refine r_putI (c := 100) (k := 0) dX13_looksToProve_2 clX13 lFX13_65 (by decide) iM100 sC100 rfl rfl rfl ?_
  refine r_aload_n 0 dX13_looksToProve_5 rfl rfl ?_
  refine r_iload_n 1 dX13_looksToProve_6 rfl rfl ?_
  refine r_callVZ (b' := (2, 0, 0)) (c := 100) (S := []) [.int a1] dX13_looksToProve_7 mX13_isTile lMX13_400 clX13 rfl iM100 sC100 rfl (by decide) (Nat.le_of_ble_eq_true rfl) h (fun r1 M1 h => ?_) rfl
  refine r_zif_ne (t := 19) dX13_looksToProve_10 (by decide) (fun q => ?_) (fun q => ?_)
  · replace h := h.1 q
    refine r_aload_n 0 dX13_looksToProve_19 rfl rfl ?_
    refine r_iload_n 1 dX13_looksToProve_20 rfl rfl ?_
    refine r_callVZ (b' := (7, 0, 0)) (c := 100) (S := []) [.int a1] dX13_looksToProve_21 mX13_leftover lMX13_409 clX13 rfl iM100 sC100 rfl (by decide) (Nat.le_of_ble_eq_true rfl) h (fun r2 M2 h => ?_) rfl
    refine r_zif_ne (t := 33) dX13_looksToProve_24 (by decide) (fun q => ?_) (fun q => ?_)
    · replace h := h.1 q
      refine r_iconst (v := 0) dX13_looksToProve_33 rfl ?_
      refine r_istore_n (l' := [(2, .int 0), (0, .ref (G.1 100)), (1, .int a1)]) dX13_looksToProve_34 rfl (by decide) rfl ?_
      refine r_iconst (v := 0) dX13_looksToProve_35 rfl ?_
      refine r_istore_n (l' := [(3, .int 0), (2, .int 0), (0, .ref (G.1 100)), (1, .int a1)]) dX13_looksToProve_36 rfl (by decide) rfl ?_
      exact Ev.sub (ks := [2, 3, 1, 0]) rfl h
    · replace h := h.2 q
      refine r_aload_n 0 dX13_looksToProve_27 rfl rfl ?_
      refine r_iconst (v := 2) dX13_looksToProve_28 rfl ?_
      refine r_callVI (b' := (1, 0, 0)) (c := 100) (S := []) [.int 2] dX13_looksToProve_29 mX13_no lMX13_254 clX13 rfl iM100 sC100 rfl (by decide) (Nat.le_of_ble_eq_true rfl) h (fun r3 M3 h => ?_) rfl
      refine r_iretI dX13_looksToProve_32 rfl (by decide) (by decide) h
  · replace h := h.2 q
    refine r_aload_n 0 dX13_looksToProve_13 rfl rfl ?_
    refine r_iconst (v := 1) dX13_looksToProve_14 rfl ?_
    refine r_callVI (b' := (1, 0, 0)) (c := 100) (S := []) [.int 1] dX13_looksToProve_15 mX13_no lMX13_254 clX13 rfl iM100 sC100 rfl (by decide) (Nat.le_of_ble_eq_true rfl) h (fun r4 M4 h => ?_) rfl
    refine r_iretI dX13_looksToProve_18 rfl (by decide) (by decide) h
set_option maxHeartbeats 4000000 in
set_option maxRecDepth 100000 in
theorem C_X13_putTile (G : eG) (M : eM) (F : Int32 → eM → Prop) (a1 : Int32) (a2 : Int32) (a3 : Int32)
    (h : Cal G 100 40 (3, 0, 0) kX13_isAsked [.ref (G.1 100), .int a1, .int a2, .int a3] M (eFZ (fun (r1 : Bool) (M1 : eM) => ((r1 = true) → Cal G 100 40 (5, 0, 0) kX13_fits [.ref (G.1 100), .ref (G.1 130), .int a1, .int a2, .int a3] M1 (eFZ (fun (r2 : Bool) (M2 : eM) => ((r2 = true) → Cal G 100 40 (7, 0, 0) kX13_points [.ref (G.1 100), .ref (G.1 130)] M2 (eFI (fun (r3 : Int32) (M3 : eM) => Cal G 100 40 (1, 0, 0) kX11_put [.ref (G.1 130), .int a1, .int a2, .int a3] M3 (eFV (fun (M4 : eM) => Cal G 100 40 (7, 0, 0) kX13_points [.ref (G.1 100), .ref (G.1 130)] M4 (eFI (fun (r5 : Int32) (M5 : eM) => F (r5 - r3) M5))))))) ∧ ((r2 = false) → Cal G 100 40 (1, 0, 0) kX13_no [.ref (G.1 100), .int 2] M2 (eFI (fun (r6 : Int32) (M6 : eM) => F r6 M6)))))) ∧ ((r1 = false) → F 0 M1)))) :
    Cal G 100 40 (8, 0, 0) kX13_putTile [.ref (G.1 100), .int a1, .int a2, .int a3] M (eFI F) := by
  refine Cal.of (by decide +kernel) rfl (Nat.le_of_ble_eq_true rfl) ?_
  show Ev (eZ G 100 40 0 0 (eFI F)) G 100 40 (8, 0, 0) kX13_putTile 0 [(0, .ref (G.1 100)), (1, .int a1), (2, .int a2), (3, .int a3)] [] M 0 0
  refine r_aload_n 0 dX13_putTile_0 rfl rfl ?_
  refine r_iload_n 1 dX13_putTile_1 rfl rfl ?_
  refine r_iload_n 2 dX13_putTile_2 rfl rfl ?_
  refine r_iload_n 3 dX13_putTile_3 rfl rfl ?_
  refine r_callVZ (b' := (3, 0, 0)) (c := 100) (S := []) [.int a1, .int a2, .int a3] dX13_putTile_4 mX13_isAsked lMX13_406 clX13 rfl iM100 sC100 rfl (by decide) (Nat.le_of_ble_eq_true rfl) h (fun r1 M1 h => ?_) rfl
  refine r_zif_ne (t := 12) dX13_putTile_7 (by decide) (fun q => ?_) (fun q => ?_)
  · replace h := h.1 q
    refine r_aload_n 0 dX13_putTile_12 rfl rfl ?_
    refine r_aload_n 0 dX13_putTile_13 rfl rfl ?_
    refine r_getR (c := 100) (k := 17) 130 dX13_putTile_14 clX13 lFX13_48 (by decide) iM100 sC100 rfl ?_
    refine r_iload_n 1 dX13_putTile_17 rfl rfl ?_
    refine r_iload_n 2 dX13_putTile_18 rfl rfl ?_
    refine r_iload_n 3 dX13_putTile_19 rfl rfl ?_
    refine r_callVZ (b' := (5, 0, 0)) (c := 100) (S := []) [.ref (G.1 130), .int a1, .int a2, .int a3] dX13_putTile_20 mX13_fits lMX13_310 clX13 rfl iM100 sC100 rfl (by decide) (Nat.le_of_ble_eq_true rfl) h (fun r2 M2 h => ?_) rfl
    refine r_zif_ne (t := 32) dX13_putTile_23 (by decide) (fun q => ?_) (fun q => ?_)
    · replace h := h.1 q
      refine r_aload_n 0 dX13_putTile_32 rfl rfl ?_
      refine r_aload_n 0 dX13_putTile_33 rfl rfl ?_
      refine r_getR (c := 100) (k := 17) 130 dX13_putTile_34 clX13 lFX13_48 (by decide) iM100 sC100 rfl ?_
      refine r_callVI (b' := (7, 0, 0)) (c := 100) (S := []) [.ref (G.1 130)] dX13_putTile_37 mX13_points lMX13_349 clX13 rfl iM100 sC100 rfl (by decide) (Nat.le_of_ble_eq_true rfl) h (fun r3 M3 h => ?_) rfl
      refine r_istore (l' := [(4, .int r3), (0, .ref (G.1 100)), (1, .int a1), (2, .int a2), (3, .int a3)]) dX13_putTile_40 (by decide) rfl ?_
      refine r_aload_n 1 dX13_putTile_42 rfl rfl ?_
      refine r_getR (c := 100) (k := 17) 130 dX13_putTile_43 clX13 lFX13_48 (by decide) iM100 sC100 rfl ?_
      refine r_iload_n 2 dX13_putTile_46 rfl rfl ?_
      refine r_iload_n 3 dX13_putTile_47 rfl rfl ?_
      refine r_iload_n 4 dX13_putTile_48 rfl rfl ?_
      refine r_callVV (b' := (1, 0, 0)) (c := 130) (S := []) [.int a1, .int a2, .int a3] dX13_putTile_49 mX11_put lMX13_364 clX11 rfl iM130 sC130 rfl (by decide) (Nat.le_of_ble_eq_true rfl) h (fun M4 h => ?_) rfl
      refine r_aload_n 1 dX13_putTile_52 rfl rfl ?_
      refine r_aload_n 1 dX13_putTile_53 rfl rfl ?_
      refine r_getR (c := 100) (k := 17) 130 dX13_putTile_54 clX13 lFX13_48 (by decide) iM100 sC100 rfl ?_
      refine r_callVI (b' := (7, 0, 0)) (c := 100) (S := []) [.ref (G.1 130)] dX13_putTile_57 mX13_points lMX13_349 clX13 rfl iM100 sC100 rfl (by decide) (Nat.le_of_ble_eq_true rfl) h (fun r5 M5 h => ?_) rfl
      refine r_iload 0 dX13_putTile_60 rfl ?_
      refine r_isub dX13_putTile_62 ?_
      refine r_iretI dX13_putTile_63 rfl (by decide) (by decide) h
    · replace h := h.2 q
      refine r_aload_n 0 dX13_putTile_26 rfl rfl ?_
      refine r_iconst (v := 2) dX13_putTile_27 rfl ?_
      refine r_callVI (b' := (1, 0, 0)) (c := 100) (S := []) [.int 2] dX13_putTile_28 mX13_no lMX13_254 clX13 rfl iM100 sC100 rfl (by decide) (Nat.le_of_ble_eq_true rfl) h (fun r6 M6 h => ?_) rfl
      refine r_iretI dX13_putTile_31 rfl (by decide) (by decide) h
  · replace h := h.2 q
    refine r_iconst (v := 0) dX13_putTile_10 rfl ?_
    refine r_iretI dX13_putTile_11 rfl (by decide) (by decide) h
set_option maxHeartbeats 4000000 in
set_option maxRecDepth 100000 in
theorem C_X13_takeTile (G : eG) (M : eM) (F : Int32 → eM → Prop) (a1 : Int32)
    (h : Cal G 100 40 (3, 0, 0) kX13_lies [.ref (G.1 100), .int a1] M (eFZ (fun (r1 : Bool) (M1 : eM) => ((r1 = true) → Cal G 100 40 (7, 0, 0) kX13_points [.ref (G.1 100), .ref (G.1 130)] M1 (eFI (fun (r2 : Int32) (M2 : eM) => Cal G 100 40 (1, 0, 0) kX11_take [.ref (G.1 130), .int a1] M2 (eFV (fun (M3 : eM) => Cal G 100 40 (7, 0, 0) kX13_points [.ref (G.1 100), .ref (G.1 130)] M3 (eFI (fun (r4 : Int32) (M4 : eM) => F (r2 - r4) M4))))))) ∧ ((r1 = false) → F 0 M1)))) :
    Cal G 100 40 (8, 0, 0) kX13_takeTile [.ref (G.1 100), .int a1] M (eFI F) := by
  refine Cal.of (by decide +kernel) rfl (Nat.le_of_ble_eq_true rfl) ?_
  show Ev (eZ G 100 40 0 0 (eFI F)) G 100 40 (8, 0, 0) kX13_takeTile 0 [(0, .ref (G.1 100)), (1, .int a1)] [] M 0 0
  refine r_aload_n 0 dX13_takeTile_0 rfl rfl ?_
  refine r_iload_n 1 dX13_takeTile_1 rfl rfl ?_
  refine r_callVZ (b' := (3, 0, 0)) (c := 100) (S := []) [.int a1] dX13_takeTile_2 mX13_lies lMX13_403 clX13 rfl iM100 sC100 rfl (by decide) (Nat.le_of_ble_eq_true rfl) h (fun r1 M1 h => ?_) rfl
  refine r_zif_ne (t := 10) dX13_takeTile_5 (by decide) (fun q => ?_) (fun q => ?_)
  · replace h := h.1 q
    refine r_aload_n 0 dX13_takeTile_10 rfl rfl ?_
    refine r_aload_n 0 dX13_takeTile_11 rfl rfl ?_
    refine r_getR (c := 100) (k := 17) 130 dX13_takeTile_12 clX13 lFX13_48 (by decide) iM100 sC100 rfl ?_
    refine r_callVI (b' := (7, 0, 0)) (c := 100) (S := []) [.ref (G.1 130)] dX13_takeTile_15 mX13_points lMX13_349 clX13 rfl iM100 sC100 rfl (by decide) (Nat.le_of_ble_eq_true rfl) h (fun r2 M2 h => ?_) rfl
    refine r_istore_n (l' := [(2, .int r2), (0, .ref (G.1 100)), (1, .int a1)]) dX13_takeTile_18 rfl (by decide) rfl ?_
    refine r_aload_n 1 dX13_takeTile_19 rfl rfl ?_
    refine r_getR (c := 100) (k := 17) 130 dX13_takeTile_20 clX13 lFX13_48 (by decide) iM100 sC100 rfl ?_
    refine r_iload_n 2 dX13_takeTile_23 rfl rfl ?_
    refine r_callVV (b' := (1, 0, 0)) (c := 130) (S := []) [.int a1] dX13_takeTile_24 mX11_take lMX13_378 clX11 rfl iM130 sC130 rfl (by decide) (Nat.le_of_ble_eq_true rfl) h (fun M3 h => ?_) rfl
    refine r_iload_n 0 dX13_takeTile_27 rfl rfl ?_
    refine r_aload_n 1 dX13_takeTile_28 rfl rfl ?_
    refine r_aload_n 1 dX13_takeTile_29 rfl rfl ?_
    refine r_getR (c := 100) (k := 17) 130 dX13_takeTile_30 clX13 lFX13_48 (by decide) iM100 sC100 rfl ?_
    refine r_callVI (b' := (7, 0, 0)) (c := 100) (S := [.int r2]) [.ref (G.1 130)] dX13_takeTile_33 mX13_points lMX13_349 clX13 rfl iM100 sC100 rfl (by decide) (Nat.le_of_ble_eq_true rfl) h (fun r4 M4 h => ?_) rfl
    refine r_isub dX13_takeTile_36 ?_
    refine r_iretI dX13_takeTile_37 rfl (by decide) (by decide) h
  · replace h := h.2 q
    refine r_iconst (v := 0) dX13_takeTile_8 rfl ?_
    refine r_iretI dX13_takeTile_9 rfl (by decide) (by decide) h
set_option maxHeartbeats 4000000 in
set_option maxRecDepth 100000 in
theorem C_X13_fitTile (G : eG) (M : eM) (F : Int32 → eM → Prop) (a1 : Int32)
    (h : Cal G 100 40 (2, 0, 0) kX13_isTile [.ref (G.1 100), .int a1] (eU M 100 0 0) (eFZ (fun (r1 : Bool) (M1 : eM) => ((r1 = true) → Cal G 100 40 (7, 0, 0) kX13_isFitted [.ref (G.1 100), .ref (G.1 130), .int a1] M1 (eFZ (fun (r2 : Bool) (M2 : eM) => ((r2 = false) → Cal G 100 40 (1, 0, 0) kX13_no [.ref (G.1 100), .int 2] M2 (eFI (fun (r3 : Int32) (M3 : eM) => F r3 M3))) ∧ ((r2 = true) → vp_in a1 16 ∧ (F (M2 132 a1.toNatClampNeg) M2))))) ∧ ((r1 = false) → Cal G 100 40 (1, 0, 0) kX13_no [.ref (G.1 100), .int 1] M1 (eFI (fun (r4 : Int32) (M4 : eM) => F r4 M4)))))) :
    Cal G 100 40 (8, 0, 0) kX13_fitTile [.ref (G.1 100), .int a1] M (eFI F) := by
  refine Cal.of (by decide +kernel) rfl (Nat.le_of_ble_eq_true rfl) ?_
  show Ev (eZ G 100 40 0 0 (eFI F)) G 100 40 (8, 0, 0) kX13_fitTile 0 [(0, .ref (G.1 100)), (1, .int a1)] [] M 0 0
  refine r_aload_n 0 dX13_fitTile_0 rfl rfl ?_
  refine r_iconst (v := 0) dX13_fitTile_1 rfl ?_
  refine r_putI (c := 100) (k := 0) dX13_fitTile_2 clX13 lFX13_65 (by decide) iM100 sC100 rfl rfl rfl ?_
  refine r_aload_n 0 dX13_fitTile_5 rfl rfl ?_
  refine r_iload_n 1 dX13_fitTile_6 rfl rfl ?_
  refine r_callVZ (b' := (2, 0, 0)) (c := 100) (S := []) [.int a1] dX13_fitTile_7 mX13_isTile lMX13_400 clX13 rfl iM100 sC100 rfl (by decide) (Nat.le_of_ble_eq_true rfl) h (fun r1 M1 h => ?_) rfl
  refine r_zif_ne (t := 19) dX13_fitTile_10 (by decide) (fun q => ?_) (fun q => ?_)
  · replace h := h.1 q
    refine r_aload_n 0 dX13_fitTile_19 rfl rfl ?_
    refine r_aload_n 0 dX13_fitTile_20 rfl rfl ?_
    refine r_getR (c := 100) (k := 17) 130 dX13_fitTile_21 clX13 lFX13_48 (by decide) iM100 sC100 rfl ?_
    refine r_iload_n 1 dX13_fitTile_24 rfl rfl ?_
    refine r_callVZ (b' := (7, 0, 0)) (c := 100) (S := []) [.ref (G.1 130), .int a1] dX13_fitTile_25 mX13_isFitted lMX13_371 clX13 rfl iM100 sC100 rfl (by decide) (Nat.le_of_ble_eq_true rfl) h (fun r2 M2 h => ?_) rfl
    refine r_zif_eq (t := 43) dX13_fitTile_28 (by decide) (fun q => ?_) (fun q => ?_)
    · replace h := h.1 q
      refine r_aload_n 0 dX13_fitTile_43 rfl rfl ?_
      refine r_iconst (v := 2) dX13_fitTile_44 rfl ?_
      refine r_callVI (b' := (1, 0, 0)) (c := 100) (S := []) [.int 2] dX13_fitTile_45 mX13_no lMX13_254 clX13 rfl iM100 sC100 rfl (by decide) (Nat.le_of_ble_eq_true rfl) h (fun r3 M3 h => ?_) rfl
      refine r_iretI dX13_fitTile_48 rfl (by decide) (by decide) h
    · replace h := h.2 q
      refine r_aload_n 0 dX13_fitTile_31 rfl rfl ?_
      refine r_getR (c := 100) (k := 17) 130 dX13_fitTile_32 clX13 lFX13_48 (by decide) iM100 sC100 rfl ?_
      refine r_getNR (c := 130) (k := 1) 132 dX13_fitTile_35 clX11 lFX13_293 (by decide) iM130 sC130 rfl ?_
      refine r_iload_n 1 dX13_fitTile_38 rfl rfl ?_
      have h1 := h.1
      replace h := h.2
      refine r_iald (c := 132) (N := 16) dX13_fitTile_39 iM132 sC132 h1 ?_
      refine r_goto (t := 48) dX13_fitTile_40 (by decide) ?_
      refine r_iretI dX13_fitTile_48 rfl (by decide) (by decide) h
  · replace h := h.2 q
    refine r_aload_n 0 dX13_fitTile_13 rfl rfl ?_
    refine r_iconst (v := 1) dX13_fitTile_14 rfl ?_
    refine r_callVI (b' := (1, 0, 0)) (c := 100) (S := []) [.int 1] dX13_fitTile_15 mX13_no lMX13_254 clX13 rfl iM100 sC100 rfl (by decide) (Nat.le_of_ble_eq_true rfl) h (fun r4 M4 h => ?_) rfl
    refine r_iretI dX13_fitTile_18 rfl (by decide) (by decide) h
set_option maxHeartbeats 4000000 in
set_option maxRecDepth 100000 in
theorem B_X13_playRounds_25 (G : eG) (M : eM) (F : Int32 → eM → Prop) (x1 : Int32) (x2 : Int32) (x3 : Int32)
    (h : ((x1 ≤ x3) → F x2 M) ∧ ((¬ x1 ≤ x3) → Cal G 100 40 (10, 0, 0) kX13_play [.ref (G.1 100), .ref (G.1 130)] M (eFI (fun (r1 : Int32) (M1 : eM) => Ev (eZ G 100 40 0 0 (eFI F)) G 100 40 (11, 0, 0) kX13_playRounds 25 [(0, .ref (G.1 100)), (1, .int x1), (2, .int (x2 + r1)), (3, .int (x3 + 1))] [] M1 0 0)))) :
    Ev (eZ G 100 40 0 0 (eFI F)) G 100 40 (11, 0, 0) kX13_playRounds 25 [(0, .ref (G.1 100)), (1, .int x1), (2, .int x2), (3, .int x3)] [] M 0 0 := by
  refine r_iload_n 3 dX13_playRounds_25 rfl rfl ?_
  refine r_iload_n 1 dX13_playRounds_26 rfl rfl ?_
  refine r_icmp_ge (t := 47) dX13_playRounds_27 (by decide) (fun q => ?_) (fun q => ?_)
  · replace h := h.1 q
    refine r_iload_n 2 dX13_playRounds_47 rfl rfl ?_
    refine r_iretI dX13_playRounds_48 rfl (by decide) (by decide) h
  · replace h := h.2 q
    refine r_iload_n 2 dX13_playRounds_30 rfl rfl ?_
    refine r_aload_n 0 dX13_playRounds_31 rfl rfl ?_
    refine r_aload_n 0 dX13_playRounds_32 rfl rfl ?_
    refine r_getR (c := 100) (k := 17) 130 dX13_playRounds_33 clX13 lFX13_48 (by decide) iM100 sC100 rfl ?_
    refine r_callVI (b' := (10, 0, 0)) (c := 100) (S := [.int x2]) [.ref (G.1 130)] dX13_playRounds_36 mX13_play lMX13_412 clX13 rfl iM100 sC100 rfl (by decide) (Nat.le_of_ble_eq_true rfl) h (fun r1 M1 h => ?_) rfl
    refine r_iadd dX13_playRounds_39 ?_
    refine r_istore_n (l' := [(2, .int (x2 + r1)), (0, .ref (G.1 100)), (1, .int x1), (3, .int x3)]) dX13_playRounds_40 rfl (by decide) rfl ?_
    refine r_iinc (v := x3 + 1) (l' := [(3, .int (x3 + 1)), (2, .int (x2 + r1)), (0, .ref (G.1 100)), (1, .int x1)]) 3 dX13_playRounds_41 rfl rfl (by decide) rfl ?_
    refine r_goto (t := 25) dX13_playRounds_44 (by decide) ?_
    exact Ev.sub (ks := [2, 3, 1, 0]) rfl h
set_option maxHeartbeats 4000000 in
set_option maxRecDepth 100000 in
theorem C_X13_playRounds (G : eG) (M : eM) (F : Int32 → eM → Prop) (a1 : Int32)
    (h : Cal G 100 40 (1, 0, 0) kX13_isIn [.int a1, .int 1, .int 20] (eU M 100 0 0) (eFZ (fun (r1 : Bool) (M1 : eM) => ((r1 = true) → Ev (eZ G 100 40 0 0 (eFI F)) G 100 40 (11, 0, 0) kX13_playRounds 25 [(0, .ref (G.1 100)), (1, .int a1), (2, .int 0), (3, .int 0)] [] M1 0 0) ∧ ((r1 = false) → Cal G 100 40 (1, 0, 0) kX13_no [.ref (G.1 100), .int 1] M1 (eFI (fun (r2 : Int32) (M2 : eM) => F r2 M2)))))) :
    Cal G 100 40 (11, 0, 0) kX13_playRounds [.ref (G.1 100), .int a1] M (eFI F) := by
  refine Cal.of (by decide +kernel) rfl (Nat.le_of_ble_eq_true rfl) ?_
  show Ev (eZ G 100 40 0 0 (eFI F)) G 100 40 (11, 0, 0) kX13_playRounds 0 [(0, .ref (G.1 100)), (1, .int a1)] [] M 0 0
  refine r_aload_n 0 dX13_playRounds_0 rfl rfl ?_
  refine r_iconst (v := 0) dX13_playRounds_1 rfl ?_
  refine r_putI (c := 100) (k := 0) dX13_playRounds_2 clX13 lFX13_65 (by decide) iM100 sC100 rfl rfl rfl ?_
  refine r_iload_n 1 dX13_playRounds_5 rfl rfl ?_
  refine r_iconst (v := 1) dX13_playRounds_6 rfl ?_
  refine r_bipush (v := 20) dX13_playRounds_7 rfl ?_
  refine r_callSZ (b' := (1, 0, 0)) (S := []) [.int a1, .int 1, .int 20] dX13_playRounds_9 mX13_isIn lMX13_68 rfl (by decide) (Nat.le_of_ble_eq_true rfl) h (fun r1 M1 h => ?_) rfl
  refine r_zif_ne (t := 21) dX13_playRounds_12 (by decide) (fun q => ?_) (fun q => ?_)
  · replace h := h.1 q
    refine r_iconst (v := 0) dX13_playRounds_21 rfl ?_
    refine r_istore_n (l' := [(2, .int 0), (0, .ref (G.1 100)), (1, .int a1)]) dX13_playRounds_22 rfl (by decide) rfl ?_
    refine r_iconst (v := 0) dX13_playRounds_23 rfl ?_
    refine r_istore_n (l' := [(3, .int 0), (2, .int 0), (0, .ref (G.1 100)), (1, .int a1)]) dX13_playRounds_24 rfl (by decide) rfl ?_
    exact Ev.sub (ks := [2, 3, 1, 0]) rfl h
  · replace h := h.2 q
    refine r_aload_n 0 dX13_playRounds_15 rfl rfl ?_
    refine r_iconst (v := 1) dX13_playRounds_16 rfl ?_
    refine r_callVI (b' := (1, 0, 0)) (c := 100) (S := []) [.int 1] dX13_playRounds_17 mX13_no lMX13_254 clX13 rfl iM100 sC100 rfl (by decide) (Nat.le_of_ble_eq_true rfl) h (fun r2 M2 h => ?_) rfl
    refine r_iretI dX13_playRounds_20 rfl (by decide) (by decide) h
set_option maxHeartbeats 4000000 in
set_option maxRecDepth 100000 in
theorem B_X13_pointsAfter_34 (G : eG) (M : eM) (F : Int32 → eM → Prop) (x1 : Int32) (x2 : Int32)
    (h : ((x1 ≤ x2) → Cal G 100 40 (7, 0, 0) kX13_points [.ref (G.1 100), .ref (G.1 134)] M (eFI (fun (r1 : Int32) (M1 : eM) => F r1 M1))) ∧ ((¬ x1 ≤ x2) → Cal G 100 40 (10, 0, 0) kX13_play [.ref (G.1 100), .ref (G.1 134)] M (eFI (fun (r2 : Int32) (M2 : eM) => Ev (eZ G 100 40 0 0 (eFI F)) G 100 40 (11, 0, 0) kX13_pointsAfter 34 [(0, .ref (G.1 100)), (1, .int x1), (2, .int (x2 + 1))] [] M2 0 0)))) :
    Ev (eZ G 100 40 0 0 (eFI F)) G 100 40 (11, 0, 0) kX13_pointsAfter 34 [(0, .ref (G.1 100)), (1, .int x1), (2, .int x2)] [] M 0 0 := by
  refine r_iload_n 2 dX13_pointsAfter_34 rfl rfl ?_
  refine r_iload_n 1 dX13_pointsAfter_35 rfl rfl ?_
  refine r_icmp_ge (t := 54) dX13_pointsAfter_36 (by decide) (fun q => ?_) (fun q => ?_)
  · replace h := h.1 q
    refine r_aload_n 0 dX13_pointsAfter_54 rfl rfl ?_
    refine r_aload_n 0 dX13_pointsAfter_55 rfl rfl ?_
    refine r_getR (c := 100) (k := 18) 134 dX13_pointsAfter_56 clX13 lFX13_52 (by decide) iM100 sC100 rfl ?_
    refine r_callVI (b' := (7, 0, 0)) (c := 100) (S := []) [.ref (G.1 134)] dX13_pointsAfter_59 mX13_points lMX13_349 clX13 rfl iM100 sC100 rfl (by decide) (Nat.le_of_ble_eq_true rfl) h (fun r1 M1 h => ?_) rfl
    refine r_iretI dX13_pointsAfter_62 rfl (by decide) (by decide) h
  · replace h := h.2 q
    refine r_aload_n 0 dX13_pointsAfter_39 rfl rfl ?_
    refine r_aload_n 0 dX13_pointsAfter_40 rfl rfl ?_
    refine r_getR (c := 100) (k := 18) 134 dX13_pointsAfter_41 clX13 lFX13_52 (by decide) iM100 sC100 rfl ?_
    refine r_callVI (b' := (10, 0, 0)) (c := 100) (S := []) [.ref (G.1 134)] dX13_pointsAfter_44 mX13_play lMX13_412 clX13 rfl iM100 sC100 rfl (by decide) (Nat.le_of_ble_eq_true rfl) h (fun r2 M2 h => ?_) rfl
    refine r_pop dX13_pointsAfter_47 rfl ?_
    refine r_iinc (v := x2 + 1) (l' := [(2, .int (x2 + 1)), (0, .ref (G.1 100)), (1, .int x1)]) 2 dX13_pointsAfter_48 rfl rfl (by decide) rfl ?_
    refine r_goto (t := 34) dX13_pointsAfter_51 (by decide) ?_
    exact Ev.sub (ks := [1, 2, 0]) rfl h
set_option maxHeartbeats 4000000 in
set_option maxRecDepth 100000 in
theorem C_X13_pointsAfter (G : eG) (M : eM) (F : Int32 → eM → Prop) (a1 : Int32)
    (h : Cal G 100 40 (1, 0, 0) kX13_isIn [.int a1, .int 1, .int 20] (eU M 100 0 0) (eFZ (fun (r1 : Bool) (M1 : eM) => ((r1 = true) → Cal G 100 40 (2, 0, 0) kX11_become [.ref (G.1 134), .ref (G.1 130)] M1 (eFV (fun (M2 : eM) => Ev (eZ G 100 40 0 0 (eFI F)) G 100 40 (11, 0, 0) kX13_pointsAfter 34 [(0, .ref (G.1 100)), (1, .int a1), (2, .int 0)] [] M2 0 0))) ∧ ((r1 = false) → Cal G 100 40 (1, 0, 0) kX13_no [.ref (G.1 100), .int 1] M1 (eFI (fun (r3 : Int32) (M3 : eM) => F r3 M3)))))) :
    Cal G 100 40 (11, 0, 0) kX13_pointsAfter [.ref (G.1 100), .int a1] M (eFI F) := by
  refine Cal.of (by decide +kernel) rfl (Nat.le_of_ble_eq_true rfl) ?_
  show Ev (eZ G 100 40 0 0 (eFI F)) G 100 40 (11, 0, 0) kX13_pointsAfter 0 [(0, .ref (G.1 100)), (1, .int a1)] [] M 0 0
  refine r_aload_n 0 dX13_pointsAfter_0 rfl rfl ?_
  refine r_iconst (v := 0) dX13_pointsAfter_1 rfl ?_
  refine r_putI (c := 100) (k := 0) dX13_pointsAfter_2 clX13 lFX13_65 (by decide) iM100 sC100 rfl rfl rfl ?_
  refine r_iload_n 1 dX13_pointsAfter_5 rfl rfl ?_
  refine r_iconst (v := 1) dX13_pointsAfter_6 rfl ?_
  refine r_bipush (v := 20) dX13_pointsAfter_7 rfl ?_
  refine r_callSZ (b' := (1, 0, 0)) (S := []) [.int a1, .int 1, .int 20] dX13_pointsAfter_9 mX13_isIn lMX13_68 rfl (by decide) (Nat.le_of_ble_eq_true rfl) h (fun r1 M1 h => ?_) rfl
  refine r_zif_ne (t := 21) dX13_pointsAfter_12 (by decide) (fun q => ?_) (fun q => ?_)
  · replace h := h.1 q
    refine r_aload_n 0 dX13_pointsAfter_21 rfl rfl ?_
    refine r_getR (c := 100) (k := 18) 134 dX13_pointsAfter_22 clX13 lFX13_52 (by decide) iM100 sC100 rfl ?_
    refine r_aload_n 0 dX13_pointsAfter_25 rfl rfl ?_
    refine r_getR (c := 100) (k := 17) 130 dX13_pointsAfter_26 clX13 lFX13_48 (by decide) iM100 sC100 rfl ?_
    refine r_callVV (b' := (2, 0, 0)) (c := 134) (S := []) [.ref (G.1 130)] dX13_pointsAfter_29 mX11_become lMX13_415 clX11 rfl iM134 sC134 rfl (by decide) (Nat.le_of_ble_eq_true rfl) h (fun M2 h => ?_) rfl
    refine r_iconst (v := 0) dX13_pointsAfter_32 rfl ?_
    refine r_istore_n (l' := [(2, .int 0), (0, .ref (G.1 100)), (1, .int a1)]) dX13_pointsAfter_33 rfl (by decide) rfl ?_
    exact Ev.sub (ks := [1, 2, 0]) rfl h
  · replace h := h.2 q
    refine r_aload_n 0 dX13_pointsAfter_15 rfl rfl ?_
    refine r_iconst (v := 1) dX13_pointsAfter_16 rfl ?_
    refine r_callVI (b' := (1, 0, 0)) (c := 100) (S := []) [.int 1] dX13_pointsAfter_17 mX13_no lMX13_254 clX13 rfl iM100 sC100 rfl (by decide) (Nat.le_of_ble_eq_true rfl) h (fun r3 M3 h => ?_) rfl
    refine r_iretI dX13_pointsAfter_20 rfl (by decide) (by decide) h
set_option maxHeartbeats 4000000 in
set_option maxRecDepth 100000 in
theorem B_X13_roundsUntilRing_18 (G : eG) (M : eM) (F : Int32 → eM → Prop) (x1 : Int32)
    (h : ((20 < x1) → F (-1) M) ∧ ((¬ 20 < x1) → Cal G 100 40 (6, 0, 0) kX13_rings [.ref (G.1 100), .ref (G.1 134)] M (eFI (fun (r1 : Int32) (M1 : eM) => ((r1 ≤ 0) → Cal G 100 40 (10, 0, 0) kX13_play [.ref (G.1 100), .ref (G.1 134)] M1 (eFI (fun (r2 : Int32) (M2 : eM) => Ev (eZ G 100 40 0 0 (eFI F)) G 100 40 (11, 0, 0) kX13_roundsUntilRing 18 [(0, .ref (G.1 100)), (1, .int (x1 + 1))] [] M2 0 0))) ∧ ((¬ r1 ≤ 0) → F x1 M1))))) :
    Ev (eZ G 100 40 0 0 (eFI F)) G 100 40 (11, 0, 0) kX13_roundsUntilRing 18 [(0, .ref (G.1 100)), (1, .int x1)] [] M 0 0 := by
  refine r_iload_n 1 dX13_roundsUntilRing_18 rfl rfl ?_
  refine r_bipush (v := 20) dX13_roundsUntilRing_19 rfl ?_
  refine r_icmp_gt (t := 52) dX13_roundsUntilRing_21 (by decide) (fun q => ?_) (fun q => ?_)
  · replace h := h.1 q
    refine r_iconst (v := (-1)) dX13_roundsUntilRing_52 rfl ?_
    refine r_iretI dX13_roundsUntilRing_53 rfl (by decide) (by decide) h
  · replace h := h.2 q
    refine r_aload_n 0 dX13_roundsUntilRing_24 rfl rfl ?_
    refine r_aload_n 0 dX13_roundsUntilRing_25 rfl rfl ?_
    refine r_getR (c := 100) (k := 18) 134 dX13_roundsUntilRing_26 clX13 lFX13_52 (by decide) iM100 sC100 rfl ?_
    refine r_callVI (b' := (6, 0, 0)) (c := 100) (S := []) [.ref (G.1 134)] dX13_roundsUntilRing_29 mX13_rings lMX13_325 clX13 rfl iM100 sC100 rfl (by decide) (Nat.le_of_ble_eq_true rfl) h (fun r1 M1 h => ?_) rfl
    refine r_if_le (t := 37) dX13_roundsUntilRing_32 (by decide) (fun q => ?_) (fun q => ?_)
    · replace h := h.1 q
      refine r_aload_n 0 dX13_roundsUntilRing_37 rfl rfl ?_
      refine r_aload_n 0 dX13_roundsUntilRing_38 rfl rfl ?_
      refine r_getR (c := 100) (k := 18) 134 dX13_roundsUntilRing_39 clX13 lFX13_52 (by decide) iM100 sC100 rfl ?_
      refine r_callVI (b' := (10, 0, 0)) (c := 100) (S := []) [.ref (G.1 134)] dX13_roundsUntilRing_42 mX13_play lMX13_412 clX13 rfl iM100 sC100 rfl (by decide) (Nat.le_of_ble_eq_true rfl) h (fun r2 M2 h => ?_) rfl
      refine r_pop dX13_roundsUntilRing_45 rfl ?_
      refine r_iinc (v := x1 + 1) (l' := [(1, .int (x1 + 1)), (0, .ref (G.1 100))]) 1 dX13_roundsUntilRing_46 rfl rfl (by decide) rfl ?_
      refine r_goto (t := 18) dX13_roundsUntilRing_49 (by decide) ?_
      exact Ev.sub (ks := [1, 0]) rfl h
    · replace h := h.2 q
      refine r_iload_n 1 dX13_roundsUntilRing_35 rfl rfl ?_
      refine r_iretI dX13_roundsUntilRing_36 rfl (by decide) (by decide) h
set_option maxHeartbeats 4000000 in
set_option maxRecDepth 100000 in
theorem C_X13_roundsUntilRing (G : eG) (M : eM) (F : Int32 → eM → Prop) 
    (h : Cal G 100 40 (2, 0, 0) kX11_become [.ref (G.1 134), .ref (G.1 130)] (eU M 100 0 0) (eFV (fun (M1 : eM) => Ev (eZ G 100 40 0 0 (eFI F)) G 100 40 (11, 0, 0) kX13_roundsUntilRing 18 [(0, .ref (G.1 100)), (1, .int 0)] [] M1 0 0))) :
    Cal G 100 40 (11, 0, 0) kX13_roundsUntilRing [.ref (G.1 100)] M (eFI F) := by
  refine Cal.of (by decide +kernel) rfl (Nat.le_of_ble_eq_true rfl) ?_
  show Ev (eZ G 100 40 0 0 (eFI F)) G 100 40 (11, 0, 0) kX13_roundsUntilRing 0 [(0, .ref (G.1 100))] [] M 0 0
  refine r_aload_n 0 dX13_roundsUntilRing_0 rfl rfl ?_
  refine r_iconst (v := 0) dX13_roundsUntilRing_1 rfl ?_
  refine r_putI (c := 100) (k := 0) dX13_roundsUntilRing_2 clX13 lFX13_65 (by decide) iM100 sC100 rfl rfl rfl ?_
  refine r_aload_n 0 dX13_roundsUntilRing_5 rfl rfl ?_
  refine r_getR (c := 100) (k := 18) 134 dX13_roundsUntilRing_6 clX13 lFX13_52 (by decide) iM100 sC100 rfl ?_
  refine r_aload_n 0 dX13_roundsUntilRing_9 rfl rfl ?_
  refine r_getR (c := 100) (k := 17) 130 dX13_roundsUntilRing_10 clX13 lFX13_48 (by decide) iM100 sC100 rfl ?_
  refine r_callVV (b' := (2, 0, 0)) (c := 134) (S := []) [.ref (G.1 130)] dX13_roundsUntilRing_13 mX11_become lMX13_415 clX11 rfl iM134 sC134 rfl (by decide) (Nat.le_of_ble_eq_true rfl) h (fun M1 h => ?_) rfl
  refine r_iconst (v := 0) dX13_roundsUntilRing_16 rfl ?_
  refine r_istore_n (l' := [(1, .int 0), (0, .ref (G.1 100))]) dX13_roundsUntilRing_17 rfl (by decide) rfl ?_
  exact Ev.sub (ks := [1, 0]) rfl h
set_option maxHeartbeats 4000000 in
set_option maxRecDepth 100000 in
theorem C_X13_bestCell (G : eG) (M : eM) (F : Int32 → eM → Prop) (a1 : Int32)
    (h : Cal G 100 40 (2, 0, 0) kX13_isTile [.ref (G.1 100), .int a1] (eU M 100 0 0) (eFZ (fun (r1 : Bool) (M1 : eM) => ((r1 = true) → Cal G 100 40 (6, 0, 0) kX13_hasBest [.ref (G.1 100), .ref (G.1 130), .int a1] M1 (eFZ (fun (r2 : Bool) (M2 : eM) => ((r2 = false) → Cal G 100 40 (1, 0, 0) kX13_no [.ref (G.1 100), .int 2] M2 (eFI (fun (r3 : Int32) (M3 : eM) => F r3 M3))) ∧ ((r2 = true) → F (M2 100 22) M2)))) ∧ ((r1 = false) → Cal G 100 40 (1, 0, 0) kX13_no [.ref (G.1 100), .int 1] M1 (eFI (fun (r4 : Int32) (M4 : eM) => F r4 M4)))))) :
    Cal G 100 40 (7, 0, 0) kX13_bestCell [.ref (G.1 100), .int a1] M (eFI F) := by
  refine Cal.of (by decide +kernel) rfl (Nat.le_of_ble_eq_true rfl) ?_
  show Ev (eZ G 100 40 0 0 (eFI F)) G 100 40 (7, 0, 0) kX13_bestCell 0 [(0, .ref (G.1 100)), (1, .int a1)] [] M 0 0
  refine r_aload_n 0 dX13_bestCell_0 rfl rfl ?_
  refine r_iconst (v := 0) dX13_bestCell_1 rfl ?_
  refine r_putI (c := 100) (k := 0) dX13_bestCell_2 clX13 lFX13_65 (by decide) iM100 sC100 rfl rfl rfl ?_
  refine r_aload_n 0 dX13_bestCell_5 rfl rfl ?_
  refine r_iload_n 1 dX13_bestCell_6 rfl rfl ?_
  refine r_callVZ (b' := (2, 0, 0)) (c := 100) (S := []) [.int a1] dX13_bestCell_7 mX13_isTile lMX13_400 clX13 rfl iM100 sC100 rfl (by decide) (Nat.le_of_ble_eq_true rfl) h (fun r1 M1 h => ?_) rfl
  refine r_zif_ne (t := 19) dX13_bestCell_10 (by decide) (fun q => ?_) (fun q => ?_)
  · replace h := h.1 q
    refine r_aload_n 0 dX13_bestCell_19 rfl rfl ?_
    refine r_aload_n 0 dX13_bestCell_20 rfl rfl ?_
    refine r_getR (c := 100) (k := 17) 130 dX13_bestCell_21 clX13 lFX13_48 (by decide) iM100 sC100 rfl ?_
    refine r_iload_n 1 dX13_bestCell_24 rfl rfl ?_
    refine r_callVZ (b' := (6, 0, 0)) (c := 100) (S := []) [.ref (G.1 130), .int a1] dX13_bestCell_25 mX13_hasBest lMX13_418 clX13 rfl iM100 sC100 rfl (by decide) (Nat.le_of_ble_eq_true rfl) h (fun r2 M2 h => ?_) rfl
    refine r_zif_eq (t := 38) dX13_bestCell_28 (by decide) (fun q => ?_) (fun q => ?_)
    · replace h := h.1 q
      refine r_aload_n 0 dX13_bestCell_38 rfl rfl ?_
      refine r_iconst (v := 2) dX13_bestCell_39 rfl ?_
      refine r_callVI (b' := (1, 0, 0)) (c := 100) (S := []) [.int 2] dX13_bestCell_40 mX13_no lMX13_254 clX13 rfl iM100 sC100 rfl (by decide) (Nat.le_of_ble_eq_true rfl) h (fun r3 M3 h => ?_) rfl
      refine r_iretI dX13_bestCell_43 rfl (by decide) (by decide) h
    · replace h := h.2 q
      refine r_aload_n 0 dX13_bestCell_31 rfl rfl ?_
      refine r_getI (c := 100) (k := 22) dX13_bestCell_32 clX13 lFX13_337 (by decide) iM100 sC100 rfl ?_
      refine r_goto (t := 43) dX13_bestCell_35 (by decide) ?_
      refine r_iretI dX13_bestCell_43 rfl (by decide) (by decide) h
  · replace h := h.2 q
    refine r_aload_n 0 dX13_bestCell_13 rfl rfl ?_
    refine r_iconst (v := 1) dX13_bestCell_14 rfl ?_
    refine r_callVI (b' := (1, 0, 0)) (c := 100) (S := []) [.int 1] dX13_bestCell_15 mX13_no lMX13_254 clX13 rfl iM100 sC100 rfl (by decide) (Nat.le_of_ble_eq_true rfl) h (fun r4 M4 h => ?_) rfl
    refine r_iretI dX13_bestCell_18 rfl (by decide) (by decide) h
set_option maxHeartbeats 4000000 in
set_option maxRecDepth 100000 in
theorem C_X13_bestTurn (G : eG) (M : eM) (F : Int32 → eM → Prop) (a1 : Int32)
    (h : Cal G 100 40 (2, 0, 0) kX13_isTile [.ref (G.1 100), .int a1] (eU M 100 0 0) (eFZ (fun (r1 : Bool) (M1 : eM) => ((r1 = true) → Cal G 100 40 (6, 0, 0) kX13_hasBest [.ref (G.1 100), .ref (G.1 130), .int a1] M1 (eFZ (fun (r2 : Bool) (M2 : eM) => ((r2 = false) → Cal G 100 40 (1, 0, 0) kX13_no [.ref (G.1 100), .int 2] M2 (eFI (fun (r3 : Int32) (M3 : eM) => F r3 M3))) ∧ ((r2 = true) → F (M2 100 23) M2)))) ∧ ((r1 = false) → Cal G 100 40 (1, 0, 0) kX13_no [.ref (G.1 100), .int 1] M1 (eFI (fun (r4 : Int32) (M4 : eM) => F r4 M4)))))) :
    Cal G 100 40 (7, 0, 0) kX13_bestTurn [.ref (G.1 100), .int a1] M (eFI F) := by
  refine Cal.of (by decide +kernel) rfl (Nat.le_of_ble_eq_true rfl) ?_
  show Ev (eZ G 100 40 0 0 (eFI F)) G 100 40 (7, 0, 0) kX13_bestTurn 0 [(0, .ref (G.1 100)), (1, .int a1)] [] M 0 0
  refine r_aload_n 0 dX13_bestTurn_0 rfl rfl ?_
  refine r_iconst (v := 0) dX13_bestTurn_1 rfl ?_
  refine r_putI (c := 100) (k := 0) dX13_bestTurn_2 clX13 lFX13_65 (by decide) iM100 sC100 rfl rfl rfl ?_
  refine r_aload_n 0 dX13_bestTurn_5 rfl rfl ?_
  refine r_iload_n 1 dX13_bestTurn_6 rfl rfl ?_
  refine r_callVZ (b' := (2, 0, 0)) (c := 100) (S := []) [.int a1] dX13_bestTurn_7 mX13_isTile lMX13_400 clX13 rfl iM100 sC100 rfl (by decide) (Nat.le_of_ble_eq_true rfl) h (fun r1 M1 h => ?_) rfl
  refine r_zif_ne (t := 19) dX13_bestTurn_10 (by decide) (fun q => ?_) (fun q => ?_)
  · replace h := h.1 q
    refine r_aload_n 0 dX13_bestTurn_19 rfl rfl ?_
    refine r_aload_n 0 dX13_bestTurn_20 rfl rfl ?_
    refine r_getR (c := 100) (k := 17) 130 dX13_bestTurn_21 clX13 lFX13_48 (by decide) iM100 sC100 rfl ?_
    refine r_iload_n 1 dX13_bestTurn_24 rfl rfl ?_
    refine r_callVZ (b' := (6, 0, 0)) (c := 100) (S := []) [.ref (G.1 130), .int a1] dX13_bestTurn_25 mX13_hasBest lMX13_418 clX13 rfl iM100 sC100 rfl (by decide) (Nat.le_of_ble_eq_true rfl) h (fun r2 M2 h => ?_) rfl
    refine r_zif_eq (t := 38) dX13_bestTurn_28 (by decide) (fun q => ?_) (fun q => ?_)
    · replace h := h.1 q
      refine r_aload_n 0 dX13_bestTurn_38 rfl rfl ?_
      refine r_iconst (v := 2) dX13_bestTurn_39 rfl ?_
      refine r_callVI (b' := (1, 0, 0)) (c := 100) (S := []) [.int 2] dX13_bestTurn_40 mX13_no lMX13_254 clX13 rfl iM100 sC100 rfl (by decide) (Nat.le_of_ble_eq_true rfl) h (fun r3 M3 h => ?_) rfl
      refine r_iretI dX13_bestTurn_43 rfl (by decide) (by decide) h
    · replace h := h.2 q
      refine r_aload_n 0 dX13_bestTurn_31 rfl rfl ?_
      refine r_getI (c := 100) (k := 23) dX13_bestTurn_32 clX13 lFX13_340 (by decide) iM100 sC100 rfl ?_
      refine r_goto (t := 43) dX13_bestTurn_35 (by decide) ?_
      refine r_iretI dX13_bestTurn_43 rfl (by decide) (by decide) h
  · replace h := h.2 q
    refine r_aload_n 0 dX13_bestTurn_13 rfl rfl ?_
    refine r_iconst (v := 1) dX13_bestTurn_14 rfl ?_
    refine r_callVI (b' := (1, 0, 0)) (c := 100) (S := []) [.int 1] dX13_bestTurn_15 mX13_no lMX13_254 clX13 rfl iM100 sC100 rfl (by decide) (Nat.le_of_ble_eq_true rfl) h (fun r4 M4 h => ?_) rfl
    refine r_iretI dX13_bestTurn_18 rfl (by decide) (by decide) h
set_option maxHeartbeats 4000000 in
set_option maxRecDepth 100000 in
theorem B_X13_best_47 (G : eG) (M : eM) (F : Int32 → eM → Prop) (x1 : Int32) (x2 : Int32) (x3 : Int32)
    (h : Ev (eZ G 100 40 0 0 (eFI F)) G 100 40 (7, 0, 0) kX13_best 6 [(0, .ref (G.1 100)), (1, .int x1), (2, .int x2), (3, .int (x3 + 1))] [] M 0 0) :
    Ev (eZ G 100 40 0 0 (eFI F)) G 100 40 (7, 0, 0) kX13_best 47 [(0, .ref (G.1 100)), (1, .int x1), (2, .int x2), (3, .int x3)] [] M 0 0 := by
  refine r_iinc (v := x3 + 1) (l' := [(3, .int (x3 + 1)), (0, .ref (G.1 100)), (1, .int x1), (2, .int x2)]) 3 dX13_best_47 rfl rfl (by decide) rfl ?_
  refine r_goto (t := 6) dX13_best_50 (by decide) ?_
  exact Ev.sub (ks := [1, 2, 3, 0]) rfl h
set_option maxHeartbeats 4000000 in
set_option maxRecDepth 100000 in
theorem B_X13_best_6 (G : eG) (M : eM) (F : Int32 → eM → Prop) (x1 : Int32) (x2 : Int32) (x3 : Int32)
    (h : (((M 107 2) ≤ x3) → F x1 M) ∧ ((¬ (M 107 2) ≤ x3) → Cal G 100 40 (6, 0, 0) kX13_hasBest [.ref (G.1 100), .ref (G.1 130), .int x3] M (eFZ (fun (r1 : Bool) (M1 : eM) => ((r1 = false) → Ev (eZ G 100 40 0 0 (eFI F)) G 100 40 (7, 0, 0) kX13_best 47 [(0, .ref (G.1 100)), (1, .int x1), (2, .int x2), (3, .int x3)] [] M1 0 0) ∧ ((r1 = true) → ((x2 < (M1 100 21)) → Ev (eZ G 100 40 0 0 (eFI F)) G 100 40 (7, 0, 0) kX13_best 47 [(0, .ref (G.1 100)), (1, .int x3), (2, .int (M1 100 21)), (3, .int x3)] [] M1 0 0) ∧ ((¬ x2 < (M1 100 21)) → Ev (eZ G 100 40 0 0 (eFI F)) G 100 40 (7, 0, 0) kX13_best 47 [(0, .ref (G.1 100)), (1, .int x1), (2, .int x2), (3, .int x3)] [] M1 0 0)))))) :
    Ev (eZ G 100 40 0 0 (eFI F)) G 100 40 (7, 0, 0) kX13_best 6 [(0, .ref (G.1 100)), (1, .int x1), (2, .int x2), (3, .int x3)] [] M 0 0 := by
  refine r_iload_n 3 dX13_best_6 rfl rfl ?_
  refine r_aload_n 0 dX13_best_7 rfl rfl ?_
  refine r_getR (c := 100) (k := 14) 107 dX13_best_8 clX13 lFX13_35 (by decide) iM100 sC100 rfl ?_
  refine r_getNI (c := 107) (k := 2) dX13_best_11 clX12 lFX13_150 (by decide) iM107 sC107 rfl ?_
  refine r_icmp_ge (t := 53) dX13_best_14 (by decide) (fun q => ?_) (fun q => ?_)
  · replace h := h.1 q
    refine r_iload_n 1 dX13_best_53 rfl rfl ?_
    refine r_iretI dX13_best_54 rfl (by decide) (by decide) h
  · replace h := h.2 q
    refine r_aload_n 0 dX13_best_17 rfl rfl ?_
    refine r_aload_n 0 dX13_best_18 rfl rfl ?_
    refine r_getR (c := 100) (k := 17) 130 dX13_best_19 clX13 lFX13_48 (by decide) iM100 sC100 rfl ?_
    refine r_iload_n 3 dX13_best_22 rfl rfl ?_
    refine r_callVZ (b' := (6, 0, 0)) (c := 100) (S := []) [.ref (G.1 130), .int x3] dX13_best_23 mX13_hasBest lMX13_418 clX13 rfl iM100 sC100 rfl (by decide) (Nat.le_of_ble_eq_true rfl) h (fun r1 M1 h => ?_) rfl
    refine r_zif_eq (t := 47) dX13_best_26 (by decide) (fun q => ?_) (fun q => ?_)
    · replace h := h.1 q
      exact h
    · replace h := h.2 q
      refine r_aload_n 0 dX13_best_29 rfl rfl ?_
      refine r_getI (c := 100) (k := 21) dX13_best_30 clX13 lFX13_331 (by decide) iM100 sC100 rfl ?_
      refine r_iload_n 2 dX13_best_33 rfl rfl ?_
      refine r_icmp_gt (t := 40) dX13_best_34 (by decide) (fun q => ?_) (fun q => ?_)
      · replace h := h.1 q
        refine r_aload_n 0 dX13_best_40 rfl rfl ?_
        refine r_getI (c := 100) (k := 21) dX13_best_41 clX13 lFX13_331 (by decide) iM100 sC100 rfl ?_
        refine r_istore_n (l' := [(2, .int (M1 100 21)), (0, .ref (G.1 100)), (1, .int x1), (3, .int x3)]) dX13_best_44 rfl (by decide) rfl ?_
        refine r_iload_n 3 dX13_best_45 rfl rfl ?_
        refine r_istore_n (l' := [(1, .int x3), (2, .int (M1 100 21)), (0, .ref (G.1 100)), (3, .int x3)]) dX13_best_46 rfl (by decide) rfl ?_
        exact Ev.sub (ks := [2, 0, 1, 3]) rfl h
      · replace h := h.2 q
        refine r_goto (t := 47) dX13_best_37 (by decide) ?_
        exact h
set_option maxHeartbeats 4000000 in
set_option maxRecDepth 100000 in
theorem C_X13_best (G : eG) (M : eM) (F : Int32 → eM → Prop) 
    (h : Ev (eZ G 100 40 0 0 (eFI F)) G 100 40 (7, 0, 0) kX13_best 6 [(0, .ref (G.1 100)), (1, .int (-1)), (2, .int (-1)), (3, .int 0)] [] M 0 0) :
    Cal G 100 40 (7, 0, 0) kX13_best [.ref (G.1 100)] M (eFI F) := by
  refine Cal.of (by decide +kernel) rfl (Nat.le_of_ble_eq_true rfl) ?_
  show Ev (eZ G 100 40 0 0 (eFI F)) G 100 40 (7, 0, 0) kX13_best 0 [(0, .ref (G.1 100))] [] M 0 0
  refine r_iconst (v := (-1)) dX13_best_0 rfl ?_
  refine r_istore_n (l' := [(1, .int (-1)), (0, .ref (G.1 100))]) dX13_best_1 rfl (by decide) rfl ?_
  refine r_iconst (v := (-1)) dX13_best_2 rfl ?_
  refine r_istore_n (l' := [(2, .int (-1)), (1, .int (-1)), (0, .ref (G.1 100))]) dX13_best_3 rfl (by decide) rfl ?_
  refine r_iconst (v := 0) dX13_best_4 rfl ?_
  refine r_istore_n (l' := [(3, .int 0), (2, .int (-1)), (1, .int (-1)), (0, .ref (G.1 100))]) dX13_best_5 rfl (by decide) rfl ?_
  exact Ev.sub (ks := [3, 2, 1, 0]) rfl h
set_option maxHeartbeats 4000000 in
set_option maxRecDepth 100000 in
theorem C_X13_bestTile (G : eG) (M : eM) (F : Int32 → eM → Prop) 
    (h : Cal G 100 40 (7, 0, 0) kX13_best [.ref (G.1 100)] M (eFI (fun (r1 : Int32) (M1 : eM) => Cal G 100 40 (1, 0, 0) kX13_ok [.ref (G.1 100), .int r1] M1 (eFI (fun (r2 : Int32) (M2 : eM) => F r2 M2))))) :
    Cal G 100 40 (8, 0, 0) kX13_bestTile [.ref (G.1 100)] M (eFI F) := by
  refine Cal.of (by decide +kernel) rfl (Nat.le_of_ble_eq_true rfl) ?_
  show Ev (eZ G 100 40 0 0 (eFI F)) G 100 40 (8, 0, 0) kX13_bestTile 0 [(0, .ref (G.1 100))] [] M 0 0
  refine r_aload_n 0 dX13_bestTile_0 rfl rfl ?_
  refine r_aload_n 0 dX13_bestTile_1 rfl rfl ?_
  refine r_callVI (b' := (7, 0, 0)) (c := 100) (S := [.ref (G.1 100)]) [] dX13_bestTile_2 mX13_best lMX13_421 clX13 rfl iM100 sC100 rfl (by decide) (Nat.le_of_ble_eq_true rfl) h (fun r1 M1 h => ?_) rfl
  refine r_callVI (b' := (1, 0, 0)) (c := 100) (S := []) [.int r1] dX13_bestTile_5 mX13_ok lMX13_268 clX13 rfl iM100 sC100 rfl (by decide) (Nat.le_of_ble_eq_true rfl) h (fun r2 M2 h => ?_) rfl
  refine r_iretI dX13_bestTile_8 rfl (by decide) (by decide) h
set_option maxHeartbeats 4000000 in
set_option maxRecDepth 100000 in
theorem C_X13_meanMatch (G : eG) (M : eM) (F : UInt64 → eM → Prop) 
    (h : Cal G 100 40 (5, 0, 0) kX13_matches [.ref (G.1 100), .ref (G.1 130)] (eU M 100 0 0) (eFI (fun (r1 : Int32) (M1 : eM) => ((¬ r1 = 0) → Cal G 100 40 (4, 0, 0) kX13_matched [.ref (G.1 100), .ref (G.1 130)] M1 (eFI (fun (r2 : Int32) (M2 : eM) => Cal G 100 40 (5, 0, 0) kX13_matches [.ref (G.1 100), .ref (G.1 130)] M2 (eFI (fun (r3 : Int32) (M3 : eM) => vf_n64 (FP.ddiv (FP.i2d r2) (FP.i2d r3)) ∧ (F (FP.ddiv (FP.i2d r2) (FP.i2d r3)) M3)))))) ∧ ((r1 = 0) → F FP.dconst0 M1)))) :
    Cal G 100 40 (6, 0, 0) kX13_meanMatch [.ref (G.1 100)] M (eFD F) := by
  refine Cal.of (by decide +kernel) rfl (Nat.le_of_ble_eq_true rfl) ?_
  show Ev (eZ G 100 40 0 0 (eFD F)) G 100 40 (6, 0, 0) kX13_meanMatch 0 [(0, .ref (G.1 100))] [] M 0 0
  refine r_aload_n 0 dX13_meanMatch_0 rfl rfl ?_
  refine r_iconst (v := 0) dX13_meanMatch_1 rfl ?_
  refine r_putI (c := 100) (k := 0) dX13_meanMatch_2 clX13 lFX13_65 (by decide) iM100 sC100 rfl rfl rfl ?_
  refine r_aload_n 0 dX13_meanMatch_5 rfl rfl ?_
  refine r_aload_n 0 dX13_meanMatch_6 rfl rfl ?_
  refine r_getR (c := 100) (k := 17) 130 dX13_meanMatch_7 clX13 lFX13_48 (by decide) iM100 sC100 rfl ?_
  refine r_callVI (b' := (5, 0, 0)) (c := 100) (S := []) [.ref (G.1 130)] dX13_meanMatch_10 mX13_matches lMX13_346 clX13 rfl iM100 sC100 rfl (by decide) (Nat.le_of_ble_eq_true rfl) h (fun r1 M1 h => ?_) rfl
  refine r_if_ne (t := 20) dX13_meanMatch_13 (by decide) (fun q => ?_) (fun q => ?_)
  · replace h := h.1 q
    refine r_aload_n 0 dX13_meanMatch_20 rfl rfl ?_
    refine r_aload_n 0 dX13_meanMatch_21 rfl rfl ?_
    refine r_getR (c := 100) (k := 17) 130 dX13_meanMatch_22 clX13 lFX13_48 (by decide) iM100 sC100 rfl ?_
    refine r_callVI (b' := (4, 0, 0)) (c := 100) (S := []) [.ref (G.1 130)] dX13_meanMatch_25 mX13_matched lMX13_321 clX13 rfl iM100 sC100 rfl (by decide) (Nat.le_of_ble_eq_true rfl) h (fun r2 M2 h => ?_) rfl
    refine r_i2d dX13_meanMatch_28 ?_
    refine r_aload_n 0 dX13_meanMatch_29 rfl rfl ?_
    refine r_aload_n 0 dX13_meanMatch_30 rfl rfl ?_
    refine r_getR (c := 100) (k := 17) 130 dX13_meanMatch_31 clX13 lFX13_48 (by decide) iM100 sC100 rfl ?_
    refine r_callVI (b' := (5, 0, 0)) (c := 100) (S := [.double (FP.i2d r2)]) [.ref (G.1 130)] dX13_meanMatch_34 mX13_matches lMX13_346 clX13 rfl iM100 sC100 rfl (by decide) (Nat.le_of_ble_eq_true rfl) h (fun r3 M3 h => ?_) rfl
    refine r_i2d dX13_meanMatch_37 ?_
    have h1 := h.1
    replace h := h.2
    refine r_ddiv dX13_meanMatch_38 h1 ?_
    refine r_dretD dX13_meanMatch_39 rfl (by decide) (by decide) h
  · replace h := h.2 q
    refine r_dconst0 dX13_meanMatch_16 ?_
    refine r_goto (t := 39) dX13_meanMatch_17 (by decide) ?_
    refine r_dretD dX13_meanMatch_39 rfl (by decide) (by decide) h
