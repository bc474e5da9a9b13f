set_option maxHeartbeats 4000000 in
set_option maxRecDepth 100000 in
theorem C_X10_feed (G : eG) (M : eM) (F : Int32 → eM → Prop) (a1 : Int32) (a2 : Int32) (a3 : Int32) (a4 : Int32) (a5 : Int32)
    (h : Cal G 0 68 (1, 0, 0) kX8_hasRoomFor [.ref (G.1 1), .int 20] M (eFZ (fun (r1 : Bool) (M1 : eM) => ((r1 = true) → Cal G 0 68 (1, 0, 0) kX8_append [.ref (G.1 1), .int a1] M1 (eFV (fun (M2 : eM) => Cal G 0 68 (1, 0, 0) kX8_append [.ref (G.1 1), .int a2] M2 (eFV (fun (M3 : eM) => Cal G 0 68 (1, 0, 0) kX8_append [.ref (G.1 1), .int a3] M3 (eFV (fun (M4 : eM) => Cal G 0 68 (1, 0, 0) kX8_append [.ref (G.1 1), .int a4] M4 (eFV (fun (M5 : eM) => Cal G 0 68 (1, 0, 0) kX8_append [.ref (G.1 1), .int a5] M5 (eFV (fun (M6 : eM) => F (M6 1 1) M6))))))))))) ∧ ((r1 = false) → False)))) :
    Cal G 0 68 (2, 0, 0) kX10_feed [.ref (G.1 0), .int a1, .int a2, .int a3, .int a4, .int a5] M (eFI F) := by
  refine Cal.of (by decide +kernel) rfl (Nat.le_of_ble_eq_true rfl) ?_
  show Ev (eZ G 0 68 0 0 (eFI F)) G 0 68 (2, 0, 0) kX10_feed 0 [(0, .ref (G.1 0)), (1, .int a1), (2, .int a2), (3, .int a3), (4, .int a4), (5, .int a5)] [] M 0 0
  refine r_aload_n 0 dX10_feed_0 rfl rfl ?_
  refine r_getR (c := 0) (k := 0) 1 dX10_feed_1 clX10 lFX10_10 (by decide) iF0 sC0 rfl ?_
  refine r_bipush (v := 20) dX10_feed_4 rfl ?_
  refine r_callVZ (b' := (1, 0, 0)) (c := 1) (S := []) [.int 20] dX10_feed_6 mX8_hasRoomFor lMX10_68 clX8 rfl iF1 sC1 rfl (by decide) (Nat.le_of_ble_eq_true rfl) h (fun r1 M1 h => ?_) rfl
  refine r_zif_ne (t := 22) dX10_feed_9 (by decide) (fun q => ?_) (fun q => ?_)
  · replace h := h.1 q
    refine r_aload_n 0 dX10_feed_22 rfl rfl ?_
    refine r_getR (c := 0) (k := 0) 1 dX10_feed_23 clX10 lFX10_10 (by decide) iF0 sC0 rfl ?_
    refine r_iload_n 1 dX10_feed_26 rfl rfl ?_
    refine r_callVV (b' := (1, 0, 0)) (c := 1) (S := []) [.int a1] dX10_feed_27 mX8_append lMX10_79 clX8 rfl iF1 sC1 rfl (by decide) (Nat.le_of_ble_eq_true rfl) h (fun M2 h => ?_) rfl
    refine r_aload_n 0 dX10_feed_30 rfl rfl ?_
    refine r_getR (c := 0) (k := 0) 1 dX10_feed_31 clX10 lFX10_10 (by decide) iF0 sC0 rfl ?_
    refine r_iload_n 2 dX10_feed_34 rfl rfl ?_
    refine r_callVV (b' := (1, 0, 0)) (c := 1) (S := []) [.int a2] dX10_feed_35 mX8_append lMX10_79 clX8 rfl iF1 sC1 rfl (by decide) (Nat.le_of_ble_eq_true rfl) h (fun M3 h => ?_) rfl
    refine r_aload_n 0 dX10_feed_38 rfl rfl ?_
    refine r_getR (c := 0) (k := 0) 1 dX10_feed_39 clX10 lFX10_10 (by decide) iF0 sC0 rfl ?_
    refine r_iload_n 3 dX10_feed_42 rfl rfl ?_
    refine r_callVV (b' := (1, 0, 0)) (c := 1) (S := []) [.int a3] dX10_feed_43 mX8_append lMX10_79 clX8 rfl iF1 sC1 rfl (by decide) (Nat.le_of_ble_eq_true rfl) h (fun M4 h => ?_) rfl
    refine r_aload_n 0 dX10_feed_46 rfl rfl ?_
    refine r_getR (c := 0) (k := 0) 1 dX10_feed_47 clX10 lFX10_10 (by decide) iF0 sC0 rfl ?_
    refine r_iload 4 dX10_feed_50 rfl ?_
    refine r_callVV (b' := (1, 0, 0)) (c := 1) (S := []) [.int a4] dX10_feed_52 mX8_append lMX10_79 clX8 rfl iF1 sC1 rfl (by decide) (Nat.le_of_ble_eq_true rfl) h (fun M5 h => ?_) rfl
    refine r_aload_n 0 dX10_feed_55 rfl rfl ?_
    refine r_getR (c := 0) (k := 0) 1 dX10_feed_56 clX10 lFX10_10 (by decide) iF0 sC0 rfl ?_
    refine r_iload 5 dX10_feed_59 rfl ?_
    refine r_callVV (b' := (1, 0, 0)) (c := 1) (S := []) [.int a5] dX10_feed_61 mX8_append lMX10_79 clX8 rfl iF1 sC1 rfl (by decide) (Nat.le_of_ble_eq_true rfl) h (fun M6 h => ?_) rfl
    refine r_aload_n 0 dX10_feed_64 rfl rfl ?_
    refine r_getR (c := 0) (k := 0) 1 dX10_feed_65 clX10 lFX10_10 (by decide) iF0 sC0 rfl ?_
    refine r_getI (c := 1) (k := 1) dX10_feed_68 clX8 lFX10_83 (by decide) iF1 sC1 rfl ?_
    refine r_iretI dX10_feed_71 rfl (by decide) (by decide) h
  · replace h := h.2 q
    exact h.elim
set_option maxHeartbeats 4000000 in
set_option maxRecDepth 100000 in
theorem C_X10_trim (G : eG) (M : eM) (F : Int32 → eM → Prop) (a1 : Int32)
    (h : ((a1 < 0) → False) ∧ ((¬ a1 < 0) → ((a1 ≤ (M 1 1)) → F a1 (eU M 1 1 a1)) ∧ ((¬ a1 ≤ (M 1 1)) → False))) :
    Cal G 0 68 (1, 0, 0) kX10_trim [.ref (G.1 0), .int a1] M (eFI F) := by
  refine Cal.of (by decide +kernel) rfl (Nat.le_of_ble_eq_true rfl) ?_
  show Ev (eZ G 0 68 0 0 (eFI F)) G 0 68 (1, 0, 0) kX10_trim 0 [(0, .ref (G.1 0)), (1, .int a1)] [] M 0 0
  refine r_iload_n 1 dX10_trim_0 rfl rfl ?_
  refine r_if_lt (t := 15) dX10_trim_1 (by decide) (fun q => ?_) (fun q => ?_)
  · replace h := h.1 q
    exact h.elim
  · replace h := h.2 q
    refine r_iload_n 1 dX10_trim_4 rfl rfl ?_
    refine r_aload_n 0 dX10_trim_5 rfl rfl ?_
    refine r_getR (c := 0) (k := 0) 1 dX10_trim_6 clX10 lFX10_10 (by decide) iF0 sC0 rfl ?_
    refine r_getI (c := 1) (k := 1) dX10_trim_9 clX8 lFX10_83 (by decide) iF1 sC1 rfl ?_
    refine r_icmp_le (t := 25) dX10_trim_12 (by decide) (fun q => ?_) (fun q => ?_)
    · replace h := h.1 q
      refine r_aload_n 0 dX10_trim_25 rfl rfl ?_
      refine r_getR (c := 0) (k := 0) 1 dX10_trim_26 clX10 lFX10_10 (by decide) iF0 sC0 rfl ?_
      refine r_iload_n 1 dX10_trim_29 rfl rfl ?_
      refine r_putI (c := 1) (k := 1) dX10_trim_30 clX8 lFX10_83 (by decide) iF1 sC1 rfl rfl rfl ?_
      refine r_iload_n 1 dX10_trim_33 rfl rfl ?_
      refine r_iretI dX10_trim_34 rfl (by decide) (by decide) h
    · replace h := h.2 q
      exact h.elim
set_option maxHeartbeats 4000000 in
set_option maxRecDepth 100000 in
theorem C_X10_teach (G : eG) (M : eM) (F : Int32 → eM → Prop) 
    (h : Cal G 0 68 (9, 0, 0) kX9_cutTape [.ref (G.1 3)] M (eFV (fun (M1 : eM) => Cal G 0 68 (1, 0, 0) kX7_clear [.ref (G.1 8)] M1 (eFV (fun (M2 : eM) => Cal G 0 68 (102, 0, 0) kX3_readsGame [.ref (G.1 13)] M2 (eFZ (fun (r3 : Bool) (M3 : eM) => ((r3 = false) → ((¬ (1 : Int32) = 1) → ((¬ (1 : Int32) = 0) → Cal G 0 68 (1, 0, 0) kX9_startOf [.ref (G.1 3), .int (M3 14 6)] M3 (eFI (fun (r4 : Int32) (M4 : eM) => ((¬ (1 : Int32) = 0) → F 1 (eU (eU M4 0 7 r4) 1 1 0)) ∧ (((1 : Int32) = 0) → Cal G 0 68 (4, 0, 0) kX2_begin [.ref (G.1 16), .ref (G.1 8)] (eU M4 0 7 r4) (eFV (fun (M5 : eM) => F 1 (eU M5 1 1 0))))))) ∧ (((1 : Int32) = 0) → ((¬ (1 : Int32) = 0) → F 1 (eU (eU M3 0 7 (-1)) 1 1 0)) ∧ (((1 : Int32) = 0) → Cal G 0 68 (4, 0, 0) kX2_begin [.ref (G.1 16), .ref (G.1 8)] (eU M3 0 7 (-1)) (eFV (fun (M6 : eM) => F 1 (eU M6 1 1 0)))))) ∧ (((1 : Int32) = 1) → ((¬ (1 : Int32) = 0) → Cal G 0 68 (1, 0, 0) kX9_startOf [.ref (G.1 3), .int (M3 13 3)] M3 (eFI (fun (r7 : Int32) (M7 : eM) => ((¬ (1 : Int32) = 0) → F 1 (eU (eU M7 0 7 r7) 1 1 0)) ∧ (((1 : Int32) = 0) → Cal G 0 68 (4, 0, 0) kX2_begin [.ref (G.1 16), .ref (G.1 8)] (eU M7 0 7 r7) (eFV (fun (M8 : eM) => F 1 (eU M8 1 1 0))))))) ∧ (((1 : Int32) = 0) → ((¬ (1 : Int32) = 0) → F 1 (eU (eU M3 0 7 (-1)) 1 1 0)) ∧ (((1 : Int32) = 0) → Cal G 0 68 (4, 0, 0) kX2_begin [.ref (G.1 16), .ref (G.1 8)] (eU M3 0 7 (-1)) (eFV (fun (M9 : eM) => F 1 (eU M9 1 1 0))))))) ∧ ((r3 = true) → Cal G 0 68 (6, 0, 0) kX5_firstError [.ref (G.1 14)] M3 (eFI (fun (r10 : Int32) (M10 : eM) => ((¬ r10 = 1) → ((¬ r10 = 0) → Cal G 0 68 (1, 0, 0) kX9_startOf [.ref (G.1 3), .int (M10 14 6)] M10 (eFI (fun (r11 : Int32) (M11 : eM) => ((¬ r10 = 0) → F r10 (eU (eU M11 0 7 r11) 1 1 0)) ∧ ((r10 = 0) → Cal G 0 68 (4, 0, 0) kX2_begin [.ref (G.1 16), .ref (G.1 8)] (eU M11 0 7 r11) (eFV (fun (M12 : eM) => F r10 (eU M12 1 1 0))))))) ∧ ((r10 = 0) → ((¬ r10 = 0) → F r10 (eU (eU M10 0 7 (-1)) 1 1 0)) ∧ ((r10 = 0) → Cal G 0 68 (4, 0, 0) kX2_begin [.ref (G.1 16), .ref (G.1 8)] (eU M10 0 7 (-1)) (eFV (fun (M13 : eM) => F r10 (eU M13 1 1 0)))))) ∧ ((r10 = 1) → ((¬ r10 = 0) → Cal G 0 68 (1, 0, 0) kX9_startOf [.ref (G.1 3), .int (M10 13 3)] M10 (eFI (fun (r14 : Int32) (M14 : eM) => ((¬ r10 = 0) → F r10 (eU (eU M14 0 7 r14) 1 1 0)) ∧ ((r10 = 0) → Cal G 0 68 (4, 0, 0) kX2_begin [.ref (G.1 16), .ref (G.1 8)] (eU M14 0 7 r14) (eFV (fun (M15 : eM) => F r10 (eU M15 1 1 0))))))) ∧ ((r10 = 0) → ((¬ r10 = 0) → F r10 (eU (eU M10 0 7 (-1)) 1 1 0)) ∧ ((r10 = 0) → Cal G 0 68 (4, 0, 0) kX2_begin [.ref (G.1 16), .ref (G.1 8)] (eU M10 0 7 (-1)) (eFV (fun (M16 : eM) => F r10 (eU M16 1 1 0)))))))))))))))) :
    Cal G 0 68 (103, 0, 0) kX10_teach [.ref (G.1 0)] M (eFI F) := by
  refine Cal.of (by decide +kernel) rfl (Nat.le_of_ble_eq_true rfl) ?_
  show Ev (eZ G 0 68 0 0 (eFI F)) G 0 68 (103, 0, 0) kX10_teach 0 [(0, .ref (G.1 0))] [] M 0 0
  refine r_aload_n 0 dX10_teach_0 rfl rfl ?_
  refine r_getR (c := 0) (k := 1) 3 dX10_teach_1 clX10 lFX10_21 (by decide) iF0 sC0 rfl ?_
  refine r_callVV (b' := (9, 0, 0)) (c := 3) (S := []) [] dX10_teach_4 mX9_cutTape lMX10_91 clX9 rfl iF3 sC3 rfl (by decide) (Nat.le_of_ble_eq_true rfl) h (fun M1 h => ?_) rfl
  refine r_aload_n 0 dX10_teach_7 rfl rfl ?_
  refine r_getR (c := 0) (k := 2) 8 dX10_teach_8 clX10 lFX10_28 (by decide) iF0 sC0 rfl ?_
  refine r_callVV (b' := (1, 0, 0)) (c := 8) (S := []) [] dX10_teach_11 mX7_clear lMX10_94 clX7 rfl iF8 sC8 rfl (by decide) (Nat.le_of_ble_eq_true rfl) h (fun M2 h => ?_) rfl
  refine r_aload_n 0 dX10_teach_14 rfl rfl ?_
  refine r_getR (c := 0) (k := 3) 13 dX10_teach_15 clX10 lFX10_37 (by decide) iF0 sC0 rfl ?_
  refine r_callVZ (b' := (102, 0, 0)) (c := 13) (S := []) [] dX10_teach_18 mX3_readsGame lMX10_97 clX3 rfl iF13 sC13 rfl (by decide) (Nat.le_of_ble_eq_true rfl) h (fun r3 M3 h => ?_) rfl
  refine r_zif_eq (t := 34) dX10_teach_21 (by decide) (fun q => ?_) (fun q => ?_)
  · replace h := h.1 q
    refine r_iconst (v := 1) dX10_teach_34 rfl ?_
    refine r_istore_n (l' := [(1, .int 1), (0, .ref (G.1 0))]) dX10_teach_35 rfl (by decide) rfl ?_
    refine r_iload_n 0 dX10_teach_36 rfl rfl ?_
    refine r_iconst (v := 1) dX10_teach_37 rfl ?_
    refine r_icmp_ne (t := 51) dX10_teach_38 (by decide) (fun q => ?_) (fun q => ?_)
    · replace h := h.1 q
      refine r_aload_n 1 dX10_teach_51 rfl rfl ?_
      refine r_getR (c := 0) (k := 4) 14 dX10_teach_52 clX10 lFX10_44 (by decide) iF0 sC0 rfl ?_
      refine r_getI (c := 14) (k := 6) dX10_teach_55 clX5 lFX10_108 (by decide) iF14 sC14 rfl ?_
      refine r_istore_n (l' := [(2, .int (M3 14 6)), (1, .int 1), (0, .ref (G.1 0))]) dX10_teach_58 rfl (by decide) rfl ?_
      refine r_aload_n 2 dX10_teach_59 rfl rfl ?_
      refine r_iload_n 1 dX10_teach_60 rfl rfl ?_
      refine r_if_ne (t := 68) dX10_teach_61 (by decide) (fun q => ?_) (fun q => ?_)
      · replace h := h.1 q
        refine r_aload_n 2 dX10_teach_68 rfl rfl ?_
        refine r_getR (c := 0) (k := 1) 3 dX10_teach_69 clX10 lFX10_21 (by decide) iF0 sC0 rfl ?_
        refine r_iload_n 0 dX10_teach_72 rfl rfl ?_
        refine r_callVI (b' := (1, 0, 0)) (c := 3) (S := [.ref (G.1 0)]) [.int (M3 14 6)] dX10_teach_73 mX9_startOf lMX10_111 clX9 rfl iF3 sC3 rfl (by decide) (Nat.le_of_ble_eq_true rfl) h (fun r4 M4 h => ?_) rfl
        refine r_putI (c := 0) (k := 7) dX10_teach_76 clX10 lFX10_64 (by decide) iF0 sC0 rfl rfl rfl ?_
        refine r_iload_n 1 dX10_teach_79 rfl rfl ?_
        refine r_if_ne (t := 94) dX10_teach_80 (by decide) (fun q => ?_) (fun q => ?_)
        · replace h := h.1 q
          refine r_aload_n 2 dX10_teach_94 rfl rfl ?_
          refine r_getR (c := 0) (k := 0) 1 dX10_teach_95 clX10 lFX10_10 (by decide) iF0 sC0 rfl ?_
          refine r_iconst (v := 0) dX10_teach_98 rfl ?_
          refine r_putI (c := 1) (k := 1) dX10_teach_99 clX8 lFX10_83 (by decide) iF1 sC1 rfl rfl rfl ?_
          refine r_iload_n 1 dX10_teach_102 rfl rfl ?_
          refine r_iretI dX10_teach_103 rfl (by decide) (by decide) h
        · replace h := h.2 q
          refine r_aload_n 2 dX10_teach_83 rfl rfl ?_
          refine r_getR (c := 0) (k := 6) 16 dX10_teach_84 clX10 lFX10_60 (by decide) iF0 sC0 rfl ?_
          refine r_aload_n 2 dX10_teach_87 rfl rfl ?_
          refine r_getR (c := 0) (k := 2) 8 dX10_teach_88 clX10 lFX10_28 (by decide) iF0 sC0 rfl ?_
          refine r_callVV (b' := (4, 0, 0)) (c := 16) (S := []) [.ref (G.1 8)] dX10_teach_91 mX2_begin lMX10_115 clX2 rfl iF16 sC16 rfl (by decide) (Nat.le_of_ble_eq_true rfl) h (fun M5 h => ?_) rfl
          refine r_aload_n 2 dX10_teach_94 rfl rfl ?_
          refine r_getR (c := 0) (k := 0) 1 dX10_teach_95 clX10 lFX10_10 (by decide) iF0 sC0 rfl ?_
          refine r_iconst (v := 0) dX10_teach_98 rfl ?_
          refine r_putI (c := 1) (k := 1) dX10_teach_99 clX8 lFX10_83 (by decide) iF1 sC1 rfl rfl rfl ?_
          refine r_iload_n 1 dX10_teach_102 rfl rfl ?_
          refine r_iretI dX10_teach_103 rfl (by decide) (by decide) h
      · replace h := h.2 q
        refine r_iconst (v := (-1)) dX10_teach_64 rfl ?_
        refine r_goto (t := 76) dX10_teach_65 (by decide) ?_
        refine r_putI (c := 0) (k := 7) dX10_teach_76 clX10 lFX10_64 (by decide) iF0 sC0 rfl rfl rfl ?_
        refine r_iload_n 1 dX10_teach_79 rfl rfl ?_
        refine r_if_ne (t := 94) dX10_teach_80 (by decide) (fun q => ?_) (fun q => ?_)
        · replace h := h.1 q
          refine r_aload_n 2 dX10_teach_94 rfl rfl ?_
          refine r_getR (c := 0) (k := 0) 1 dX10_teach_95 clX10 lFX10_10 (by decide) iF0 sC0 rfl ?_
          refine r_iconst (v := 0) dX10_teach_98 rfl ?_
          refine r_putI (c := 1) (k := 1) dX10_teach_99 clX8 lFX10_83 (by decide) iF1 sC1 rfl rfl rfl ?_
          refine r_iload_n 1 dX10_teach_102 rfl rfl ?_
          refine r_iretI dX10_teach_103 rfl (by decide) (by decide) h
        · replace h := h.2 q
          refine r_aload_n 2 dX10_teach_83 rfl rfl ?_
          refine r_getR (c := 0) (k := 6) 16 dX10_teach_84 clX10 lFX10_60 (by decide) iF0 sC0 rfl ?_
          refine r_aload_n 2 dX10_teach_87 rfl rfl ?_
          refine r_getR (c := 0) (k := 2) 8 dX10_teach_88 clX10 lFX10_28 (by decide) iF0 sC0 rfl ?_
          refine r_callVV (b' := (4, 0, 0)) (c := 16) (S := []) [.ref (G.1 8)] dX10_teach_91 mX2_begin lMX10_115 clX2 rfl iF16 sC16 rfl (by decide) (Nat.le_of_ble_eq_true rfl) h (fun M6 h => ?_) rfl
          refine r_aload_n 2 dX10_teach_94 rfl rfl ?_
          refine r_getR (c := 0) (k := 0) 1 dX10_teach_95 clX10 lFX10_10 (by decide) iF0 sC0 rfl ?_
          refine r_iconst (v := 0) dX10_teach_98 rfl ?_
          refine r_putI (c := 1) (k := 1) dX10_teach_99 clX8 lFX10_83 (by decide) iF1 sC1 rfl rfl rfl ?_
          refine r_iload_n 1 dX10_teach_102 rfl rfl ?_
          refine r_iretI dX10_teach_103 rfl (by decide) (by decide) h
    · replace h := h.2 q
      refine r_aload_n 1 dX10_teach_41 rfl rfl ?_
      refine r_getR (c := 0) (k := 3) 13 dX10_teach_42 clX10 lFX10_37 (by decide) iF0 sC0 rfl ?_
      refine r_getI (c := 13) (k := 3) dX10_teach_45 clX3 lFX10_105 (by decide) iF13 sC13 rfl ?_
      refine r_goto (t := 58) dX10_teach_48 (by decide) ?_
      refine r_istore_n (l' := [(2, .int (M3 13 3)), (1, .int 1), (0, .ref (G.1 0))]) dX10_teach_58 rfl (by decide) rfl ?_
      refine r_aload_n 2 dX10_teach_59 rfl rfl ?_
      refine r_iload_n 1 dX10_teach_60 rfl rfl ?_
      refine r_if_ne (t := 68) dX10_teach_61 (by decide) (fun q => ?_) (fun q => ?_)
      · replace h := h.1 q
        refine r_aload_n 2 dX10_teach_68 rfl rfl ?_
        refine r_getR (c := 0) (k := 1) 3 dX10_teach_69 clX10 lFX10_21 (by decide) iF0 sC0 rfl ?_
        refine r_iload_n 0 dX10_teach_72 rfl rfl ?_
        refine r_callVI (b' := (1, 0, 0)) (c := 3) (S := [.ref (G.1 0)]) [.int (M3 13 3)] dX10_teach_73 mX9_startOf lMX10_111 clX9 rfl iF3 sC3 rfl (by decide) (Nat.le_of_ble_eq_true rfl) h (fun r7 M7 h => ?_) rfl
        refine r_putI (c := 0) (k := 7) dX10_teach_76 clX10 lFX10_64 (by decide) iF0 sC0 rfl rfl rfl ?_
        refine r_iload_n 1 dX10_teach_79 rfl rfl ?_
        refine r_if_ne (t := 94) dX10_teach_80 (by decide) (fun q => ?_) (fun q => ?_)
        · replace h := h.1 q
          refine r_aload_n 2 dX10_teach_94 rfl rfl ?_
          refine r_getR (c := 0) (k := 0) 1 dX10_teach_95 clX10 lFX10_10 (by decide) iF0 sC0 rfl ?_
          refine r_iconst (v := 0) dX10_teach_98 rfl ?_
          refine r_putI (c := 1) (k := 1) dX10_teach_99 clX8 lFX10_83 (by decide) iF1 sC1 rfl rfl rfl ?_
          refine r_iload_n 1 dX10_teach_102 rfl rfl ?_
          refine r_iretI dX10_teach_103 rfl (by decide) (by decide) h
        · replace h := h.2 q
          refine r_aload_n 2 dX10_teach_83 rfl rfl ?_
          refine r_getR (c := 0) (k := 6) 16 dX10_teach_84 clX10 lFX10_60 (by decide) iF0 sC0 rfl ?_
          refine r_aload_n 2 dX10_teach_87 rfl rfl ?_
          refine r_getR (c := 0) (k := 2) 8 dX10_teach_88 clX10 lFX10_28 (by decide) iF0 sC0 rfl ?_
          refine r_callVV (b' := (4, 0, 0)) (c := 16) (S := []) [.ref (G.1 8)] dX10_teach_91 mX2_begin lMX10_115 clX2 rfl iF16 sC16 rfl (by decide) (Nat.le_of_ble_eq_true rfl) h (fun M8 h => ?_) rfl
          refine r_aload_n 2 dX10_teach_94 rfl rfl ?_
          refine r_getR (c := 0) (k := 0) 1 dX10_teach_95 clX10 lFX10_10 (by decide) iF0 sC0 rfl ?_
          refine r_iconst (v := 0) dX10_teach_98 rfl ?_
          refine r_putI (c := 1) (k := 1) dX10_teach_99 clX8 lFX10_83 (by decide) iF1 sC1 rfl rfl rfl ?_
          refine r_iload_n 1 dX10_teach_102 rfl rfl ?_
          refine r_iretI dX10_teach_103 rfl (by decide) (by decide) h
      · replace h := h.2 q
        refine r_iconst (v := (-1)) dX10_teach_64 rfl ?_
        refine r_goto (t := 76) dX10_teach_65 (by decide) ?_
        refine r_putI (c := 0) (k := 7) dX10_teach_76 clX10 lFX10_64 (by decide) iF0 sC0 rfl rfl rfl ?_
        refine r_iload_n 1 dX10_teach_79 rfl rfl ?_
        refine r_if_ne (t := 94) dX10_teach_80 (by decide) (fun q => ?_) (fun q => ?_)
        · replace h := h.1 q
          refine r_aload_n 2 dX10_teach_94 rfl rfl ?_
          refine r_getR (c := 0) (k := 0) 1 dX10_teach_95 clX10 lFX10_10 (by decide) iF0 sC0 rfl ?_
          refine r_iconst (v := 0) dX10_teach_98 rfl ?_
          refine r_putI (c := 1) (k := 1) dX10_teach_99 clX8 lFX10_83 (by decide) iF1 sC1 rfl rfl rfl ?_
          refine r_iload_n 1 dX10_teach_102 rfl rfl ?_
          refine r_iretI dX10_teach_103 rfl (by decide) (by decide) h
        · replace h := h.2 q
          refine r_aload_n 2 dX10_teach_83 rfl rfl ?_
          refine r_getR (c := 0) (k := 6) 16 dX10_teach_84 clX10 lFX10_60 (by decide) iF0 sC0 rfl ?_
          refine r_aload_n 2 dX10_teach_87 rfl rfl ?_
          refine r_getR (c := 0) (k := 2) 8 dX10_teach_88 clX10 lFX10_28 (by decide) iF0 sC0 rfl ?_
          refine r_callVV (b' := (4, 0, 0)) (c := 16) (S := []) [.ref (G.1 8)] dX10_teach_91 mX2_begin lMX10_115 clX2 rfl iF16 sC16 rfl (by decide) (Nat.le_of_ble_eq_true rfl) h (fun M9 h => ?_) rfl
          refine r_aload_n 2 dX10_teach_94 rfl rfl ?_
          refine r_getR (c := 0) (k := 0) 1 dX10_teach_95 clX10 lFX10_10 (by decide) iF0 sC0 rfl ?_
          refine r_iconst (v := 0) dX10_teach_98 rfl ?_
          refine r_putI (c := 1) (k := 1) dX10_teach_99 clX8 lFX10_83 (by decide) iF1 sC1 rfl rfl rfl ?_
          refine r_iload_n 1 dX10_teach_102 rfl rfl ?_
          refine r_iretI dX10_teach_103 rfl (by decide) (by decide) h
  · replace h := h.2 q
    refine r_aload_n 0 dX10_teach_24 rfl rfl ?_
    refine r_getR (c := 0) (k := 4) 14 dX10_teach_25 clX10 lFX10_44 (by decide) iF0 sC0 rfl ?_
    refine r_callVI (b' := (6, 0, 0)) (c := 14) (S := []) [] dX10_teach_28 mX5_firstError lMX10_101 clX5 rfl iF14 sC14 rfl (by decide) (Nat.le_of_ble_eq_true rfl) h (fun r10 M10 h => ?_) rfl
    refine r_goto (t := 35) dX10_teach_31 (by decide) ?_
    refine r_istore_n (l' := [(1, .int r10), (0, .ref (G.1 0))]) dX10_teach_35 rfl (by decide) rfl ?_
    refine r_iload_n 0 dX10_teach_36 rfl rfl ?_
    refine r_iconst (v := 1) dX10_teach_37 rfl ?_
    refine r_icmp_ne (t := 51) dX10_teach_38 (by decide) (fun q => ?_) (fun q => ?_)
    · replace h := h.1 q
      refine r_aload_n 1 dX10_teach_51 rfl rfl ?_
      refine r_getR (c := 0) (k := 4) 14 dX10_teach_52 clX10 lFX10_44 (by decide) iF0 sC0 rfl ?_
      refine r_getI (c := 14) (k := 6) dX10_teach_55 clX5 lFX10_108 (by decide) iF14 sC14 rfl ?_
      refine r_istore_n (l' := [(2, .int (M10 14 6)), (1, .int r10), (0, .ref (G.1 0))]) dX10_teach_58 rfl (by decide) rfl ?_
      refine r_aload_n 2 dX10_teach_59 rfl rfl ?_
      refine r_iload_n 1 dX10_teach_60 rfl rfl ?_
      refine r_if_ne (t := 68) dX10_teach_61 (by decide) (fun q => ?_) (fun q => ?_)
      · replace h := h.1 q
        refine r_aload_n 2 dX10_teach_68 rfl rfl ?_
        refine r_getR (c := 0) (k := 1) 3 dX10_teach_69 clX10 lFX10_21 (by decide) iF0 sC0 rfl ?_
        refine r_iload_n 0 dX10_teach_72 rfl rfl ?_
        refine r_callVI (b' := (1, 0, 0)) (c := 3) (S := [.ref (G.1 0)]) [.int (M10 14 6)] dX10_teach_73 mX9_startOf lMX10_111 clX9 rfl iF3 sC3 rfl (by decide) (Nat.le_of_ble_eq_true rfl) h (fun r11 M11 h => ?_) rfl
        refine r_putI (c := 0) (k := 7) dX10_teach_76 clX10 lFX10_64 (by decide) iF0 sC0 rfl rfl rfl ?_
        refine r_iload_n 1 dX10_teach_79 rfl rfl ?_
        refine r_if_ne (t := 94) dX10_teach_80 (by decide) (fun q => ?_) (fun q => ?_)
        · replace h := h.1 q
          refine r_aload_n 2 dX10_teach_94 rfl rfl ?_
          refine r_getR (c := 0) (k := 0) 1 dX10_teach_95 clX10 lFX10_10 (by decide) iF0 sC0 rfl ?_
          refine r_iconst (v := 0) dX10_teach_98 rfl ?_
          refine r_putI (c := 1) (k := 1) dX10_teach_99 clX8 lFX10_83 (by decide) iF1 sC1 rfl rfl rfl ?_
          refine r_iload_n 1 dX10_teach_102 rfl rfl ?_
          refine r_iretI dX10_teach_103 rfl (by decide) (by decide) h
        · replace h := h.2 q
          refine r_aload_n 2 dX10_teach_83 rfl rfl ?_
          refine r_getR (c := 0) (k := 6) 16 dX10_teach_84 clX10 lFX10_60 (by decide) iF0 sC0 rfl ?_
          refine r_aload_n 2 dX10_teach_87 rfl rfl ?_
          refine r_getR (c := 0) (k := 2) 8 dX10_teach_88 clX10 lFX10_28 (by decide) iF0 sC0 rfl ?_
          refine r_callVV (b' := (4, 0, 0)) (c := 16) (S := []) [.ref (G.1 8)] dX10_teach_91 mX2_begin lMX10_115 clX2 rfl iF16 sC16 rfl (by decide) (Nat.le_of_ble_eq_true rfl) h (fun M12 h => ?_) rfl
          refine r_aload_n 2 dX10_teach_94 rfl rfl ?_
          refine r_getR (c := 0) (k := 0) 1 dX10_teach_95 clX10 lFX10_10 (by decide) iF0 sC0 rfl ?_
          refine r_iconst (v := 0) dX10_teach_98 rfl ?_
          refine r_putI (c := 1) (k := 1) dX10_teach_99 clX8 lFX10_83 (by decide) iF1 sC1 rfl rfl rfl ?_
          refine r_iload_n 1 dX10_teach_102 rfl rfl ?_
          refine r_iretI dX10_teach_103 rfl (by decide) (by decide) h
      · replace h := h.2 q
        refine r_iconst (v := (-1)) dX10_teach_64 rfl ?_
        refine r_goto (t := 76) dX10_teach_65 (by decide) ?_
        refine r_putI (c := 0) (k := 7) dX10_teach_76 clX10 lFX10_64 (by decide) iF0 sC0 rfl rfl rfl ?_
        refine r_iload_n 1 dX10_teach_79 rfl rfl ?_
        refine r_if_ne (t := 94) dX10_teach_80 (by decide) (fun q => ?_) (fun q => ?_)
        · replace h := h.1 q
          refine r_aload_n 2 dX10_teach_94 rfl rfl ?_
          refine r_getR (c := 0) (k := 0) 1 dX10_teach_95 clX10 lFX10_10 (by decide) iF0 sC0 rfl ?_
          refine r_iconst (v := 0) dX10_teach_98 rfl ?_
          refine r_putI (c := 1) (k := 1) dX10_teach_99 clX8 lFX10_83 (by decide) iF1 sC1 rfl rfl rfl ?_
          refine r_iload_n 1 dX10_teach_102 rfl rfl ?_
          refine r_iretI dX10_teach_103 rfl (by decide) (by decide) h
        · replace h := h.2 q
          refine r_aload_n 2 dX10_teach_83 rfl rfl ?_
          refine r_getR (c := 0) (k := 6) 16 dX10_teach_84 clX10 lFX10_60 (by decide) iF0 sC0 rfl ?_
          refine r_aload_n 2 dX10_teach_87 rfl rfl ?_
          refine r_getR (c := 0) (k := 2) 8 dX10_teach_88 clX10 lFX10_28 (by decide) iF0 sC0 rfl ?_
          refine r_callVV (b' := (4, 0, 0)) (c := 16) (S := []) [.ref (G.1 8)] dX10_teach_91 mX2_begin lMX10_115 clX2 rfl iF16 sC16 rfl (by decide) (Nat.le_of_ble_eq_true rfl) h (fun M13 h => ?_) rfl
          refine r_aload_n 2 dX10_teach_94 rfl rfl ?_
          refine r_getR (c := 0) (k := 0) 1 dX10_teach_95 clX10 lFX10_10 (by decide) iF0 sC0 rfl ?_
          refine r_iconst (v := 0) dX10_teach_98 rfl ?_
          refine r_putI (c := 1) (k := 1) dX10_teach_99 clX8 lFX10_83 (by decide) iF1 sC1 rfl rfl rfl ?_
          refine r_iload_n 1 dX10_teach_102 rfl rfl ?_
          refine r_iretI dX10_teach_103 rfl (by decide) (by decide) h
    · replace h := h.2 q
      refine r_aload_n 1 dX10_teach_41 rfl rfl ?_
      refine r_getR (c := 0) (k := 3) 13 dX10_teach_42 clX10 lFX10_37 (by decide) iF0 sC0 rfl ?_
      refine r_getI (c := 13) (k := 3) dX10_teach_45 clX3 lFX10_105 (by decide) iF13 sC13 rfl ?_
      refine r_goto (t := 58) dX10_teach_48 (by decide) ?_
      refine r_istore_n (l' := [(2, .int (M10 13 3)), (1, .int r10), (0, .ref (G.1 0))]) dX10_teach_58 rfl (by decide) rfl ?_
      refine r_aload_n 2 dX10_teach_59 rfl rfl ?_
      refine r_iload_n 1 dX10_teach_60 rfl rfl ?_
      refine r_if_ne (t := 68) dX10_teach_61 (by decide) (fun q => ?_) (fun q => ?_)
      · replace h := h.1 q
        refine r_aload_n 2 dX10_teach_68 rfl rfl ?_
        refine r_getR (c := 0) (k := 1) 3 dX10_teach_69 clX10 lFX10_21 (by decide) iF0 sC0 rfl ?_
        refine r_iload_n 0 dX10_teach_72 rfl rfl ?_
        refine r_callVI (b' := (1, 0, 0)) (c := 3) (S := [.ref (G.1 0)]) [.int (M10 13 3)] dX10_teach_73 mX9_startOf lMX10_111 clX9 rfl iF3 sC3 rfl (by decide) (Nat.le_of_ble_eq_true rfl) h (fun r14 M14 h => ?_) rfl
        refine r_putI (c := 0) (k := 7) dX10_teach_76 clX10 lFX10_64 (by decide) iF0 sC0 rfl rfl rfl ?_
        refine r_iload_n 1 dX10_teach_79 rfl rfl ?_
        refine r_if_ne (t := 94) dX10_teach_80 (by decide) (fun q => ?_) (fun q => ?_)
        · replace h := h.1 q
          refine r_aload_n 2 dX10_teach_94 rfl rfl ?_
          refine r_getR (c := 0) (k := 0) 1 dX10_teach_95 clX10 lFX10_10 (by decide) iF0 sC0 rfl ?_
          refine r_iconst (v := 0) dX10_teach_98 rfl ?_
          refine r_putI (c := 1) (k := 1) dX10_teach_99 clX8 lFX10_83 (by decide) iF1 sC1 rfl rfl rfl ?_
          refine r_iload_n 1 dX10_teach_102 rfl rfl ?_
          refine r_iretI dX10_teach_103 rfl (by decide) (by decide) h
        · replace h := h.2 q
          refine r_aload_n 2 dX10_teach_83 rfl rfl ?_
          refine r_getR (c := 0) (k := 6) 16 dX10_teach_84 clX10 lFX10_60 (by decide) iF0 sC0 rfl ?_
          refine r_aload_n 2 dX10_teach_87 rfl rfl ?_
          refine r_getR (c := 0) (k := 2) 8 dX10_teach_88 clX10 lFX10_28 (by decide) iF0 sC0 rfl ?_
          refine r_callVV (b' := (4, 0, 0)) (c := 16) (S := []) [.ref (G.1 8)] dX10_teach_91 mX2_begin lMX10_115 clX2 rfl iF16 sC16 rfl (by decide) (Nat.le_of_ble_eq_true rfl) h (fun M15 h => ?_) rfl
          refine r_aload_n 2 dX10_teach_94 rfl rfl ?_
          refine r_getR (c := 0) (k := 0) 1 dX10_teach_95 clX10 lFX10_10 (by decide) iF0 sC0 rfl ?_
          refine r_iconst (v := 0) dX10_teach_98 rfl ?_
          refine r_putI (c := 1) (k := 1) dX10_teach_99 clX8 lFX10_83 (by decide) iF1 sC1 rfl rfl rfl ?_
          refine r_iload_n 1 dX10_teach_102 rfl rfl ?_
          refine r_iretI dX10_teach_103 rfl (by decide) (by decide) h
      · replace h := h.2 q
        refine r_iconst (v := (-1)) dX10_teach_64 rfl ?_
        refine r_goto (t := 76) dX10_teach_65 (by decide) ?_
        refine r_putI (c := 0) (k := 7) dX10_teach_76 clX10 lFX10_64 (by decide) iF0 sC0 rfl rfl rfl ?_
        refine r_iload_n 1 dX10_teach_79 rfl rfl ?_
        refine r_if_ne (t := 94) dX10_teach_80 (by decide) (fun q => ?_) (fun q => ?_)
        · replace h := h.1 q
          refine r_aload_n 2 dX10_teach_94 rfl rfl ?_
          refine r_getR (c := 0) (k := 0) 1 dX10_teach_95 clX10 lFX10_10 (by decide) iF0 sC0 rfl ?_
          refine r_iconst (v := 0) dX10_teach_98 rfl ?_
          refine r_putI (c := 1) (k := 1) dX10_teach_99 clX8 lFX10_83 (by decide) iF1 sC1 rfl rfl rfl ?_
          refine r_iload_n 1 dX10_teach_102 rfl rfl ?_
          refine r_iretI dX10_teach_103 rfl (by decide) (by decide) h
        · replace h := h.2 q
          refine r_aload_n 2 dX10_teach_83 rfl rfl ?_
          refine r_getR (c := 0) (k := 6) 16 dX10_teach_84 clX10 lFX10_60 (by decide) iF0 sC0 rfl ?_
          refine r_aload_n 2 dX10_teach_87 rfl rfl ?_
          refine r_getR (c := 0) (k := 2) 8 dX10_teach_88 clX10 lFX10_28 (by decide) iF0 sC0 rfl ?_
          refine r_callVV (b' := (4, 0, 0)) (c := 16) (S := []) [.ref (G.1 8)] dX10_teach_91 mX2_begin lMX10_115 clX2 rfl iF16 sC16 rfl (by decide) (Nat.le_of_ble_eq_true rfl) h (fun M16 h => ?_) rfl
          refine r_aload_n 2 dX10_teach_94 rfl rfl ?_
          refine r_getR (c := 0) (k := 0) 1 dX10_teach_95 clX10 lFX10_10 (by decide) iF0 sC0 rfl ?_
          refine r_iconst (v := 0) dX10_teach_98 rfl ?_
          refine r_putI (c := 1) (k := 1) dX10_teach_99 clX8 lFX10_83 (by decide) iF1 sC1 rfl rfl rfl ?_
          refine r_iload_n 1 dX10_teach_102 rfl rfl ?_
          refine r_iretI dX10_teach_103 rfl (by decide) (by decide) h
set_option maxHeartbeats 4000000 in
set_option maxRecDepth 100000 in
theorem C_X10_columns (G : eG) (M : eM) (F : Int32 → eM → Prop) 
    (h : F (M 23 0) M) :
    Cal G 0 68 (1, 0, 0) kX10_columns [.ref (G.1 0)] M (eFI F) := by
  refine Cal.of (by decide +kernel) rfl (Nat.le_of_ble_eq_true rfl) ?_
  show Ev (eZ G 0 68 0 0 (eFI F)) G 0 68 (1, 0, 0) kX10_columns 0 [(0, .ref (G.1 0))] [] M 0 0
  refine r_aload_n 0 dX10_columns_0 rfl rfl ?_
  refine r_getR (c := 0) (k := 5) 23 dX10_columns_1 clX10 lFX10_51 (by decide) iF0 sC0 rfl ?_
  refine r_getI (c := 23) (k := 0) dX10_columns_4 clX1 lFX10_119 (by decide) iF23 sC23 rfl ?_
  refine r_iretI dX10_columns_7 rfl (by decide) (by decide) h
set_option maxHeartbeats 4000000 in
set_option maxRecDepth 100000 in
theorem C_X10_rows (G : eG) (M : eM) (F : Int32 → eM → Prop) 
    (h : F (M 23 1) M) :
    Cal G 0 68 (1, 0, 0) kX10_rows [.ref (G.1 0)] M (eFI F) := by
  refine Cal.of (by decide +kernel) rfl (Nat.le_of_ble_eq_true rfl) ?_
  show Ev (eZ G 0 68 0 0 (eFI F)) G 0 68 (1, 0, 0) kX10_rows 0 [(0, .ref (G.1 0))] [] M 0 0
  refine r_aload_n 0 dX10_rows_0 rfl rfl ?_
  refine r_getR (c := 0) (k := 5) 23 dX10_rows_1 clX10 lFX10_51 (by decide) iF0 sC0 rfl ?_
  refine r_getI (c := 23) (k := 1) dX10_rows_4 clX1 lFX10_122 (by decide) iF23 sC23 rfl ?_
  refine r_iretI dX10_rows_7 rfl (by decide) (by decide) h
set_option maxHeartbeats 4000000 in
set_option maxRecDepth 100000 in
theorem C_X10_tiles (G : eG) (M : eM) (F : Int32 → eM → Prop) 
    (h : F (M 23 3) M) :
    Cal G 0 68 (1, 0, 0) kX10_tiles [.ref (G.1 0)] M (eFI F) := by
  refine Cal.of (by decide +kernel) rfl (Nat.le_of_ble_eq_true rfl) ?_
  show Ev (eZ G 0 68 0 0 (eFI F)) G 0 68 (1, 0, 0) kX10_tiles 0 [(0, .ref (G.1 0))] [] M 0 0
  refine r_aload_n 0 dX10_tiles_0 rfl rfl ?_
  refine r_getR (c := 0) (k := 5) 23 dX10_tiles_1 clX10 lFX10_51 (by decide) iF0 sC0 rfl ?_
  refine r_getI (c := 23) (k := 3) dX10_tiles_4 clX1 lFX10_125 (by decide) iF23 sC23 rfl ?_
  refine r_iretI dX10_tiles_7 rfl (by decide) (by decide) h
set_option maxHeartbeats 4000000 in
set_option maxRecDepth 100000 in
theorem C_X10_rounds (G : eG) (M : eM) (F : Int32 → eM → Prop) 
    (h : F (M 16 5) M) :
    Cal G 0 68 (1, 0, 0) kX10_rounds [.ref (G.1 0)] M (eFI F) := by
  refine Cal.of (by decide +kernel) rfl (Nat.le_of_ble_eq_true rfl) ?_
  show Ev (eZ G 0 68 0 0 (eFI F)) G 0 68 (1, 0, 0) kX10_rounds 0 [(0, .ref (G.1 0))] [] M 0 0
  refine r_aload_n 0 dX10_rounds_0 rfl rfl ?_
  refine r_getR (c := 0) (k := 6) 16 dX10_rounds_1 clX10 lFX10_60 (by decide) iF0 sC0 rfl ?_
  refine r_getI (c := 16) (k := 5) dX10_rounds_4 clX2 lFX10_128 (by decide) iF16 sC16 rfl ?_
  refine r_iretI dX10_rounds_7 rfl (by decide) (by decide) h
set_option maxHeartbeats 4000000 in
set_option maxRecDepth 100000 in
theorem C_X10_placedTiles (G : eG) (M : eM) (F : Int32 → eM → Prop) 
    (h : F (M 23 4) M) :
    Cal G 0 68 (1, 0, 0) kX10_placedTiles [.ref (G.1 0)] M (eFI F) := by
  refine Cal.of (by decide +kernel) rfl (Nat.le_of_ble_eq_true rfl) ?_
  show Ev (eZ G 0 68 0 0 (eFI F)) G 0 68 (1, 0, 0) kX10_placedTiles 0 [(0, .ref (G.1 0))] [] M 0 0
  refine r_aload_n 0 dX10_placedTiles_0 rfl rfl ?_
  refine r_getR (c := 0) (k := 5) 23 dX10_placedTiles_1 clX10 lFX10_51 (by decide) iF0 sC0 rfl ?_
  refine r_getI (c := 23) (k := 4) dX10_placedTiles_4 clX1 lFX10_131 (by decide) iF23 sC23 rfl ?_
  refine r_iretI dX10_placedTiles_7 rfl (by decide) (by decide) h
set_option maxHeartbeats 4000000 in
set_option maxRecDepth 100000 in
theorem C_X10_matches (G : eG) (M : eM) (F : Int32 → eM → Prop) 
    (h : Cal G 0 68 (2, 0, 0) kX1_countMatches [.ref (G.1 23)] M (eFI (fun (r1 : Int32) (M1 : eM) => F r1 M1))) :
    Cal G 0 68 (3, 0, 0) kX10_matches [.ref (G.1 0)] M (eFI F) := by
  refine Cal.of (by decide +kernel) rfl (Nat.le_of_ble_eq_true rfl) ?_
  show Ev (eZ G 0 68 0 0 (eFI F)) G 0 68 (3, 0, 0) kX10_matches 0 [(0, .ref (G.1 0))] [] M 0 0
  refine r_aload_n 0 dX10_matches_0 rfl rfl ?_
  refine r_getR (c := 0) (k := 5) 23 dX10_matches_1 clX10 lFX10_51 (by decide) iF0 sC0 rfl ?_
  refine r_callVI (b' := (2, 0, 0)) (c := 23) (S := []) [] dX10_matches_4 mX1_countMatches lMX10_134 clX1 rfl iF23 sC23 rfl (by decide) (Nat.le_of_ble_eq_true rfl) h (fun r1 M1 h => ?_) rfl
  refine r_iretI dX10_matches_7 rfl (by decide) (by decide) h
set_option maxHeartbeats 4000000 in
set_option maxRecDepth 100000 in
theorem C_X10_points (G : eG) (M : eM) (F : Int32 → eM → Prop) 
    (h : Cal G 0 68 (3, 0, 0) kX1_countPoints [.ref (G.1 23)] M (eFI (fun (r1 : Int32) (M1 : eM) => F r1 M1))) :
    Cal G 0 68 (4, 0, 0) kX10_points [.ref (G.1 0)] M (eFI F) := by
  refine Cal.of (by decide +kernel) rfl (Nat.le_of_ble_eq_true rfl) ?_
  show Ev (eZ G 0 68 0 0 (eFI F)) G 0 68 (4, 0, 0) kX10_points 0 [(0, .ref (G.1 0))] [] M 0 0
  refine r_aload_n 0 dX10_points_0 rfl rfl ?_
  refine r_getR (c := 0) (k := 5) 23 dX10_points_1 clX10 lFX10_51 (by decide) iF0 sC0 rfl ?_
  refine r_callVI (b' := (3, 0, 0)) (c := 23) (S := []) [] dX10_points_4 mX1_countPoints lMX10_137 clX1 rfl iF23 sC23 rfl (by decide) (Nat.le_of_ble_eq_true rfl) h (fun r1 M1 h => ?_) rfl
  refine r_iretI dX10_points_7 rfl (by decide) (by decide) h
set_option maxHeartbeats 4000000 in
set_option maxRecDepth 100000 in
theorem C_X10_rings (G : eG) (M : eM) (F : Int32 → eM → Prop) 
    (h : Cal G 0 68 (2, 0, 0) kX1_countRings [.ref (G.1 23)] M (eFI (fun (r1 : Int32) (M1 : eM) => F r1 M1))) :
    Cal G 0 68 (3, 0, 0) kX10_rings [.ref (G.1 0)] M (eFI F) := by
  refine Cal.of (by decide +kernel) rfl (Nat.le_of_ble_eq_true rfl) ?_
  show Ev (eZ G 0 68 0 0 (eFI F)) G 0 68 (3, 0, 0) kX10_rings 0 [(0, .ref (G.1 0))] [] M 0 0
  refine r_aload_n 0 dX10_rings_0 rfl rfl ?_
  refine r_getR (c := 0) (k := 5) 23 dX10_rings_1 clX10 lFX10_51 (by decide) iF0 sC0 rfl ?_
  refine r_callVI (b' := (2, 0, 0)) (c := 23) (S := []) [] dX10_rings_4 mX1_countRings lMX10_140 clX1 rfl iF23 sC23 rfl (by decide) (Nat.le_of_ble_eq_true rfl) h (fun r1 M1 h => ?_) rfl
  refine r_iretI dX10_rings_7 rfl (by decide) (by decide) h
set_option maxHeartbeats 4000000 in
set_option maxRecDepth 100000 in
theorem C_X10_groups (G : eG) (M : eM) (F : Int32 → eM → Prop) 
    (h : Cal G 0 68 (2, 0, 0) kX1_countGroups [.ref (G.1 23)] M (eFI (fun (r1 : Int32) (M1 : eM) => F r1 M1))) :
    Cal G 0 68 (3, 0, 0) kX10_groups [.ref (G.1 0)] M (eFI F) := by
  refine Cal.of (by decide +kernel) rfl (Nat.le_of_ble_eq_true rfl) ?_
  show Ev (eZ G 0 68 0 0 (eFI F)) G 0 68 (3, 0, 0) kX10_groups 0 [(0, .ref (G.1 0))] [] M 0 0
  refine r_aload_n 0 dX10_groups_0 rfl rfl ?_
  refine r_getR (c := 0) (k := 5) 23 dX10_groups_1 clX10 lFX10_51 (by decide) iF0 sC0 rfl ?_
  refine r_callVI (b' := (2, 0, 0)) (c := 23) (S := []) [] dX10_groups_4 mX1_countGroups lMX10_143 clX1 rfl iF23 sC23 rfl (by decide) (Nat.le_of_ble_eq_true rfl) h (fun r1 M1 h => ?_) rfl
  refine r_iretI dX10_groups_7 rfl (by decide) (by decide) h
set_option maxHeartbeats 4000000 in
set_option maxRecDepth 100000 in
theorem C_X10_hasTile (G : eG) (M : eM) (F : Bool → eM → Prop) (a1 : Int32)
    (h : Cal G 0 68 (1, 0, 0) kX10_requireCell [.ref (G.1 0), .int a1] M (eFV (fun (M1 : eM) => vp_in a1 49 ∧ ((((M1 24 a1.toNatClampNeg) < 0) → F false M1) ∧ ((¬ (M1 24 a1.toNatClampNeg) < 0) → F true M1))))) :
    Cal G 0 68 (2, 0, 0) kX10_hasTile [.ref (G.1 0), .int a1] M (eFZ F) := by
  refine Cal.of (by decide +kernel) rfl (Nat.le_of_ble_eq_true rfl) ?_
  show Ev (eZ G 0 68 0 0 (eFZ F)) G 0 68 (2, 0, 0) kX10_hasTile 0 [(0, .ref (G.1 0)), (1, .int a1)] [] M 0 0
  refine r_aload_n 0 dX10_hasTile_0 rfl rfl ?_
  refine r_iload_n 1 dX10_hasTile_1 rfl rfl ?_
  refine r_callVV (b' := (1, 0, 0)) (c := 0) (S := []) [.int a1] dX10_hasTile_2 mX10_requireCell lMX10_146 clX10 rfl iF0 sC0 rfl (by decide) (Nat.le_of_ble_eq_true rfl) h (fun M1 h => ?_) rfl
  refine r_aload_n 0 dX10_hasTile_5 rfl rfl ?_
  refine r_getR (c := 0) (k := 5) 23 dX10_hasTile_6 clX10 lFX10_51 (by decide) iF0 sC0 rfl ?_
  refine r_getR (c := 23) (k := 5) 24 dX10_hasTile_9 clX1 lFX10_149 (by decide) iF23 sC23 rfl ?_
  refine r_iload_n 1 dX10_hasTile_12 rfl rfl ?_
  have h1 := h.1
  replace h := h.2
  refine r_iald (c := 24) (N := 49) dX10_hasTile_13 iF24 sC24 h1 ?_
  refine r_if_lt (t := 21) dX10_hasTile_14 (by decide) (fun q => ?_) (fun q => ?_)
  · replace h := h.1 q
    refine r_iconst (v := 0) dX10_hasTile_21 rfl ?_
    refine r_iretZ0 dX10_hasTile_22 rfl (by decide) (by decide) h
  · replace h := h.2 q
    refine r_iconst (v := 1) dX10_hasTile_17 rfl ?_
    refine r_goto (t := 22) dX10_hasTile_18 (by decide) ?_
    refine r_iretZ1 dX10_hasTile_22 rfl (by decide) (by decide) h
set_option maxHeartbeats 4000000 in
set_option maxRecDepth 100000 in
theorem C_X10_tileAt (G : eG) (M : eM) (F : Int32 → eM → Prop) (a1 : Int32)
    (h : Cal G 0 68 (1, 0, 0) kX10_requireCell [.ref (G.1 0), .int a1] M (eFV (fun (M1 : eM) => Cal G 0 68 (1, 0, 0) kX10_requireTileOn [.ref (G.1 0), .int a1] M1 (eFV (fun (M2 : eM) => vp_in a1 49 ∧ (F (M2 24 a1.toNatClampNeg) M2)))))) :
    Cal G 0 68 (2, 0, 0) kX10_tileAt [.ref (G.1 0), .int a1] M (eFI F) := by
  refine Cal.of (by decide +kernel) rfl (Nat.le_of_ble_eq_true rfl) ?_
  show Ev (eZ G 0 68 0 0 (eFI F)) G 0 68 (2, 0, 0) kX10_tileAt 0 [(0, .ref (G.1 0)), (1, .int a1)] [] M 0 0
  refine r_aload_n 0 dX10_tileAt_0 rfl rfl ?_
  refine r_iload_n 1 dX10_tileAt_1 rfl rfl ?_
  refine r_callVV (b' := (1, 0, 0)) (c := 0) (S := []) [.int a1] dX10_tileAt_2 mX10_requireCell lMX10_146 clX10 rfl iF0 sC0 rfl (by decide) (Nat.le_of_ble_eq_true rfl) h (fun M1 h => ?_) rfl
  refine r_aload_n 0 dX10_tileAt_5 rfl rfl ?_
  refine r_iload_n 1 dX10_tileAt_6 rfl rfl ?_
  refine r_callVV (b' := (1, 0, 0)) (c := 0) (S := []) [.int a1] dX10_tileAt_7 mX10_requireTileOn lMX10_153 clX10 rfl iF0 sC0 rfl (by decide) (Nat.le_of_ble_eq_true rfl) h (fun M2 h => ?_) rfl
  refine r_aload_n 0 dX10_tileAt_10 rfl rfl ?_
  refine r_getR (c := 0) (k := 5) 23 dX10_tileAt_11 clX10 lFX10_51 (by decide) iF0 sC0 rfl ?_
  refine r_getR (c := 23) (k := 5) 24 dX10_tileAt_14 clX1 lFX10_149 (by decide) iF23 sC23 rfl ?_
  refine r_iload_n 1 dX10_tileAt_17 rfl rfl ?_
  have h1 := h.1
  replace h := h.2
  refine r_iald (c := 24) (N := 49) dX10_tileAt_18 iF24 sC24 h1 ?_
  refine r_iretI dX10_tileAt_19 rfl (by decide) (by decide) h
set_option maxHeartbeats 4000000 in
set_option maxRecDepth 100000 in
theorem C_X10_numberAt (G : eG) (M : eM) (F : Int32 → eM → Prop) (a1 : Int32) (a2 : Int32)
    (h : Cal G 0 68 (1, 0, 0) kX10_requireCell [.ref (G.1 0), .int a1] M (eFV (fun (M1 : eM) => Cal G 0 68 (1, 0, 0) kX10_requireEdge [.ref (G.1 0), .int a2] M1 (eFV (fun (M2 : eM) => Cal G 0 68 (1, 0, 0) kX10_requireTileOn [.ref (G.1 0), .int a1] M2 (eFV (fun (M3 : eM) => vp_in a1 49 ∧ (vp_in (M3 24 a1.toNatClampNeg) 16 ∧ (Cal G 0 68 (1, 0, 0) kX1_numberOf [.ref (G.1 23), .int (M3 24 a1.toNatClampNeg), .int a2, .int (M3 26 (M3 24 a1.toNatClampNeg).toNatClampNeg)] M3 (eFI (fun (r4 : Int32) (M4 : eM) => F r4 M4))))))))))) :
    Cal G 0 68 (2, 0, 0) kX10_numberAt [.ref (G.1 0), .int a1, .int a2] M (eFI F) := by
  refine Cal.of (by decide +kernel) rfl (Nat.le_of_ble_eq_true rfl) ?_
  show Ev (eZ G 0 68 0 0 (eFI F)) G 0 68 (2, 0, 0) kX10_numberAt 0 [(0, .ref (G.1 0)), (1, .int a1), (2, .int a2)] [] M 0 0
  refine r_aload_n 0 dX10_numberAt_0 rfl rfl ?_
  refine r_iload_n 1 dX10_numberAt_1 rfl rfl ?_
  refine r_callVV (b' := (1, 0, 0)) (c := 0) (S := []) [.int a1] dX10_numberAt_2 mX10_requireCell lMX10_146 clX10 rfl iF0 sC0 rfl (by decide) (Nat.le_of_ble_eq_true rfl) h (fun M1 h => ?_) rfl
  refine r_aload_n 0 dX10_numberAt_5 rfl rfl ?_
  refine r_iload_n 2 dX10_numberAt_6 rfl rfl ?_
  refine r_callVV (b' := (1, 0, 0)) (c := 0) (S := []) [.int a2] dX10_numberAt_7 mX10_requireEdge lMX10_156 clX10 rfl iF0 sC0 rfl (by decide) (Nat.le_of_ble_eq_true rfl) h (fun M2 h => ?_) rfl
  refine r_aload_n 0 dX10_numberAt_10 rfl rfl ?_
  refine r_iload_n 1 dX10_numberAt_11 rfl rfl ?_
  refine r_callVV (b' := (1, 0, 0)) (c := 0) (S := []) [.int a1] dX10_numberAt_12 mX10_requireTileOn lMX10_153 clX10 rfl iF0 sC0 rfl (by decide) (Nat.le_of_ble_eq_true rfl) h (fun M3 h => ?_) rfl
  refine r_aload_n 0 dX10_numberAt_15 rfl rfl ?_
  refine r_getR (c := 0) (k := 5) 23 dX10_numberAt_16 clX10 lFX10_51 (by decide) iF0 sC0 rfl ?_
  refine r_getR (c := 23) (k := 5) 24 dX10_numberAt_19 clX1 lFX10_149 (by decide) iF23 sC23 rfl ?_
  refine r_iload_n 1 dX10_numberAt_22 rfl rfl ?_
  have h1 := h.1
  replace h := h.2
  refine r_iald (c := 24) (N := 49) dX10_numberAt_23 iF24 sC24 h1 ?_
  refine r_istore_n (l' := [(3, .int (M3 24 a1.toNatClampNeg)), (0, .ref (G.1 0)), (1, .int a1), (2, .int a2)]) dX10_numberAt_24 rfl (by decide) rfl ?_
  refine r_aload_n 1 dX10_numberAt_25 rfl rfl ?_
  refine r_getR (c := 0) (k := 5) 23 dX10_numberAt_26 clX10 lFX10_51 (by decide) iF0 sC0 rfl ?_
  refine r_iload_n 0 dX10_numberAt_29 rfl rfl ?_
  refine r_iload_n 3 dX10_numberAt_30 rfl rfl ?_
  refine r_aload_n 1 dX10_numberAt_31 rfl rfl ?_
  refine r_getR (c := 0) (k := 5) 23 dX10_numberAt_32 clX10 lFX10_51 (by decide) iF0 sC0 rfl ?_
  refine r_getR (c := 23) (k := 7) 26 dX10_numberAt_35 clX1 lFX10_159 (by decide) iF23 sC23 rfl ?_
  refine r_iload_n 0 dX10_numberAt_38 rfl rfl ?_
  have h1 := h.1
  replace h := h.2
  refine r_iald (c := 26) (N := 16) dX10_numberAt_39 iF26 sC26 h1 ?_
  refine r_callVI (b' := (1, 0, 0)) (c := 23) (S := []) [.int (M3 24 a1.toNatClampNeg), .int a2, .int (M3 26 (M3 24 a1.toNatClampNeg).toNatClampNeg)] dX10_numberAt_40 mX1_numberOf lMX10_162 clX1 rfl iF23 sC23 rfl (by decide) (Nat.le_of_ble_eq_true rfl) h (fun r4 M4 h => ?_) rfl
  refine r_iretI dX10_numberAt_43 rfl (by decide) (by decide) h
set_option maxHeartbeats 4000000 in
set_option maxRecDepth 100000 in
theorem C_X10_matchesOf (G : eG) (M : eM) (F : Int32 → eM → Prop) (a1 : Int32)
    (h : Cal G 0 68 (1, 0, 0) kX10_requireCell [.ref (G.1 0), .int a1] M (eFV (fun (M1 : eM) => Cal G 0 68 (1, 0, 0) kX1_matchesOn [.ref (G.1 23), .int a1] M1 (eFI (fun (r2 : Int32) (M2 : eM) => F r2 M2))))) :
    Cal G 0 68 (2, 0, 0) kX10_matchesOf [.ref (G.1 0), .int a1] M (eFI F) := by
  refine Cal.of (by decide +kernel) rfl (Nat.le_of_ble_eq_true rfl) ?_
  show Ev (eZ G 0 68 0 0 (eFI F)) G 0 68 (2, 0, 0) kX10_matchesOf 0 [(0, .ref (G.1 0)), (1, .int a1)] [] M 0 0
  refine r_aload_n 0 dX10_matchesOf_0 rfl rfl ?_
  refine r_iload_n 1 dX10_matchesOf_1 rfl rfl ?_
  refine r_callVV (b' := (1, 0, 0)) (c := 0) (S := []) [.int a1] dX10_matchesOf_2 mX10_requireCell lMX10_146 clX10 rfl iF0 sC0 rfl (by decide) (Nat.le_of_ble_eq_true rfl) h (fun M1 h => ?_) rfl
  refine r_aload_n 0 dX10_matchesOf_5 rfl rfl ?_
  refine r_getR (c := 0) (k := 5) 23 dX10_matchesOf_6 clX10 lFX10_51 (by decide) iF0 sC0 rfl ?_
  refine r_iload_n 1 dX10_matchesOf_9 rfl rfl ?_
  refine r_callVI (b' := (1, 0, 0)) (c := 23) (S := []) [.int a1] dX10_matchesOf_10 mX1_matchesOn lMX10_166 clX1 rfl iF23 sC23 rfl (by decide) (Nat.le_of_ble_eq_true rfl) h (fun r2 M2 h => ?_) rfl
  refine r_iretI dX10_matchesOf_13 rfl (by decide) (by decide) h
set_option maxHeartbeats 4000000 in
set_option maxRecDepth 100000 in
theorem C_X10_isRing (G : eG) (M : eM) (F : Bool → eM → Prop) (a1 : Int32)
    (h : Cal G 0 68 (1, 0, 0) kX10_requireCell [.ref (G.1 0), .int a1] M (eFV (fun (M1 : eM) => Cal G 0 68 (1, 0, 0) kX1_isEncircled [.ref (G.1 23), .int a1] M1 (eFZ (fun (r2 : Bool) (M2 : eM) => F r2 M2))))) :
    Cal G 0 68 (2, 0, 0) kX10_isRing [.ref (G.1 0), .int a1] M (eFZ F) := by
  refine Cal.of (by decide +kernel) rfl (Nat.le_of_ble_eq_true rfl) ?_
  show Ev (eZ G 0 68 0 0 (eFZ F)) G 0 68 (2, 0, 0) kX10_isRing 0 [(0, .ref (G.1 0)), (1, .int a1)] [] M 0 0
  refine r_aload_n 0 dX10_isRing_0 rfl rfl ?_
  refine r_iload_n 1 dX10_isRing_1 rfl rfl ?_
  refine r_callVV (b' := (1, 0, 0)) (c := 0) (S := []) [.int a1] dX10_isRing_2 mX10_requireCell lMX10_146 clX10 rfl iF0 sC0 rfl (by decide) (Nat.le_of_ble_eq_true rfl) h (fun M1 h => ?_) rfl
  refine r_aload_n 0 dX10_isRing_5 rfl rfl ?_
  refine r_getR (c := 0) (k := 5) 23 dX10_isRing_6 clX10 lFX10_51 (by decide) iF0 sC0 rfl ?_
  refine r_iload_n 1 dX10_isRing_9 rfl rfl ?_
  refine r_callVZ (b' := (1, 0, 0)) (c := 23) (S := []) [.int a1] dX10_isRing_10 mX1_isEncircled lMX10_169 clX1 rfl iF23 sC23 rfl (by decide) (Nat.le_of_ble_eq_true rfl) h (fun r2 M2 h => ?_) rfl
  refine r_iretZ dX10_isRing_13 rfl (by decide) (by decide) h
set_option maxHeartbeats 4000000 in
set_option maxRecDepth 100000 in
theorem C_X10_isPlaced (G : eG) (M : eM) (F : Bool → eM → Prop) (a1 : Int32)
    (h : Cal G 0 68 (2, 0, 0) kX10_requireTile [.ref (G.1 0), .int a1] M (eFV (fun (M1 : eM) => Cal G 0 68 (2, 0, 0) kX1_lies [.ref (G.1 23), .int a1] M1 (eFZ (fun (r2 : Bool) (M2 : eM) => F r2 M2))))) :
    Cal G 0 68 (3, 0, 0) kX10_isPlaced [.ref (G.1 0), .int a1] M (eFZ F) := by
  refine Cal.of (by decide +kernel) rfl (Nat.le_of_ble_eq_true rfl) ?_
  show Ev (eZ G 0 68 0 0 (eFZ F)) G 0 68 (3, 0, 0) kX10_isPlaced 0 [(0, .ref (G.1 0)), (1, .int a1)] [] M 0 0
  refine r_aload_n 0 dX10_isPlaced_0 rfl rfl ?_
  refine r_iload_n 1 dX10_isPlaced_1 rfl rfl ?_
  refine r_callVV (b' := (2, 0, 0)) (c := 0) (S := []) [.int a1] dX10_isPlaced_2 mX10_requireTile lMX10_172 clX10 rfl iF0 sC0 rfl (by decide) (Nat.le_of_ble_eq_true rfl) h (fun M1 h => ?_) rfl
  refine r_aload_n 0 dX10_isPlaced_5 rfl rfl ?_
  refine r_getR (c := 0) (k := 5) 23 dX10_isPlaced_6 clX10 lFX10_51 (by decide) iF0 sC0 rfl ?_
  refine r_iload_n 1 dX10_isPlaced_9 rfl rfl ?_
  refine r_callVZ (b' := (2, 0, 0)) (c := 23) (S := []) [.int a1] dX10_isPlaced_10 mX1_lies lMX10_175 clX1 rfl iF23 sC23 rfl (by decide) (Nat.le_of_ble_eq_true rfl) h (fun r2 M2 h => ?_) rfl
  refine r_iretZ dX10_isPlaced_13 rfl (by decide) (by decide) h
set_option maxHeartbeats 4000000 in
set_option maxRecDepth 100000 in
theorem C_X10_cellOf (G : eG) (M : eM) (F : Int32 → eM → Prop) (a1 : Int32)
    (h : Cal G 0 68 (2, 0, 0) kX10_requireTile [.ref (G.1 0), .int a1] M (eFV (fun (M1 : eM) => Cal G 0 68 (3, 0, 0) kX10_requireLying [.ref (G.1 0), .int a1] M1 (eFV (fun (M2 : eM) => vp_in a1 16 ∧ (F (M2 25 a1.toNatClampNeg) M2)))))) :
    Cal G 0 68 (4, 0, 0) kX10_cellOf [.ref (G.1 0), .int a1] M (eFI F) := by
  refine Cal.of (by decide +kernel) rfl (Nat.le_of_ble_eq_true rfl) ?_
  show Ev (eZ G 0 68 0 0 (eFI F)) G 0 68 (4, 0, 0) kX10_cellOf 0 [(0, .ref (G.1 0)), (1, .int a1)] [] M 0 0
  refine r_aload_n 0 dX10_cellOf_0 rfl rfl ?_
  refine r_iload_n 1 dX10_cellOf_1 rfl rfl ?_
  refine r_callVV (b' := (2, 0, 0)) (c := 0) (S := []) [.int a1] dX10_cellOf_2 mX10_requireTile lMX10_172 clX10 rfl iF0 sC0 rfl (by decide) (Nat.le_of_ble_eq_true rfl) h (fun M1 h => ?_) rfl
  refine r_aload_n 0 dX10_cellOf_5 rfl rfl ?_
  refine r_iload_n 1 dX10_cellOf_6 rfl rfl ?_
  refine r_callVV (b' := (3, 0, 0)) (c := 0) (S := []) [.int a1] dX10_cellOf_7 mX10_requireLying lMX10_178 clX10 rfl iF0 sC0 rfl (by decide) (Nat.le_of_ble_eq_true rfl) h (fun M2 h => ?_) rfl
  refine r_aload_n 0 dX10_cellOf_10 rfl rfl ?_
  refine r_getR (c := 0) (k := 5) 23 dX10_cellOf_11 clX10 lFX10_51 (by decide) iF0 sC0 rfl ?_
  refine r_getR (c := 23) (k := 6) 25 dX10_cellOf_14 clX1 lFX10_181 (by decide) iF23 sC23 rfl ?_
  refine r_iload_n 1 dX10_cellOf_17 rfl rfl ?_
  have h1 := h.1
  replace h := h.2
  refine r_iald (c := 25) (N := 16) dX10_cellOf_18 iF25 sC25 h1 ?_
  refine r_iretI dX10_cellOf_19 rfl (by decide) (by decide) h
set_option maxHeartbeats 4000000 in
set_option maxRecDepth 100000 in
theorem C_X10_turnOf (G : eG) (M : eM) (F : Int32 → eM → Prop) (a1 : Int32)
    (h : Cal G 0 68 (2, 0, 0) kX10_requireTile [.ref (G.1 0), .int a1] M (eFV (fun (M1 : eM) => Cal G 0 68 (3, 0, 0) kX10_requireLying [.ref (G.1 0), .int a1] M1 (eFV (fun (M2 : eM) => vp_in a1 16 ∧ (F (M2 26 a1.toNatClampNeg) M2)))))) :
    Cal G 0 68 (4, 0, 0) kX10_turnOf [.ref (G.1 0), .int a1] M (eFI F) := by
  refine Cal.of (by decide +kernel) rfl (Nat.le_of_ble_eq_true rfl) ?_
  show Ev (eZ G 0 68 0 0 (eFI F)) G 0 68 (4, 0, 0) kX10_turnOf 0 [(0, .ref (G.1 0)), (1, .int a1)] [] M 0 0
  refine r_aload_n 0 dX10_turnOf_0 rfl rfl ?_
  refine r_iload_n 1 dX10_turnOf_1 rfl rfl ?_
  refine r_callVV (b' := (2, 0, 0)) (c := 0) (S := []) [.int a1] dX10_turnOf_2 mX10_requireTile lMX10_172 clX10 rfl iF0 sC0 rfl (by decide) (Nat.le_of_ble_eq_true rfl) h (fun M1 h => ?_) rfl
  refine r_aload_n 0 dX10_turnOf_5 rfl rfl ?_
  refine r_iload_n 1 dX10_turnOf_6 rfl rfl ?_
  refine r_callVV (b' := (3, 0, 0)) (c := 0) (S := []) [.int a1] dX10_turnOf_7 mX10_requireLying lMX10_178 clX10 rfl iF0 sC0 rfl (by decide) (Nat.le_of_ble_eq_true rfl) h (fun M2 h => ?_) rfl
  refine r_aload_n 0 dX10_turnOf_10 rfl rfl ?_
  refine r_getR (c := 0) (k := 5) 23 dX10_turnOf_11 clX10 lFX10_51 (by decide) iF0 sC0 rfl ?_
  refine r_getR (c := 23) (k := 7) 26 dX10_turnOf_14 clX1 lFX10_159 (by decide) iF23 sC23 rfl ?_
  refine r_iload_n 1 dX10_turnOf_17 rfl rfl ?_
  have h1 := h.1
  replace h := h.2
  refine r_iald (c := 26) (N := 16) dX10_turnOf_18 iF26 sC26 h1 ?_
  refine r_iretI dX10_turnOf_19 rfl (by decide) (by decide) h
set_option maxHeartbeats 4000000 in
set_option maxRecDepth 100000 in
theorem C_X10_fits (G : eG) (M : eM) (F : Bool → eM → Prop) (a1 : Int32) (a2 : Int32) (a3 : Int32)
    (h : Cal G 0 68 (3, 0, 0) kX10_requireWay [.ref (G.1 0), .int a1, .int a2, .int a3] M (eFV (fun (M1 : eM) => Cal G 0 68 (2, 0, 0) kX1_fitsSo [.ref (G.1 23), .int a1, .int a2, .int a3] M1 (eFZ (fun (r2 : Bool) (M2 : eM) => F r2 M2))))) :
    Cal G 0 68 (4, 0, 0) kX10_fits [.ref (G.1 0), .int a1, .int a2, .int a3] M (eFZ F) := by
  refine Cal.of (by decide +kernel) rfl (Nat.le_of_ble_eq_true rfl) ?_
  show Ev (eZ G 0 68 0 0 (eFZ F)) G 0 68 (4, 0, 0) kX10_fits 0 [(0, .ref (G.1 0)), (1, .int a1), (2, .int a2), (3, .int a3)] [] M 0 0
  refine r_aload_n 0 dX10_fits_0 rfl rfl ?_
  refine r_iload_n 1 dX10_fits_1 rfl rfl ?_
  refine r_iload_n 2 dX10_fits_2 rfl rfl ?_
  refine r_iload_n 3 dX10_fits_3 rfl rfl ?_
  refine r_callVV (b' := (3, 0, 0)) (c := 0) (S := []) [.int a1, .int a2, .int a3] dX10_fits_4 mX10_requireWay lMX10_184 clX10 rfl iF0 sC0 rfl (by decide) (Nat.le_of_ble_eq_true rfl) h (fun M1 h => ?_) rfl
  refine r_aload_n 0 dX10_fits_7 rfl rfl ?_
  refine r_getR (c := 0) (k := 5) 23 dX10_fits_8 clX10 lFX10_51 (by decide) iF0 sC0 rfl ?_
  refine r_iload_n 1 dX10_fits_11 rfl rfl ?_
  refine r_iload_n 2 dX10_fits_12 rfl rfl ?_
  refine r_iload_n 3 dX10_fits_13 rfl rfl ?_
  refine r_callVZ (b' := (2, 0, 0)) (c := 23) (S := []) [.int a1, .int a2, .int a3] dX10_fits_14 mX1_fitsSo lMX10_188 clX1 rfl iF23 sC23 rfl (by decide) (Nat.le_of_ble_eq_true rfl) h (fun r2 M2 h => ?_) rfl
  refine r_iretZ dX10_fits_17 rfl (by decide) (by decide) h
set_option maxHeartbeats 4000000 in
set_option maxRecDepth 100000 in
theorem C_X10_edgeAgainst (G : eG) (M : eM) (F : Int32 → eM → Prop) (a1 : Int32) (a2 : Int32) (a3 : Int32)
    (h : Cal G 0 68 (3, 0, 0) kX10_requireWay [.ref (G.1 0), .int a1, .int a2, .int a3] M (eFV (fun (M1 : eM) => Cal G 0 68 (2, 0, 0) kX1_firstClash [.ref (G.1 23), .int a1, .int a2, .int a3] M1 (eFI (fun (r2 : Int32) (M2 : eM) => F r2 M2))))) :
    Cal G 0 68 (4, 0, 0) kX10_edgeAgainst [.ref (G.1 0), .int a1, .int a2, .int a3] M (eFI F) := by
  refine Cal.of (by decide +kernel) rfl (Nat.le_of_ble_eq_true rfl) ?_
  show Ev (eZ G 0 68 0 0 (eFI F)) G 0 68 (4, 0, 0) kX10_edgeAgainst 0 [(0, .ref (G.1 0)), (1, .int a1), (2, .int a2), (3, .int a3)] [] M 0 0
  refine r_aload_n 0 dX10_edgeAgainst_0 rfl rfl ?_
  refine r_iload_n 1 dX10_edgeAgainst_1 rfl rfl ?_
  refine r_iload_n 2 dX10_edgeAgainst_2 rfl rfl ?_
  refine r_iload_n 3 dX10_edgeAgainst_3 rfl rfl ?_
  refine r_callVV (b' := (3, 0, 0)) (c := 0) (S := []) [.int a1, .int a2, .int a3] dX10_edgeAgainst_4 mX10_requireWay lMX10_184 clX10 rfl iF0 sC0 rfl (by decide) (Nat.le_of_ble_eq_true rfl) h (fun M1 h => ?_) rfl
  refine r_aload_n 0 dX10_edgeAgainst_7 rfl rfl ?_
  refine r_getR (c := 0) (k := 5) 23 dX10_edgeAgainst_8 clX10 lFX10_51 (by decide) iF0 sC0 rfl ?_
  refine r_iload_n 1 dX10_edgeAgainst_11 rfl rfl ?_
  refine r_iload_n 2 dX10_edgeAgainst_12 rfl rfl ?_
  refine r_iload_n 3 dX10_edgeAgainst_13 rfl rfl ?_
  refine r_callVI (b' := (2, 0, 0)) (c := 23) (S := []) [.int a1, .int a2, .int a3] dX10_edgeAgainst_14 mX1_firstClash lMX10_192 clX1 rfl iF23 sC23 rfl (by decide) (Nat.le_of_ble_eq_true rfl) h (fun r2 M2 h => ?_) rfl
  refine r_iretI dX10_edgeAgainst_17 rfl (by decide) (by decide) h
set_option maxHeartbeats 4000000 in
set_option maxRecDepth 100000 in
theorem C_X10_waysOf (G : eG) (M : eM) (F : Int32 → eM → Prop) (a1 : Int32)
    (h : Cal G 0 68 (2, 0, 0) kX10_requireTile [.ref (G.1 0), .int a1] M (eFV (fun (M1 : eM) => Cal G 0 68 (2, 0, 0) kX1_countWays [.ref (G.1 23), .int a1] M1 (eFI (fun (r2 : Int32) (M2 : eM) => F r2 M2))))) :
    Cal G 0 68 (3, 0, 0) kX10_waysOf [.ref (G.1 0), .int a1] M (eFI F) := by
  refine Cal.of (by decide +kernel) rfl (Nat.le_of_ble_eq_true rfl) ?_
  show Ev (eZ G 0 68 0 0 (eFI F)) G 0 68 (3, 0, 0) kX10_waysOf 0 [(0, .ref (G.1 0)), (1, .int a1)] [] M 0 0
  refine r_aload_n 0 dX10_waysOf_0 rfl rfl ?_
  refine r_iload_n 1 dX10_waysOf_1 rfl rfl ?_
  refine r_callVV (b' := (2, 0, 0)) (c := 0) (S := []) [.int a1] dX10_waysOf_2 mX10_requireTile lMX10_172 clX10 rfl iF0 sC0 rfl (by decide) (Nat.le_of_ble_eq_true rfl) h (fun M1 h => ?_) rfl
  refine r_aload_n 0 dX10_waysOf_5 rfl rfl ?_
  refine r_getR (c := 0) (k := 5) 23 dX10_waysOf_6 clX10 lFX10_51 (by decide) iF0 sC0 rfl ?_
  refine r_iload_n 1 dX10_waysOf_9 rfl rfl ?_
  refine r_callVI (b' := (2, 0, 0)) (c := 23) (S := []) [.int a1] dX10_waysOf_10 mX1_countWays lMX10_195 clX1 rfl iF23 sC23 rfl (by decide) (Nat.le_of_ble_eq_true rfl) h (fun r2 M2 h => ?_) rfl
  refine r_iretI dX10_waysOf_13 rfl (by decide) (by decide) h
set_option maxHeartbeats 4000000 in
set_option maxRecDepth 100000 in
theorem C_X10_isLeftover (G : eG) (M : eM) (F : Bool → eM → Prop) (a1 : Int32)
    (h : Cal G 0 68 (2, 0, 0) kX10_requireTile [.ref (G.1 0), .int a1] M (eFV (fun (M1 : eM) => Cal G 0 68 (2, 0, 0) kX1_lies [.ref (G.1 23), .int a1] M1 (eFZ (fun (r2 : Bool) (M2 : eM) => ((r2 = true) → F false M2) ∧ ((r2 = false) → Cal G 0 68 (2, 0, 0) kX1_firstCell [.ref (G.1 23), .int a1] M2 (eFI (fun (r3 : Int32) (M3 : eM) => ((0 ≤ r3) → F false M3) ∧ ((¬ 0 ≤ r3) → F true M3))))))))) :
    Cal G 0 68 (3, 0, 0) kX10_isLeftover [.ref (G.1 0), .int a1] M (eFZ F) := by
  refine Cal.of (by decide +kernel) rfl (Nat.le_of_ble_eq_true rfl) ?_
  show Ev (eZ G 0 68 0 0 (eFZ F)) G 0 68 (3, 0, 0) kX10_isLeftover 0 [(0, .ref (G.1 0)), (1, .int a1)] [] M 0 0
  refine r_aload_n 0 dX10_isLeftover_0 rfl rfl ?_
  refine r_iload_n 1 dX10_isLeftover_1 rfl rfl ?_
  refine r_callVV (b' := (2, 0, 0)) (c := 0) (S := []) [.int a1] dX10_isLeftover_2 mX10_requireTile lMX10_172 clX10 rfl iF0 sC0 rfl (by decide) (Nat.le_of_ble_eq_true rfl) h (fun M1 h => ?_) rfl
  refine r_aload_n 0 dX10_isLeftover_5 rfl rfl ?_
  refine r_getR (c := 0) (k := 5) 23 dX10_isLeftover_6 clX10 lFX10_51 (by decide) iF0 sC0 rfl ?_
  refine r_iload_n 1 dX10_isLeftover_9 rfl rfl ?_
  refine r_callVZ (b' := (2, 0, 0)) (c := 23) (S := []) [.int a1] dX10_isLeftover_10 mX1_lies lMX10_175 clX1 rfl iF23 sC23 rfl (by decide) (Nat.le_of_ble_eq_true rfl) h (fun r2 M2 h => ?_) rfl
  refine r_zif_ne (t := 31) dX10_isLeftover_13 (by decide) (fun q => ?_) (fun q => ?_)
  · replace h := h.1 q
    refine r_iconst (v := 0) dX10_isLeftover_31 rfl ?_
    refine r_iretZ0 dX10_isLeftover_32 rfl (by decide) (by decide) h
  · replace h := h.2 q
    refine r_aload_n 0 dX10_isLeftover_16 rfl rfl ?_
    refine r_getR (c := 0) (k := 5) 23 dX10_isLeftover_17 clX10 lFX10_51 (by decide) iF0 sC0 rfl ?_
    refine r_iload_n 1 dX10_isLeftover_20 rfl rfl ?_
    refine r_callVI (b' := (2, 0, 0)) (c := 23) (S := []) [.int a1] dX10_isLeftover_21 mX1_firstCell lMX10_198 clX1 rfl iF23 sC23 rfl (by decide) (Nat.le_of_ble_eq_true rfl) h (fun r3 M3 h => ?_) rfl
    refine r_if_ge (t := 31) dX10_isLeftover_24 (by decide) (fun q => ?_) (fun q => ?_)
    · replace h := h.1 q
      refine r_iconst (v := 0) dX10_isLeftover_31 rfl ?_
      refine r_iretZ0 dX10_isLeftover_32 rfl (by decide) (by decide) h
    · replace h := h.2 q
      refine r_iconst (v := 1) dX10_isLeftover_27 rfl ?_
      refine r_goto (t := 32) dX10_isLeftover_28 (by decide) ?_
      refine r_iretZ1 dX10_isLeftover_32 rfl (by decide) (by decide) h
set_option maxHeartbeats 4000000 in
set_option maxRecDepth 100000 in
theorem C_X10_putTile (G : eG) (M : eM) (F : Int32 → eM → Prop) (a1 : Int32) (a2 : Int32) (a3 : Int32)
    (h : Cal G 0 68 (3, 0, 0) kX10_requireWay [.ref (G.1 0), .int a1, .int a2, .int a3] M (eFV (fun (M1 : eM) => Cal G 0 68 (2, 0, 0) kX1_fitsSo [.ref (G.1 23), .int a1, .int a2, .int a3] M1 (eFZ (fun (r2 : Bool) (M2 : eM) => ((r2 = true) → Cal G 0 68 (2, 0, 0) kX1_pointsFor [.ref (G.1 23), .int a2] M2 (eFI (fun (r3 : Int32) (M3 : eM) => Cal G 0 68 (2, 0, 0) kX1_put [.ref (G.1 23), .int a1, .int a2, .int a3] M3 (eFV (fun (M4 : eM) => F r3 M4))))) ∧ ((r2 = false) → False)))))) :
    Cal G 0 68 (4, 0, 0) kX10_putTile [.ref (G.1 0), .int a1, .int a2, .int a3] M (eFI F) := by
  refine Cal.of (by decide +kernel) rfl (Nat.le_of_ble_eq_true rfl) ?_
  show Ev (eZ G 0 68 0 0 (eFI F)) G 0 68 (4, 0, 0) kX10_putTile 0 [(0, .ref (G.1 0)), (1, .int a1), (2, .int a2), (3, .int a3)] [] M 0 0
  refine r_aload_n 0 dX10_putTile_0 rfl rfl ?_
  refine r_iload_n 1 dX10_putTile_1 rfl rfl ?_
  refine r_iload_n 2 dX10_putTile_2 rfl rfl ?_
  refine r_iload_n 3 dX10_putTile_3 rfl rfl ?_
  refine r_callVV (b' := (3, 0, 0)) (c := 0) (S := []) [.int a1, .int a2, .int a3] dX10_putTile_4 mX10_requireWay lMX10_184 clX10 rfl iF0 sC0 rfl (by decide) (Nat.le_of_ble_eq_true rfl) h (fun M1 h => ?_) rfl
  refine r_aload_n 0 dX10_putTile_7 rfl rfl ?_
  refine r_getR (c := 0) (k := 5) 23 dX10_putTile_8 clX10 lFX10_51 (by decide) iF0 sC0 rfl ?_
  refine r_iload_n 1 dX10_putTile_11 rfl rfl ?_
  refine r_iload_n 2 dX10_putTile_12 rfl rfl ?_
  refine r_iload_n 3 dX10_putTile_13 rfl rfl ?_
  refine r_callVZ (b' := (2, 0, 0)) (c := 23) (S := []) [.int a1, .int a2, .int a3] dX10_putTile_14 mX1_fitsSo lMX10_188 clX1 rfl iF23 sC23 rfl (by decide) (Nat.le_of_ble_eq_true rfl) h (fun r2 M2 h => ?_) rfl
  refine r_zif_ne (t := 30) dX10_putTile_17 (by decide) (fun q => ?_) (fun q => ?_)
  · replace h := h.1 q
    refine r_aload_n 0 dX10_putTile_30 rfl rfl ?_
    refine r_getR (c := 0) (k := 5) 23 dX10_putTile_31 clX10 lFX10_51 (by decide) iF0 sC0 rfl ?_
    refine r_iload_n 2 dX10_putTile_34 rfl rfl ?_
    refine r_callVI (b' := (2, 0, 0)) (c := 23) (S := []) [.int a2] dX10_putTile_35 mX1_pointsFor lMX10_211 clX1 rfl iF23 sC23 rfl (by decide) (Nat.le_of_ble_eq_true rfl) h (fun r3 M3 h => ?_) rfl
    refine r_istore (l' := [(4, .int r3), (0, .ref (G.1 0)), (1, .int a1), (2, .int a2), (3, .int a3)]) dX10_putTile_38 (by decide) rfl ?_
    refine r_aload_n 1 dX10_putTile_40 rfl rfl ?_
    refine r_getR (c := 0) (k := 5) 23 dX10_putTile_41 clX10 lFX10_51 (by decide) iF0 sC0 rfl ?_
    refine r_iload_n 2 dX10_putTile_44 rfl rfl ?_
    refine r_iload_n 3 dX10_putTile_45 rfl rfl ?_
    refine r_iload_n 4 dX10_putTile_46 rfl rfl ?_
    refine r_callVV (b' := (2, 0, 0)) (c := 23) (S := []) [.int a1, .int a2, .int a3] dX10_putTile_47 mX1_put lMX10_214 clX1 rfl iF23 sC23 rfl (by decide) (Nat.le_of_ble_eq_true rfl) h (fun M4 h => ?_) rfl
    refine r_iload 0 dX10_putTile_50 rfl ?_
    refine r_iretI dX10_putTile_52 rfl (by decide) (by decide) h
  · replace h := h.2 q
    exact h.elim
set_option maxHeartbeats 4000000 in
set_option maxRecDepth 100000 in
theorem C_X10_takeTile (G : eG) (M : eM) (F : Int32 → eM → Prop) (a1 : Int32)
    (h : Cal G 0 68 (2, 0, 0) kX10_requireTile [.ref (G.1 0), .int a1] M (eFV (fun (M1 : eM) => Cal G 0 68 (3, 0, 0) kX10_requireLying [.ref (G.1 0), .int a1] M1 (eFV (fun (M2 : eM) => vp_in a1 16 ∧ (Cal G 0 68 (1, 0, 0) kX1_lift [.ref (G.1 23), .int a1] M2 (eFV (fun (M3 : eM) => Cal G 0 68 (2, 0, 0) kX1_pointsFor [.ref (G.1 23), .int (M2 25 a1.toNatClampNeg)] M3 (eFI (fun (r4 : Int32) (M4 : eM) => F r4 M4)))))))))) :
    Cal G 0 68 (4, 0, 0) kX10_takeTile [.ref (G.1 0), .int a1] M (eFI F) := by
  refine Cal.of (by decide +kernel) rfl (Nat.le_of_ble_eq_true rfl) ?_
  show Ev (eZ G 0 68 0 0 (eFI F)) G 0 68 (4, 0, 0) kX10_takeTile 0 [(0, .ref (G.1 0)), (1, .int a1)] [] M 0 0
  refine r_aload_n 0 dX10_takeTile_0 rfl rfl ?_
  refine r_iload_n 1 dX10_takeTile_1 rfl rfl ?_
  refine r_callVV (b' := (2, 0, 0)) (c := 0) (S := []) [.int a1] dX10_takeTile_2 mX10_requireTile lMX10_172 clX10 rfl iF0 sC0 rfl (by decide) (Nat.le_of_ble_eq_true rfl) h (fun M1 h => ?_) rfl
  refine r_aload_n 0 dX10_takeTile_5 rfl rfl ?_
  refine r_iload_n 1 dX10_takeTile_6 rfl rfl ?_
  refine r_callVV (b' := (3, 0, 0)) (c := 0) (S := []) [.int a1] dX10_takeTile_7 mX10_requireLying lMX10_178 clX10 rfl iF0 sC0 rfl (by decide) (Nat.le_of_ble_eq_true rfl) h (fun M2 h => ?_) rfl
  refine r_aload_n 0 dX10_takeTile_10 rfl rfl ?_
  refine r_getR (c := 0) (k := 5) 23 dX10_takeTile_11 clX10 lFX10_51 (by decide) iF0 sC0 rfl ?_
  refine r_getR (c := 23) (k := 6) 25 dX10_takeTile_14 clX1 lFX10_181 (by decide) iF23 sC23 rfl ?_
  refine r_iload_n 1 dX10_takeTile_17 rfl rfl ?_
  have h1 := h.1
  replace h := h.2
  refine r_iald (c := 25) (N := 16) dX10_takeTile_18 iF25 sC25 h1 ?_
  refine r_istore_n (l' := [(2, .int (M2 25 a1.toNatClampNeg)), (0, .ref (G.1 0)), (1, .int a1)]) dX10_takeTile_19 rfl (by decide) rfl ?_
  refine r_aload_n 1 dX10_takeTile_20 rfl rfl ?_
  refine r_getR (c := 0) (k := 5) 23 dX10_takeTile_21 clX10 lFX10_51 (by decide) iF0 sC0 rfl ?_
  refine r_iload_n 2 dX10_takeTile_24 rfl rfl ?_
  refine r_callVV (b' := (1, 0, 0)) (c := 23) (S := []) [.int a1] dX10_takeTile_25 mX1_lift lMX10_217 clX1 rfl iF23 sC23 rfl (by decide) (Nat.le_of_ble_eq_true rfl) h (fun M3 h => ?_) rfl
  refine r_aload_n 1 dX10_takeTile_28 rfl rfl ?_
  refine r_getR (c := 0) (k := 5) 23 dX10_takeTile_29 clX10 lFX10_51 (by decide) iF0 sC0 rfl ?_
  refine r_iload_n 0 dX10_takeTile_32 rfl rfl ?_
  refine r_callVI (b' := (2, 0, 0)) (c := 23) (S := []) [.int (M2 25 a1.toNatClampNeg)] dX10_takeTile_33 mX1_pointsFor lMX10_211 clX1 rfl iF23 sC23 rfl (by decide) (Nat.le_of_ble_eq_true rfl) h (fun r4 M4 h => ?_) rfl
  refine r_iretI dX10_takeTile_36 rfl (by decide) (by decide) h
set_option maxHeartbeats 4000000 in
set_option maxRecDepth 100000 in
theorem C_X10_fitTile (G : eG) (M : eM) (F : Int32 → eM → Prop) (a1 : Int32)
    (h : Cal G 0 68 (2, 0, 0) kX10_requireTile [.ref (G.1 0), .int a1] M (eFV (fun (M1 : eM) => Cal G 0 68 (2, 0, 0) kX1_firstCell [.ref (G.1 23), .int a1] M1 (eFI (fun (r2 : Int32) (M2 : eM) => Cal G 0 68 (1, 0, 0) kX10_requireSome [.ref (G.1 0), .int r2] M2 (eFV (fun (M3 : eM) => Cal G 0 68 (2, 0, 0) kX1_firstTurn [.ref (G.1 23), .int a1, .int r2] M3 (eFI (fun (r4 : Int32) (M4 : eM) => Cal G 0 68 (2, 0, 0) kX1_put [.ref (G.1 23), .int a1, .int r2, .int r4] M4 (eFV (fun (M5 : eM) => F r2 M5))))))))))) :
    Cal G 0 68 (3, 0, 0) kX10_fitTile [.ref (G.1 0), .int a1] M (eFI F) := by
  refine Cal.of (by decide +kernel) rfl (Nat.le_of_ble_eq_true rfl) ?_
  show Ev (eZ G 0 68 0 0 (eFI F)) G 0 68 (3, 0, 0) kX10_fitTile 0 [(0, .ref (G.1 0)), (1, .int a1)] [] M 0 0
  refine r_aload_n 0 dX10_fitTile_0 rfl rfl ?_
  refine r_iload_n 1 dX10_fitTile_1 rfl rfl ?_
  refine r_callVV (b' := (2, 0, 0)) (c := 0) (S := []) [.int a1] dX10_fitTile_2 mX10_requireTile lMX10_172 clX10 rfl iF0 sC0 rfl (by decide) (Nat.le_of_ble_eq_true rfl) h (fun M1 h => ?_) rfl
  refine r_aload_n 0 dX10_fitTile_5 rfl rfl ?_
  refine r_getR (c := 0) (k := 5) 23 dX10_fitTile_6 clX10 lFX10_51 (by decide) iF0 sC0 rfl ?_
  refine r_iload_n 1 dX10_fitTile_9 rfl rfl ?_
  refine r_callVI (b' := (2, 0, 0)) (c := 23) (S := []) [.int a1] dX10_fitTile_10 mX1_firstCell lMX10_198 clX1 rfl iF23 sC23 rfl (by decide) (Nat.le_of_ble_eq_true rfl) h (fun r2 M2 h => ?_) rfl
  refine r_istore_n (l' := [(2, .int r2), (0, .ref (G.1 0)), (1, .int a1)]) dX10_fitTile_13 rfl (by decide) rfl ?_
  refine r_aload_n 1 dX10_fitTile_14 rfl rfl ?_
  refine r_iload_n 0 dX10_fitTile_15 rfl rfl ?_
  refine r_callVV (b' := (1, 0, 0)) (c := 0) (S := []) [.int r2] dX10_fitTile_16 mX10_requireSome lMX10_220 clX10 rfl iF0 sC0 rfl (by decide) (Nat.le_of_ble_eq_true rfl) h (fun M3 h => ?_) rfl
  refine r_aload_n 1 dX10_fitTile_19 rfl rfl ?_
  refine r_getR (c := 0) (k := 5) 23 dX10_fitTile_20 clX10 lFX10_51 (by decide) iF0 sC0 rfl ?_
  refine r_iload_n 2 dX10_fitTile_23 rfl rfl ?_
  refine r_iload_n 0 dX10_fitTile_24 rfl rfl ?_
  refine r_aload_n 1 dX10_fitTile_25 rfl rfl ?_
  refine r_getR (c := 0) (k := 5) 23 dX10_fitTile_26 clX10 lFX10_51 (by decide) iF0 sC0 rfl ?_
  refine r_iload_n 2 dX10_fitTile_29 rfl rfl ?_
  refine r_iload_n 0 dX10_fitTile_30 rfl rfl ?_
  refine r_callVI (b' := (2, 0, 0)) (c := 23) (S := [.int r2, .int a1, .ref (G.1 23)]) [.int a1, .int r2] dX10_fitTile_31 mX1_firstTurn lMX10_223 clX1 rfl iF23 sC23 rfl (by decide) (Nat.le_of_ble_eq_true rfl) h (fun r4 M4 h => ?_) rfl
  refine r_callVV (b' := (2, 0, 0)) (c := 23) (S := []) [.int a1, .int r2, .int r4] dX10_fitTile_34 mX1_put lMX10_214 clX1 rfl iF23 sC23 rfl (by decide) (Nat.le_of_ble_eq_true rfl) h (fun M5 h => ?_) rfl
  refine r_iload_n 0 dX10_fitTile_37 rfl rfl ?_
  refine r_iretI dX10_fitTile_38 rfl (by decide) (by decide) h
set_option maxHeartbeats 4000000 in
set_option maxRecDepth 100000 in
theorem B_X10_playRounds_9 (G : eG) (M : eM) (F : Int32 → eM → Prop) (x1 : Int32) (x2 : Int32) (x3 : Int32)
    (h : ((x1 ≤ x3) → F x2 M) ∧ ((¬ x1 ≤ x3) → Cal G 0 68 (7, 0, 0) kX2_playRound [.ref (G.1 16)] M (eFI (fun (r1 : Int32) (M1 : eM) => Ev (eZ G 0 68 0 0 (eFI F)) G 0 68 (8, 0, 0) kX10_playRounds 9 [(0, .ref (G.1 0)), (1, .int x1), (2, .int (x2 + r1)), (3, .int (x3 + 1))] [] M1 0 0)))) :
    Ev (eZ G 0 68 0 0 (eFI F)) G 0 68 (8, 0, 0) kX10_playRounds 9 [(0, .ref (G.1 0)), (1, .int x1), (2, .int x2), (3, .int x3)] [] M 0 0 := by
  refine r_iload_n 3 dX10_playRounds_9 rfl rfl ?_
  refine r_iload_n 1 dX10_playRounds_10 rfl rfl ?_
  refine r_icmp_ge (t := 30) dX10_playRounds_11 (by decide) (fun q => ?_) (fun q => ?_)
  · replace h := h.1 q
    refine r_iload_n 2 dX10_playRounds_30 rfl rfl ?_
    refine r_iretI dX10_playRounds_31 rfl (by decide) (by decide) h
  · replace h := h.2 q
    refine r_iload_n 2 dX10_playRounds_14 rfl rfl ?_
    refine r_aload_n 0 dX10_playRounds_15 rfl rfl ?_
    refine r_getR (c := 0) (k := 6) 16 dX10_playRounds_16 clX10 lFX10_60 (by decide) iF0 sC0 rfl ?_
    refine r_callVI (b' := (7, 0, 0)) (c := 16) (S := [.int x2]) [] dX10_playRounds_19 mX2_playRound lMX10_230 clX2 rfl iF16 sC16 rfl (by decide) (Nat.le_of_ble_eq_true rfl) h (fun r1 M1 h => ?_) rfl
    refine r_iadd dX10_playRounds_22 ?_
    refine r_istore_n (l' := [(2, .int (x2 + r1)), (0, .ref (G.1 0)), (1, .int x1), (3, .int x3)]) dX10_playRounds_23 rfl (by decide) rfl ?_
    refine r_iinc (v := x3 + 1) (l' := [(3, .int (x3 + 1)), (2, .int (x2 + r1)), (0, .ref (G.1 0)), (1, .int x1)]) 3 dX10_playRounds_24 rfl rfl (by decide) rfl ?_
    refine r_goto (t := 9) dX10_playRounds_27 (by decide) ?_
    exact Ev.sub (ks := [2, 3, 1, 0]) rfl h
set_option maxHeartbeats 4000000 in
set_option maxRecDepth 100000 in
theorem C_X10_playRounds (G : eG) (M : eM) (F : Int32 → eM → Prop) (a1 : Int32)
    (h : Cal G 0 68 (1, 0, 0) kX10_requireRounds [.ref (G.1 0), .int a1] M (eFV (fun (M1 : eM) => Ev (eZ G 0 68 0 0 (eFI F)) G 0 68 (8, 0, 0) kX10_playRounds 9 [(0, .ref (G.1 0)), (1, .int a1), (2, .int 0), (3, .int 0)] [] M1 0 0))) :
    Cal G 0 68 (8, 0, 0) kX10_playRounds [.ref (G.1 0), .int a1] M (eFI F) := by
  refine Cal.of (by decide +kernel) rfl (Nat.le_of_ble_eq_true rfl) ?_
  show Ev (eZ G 0 68 0 0 (eFI F)) G 0 68 (8, 0, 0) kX10_playRounds 0 [(0, .ref (G.1 0)), (1, .int a1)] [] M 0 0
  refine r_aload_n 0 dX10_playRounds_0 rfl rfl ?_
  refine r_iload_n 1 dX10_playRounds_1 rfl rfl ?_
  refine r_callVV (b' := (1, 0, 0)) (c := 0) (S := []) [.int a1] dX10_playRounds_2 mX10_requireRounds lMX10_227 clX10 rfl iF0 sC0 rfl (by decide) (Nat.le_of_ble_eq_true rfl) h (fun M1 h => ?_) rfl
  refine r_iconst (v := 0) dX10_playRounds_5 rfl ?_
  refine r_istore_n (l' := [(2, .int 0), (0, .ref (G.1 0)), (1, .int a1)]) dX10_playRounds_6 rfl (by decide) rfl ?_
  refine r_iconst (v := 0) dX10_playRounds_7 rfl ?_
  refine r_istore_n (l' := [(3, .int 0), (2, .int 0), (0, .ref (G.1 0)), (1, .int a1)]) dX10_playRounds_8 rfl (by decide) rfl ?_
  exact Ev.sub (ks := [2, 3, 1, 0]) rfl h
set_option maxHeartbeats 4000000 in
set_option maxRecDepth 100000 in
theorem B_X10_pointsAfter_14 (G : eG) (M : eM) (F : Int32 → eM → Prop) (x1 : Int32) (x2 : Int32)
    (h : ((x1 ≤ x2) → Cal G 0 68 (3, 0, 0) kX1_countPoints [.ref (G.1 23)] M (eFI (fun (r1 : Int32) (M1 : eM) => Cal G 0 68 (4, 0, 0) kX2_bringBack [.ref (G.1 16)] M1 (eFV (fun (M2 : eM) => F r1 M2))))) ∧ ((¬ x1 ≤ x2) → Cal G 0 68 (7, 0, 0) kX2_playRound [.ref (G.1 16)] M (eFI (fun (r3 : Int32) (M3 : eM) => Ev (eZ G 0 68 0 0 (eFI F)) G 0 68 (8, 0, 0) kX10_pointsAfter 14 [(0, .ref (G.1 0)), (1, .int x1), (2, .int (x2 + 1))] [] M3 0 0)))) :
    Ev (eZ G 0 68 0 0 (eFI F)) G 0 68 (8, 0, 0) kX10_pointsAfter 14 [(0, .ref (G.1 0)), (1, .int x1), (2, .int x2)] [] M 0 0 := by
  refine r_iload_n 2 dX10_pointsAfter_14 rfl rfl ?_
  refine r_iload_n 1 dX10_pointsAfter_15 rfl rfl ?_
  refine r_icmp_ge (t := 33) dX10_pointsAfter_16 (by decide) (fun q => ?_) (fun q => ?_)
  · replace h := h.1 q
    refine r_aload_n 0 dX10_pointsAfter_33 rfl rfl ?_
    refine r_getR (c := 0) (k := 5) 23 dX10_pointsAfter_34 clX10 lFX10_51 (by decide) iF0 sC0 rfl ?_
    refine r_callVI (b' := (3, 0, 0)) (c := 23) (S := []) [] dX10_pointsAfter_37 mX1_countPoints lMX10_137 clX1 rfl iF23 sC23 rfl (by decide) (Nat.le_of_ble_eq_true rfl) h (fun r1 M1 h => ?_) rfl
    refine r_istore_n (l' := [(2, .int r1), (0, .ref (G.1 0)), (1, .int x1)]) dX10_pointsAfter_40 rfl (by decide) rfl ?_
    refine r_aload_n 1 dX10_pointsAfter_41 rfl rfl ?_
    refine r_getR (c := 0) (k := 6) 16 dX10_pointsAfter_42 clX10 lFX10_60 (by decide) iF0 sC0 rfl ?_
    refine r_callVV (b' := (4, 0, 0)) (c := 16) (S := []) [] dX10_pointsAfter_45 mX2_bringBack lMX10_236 clX2 rfl iF16 sC16 rfl (by decide) (Nat.le_of_ble_eq_true rfl) h (fun M2 h => ?_) rfl
    refine r_iload_n 0 dX10_pointsAfter_48 rfl rfl ?_
    refine r_iretI dX10_pointsAfter_49 rfl (by decide) (by decide) h
  · replace h := h.2 q
    refine r_aload_n 0 dX10_pointsAfter_19 rfl rfl ?_
    refine r_getR (c := 0) (k := 6) 16 dX10_pointsAfter_20 clX10 lFX10_60 (by decide) iF0 sC0 rfl ?_
    refine r_callVI (b' := (7, 0, 0)) (c := 16) (S := []) [] dX10_pointsAfter_23 mX2_playRound lMX10_230 clX2 rfl iF16 sC16 rfl (by decide) (Nat.le_of_ble_eq_true rfl) h (fun r3 M3 h => ?_) rfl
    refine r_pop dX10_pointsAfter_26 rfl ?_
    refine r_iinc (v := x2 + 1) (l' := [(2, .int (x2 + 1)), (0, .ref (G.1 0)), (1, .int x1)]) 2 dX10_pointsAfter_27 rfl rfl (by decide) rfl ?_
    refine r_goto (t := 14) dX10_pointsAfter_30 (by decide) ?_
    exact Ev.sub (ks := [1, 2, 0]) rfl h
set_option maxHeartbeats 4000000 in
set_option maxRecDepth 100000 in
theorem C_X10_pointsAfter (G : eG) (M : eM) (F : Int32 → eM → Prop) (a1 : Int32)
    (h : Cal G 0 68 (1, 0, 0) kX10_requireRounds [.ref (G.1 0), .int a1] M (eFV (fun (M1 : eM) => Cal G 0 68 (2, 0, 0) kX2_keep [.ref (G.1 16)] M1 (eFV (fun (M2 : eM) => Ev (eZ G 0 68 0 0 (eFI F)) G 0 68 (8, 0, 0) kX10_pointsAfter 14 [(0, .ref (G.1 0)), (1, .int a1), (2, .int 0)] [] M2 0 0))))) :
    Cal G 0 68 (8, 0, 0) kX10_pointsAfter [.ref (G.1 0), .int a1] M (eFI F) := by
  refine Cal.of (by decide +kernel) rfl (Nat.le_of_ble_eq_true rfl) ?_
  show Ev (eZ G 0 68 0 0 (eFI F)) G 0 68 (8, 0, 0) kX10_pointsAfter 0 [(0, .ref (G.1 0)), (1, .int a1)] [] M 0 0
  refine r_aload_n 0 dX10_pointsAfter_0 rfl rfl ?_
  refine r_iload_n 1 dX10_pointsAfter_1 rfl rfl ?_
  refine r_callVV (b' := (1, 0, 0)) (c := 0) (S := []) [.int a1] dX10_pointsAfter_2 mX10_requireRounds lMX10_227 clX10 rfl iF0 sC0 rfl (by decide) (Nat.le_of_ble_eq_true rfl) h (fun M1 h => ?_) rfl
  refine r_aload_n 0 dX10_pointsAfter_5 rfl rfl ?_
  refine r_getR (c := 0) (k := 6) 16 dX10_pointsAfter_6 clX10 lFX10_60 (by decide) iF0 sC0 rfl ?_
  refine r_callVV (b' := (2, 0, 0)) (c := 16) (S := []) [] dX10_pointsAfter_9 mX2_keep lMX10_233 clX2 rfl iF16 sC16 rfl (by decide) (Nat.le_of_ble_eq_true rfl) h (fun M2 h => ?_) rfl
  refine r_iconst (v := 0) dX10_pointsAfter_12 rfl ?_
  refine r_istore_n (l' := [(2, .int 0), (0, .ref (G.1 0)), (1, .int a1)]) dX10_pointsAfter_13 rfl (by decide) rfl ?_
  exact Ev.sub (ks := [1, 2, 0]) rfl h
set_option maxHeartbeats 4000000 in
set_option maxRecDepth 100000 in
theorem B_X10_roundsUntilRing_39 (G : eG) (M : eM) (F : Int32 → eM → Prop) (x1 : Int32)
    (h : Cal G 0 68 (2, 0, 0) kX1_countRings [.ref (G.1 23)] M (eFI (fun (r1 : Int32) (M1 : eM) => ((r1 ≤ 0) → Cal G 0 68 (4, 0, 0) kX2_bringBack [.ref (G.1 16)] M1 (eFV (fun (M2 : eM) => (((0 : Int32) = 0) → F (-1) M2) ∧ ((¬ (0 : Int32) = 0) → F x1 M2)))) ∧ ((¬ r1 ≤ 0) → Cal G 0 68 (4, 0, 0) kX2_bringBack [.ref (G.1 16)] M1 (eFV (fun (M3 : eM) => (((1 : Int32) = 0) → F (-1) M3) ∧ ((¬ (1 : Int32) = 0) → F x1 M3))))))) :
    Ev (eZ G 0 68 0 0 (eFI F)) G 0 68 (8, 0, 0) kX10_roundsUntilRing 39 [(0, .ref (G.1 0)), (1, .int x1)] [] M 0 0 := by
  refine r_aload_n 0 dX10_roundsUntilRing_39 rfl rfl ?_
  refine r_getR (c := 0) (k := 5) 23 dX10_roundsUntilRing_40 clX10 lFX10_51 (by decide) iF0 sC0 rfl ?_
  refine r_callVI (b' := (2, 0, 0)) (c := 23) (S := []) [] dX10_roundsUntilRing_43 mX1_countRings lMX10_140 clX1 rfl iF23 sC23 rfl (by decide) (Nat.le_of_ble_eq_true rfl) h (fun r1 M1 h => ?_) rfl
  refine r_if_le (t := 53) dX10_roundsUntilRing_46 (by decide) (fun q => ?_) (fun q => ?_)
  · replace h := h.1 q
    refine r_iconst (v := 0) dX10_roundsUntilRing_53 rfl ?_
    refine r_istore_n (l' := [(2, .int 0), (0, .ref (G.1 0)), (1, .int x1)]) dX10_roundsUntilRing_54 rfl (by decide) rfl ?_
    refine r_aload_n 1 dX10_roundsUntilRing_55 rfl rfl ?_
    refine r_getR (c := 0) (k := 6) 16 dX10_roundsUntilRing_56 clX10 lFX10_60 (by decide) iF0 sC0 rfl ?_
    refine r_callVV (b' := (4, 0, 0)) (c := 16) (S := []) [] dX10_roundsUntilRing_59 mX2_bringBack lMX10_236 clX2 rfl iF16 sC16 rfl (by decide) (Nat.le_of_ble_eq_true rfl) h (fun M2 h => ?_) rfl
    refine r_iload_n 0 dX10_roundsUntilRing_62 rfl rfl ?_
    refine r_if_eq (t := 70) dX10_roundsUntilRing_63 (by decide) (fun q => ?_) (fun q => ?_)
    · replace h := h.1 q
      refine r_iconst (v := (-1)) dX10_roundsUntilRing_70 rfl ?_
      refine r_iretI dX10_roundsUntilRing_71 rfl (by decide) (by decide) h
    · replace h := h.2 q
      refine r_iload_n 2 dX10_roundsUntilRing_66 rfl rfl ?_
      refine r_goto (t := 71) dX10_roundsUntilRing_67 (by decide) ?_
      refine r_iretI dX10_roundsUntilRing_71 rfl (by decide) (by decide) h
  · replace h := h.2 q
    refine r_iconst (v := 1) dX10_roundsUntilRing_49 rfl ?_
    refine r_goto (t := 54) dX10_roundsUntilRing_50 (by decide) ?_
    refine r_istore_n (l' := [(2, .int 1), (0, .ref (G.1 0)), (1, .int x1)]) dX10_roundsUntilRing_54 rfl (by decide) rfl ?_
    refine r_aload_n 1 dX10_roundsUntilRing_55 rfl rfl ?_
    refine r_getR (c := 0) (k := 6) 16 dX10_roundsUntilRing_56 clX10 lFX10_60 (by decide) iF0 sC0 rfl ?_
    refine r_callVV (b' := (4, 0, 0)) (c := 16) (S := []) [] dX10_roundsUntilRing_59 mX2_bringBack lMX10_236 clX2 rfl iF16 sC16 rfl (by decide) (Nat.le_of_ble_eq_true rfl) h (fun M3 h => ?_) rfl
    refine r_iload_n 0 dX10_roundsUntilRing_62 rfl rfl ?_
    refine r_if_eq (t := 70) dX10_roundsUntilRing_63 (by decide) (fun q => ?_) (fun q => ?_)
    · replace h := h.1 q
      refine r_iconst (v := (-1)) dX10_roundsUntilRing_70 rfl ?_
      refine r_iretI dX10_roundsUntilRing_71 rfl (by decide) (by decide) h
    · replace h := h.2 q
      refine r_iload_n 2 dX10_roundsUntilRing_66 rfl rfl ?_
      refine r_goto (t := 71) dX10_roundsUntilRing_67 (by decide) ?_
      refine r_iretI dX10_roundsUntilRing_71 rfl (by decide) (by decide) h
set_option maxHeartbeats 4000000 in
set_option maxRecDepth 100000 in
theorem B_X10_roundsUntilRing_9 (G : eG) (M : eM) (F : Int32 → eM → Prop) (x1 : Int32)
    (h : ((20 ≤ x1) → Ev (eZ G 0 68 0 0 (eFI F)) G 0 68 (8, 0, 0) kX10_roundsUntilRing 39 [(0, .ref (G.1 0)), (1, .int x1)] [] M 0 0) ∧ ((¬ 20 ≤ x1) → Cal G 0 68 (2, 0, 0) kX1_countRings [.ref (G.1 23)] M (eFI (fun (r1 : Int32) (M1 : eM) => ((¬ r1 = 0) → Ev (eZ G 0 68 0 0 (eFI F)) G 0 68 (8, 0, 0) kX10_roundsUntilRing 39 [(0, .ref (G.1 0)), (1, .int x1)] [] M1 0 0) ∧ ((r1 = 0) → Cal G 0 68 (7, 0, 0) kX2_playRound [.ref (G.1 16)] M1 (eFI (fun (r2 : Int32) (M2 : eM) => Ev (eZ G 0 68 0 0 (eFI F)) G 0 68 (8, 0, 0) kX10_roundsUntilRing 9 [(0, .ref (G.1 0)), (1, .int (x1 + 1))] [] M2 0 0))))))) :
    Ev (eZ G 0 68 0 0 (eFI F)) G 0 68 (8, 0, 0) kX10_roundsUntilRing 9 [(0, .ref (G.1 0)), (1, .int x1)] [] M 0 0 := by
  refine r_iload_n 1 dX10_roundsUntilRing_9 rfl rfl ?_
  refine r_bipush (v := 20) dX10_roundsUntilRing_10 rfl ?_
  refine r_icmp_ge (t := 39) dX10_roundsUntilRing_12 (by decide) (fun q => ?_) (fun q => ?_)
  · replace h := h.1 q
    exact h
  · replace h := h.2 q
    refine r_aload_n 0 dX10_roundsUntilRing_15 rfl rfl ?_
    refine r_getR (c := 0) (k := 5) 23 dX10_roundsUntilRing_16 clX10 lFX10_51 (by decide) iF0 sC0 rfl ?_
    refine r_callVI (b' := (2, 0, 0)) (c := 23) (S := []) [] dX10_roundsUntilRing_19 mX1_countRings lMX10_140 clX1 rfl iF23 sC23 rfl (by decide) (Nat.le_of_ble_eq_true rfl) h (fun r1 M1 h => ?_) rfl
    refine r_if_ne (t := 39) dX10_roundsUntilRing_22 (by decide) (fun q => ?_) (fun q => ?_)
    · replace h := h.1 q
      exact h
    · replace h := h.2 q
      refine r_aload_n 0 dX10_roundsUntilRing_25 rfl rfl ?_
      refine r_getR (c := 0) (k := 6) 16 dX10_roundsUntilRing_26 clX10 lFX10_60 (by decide) iF0 sC0 rfl ?_
      refine r_callVI (b' := (7, 0, 0)) (c := 16) (S := []) [] dX10_roundsUntilRing_29 mX2_playRound lMX10_230 clX2 rfl iF16 sC16 rfl (by decide) (Nat.le_of_ble_eq_true rfl) h (fun r2 M2 h => ?_) rfl
      refine r_pop dX10_roundsUntilRing_32 rfl ?_
      refine r_iinc (v := x1 + 1) (l' := [(1, .int (x1 + 1)), (0, .ref (G.1 0))]) 1 dX10_roundsUntilRing_33 rfl rfl (by decide) rfl ?_
      refine r_goto (t := 9) dX10_roundsUntilRing_36 (by decide) ?_
      exact Ev.sub (ks := [1, 0]) rfl h
set_option maxHeartbeats 4000000 in
set_option maxRecDepth 100000 in
theorem C_X10_roundsUntilRing (G : eG) (M : eM) (F : Int32 → eM → Prop) 
    (h : Cal G 0 68 (2, 0, 0) kX2_keep [.ref (G.1 16)] M (eFV (fun (M1 : eM) => Ev (eZ G 0 68 0 0 (eFI F)) G 0 68 (8, 0, 0) kX10_roundsUntilRing 9 [(0, .ref (G.1 0)), (1, .int 0)] [] M1 0 0))) :
    Cal G 0 68 (8, 0, 0) kX10_roundsUntilRing [.ref (G.1 0)] M (eFI F) := by
  refine Cal.of (by decide +kernel) rfl (Nat.le_of_ble_eq_true rfl) ?_
  show Ev (eZ G 0 68 0 0 (eFI F)) G 0 68 (8, 0, 0) kX10_roundsUntilRing 0 [(0, .ref (G.1 0))] [] M 0 0
  refine r_aload_n 0 dX10_roundsUntilRing_0 rfl rfl ?_
  refine r_getR (c := 0) (k := 6) 16 dX10_roundsUntilRing_1 clX10 lFX10_60 (by decide) iF0 sC0 rfl ?_
  refine r_callVV (b' := (2, 0, 0)) (c := 16) (S := []) [] dX10_roundsUntilRing_4 mX2_keep lMX10_233 clX2 rfl iF16 sC16 rfl (by decide) (Nat.le_of_ble_eq_true rfl) h (fun M1 h => ?_) rfl
  refine r_iconst (v := 0) dX10_roundsUntilRing_7 rfl ?_
  refine r_istore_n (l' := [(1, .int 0), (0, .ref (G.1 0))]) dX10_roundsUntilRing_8 rfl (by decide) rfl ?_
  exact Ev.sub (ks := [1, 0]) rfl h
set_option maxHeartbeats 4000000 in
set_option maxRecDepth 100000 in
theorem C_X10_bestCell (G : eG) (M : eM) (F : Int32 → eM → Prop) (a1 : Int32)
    (h : Cal G 0 68 (2, 0, 0) kX10_requireTile [.ref (G.1 0), .int a1] M (eFV (fun (M1 : eM) => Cal G 0 68 (3, 0, 0) kX1_richestCell [.ref (G.1 23), .int a1] M1 (eFI (fun (r2 : Int32) (M2 : eM) => Cal G 0 68 (1, 0, 0) kX10_requireSome [.ref (G.1 0), .int r2] M2 (eFV (fun (M3 : eM) => F r2 M3))))))) :
    Cal G 0 68 (4, 0, 0) kX10_bestCell [.ref (G.1 0), .int a1] M (eFI F) := by
  refine Cal.of (by decide +kernel) rfl (Nat.le_of_ble_eq_true rfl) ?_
  show Ev (eZ G 0 68 0 0 (eFI F)) G 0 68 (4, 0, 0) kX10_bestCell 0 [(0, .ref (G.1 0)), (1, .int a1)] [] M 0 0
  refine r_aload_n 0 dX10_bestCell_0 rfl rfl ?_
  refine r_iload_n 1 dX10_bestCell_1 rfl rfl ?_
  refine r_callVV (b' := (2, 0, 0)) (c := 0) (S := []) [.int a1] dX10_bestCell_2 mX10_requireTile lMX10_172 clX10 rfl iF0 sC0 rfl (by decide) (Nat.le_of_ble_eq_true rfl) h (fun M1 h => ?_) rfl
  refine r_aload_n 0 dX10_bestCell_5 rfl rfl ?_
  refine r_getR (c := 0) (k := 5) 23 dX10_bestCell_6 clX10 lFX10_51 (by decide) iF0 sC0 rfl ?_
  refine r_iload_n 1 dX10_bestCell_9 rfl rfl ?_
  refine r_callVI (b' := (3, 0, 0)) (c := 23) (S := []) [.int a1] dX10_bestCell_10 mX1_richestCell lMX10_239 clX1 rfl iF23 sC23 rfl (by decide) (Nat.le_of_ble_eq_true rfl) h (fun r2 M2 h => ?_) rfl
  refine r_istore_n (l' := [(2, .int r2), (0, .ref (G.1 0)), (1, .int a1)]) dX10_bestCell_13 rfl (by decide) rfl ?_
  refine r_aload_n 1 dX10_bestCell_14 rfl rfl ?_
  refine r_iload_n 0 dX10_bestCell_15 rfl rfl ?_
  refine r_callVV (b' := (1, 0, 0)) (c := 0) (S := []) [.int r2] dX10_bestCell_16 mX10_requireSome lMX10_220 clX10 rfl iF0 sC0 rfl (by decide) (Nat.le_of_ble_eq_true rfl) h (fun M3 h => ?_) rfl
  refine r_iload_n 0 dX10_bestCell_19 rfl rfl ?_
  refine r_iretI dX10_bestCell_20 rfl (by decide) (by decide) h
set_option maxHeartbeats 4000000 in
set_option maxRecDepth 100000 in
theorem C_X10_bestTurn (G : eG) (M : eM) (F : Int32 → eM → Prop) (a1 : Int32)
    (h : Cal G 0 68 (2, 0, 0) kX10_requireTile [.ref (G.1 0), .int a1] M (eFV (fun (M1 : eM) => Cal G 0 68 (3, 0, 0) kX1_richestCell [.ref (G.1 23), .int a1] M1 (eFI (fun (r2 : Int32) (M2 : eM) => Cal G 0 68 (1, 0, 0) kX10_requireSome [.ref (G.1 0), .int r2] M2 (eFV (fun (M3 : eM) => Cal G 0 68 (2, 0, 0) kX1_firstTurn [.ref (G.1 23), .int a1, .int r2] M3 (eFI (fun (r4 : Int32) (M4 : eM) => F r4 M4))))))))) :
    Cal G 0 68 (4, 0, 0) kX10_bestTurn [.ref (G.1 0), .int a1] M (eFI F) := by
  refine Cal.of (by decide +kernel) rfl (Nat.le_of_ble_eq_true rfl) ?_
  show Ev (eZ G 0 68 0 0 (eFI F)) G 0 68 (4, 0, 0) kX10_bestTurn 0 [(0, .ref (G.1 0)), (1, .int a1)] [] M 0 0
  refine r_aload_n 0 dX10_bestTurn_0 rfl rfl ?_
  refine r_iload_n 1 dX10_bestTurn_1 rfl rfl ?_
  refine r_callVV (b' := (2, 0, 0)) (c := 0) (S := []) [.int a1] dX10_bestTurn_2 mX10_requireTile lMX10_172 clX10 rfl iF0 sC0 rfl (by decide) (Nat.le_of_ble_eq_true rfl) h (fun M1 h => ?_) rfl
  refine r_aload_n 0 dX10_bestTurn_5 rfl rfl ?_
  refine r_getR (c := 0) (k := 5) 23 dX10_bestTurn_6 clX10 lFX10_51 (by decide) iF0 sC0 rfl ?_
  refine r_iload_n 1 dX10_bestTurn_9 rfl rfl ?_
  refine r_callVI (b' := (3, 0, 0)) (c := 23) (S := []) [.int a1] dX10_bestTurn_10 mX1_richestCell lMX10_239 clX1 rfl iF23 sC23 rfl (by decide) (Nat.le_of_ble_eq_true rfl) h (fun r2 M2 h => ?_) rfl
  refine r_istore_n (l' := [(2, .int r2), (0, .ref (G.1 0)), (1, .int a1)]) dX10_bestTurn_13 rfl (by decide) rfl ?_
  refine r_aload_n 1 dX10_bestTurn_14 rfl rfl ?_
  refine r_iload_n 0 dX10_bestTurn_15 rfl rfl ?_
  refine r_callVV (b' := (1, 0, 0)) (c := 0) (S := []) [.int r2] dX10_bestTurn_16 mX10_requireSome lMX10_220 clX10 rfl iF0 sC0 rfl (by decide) (Nat.le_of_ble_eq_true rfl) h (fun M3 h => ?_) rfl
  refine r_aload_n 1 dX10_bestTurn_19 rfl rfl ?_
  refine r_getR (c := 0) (k := 5) 23 dX10_bestTurn_20 clX10 lFX10_51 (by decide) iF0 sC0 rfl ?_
  refine r_iload_n 2 dX10_bestTurn_23 rfl rfl ?_
  refine r_iload_n 0 dX10_bestTurn_24 rfl rfl ?_
  refine r_callVI (b' := (2, 0, 0)) (c := 23) (S := []) [.int a1, .int r2] dX10_bestTurn_25 mX1_firstTurn lMX10_223 clX1 rfl iF23 sC23 rfl (by decide) (Nat.le_of_ble_eq_true rfl) h (fun r4 M4 h => ?_) rfl
  refine r_iretI dX10_bestTurn_28 rfl (by decide) (by decide) h
set_option maxHeartbeats 4000000 in
set_option maxRecDepth 100000 in
theorem C_X10_bestTile (G : eG) (M : eM) (F : Int32 → eM → Prop) 
    (h : Cal G 0 68 (4, 0, 0) kX1_richestTile [.ref (G.1 23)] M (eFI (fun (r1 : Int32) (M1 : eM) => F r1 M1))) :
    Cal G 0 68 (5, 0, 0) kX10_bestTile [.ref (G.1 0)] M (eFI F) := by
  refine Cal.of (by decide +kernel) rfl (Nat.le_of_ble_eq_true rfl) ?_
  show Ev (eZ G 0 68 0 0 (eFI F)) G 0 68 (5, 0, 0) kX10_bestTile 0 [(0, .ref (G.1 0))] [] M 0 0
  refine r_aload_n 0 dX10_bestTile_0 rfl rfl ?_
  refine r_getR (c := 0) (k := 5) 23 dX10_bestTile_1 clX10 lFX10_51 (by decide) iF0 sC0 rfl ?_
  refine r_callVI (b' := (4, 0, 0)) (c := 23) (S := []) [] dX10_bestTile_4 mX1_richestTile lMX10_242 clX1 rfl iF23 sC23 rfl (by decide) (Nat.le_of_ble_eq_true rfl) h (fun r1 M1 h => ?_) rfl
  refine r_iretI dX10_bestTile_7 rfl (by decide) (by decide) h
set_option maxHeartbeats 4000000 in
set_option maxRecDepth 100000 in
theorem C_X10_meanMatch (G : eG) (M : eM) (F : UInt64 → eM → Prop) 
    (h : Cal G 0 68 (2, 0, 0) kX1_countMatches [.ref (G.1 23)] M (eFI (fun (r1 : Int32) (M1 : eM) => ((0 < r1) → Cal G 0 68 (2, 0, 0) kX1_sumOfMatches [.ref (G.1 23)] M1 (eFI (fun (r2 : Int32) (M2 : eM) => vf_n64 (FP.ddiv (FP.i2d r2) (FP.i2d r1)) ∧ (F (FP.ddiv (FP.i2d r2) (FP.i2d r1)) M2)))) ∧ ((¬ 0 < r1) → F FP.dconst0 M1)))) :
    Cal G 0 68 (3, 0, 0) kX10_meanMatch [.ref (G.1 0)] M (eFD F) := by
  refine Cal.of (by decide +kernel) rfl (Nat.le_of_ble_eq_true rfl) ?_
  show Ev (eZ G 0 68 0 0 (eFD F)) G 0 68 (3, 0, 0) kX10_meanMatch 0 [(0, .ref (G.1 0))] [] M 0 0
  refine r_aload_n 0 dX10_meanMatch_0 rfl rfl ?_
  refine r_getR (c := 0) (k := 5) 23 dX10_meanMatch_1 clX10 lFX10_51 (by decide) iF0 sC0 rfl ?_
  refine r_callVI (b' := (2, 0, 0)) (c := 23) (S := []) [] dX10_meanMatch_4 mX1_countMatches lMX10_134 clX1 rfl iF23 sC23 rfl (by decide) (Nat.le_of_ble_eq_true rfl) h (fun r1 M1 h => ?_) rfl
  refine r_istore_n (l' := [(1, .int r1), (0, .ref (G.1 0))]) dX10_meanMatch_7 rfl (by decide) rfl ?_
  refine r_iload_n 0 dX10_meanMatch_8 rfl rfl ?_
  refine r_if_gt (t := 14) dX10_meanMatch_9 (by decide) (fun q => ?_) (fun q => ?_)
  · replace h := h.1 q
    refine r_aload_n 1 dX10_meanMatch_14 rfl rfl ?_
    refine r_getR (c := 0) (k := 5) 23 dX10_meanMatch_15 clX10 lFX10_51 (by decide) iF0 sC0 rfl ?_
    refine r_callVI (b' := (2, 0, 0)) (c := 23) (S := []) [] dX10_meanMatch_18 mX1_sumOfMatches lMX10_245 clX1 rfl iF23 sC23 rfl (by decide) (Nat.le_of_ble_eq_true rfl) h (fun r2 M2 h => ?_) rfl
    refine r_i2d dX10_meanMatch_21 ?_
    refine r_iload_n 0 dX10_meanMatch_22 rfl rfl ?_
    refine r_i2d dX10_meanMatch_23 ?_
    have h1 := h.1
    replace h := h.2
    refine r_ddiv dX10_meanMatch_24 h1 ?_
    refine r_dretD dX10_meanMatch_25 rfl (by decide) (by decide) h
  · replace h := h.2 q
    refine r_dconst0 dX10_meanMatch_12 ?_
    refine r_dretD dX10_meanMatch_13 rfl (by decide) (by decide) h
set_option maxHeartbeats 4000000 in
set_option maxRecDepth 100000 in
theorem B_X10_digest_202 (G : eG) (M : eM) (F : Int64 → eM → Prop) (x1 : Int64) (x3 : Int32)
    (h : (((M 23 3) ≤ x3) → F x1 M) ∧ ((¬ (M 23 3) ≤ x3) → Cal G 0 68 (2, 0, 0) kX1_countWays [.ref (G.1 23), .int x3] M (eFI (fun (r1 : Int32) (M1 : eM) => Cal G 0 68 (2, 0, 0) kX1_lies [.ref (G.1 23), .int x3] M1 (eFZ (fun (r2 : Bool) (M2 : eM) => ((r2 = false) → ((¬ r1 = 0) → Ev (eZ G 0 68 0 0 (eFL F)) G 0 68 (6, 0, 0) kX10_digest 202 [(0, .ref (G.1 0)), (1, .long ((((((x1 * 31) + ((-1 : Int32).toInt64)) * 31) + r1.toInt64) * 31) + ((0 : Int32).toInt64))), (3, .int (x3 + 1))] [] M2 0 0) ∧ ((r1 = 0) → Cal G 0 68 (2, 0, 0) kX1_lies [.ref (G.1 23), .int x3] M2 (eFZ (fun (r3 : Bool) (M3 : eM) => ((r3 = true) → Ev (eZ G 0 68 0 0 (eFL F)) G 0 68 (6, 0, 0) kX10_digest 202 [(0, .ref (G.1 0)), (1, .long ((((((x1 * 31) + ((-1 : Int32).toInt64)) * 31) + r1.toInt64) * 31) + ((0 : Int32).toInt64))), (3, .int (x3 + 1))] [] M3 0 0) ∧ ((r3 = false) → Ev (eZ G 0 68 0 0 (eFL F)) G 0 68 (6, 0, 0) kX10_digest 202 [(0, .ref (G.1 0)), (1, .long ((((((x1 * 31) + ((-1 : Int32).toInt64)) * 31) + r1.toInt64) * 31) + ((1 : Int32).toInt64))), (3, .int (x3 + 1))] [] M3 0 0))))) ∧ ((r2 = true) → vp_in x3 16 ∧ (((¬ r1 = 0) → Ev (eZ G 0 68 0 0 (eFL F)) G 0 68 (6, 0, 0) kX10_digest 202 [(0, .ref (G.1 0)), (1, .long ((((((x1 * 31) + ((M2 26 x3.toNatClampNeg).toInt64)) * 31) + r1.toInt64) * 31) + ((0 : Int32).toInt64))), (3, .int (x3 + 1))] [] M2 0 0) ∧ ((r1 = 0) → Cal G 0 68 (2, 0, 0) kX1_lies [.ref (G.1 23), .int x3] M2 (eFZ (fun (r4 : Bool) (M4 : eM) => ((r4 = true) → Ev (eZ G 0 68 0 0 (eFL F)) G 0 68 (6, 0, 0) kX10_digest 202 [(0, .ref (G.1 0)), (1, .long ((((((x1 * 31) + ((M2 26 x3.toNatClampNeg).toInt64)) * 31) + r1.toInt64) * 31) + ((0 : Int32).toInt64))), (3, .int (x3 + 1))] [] M4 0 0) ∧ ((r4 = false) → Ev (eZ G 0 68 0 0 (eFL F)) G 0 68 (6, 0, 0) kX10_digest 202 [(0, .ref (G.1 0)), (1, .long ((((((x1 * 31) + ((M2 26 x3.toNatClampNeg).toInt64)) * 31) + r1.toInt64) * 31) + ((1 : Int32).toInt64))), (3, .int (x3 + 1))] [] M4 0 0)))))))))))) :
    Ev (eZ G 0 68 0 0 (eFL F)) G 0 68 (6, 0, 0) kX10_digest 202 [(0, .ref (G.1 0)), (1, .long x1), (3, .int x3)] [] M 0 0 := by
  refine r_iload_n 2 dX10_digest_202 rfl rfl ?_
  refine r_aload_n 0 dX10_digest_203 rfl rfl ?_
  refine r_getR (c := 0) (k := 5) 23 dX10_digest_204 clX10 lFX10_51 (by decide) iF0 sC0 rfl ?_
  refine r_getI (c := 23) (k := 3) dX10_digest_207 clX1 lFX10_125 (by decide) iF23 sC23 rfl ?_
  refine r_icmp_ge (t := 300) dX10_digest_210 (by decide) (fun q => ?_) (fun q => ?_)
  · replace h := h.1 q
    refine r_lload_n 1 dX10_digest_300 rfl rfl ?_
    refine r_lretL dX10_digest_301 rfl (by decide) (by decide) h
  · replace h := h.2 q
    refine r_aload_n 0 dX10_digest_213 rfl rfl ?_
    refine r_getR (c := 0) (k := 5) 23 dX10_digest_214 clX10 lFX10_51 (by decide) iF0 sC0 rfl ?_
    refine r_iload_n 2 dX10_digest_217 rfl rfl ?_
    refine r_callVI (b' := (2, 0, 0)) (c := 23) (S := []) [.int x3] dX10_digest_218 mX1_countWays lMX10_195 clX1 rfl iF23 sC23 rfl (by decide) (Nat.le_of_ble_eq_true rfl) h (fun r1 M1 h => ?_) rfl
    refine r_istore (l' := [(4, .int r1), (0, .ref (G.1 0)), (1, .long x1), (3, .int x3)]) dX10_digest_221 (by decide) rfl ?_
    refine r_lload_n 2 dX10_digest_223 rfl rfl ?_
    refine r_ldc2 dX10_digest_224 lCX10_250 ?_
    refine r_lmul dX10_digest_227 ?_
    refine r_aload_n 1 dX10_digest_228 rfl rfl ?_
    refine r_getR (c := 0) (k := 5) 23 dX10_digest_229 clX10 lFX10_51 (by decide) iF0 sC0 rfl ?_
    refine r_iload_n 3 dX10_digest_232 rfl rfl ?_
    refine r_callVZ (b' := (2, 0, 0)) (c := 23) (S := [.long (x1 * 31)]) [.int x3] dX10_digest_233 mX1_lies lMX10_175 clX1 rfl iF23 sC23 rfl (by decide) (Nat.le_of_ble_eq_true rfl) h (fun r2 M2 h => ?_) rfl
    refine r_zif_eq (t := 251) dX10_digest_236 (by decide) (fun q => ?_) (fun q => ?_)
    · replace h := h.1 q
      refine r_iconst (v := (-1)) dX10_digest_251 rfl ?_
      refine r_i2l dX10_digest_252 ?_
      refine r_ladd dX10_digest_253 ?_
      refine r_lstore_n (l' := [(1, .long ((x1 * 31) + ((-1 : Int32).toInt64))), (4, .int r1), (0, .ref (G.1 0)), (3, .int x3)]) dX10_digest_254 rfl (by decide) rfl ?_
      refine r_lload_n 0 dX10_digest_255 rfl rfl ?_
      refine r_ldc2 dX10_digest_256 lCX10_250 ?_
      refine r_lmul dX10_digest_259 ?_
      refine r_iload 1 dX10_digest_260 rfl ?_
      refine r_i2l dX10_digest_262 ?_
      refine r_ladd dX10_digest_263 ?_
      refine r_lstore_n (l' := [(1, .long ((((x1 * 31) + ((-1 : Int32).toInt64)) * 31) + r1.toInt64)), (4, .int r1), (0, .ref (G.1 0)), (3, .int x3)]) dX10_digest_264 rfl (by decide) rfl ?_
      refine r_lload_n 0 dX10_digest_265 rfl rfl ?_
      refine r_ldc2 dX10_digest_266 lCX10_250 ?_
      refine r_lmul dX10_digest_269 ?_
      refine r_iload 1 dX10_digest_270 rfl ?_
      refine r_if_ne (t := 290) dX10_digest_272 (by decide) (fun q => ?_) (fun q => ?_)
      · replace h := h.1 q
        refine r_iconst (v := 0) dX10_digest_290 rfl ?_
        refine r_i2l dX10_digest_291 ?_
        refine r_ladd dX10_digest_292 ?_
        refine r_lstore_n (l' := [(1, .long ((((((x1 * 31) + ((-1 : Int32).toInt64)) * 31) + r1.toInt64) * 31) + ((0 : Int32).toInt64))), (4, .int r1), (0, .ref (G.1 0)), (3, .int x3)]) dX10_digest_293 rfl (by decide) rfl ?_
        refine r_iinc (v := x3 + 1) (l' := [(3, .int (x3 + 1)), (1, .long ((((((x1 * 31) + ((-1 : Int32).toInt64)) * 31) + r1.toInt64) * 31) + ((0 : Int32).toInt64))), (4, .int r1), (0, .ref (G.1 0))]) 3 dX10_digest_294 rfl rfl (by decide) rfl ?_
        refine r_goto (t := 202) dX10_digest_297 (by decide) ?_
        exact Ev.sub (ks := [3, 1, 0]) rfl h
      · replace h := h.2 q
        refine r_aload_n 2 dX10_digest_275 rfl rfl ?_
        refine r_getR (c := 0) (k := 5) 23 dX10_digest_276 clX10 lFX10_51 (by decide) iF0 sC0 rfl ?_
        refine r_iload_n 3 dX10_digest_279 rfl rfl ?_
        refine r_callVZ (b' := (2, 0, 0)) (c := 23) (S := [.long (((((x1 * 31) + ((-1 : Int32).toInt64)) * 31) + r1.toInt64) * 31)]) [.int x3] dX10_digest_280 mX1_lies lMX10_175 clX1 rfl iF23 sC23 rfl (by decide) (Nat.le_of_ble_eq_true rfl) h (fun r3 M3 h => ?_) rfl
        refine r_zif_ne (t := 290) dX10_digest_283 (by decide) (fun q => ?_) (fun q => ?_)
        · replace h := h.1 q
          refine r_iconst (v := 0) dX10_digest_290 rfl ?_
          refine r_i2l dX10_digest_291 ?_
          refine r_ladd dX10_digest_292 ?_
          refine r_lstore_n (l' := [(1, .long ((((((x1 * 31) + ((-1 : Int32).toInt64)) * 31) + r1.toInt64) * 31) + ((0 : Int32).toInt64))), (4, .int r1), (0, .ref (G.1 0)), (3, .int x3)]) dX10_digest_293 rfl (by decide) rfl ?_
          refine r_iinc (v := x3 + 1) (l' := [(3, .int (x3 + 1)), (1, .long ((((((x1 * 31) + ((-1 : Int32).toInt64)) * 31) + r1.toInt64) * 31) + ((0 : Int32).toInt64))), (4, .int r1), (0, .ref (G.1 0))]) 3 dX10_digest_294 rfl rfl (by decide) rfl ?_
          refine r_goto (t := 202) dX10_digest_297 (by decide) ?_
          exact Ev.sub (ks := [3, 1, 0]) rfl h
        · replace h := h.2 q
          refine r_iconst (v := 1) dX10_digest_286 rfl ?_
          refine r_goto (t := 291) dX10_digest_287 (by decide) ?_
          refine r_i2l dX10_digest_291 ?_
          refine r_ladd dX10_digest_292 ?_
          refine r_lstore_n (l' := [(1, .long ((((((x1 * 31) + ((-1 : Int32).toInt64)) * 31) + r1.toInt64) * 31) + ((1 : Int32).toInt64))), (4, .int r1), (0, .ref (G.1 0)), (3, .int x3)]) dX10_digest_293 rfl (by decide) rfl ?_
          refine r_iinc (v := x3 + 1) (l' := [(3, .int (x3 + 1)), (1, .long ((((((x1 * 31) + ((-1 : Int32).toInt64)) * 31) + r1.toInt64) * 31) + ((1 : Int32).toInt64))), (4, .int r1), (0, .ref (G.1 0))]) 3 dX10_digest_294 rfl rfl (by decide) rfl ?_
          refine r_goto (t := 202) dX10_digest_297 (by decide) ?_
          exact Ev.sub (ks := [3, 1, 0]) rfl h
    · replace h := h.2 q
      refine r_aload_n 1 dX10_digest_239 rfl rfl ?_
      refine r_getR (c := 0) (k := 5) 23 dX10_digest_240 clX10 lFX10_51 (by decide) iF0 sC0 rfl ?_
      refine r_getR (c := 23) (k := 7) 26 dX10_digest_243 clX1 lFX10_159 (by decide) iF23 sC23 rfl ?_
      refine r_iload_n 3 dX10_digest_246 rfl rfl ?_
      have h1 := h.1
      replace h := h.2
      refine r_iald (c := 26) (N := 16) dX10_digest_247 iF26 sC26 h1 ?_
      refine r_goto (t := 252) dX10_digest_248 (by decide) ?_
      refine r_i2l dX10_digest_252 ?_
      refine r_ladd dX10_digest_253 ?_
      refine r_lstore_n (l' := [(1, .long ((x1 * 31) + ((M2 26 x3.toNatClampNeg).toInt64))), (4, .int r1), (0, .ref (G.1 0)), (3, .int x3)]) dX10_digest_254 rfl (by decide) rfl ?_
      refine r_lload_n 0 dX10_digest_255 rfl rfl ?_
      refine r_ldc2 dX10_digest_256 lCX10_250 ?_
      refine r_lmul dX10_digest_259 ?_
      refine r_iload 1 dX10_digest_260 rfl ?_
      refine r_i2l dX10_digest_262 ?_
      refine r_ladd dX10_digest_263 ?_
      refine r_lstore_n (l' := [(1, .long ((((x1 * 31) + ((M2 26 x3.toNatClampNeg).toInt64)) * 31) + r1.toInt64)), (4, .int r1), (0, .ref (G.1 0)), (3, .int x3)]) dX10_digest_264 rfl (by decide) rfl ?_
      refine r_lload_n 0 dX10_digest_265 rfl rfl ?_
      refine r_ldc2 dX10_digest_266 lCX10_250 ?_
      refine r_lmul dX10_digest_269 ?_
      refine r_iload 1 dX10_digest_270 rfl ?_
      refine r_if_ne (t := 290) dX10_digest_272 (by decide) (fun q => ?_) (fun q => ?_)
      · replace h := h.1 q
        refine r_iconst (v := 0) dX10_digest_290 rfl ?_
        refine r_i2l dX10_digest_291 ?_
        refine r_ladd dX10_digest_292 ?_
        refine r_lstore_n (l' := [(1, .long ((((((x1 * 31) + ((M2 26 x3.toNatClampNeg).toInt64)) * 31) + r1.toInt64) * 31) + ((0 : Int32).toInt64))), (4, .int r1), (0, .ref (G.1 0)), (3, .int x3)]) dX10_digest_293 rfl (by decide) rfl ?_
        refine r_iinc (v := x3 + 1) (l' := [(3, .int (x3 + 1)), (1, .long ((((((x1 * 31) + ((M2 26 x3.toNatClampNeg).toInt64)) * 31) + r1.toInt64) * 31) + ((0 : Int32).toInt64))), (4, .int r1), (0, .ref (G.1 0))]) 3 dX10_digest_294 rfl rfl (by decide) rfl ?_
        refine r_goto (t := 202) dX10_digest_297 (by decide) ?_
        exact Ev.sub (ks := [3, 1, 0]) rfl h
      · replace h := h.2 q
        refine r_aload_n 2 dX10_digest_275 rfl rfl ?_
        refine r_getR (c := 0) (k := 5) 23 dX10_digest_276 clX10 lFX10_51 (by decide) iF0 sC0 rfl ?_
        refine r_iload_n 3 dX10_digest_279 rfl rfl ?_
        refine r_callVZ (b' := (2, 0, 0)) (c := 23) (S := [.long (((((x1 * 31) + ((M2 26 x3.toNatClampNeg).toInt64)) * 31) + r1.toInt64) * 31)]) [.int x3] dX10_digest_280 mX1_lies lMX10_175 clX1 rfl iF23 sC23 rfl (by decide) (Nat.le_of_ble_eq_true rfl) h (fun r4 M4 h => ?_) rfl
        refine r_zif_ne (t := 290) dX10_digest_283 (by decide) (fun q => ?_) (fun q => ?_)
        · replace h := h.1 q
          refine r_iconst (v := 0) dX10_digest_290 rfl ?_
          refine r_i2l dX10_digest_291 ?_
          refine r_ladd dX10_digest_292 ?_
          refine r_lstore_n (l' := [(1, .long ((((((x1 * 31) + ((M2 26 x3.toNatClampNeg).toInt64)) * 31) + r1.toInt64) * 31) + ((0 : Int32).toInt64))), (4, .int r1), (0, .ref (G.1 0)), (3, .int x3)]) dX10_digest_293 rfl (by decide) rfl ?_
          refine r_iinc (v := x3 + 1) (l' := [(3, .int (x3 + 1)), (1, .long ((((((x1 * 31) + ((M2 26 x3.toNatClampNeg).toInt64)) * 31) + r1.toInt64) * 31) + ((0 : Int32).toInt64))), (4, .int r1), (0, .ref (G.1 0))]) 3 dX10_digest_294 rfl rfl (by decide) rfl ?_
          refine r_goto (t := 202) dX10_digest_297 (by decide) ?_
          exact Ev.sub (ks := [3, 1, 0]) rfl h
        · replace h := h.2 q
          refine r_iconst (v := 1) dX10_digest_286 rfl ?_
          refine r_goto (t := 291) dX10_digest_287 (by decide) ?_
          refine r_i2l dX10_digest_291 ?_
          refine r_ladd dX10_digest_292 ?_
          refine r_lstore_n (l' := [(1, .long ((((((x1 * 31) + ((M2 26 x3.toNatClampNeg).toInt64)) * 31) + r1.toInt64) * 31) + ((1 : Int32).toInt64))), (4, .int r1), (0, .ref (G.1 0)), (3, .int x3)]) dX10_digest_293 rfl (by decide) rfl ?_
          refine r_iinc (v := x3 + 1) (l' := [(3, .int (x3 + 1)), (1, .long ((((((x1 * 31) + ((M2 26 x3.toNatClampNeg).toInt64)) * 31) + r1.toInt64) * 31) + ((1 : Int32).toInt64))), (4, .int r1), (0, .ref (G.1 0))]) 3 dX10_digest_294 rfl rfl (by decide) rfl ?_
          refine r_goto (t := 202) dX10_digest_297 (by decide) ?_
          exact Ev.sub (ks := [3, 1, 0]) rfl h
set_option maxHeartbeats 4000000 in
set_option maxRecDepth 100000 in
theorem B_X10_digest_126 (G : eG) (M : eM) (F : Int64 → eM → Prop) (x1 : Int64) (x3 : Int32)
    (h : (((M 23 2) ≤ x3) → Ev (eZ G 0 68 0 0 (eFL F)) G 0 68 (6, 0, 0) kX10_digest 202 [(0, .ref (G.1 0)), (1, .long x1), (3, .int 0)] [] M 0 0) ∧ ((¬ (M 23 2) ≤ x3) → vp_in x3 49 ∧ (Cal G 0 68 (1, 0, 0) kX1_matchesOn [.ref (G.1 23), .int x3] M (eFI (fun (r1 : Int32) (M1 : eM) => Cal G 0 68 (1, 0, 0) kX1_isEncircled [.ref (G.1 23), .int x3] M1 (eFZ (fun (r2 : Bool) (M2 : eM) => ((r2 = false) → Ev (eZ G 0 68 0 0 (eFL F)) G 0 68 (6, 0, 0) kX10_digest 126 [(0, .ref (G.1 0)), (1, .long ((((((x1 * 31) + ((M 24 x3.toNatClampNeg).toInt64)) * 31) + r1.toInt64) * 31) + ((0 : Int32).toInt64))), (3, .int (x3 + 1))] [] M2 0 0) ∧ ((r2 = true) → Ev (eZ G 0 68 0 0 (eFL F)) G 0 68 (6, 0, 0) kX10_digest 126 [(0, .ref (G.1 0)), (1, .long ((((((x1 * 31) + ((M 24 x3.toNatClampNeg).toInt64)) * 31) + r1.toInt64) * 31) + ((1 : Int32).toInt64))), (3, .int (x3 + 1))] [] M2 0 0)))))))) :
    Ev (eZ G 0 68 0 0 (eFL F)) G 0 68 (6, 0, 0) kX10_digest 126 [(0, .ref (G.1 0)), (1, .long x1), (3, .int x3)] [] M 0 0 := by
  refine r_iload_n 2 dX10_digest_126 rfl rfl ?_
  refine r_aload_n 0 dX10_digest_127 rfl rfl ?_
  refine r_getR (c := 0) (k := 5) 23 dX10_digest_128 clX10 lFX10_51 (by decide) iF0 sC0 rfl ?_
  refine r_getI (c := 23) (k := 2) dX10_digest_131 clX1 lFX10_280 (by decide) iF23 sC23 rfl ?_
  refine r_icmp_ge (t := 200) dX10_digest_134 (by decide) (fun q => ?_) (fun q => ?_)
  · replace h := h.1 q
    refine r_iconst (v := 0) dX10_digest_200 rfl ?_
    refine r_istore_n (l' := [(3, .int 0), (0, .ref (G.1 0)), (1, .long x1)]) dX10_digest_201 rfl (by decide) rfl ?_
    exact Ev.sub (ks := [1, 2, 0]) rfl h
  · replace h := h.2 q
    refine r_lload_n 1 dX10_digest_137 rfl rfl ?_
    refine r_ldc2 dX10_digest_138 lCX10_250 ?_
    refine r_lmul dX10_digest_141 ?_
    refine r_aload_n 0 dX10_digest_142 rfl rfl ?_
    refine r_getR (c := 0) (k := 5) 23 dX10_digest_143 clX10 lFX10_51 (by decide) iF0 sC0 rfl ?_
    refine r_getR (c := 23) (k := 5) 24 dX10_digest_146 clX1 lFX10_149 (by decide) iF23 sC23 rfl ?_
    refine r_iload_n 2 dX10_digest_149 rfl rfl ?_
    have h1 := h.1
    replace h := h.2
    refine r_iald (c := 24) (N := 49) dX10_digest_150 iF24 sC24 h1 ?_
    refine r_i2l dX10_digest_151 ?_
    refine r_ladd dX10_digest_152 ?_
    refine r_lstore_n (l' := [(1, .long ((x1 * 31) + ((M 24 x3.toNatClampNeg).toInt64))), (0, .ref (G.1 0)), (3, .int x3)]) dX10_digest_153 rfl (by decide) rfl ?_
    refine r_lload_n 0 dX10_digest_154 rfl rfl ?_
    refine r_ldc2 dX10_digest_155 lCX10_250 ?_
    refine r_lmul dX10_digest_158 ?_
    refine r_aload_n 1 dX10_digest_159 rfl rfl ?_
    refine r_getR (c := 0) (k := 5) 23 dX10_digest_160 clX10 lFX10_51 (by decide) iF0 sC0 rfl ?_
    refine r_iload_n 2 dX10_digest_163 rfl rfl ?_
    refine r_callVI (b' := (1, 0, 0)) (c := 23) (S := [.long (((x1 * 31) + ((M 24 x3.toNatClampNeg).toInt64)) * 31)]) [.int x3] dX10_digest_164 mX1_matchesOn lMX10_166 clX1 rfl iF23 sC23 rfl (by decide) (Nat.le_of_ble_eq_true rfl) h (fun r1 M1 h => ?_) rfl
    refine r_i2l dX10_digest_167 ?_
    refine r_ladd dX10_digest_168 ?_
    refine r_lstore_n (l' := [(1, .long ((((x1 * 31) + ((M 24 x3.toNatClampNeg).toInt64)) * 31) + r1.toInt64)), (0, .ref (G.1 0)), (3, .int x3)]) dX10_digest_169 rfl (by decide) rfl ?_
    refine r_lload_n 0 dX10_digest_170 rfl rfl ?_
    refine r_ldc2 dX10_digest_171 lCX10_250 ?_
    refine r_lmul dX10_digest_174 ?_
    refine r_aload_n 1 dX10_digest_175 rfl rfl ?_
    refine r_getR (c := 0) (k := 5) 23 dX10_digest_176 clX10 lFX10_51 (by decide) iF0 sC0 rfl ?_
    refine r_iload_n 2 dX10_digest_179 rfl rfl ?_
    refine r_callVZ (b' := (1, 0, 0)) (c := 23) (S := [.long (((((x1 * 31) + ((M 24 x3.toNatClampNeg).toInt64)) * 31) + r1.toInt64) * 31)]) [.int x3] dX10_digest_180 mX1_isEncircled lMX10_169 clX1 rfl iF23 sC23 rfl (by decide) (Nat.le_of_ble_eq_true rfl) h (fun r2 M2 h => ?_) rfl
    refine r_zif_eq (t := 190) dX10_digest_183 (by decide) (fun q => ?_) (fun q => ?_)
    · replace h := h.1 q
      refine r_iconst (v := 0) dX10_digest_190 rfl ?_
      refine r_i2l dX10_digest_191 ?_
      refine r_ladd dX10_digest_192 ?_
      refine r_lstore_n (l' := [(1, .long ((((((x1 * 31) + ((M 24 x3.toNatClampNeg).toInt64)) * 31) + r1.toInt64) * 31) + ((0 : Int32).toInt64))), (0, .ref (G.1 0)), (3, .int x3)]) dX10_digest_193 rfl (by decide) rfl ?_
      refine r_iinc (v := x3 + 1) (l' := [(3, .int (x3 + 1)), (1, .long ((((((x1 * 31) + ((M 24 x3.toNatClampNeg).toInt64)) * 31) + r1.toInt64) * 31) + ((0 : Int32).toInt64))), (0, .ref (G.1 0))]) 2 dX10_digest_194 rfl rfl (by decide) rfl ?_
      refine r_goto (t := 126) dX10_digest_197 (by decide) ?_
      exact Ev.sub (ks := [2, 1, 0]) rfl h
    · replace h := h.2 q
      refine r_iconst (v := 1) dX10_digest_186 rfl ?_
      refine r_goto (t := 191) dX10_digest_187 (by decide) ?_
      refine r_i2l dX10_digest_191 ?_
      refine r_ladd dX10_digest_192 ?_
      refine r_lstore_n (l' := [(1, .long ((((((x1 * 31) + ((M 24 x3.toNatClampNeg).toInt64)) * 31) + r1.toInt64) * 31) + ((1 : Int32).toInt64))), (0, .ref (G.1 0)), (3, .int x3)]) dX10_digest_193 rfl (by decide) rfl ?_
      refine r_iinc (v := x3 + 1) (l' := [(3, .int (x3 + 1)), (1, .long ((((((x1 * 31) + ((M 24 x3.toNatClampNeg).toInt64)) * 31) + r1.toInt64) * 31) + ((1 : Int32).toInt64))), (0, .ref (G.1 0))]) 2 dX10_digest_194 rfl rfl (by decide) rfl ?_
      refine r_goto (t := 126) dX10_digest_197 (by decide) ?_
      exact Ev.sub (ks := [2, 1, 0]) rfl h
set_option maxHeartbeats 4000000 in
set_option maxRecDepth 100000 in
theorem C_X10_digest (G : eG) (M : eM) (F : Int64 → eM → Prop) 
    (h : Cal G 0 68 (1, 0, 0) kX10_columns [.ref (G.1 0)] M (eFI (fun (r1 : Int32) (M1 : eM) => Cal G 0 68 (1, 0, 0) kX10_rows [.ref (G.1 0)] M1 (eFI (fun (r2 : Int32) (M2 : eM) => Cal G 0 68 (1, 0, 0) kX10_tiles [.ref (G.1 0)] M2 (eFI (fun (r3 : Int32) (M3 : eM) => Cal G 0 68 (1, 0, 0) kX10_rounds [.ref (G.1 0)] M3 (eFI (fun (r4 : Int32) (M4 : eM) => Cal G 0 68 (1, 0, 0) kX10_placedTiles [.ref (G.1 0)] M4 (eFI (fun (r5 : Int32) (M5 : eM) => Cal G 0 68 (3, 0, 0) kX10_matches [.ref (G.1 0)] M5 (eFI (fun (r6 : Int32) (M6 : eM) => Cal G 0 68 (4, 0, 0) kX10_points [.ref (G.1 0)] M6 (eFI (fun (r7 : Int32) (M7 : eM) => Cal G 0 68 (3, 0, 0) kX10_rings [.ref (G.1 0)] M7 (eFI (fun (r8 : Int32) (M8 : eM) => Cal G 0 68 (3, 0, 0) kX10_groups [.ref (G.1 0)] M8 (eFI (fun (r9 : Int32) (M9 : eM) => Cal G 0 68 (5, 0, 0) kX10_bestTile [.ref (G.1 0)] M9 (eFI (fun (r10 : Int32) (M10 : eM) => Ev (eZ G 0 68 0 0 (eFL F)) G 0 68 (6, 0, 0) kX10_digest 126 [(0, .ref (G.1 0)), (1, .long ((((((((((((((((((((1009 * 31) + r1.toInt64) * 31) + r2.toInt64) * 31) + r3.toInt64) * 31) + r4.toInt64) * 31) + r5.toInt64) * 31) + r6.toInt64) * 31) + r7.toInt64) * 31) + r8.toInt64) * 31) + r9.toInt64) * 31) + r10.toInt64)), (3, .int 0)] [] M10 0 0))))))))))))))))))))) :
    Cal G 0 68 (6, 0, 0) kX10_digest [.ref (G.1 0)] M (eFL F) := by
  refine Cal.of (by decide +kernel) rfl (Nat.le_of_ble_eq_true rfl) ?_
  show Ev (eZ G 0 68 0 0 (eFL F)) G 0 68 (6, 0, 0) kX10_digest 0 [(0, .ref (G.1 0))] [] M 0 0
  refine r_ldc2 dX10_digest_0 lCX10_248 ?_
  refine r_lstore_n (l' := [(1, .long 1009), (0, .ref (G.1 0))]) dX10_digest_3 rfl (by decide) rfl ?_
  refine r_lload_n 0 dX10_digest_4 rfl rfl ?_
  refine r_ldc2 dX10_digest_5 lCX10_250 ?_
  refine r_lmul dX10_digest_8 ?_
  refine r_aload_n 1 dX10_digest_9 rfl rfl ?_
  refine r_callVI (b' := (1, 0, 0)) (c := 0) (S := [.long (1009 * 31)]) [] dX10_digest_10 mX10_columns lMX10_252 clX10 rfl iF0 sC0 rfl (by decide) (Nat.le_of_ble_eq_true rfl) h (fun r1 M1 h => ?_) rfl
  refine r_i2l dX10_digest_13 ?_
  refine r_ladd dX10_digest_14 ?_
  refine r_lstore_n (l' := [(1, .long ((1009 * 31) + r1.toInt64)), (0, .ref (G.1 0))]) dX10_digest_15 rfl (by decide) rfl ?_
  refine r_lload_n 0 dX10_digest_16 rfl rfl ?_
  refine r_ldc2 dX10_digest_17 lCX10_250 ?_
  refine r_lmul dX10_digest_20 ?_
  refine r_aload_n 1 dX10_digest_21 rfl rfl ?_
  refine r_callVI (b' := (1, 0, 0)) (c := 0) (S := [.long (((1009 * 31) + r1.toInt64) * 31)]) [] dX10_digest_22 mX10_rows lMX10_254 clX10 rfl iF0 sC0 rfl (by decide) (Nat.le_of_ble_eq_true rfl) h (fun r2 M2 h => ?_) rfl
  refine r_i2l dX10_digest_25 ?_
  refine r_ladd dX10_digest_26 ?_
  refine r_lstore_n (l' := [(1, .long ((((1009 * 31) + r1.toInt64) * 31) + r2.toInt64)), (0, .ref (G.1 0))]) dX10_digest_27 rfl (by decide) rfl ?_
  refine r_lload_n 0 dX10_digest_28 rfl rfl ?_
  refine r_ldc2 dX10_digest_29 lCX10_250 ?_
  refine r_lmul dX10_digest_32 ?_
  refine r_aload_n 1 dX10_digest_33 rfl rfl ?_
  refine r_callVI (b' := (1, 0, 0)) (c := 0) (S := [.long (((((1009 * 31) + r1.toInt64) * 31) + r2.toInt64) * 31)]) [] dX10_digest_34 mX10_tiles lMX10_256 clX10 rfl iF0 sC0 rfl (by decide) (Nat.le_of_ble_eq_true rfl) h (fun r3 M3 h => ?_) rfl
  refine r_i2l dX10_digest_37 ?_
  refine r_ladd dX10_digest_38 ?_
  refine r_lstore_n (l' := [(1, .long ((((((1009 * 31) + r1.toInt64) * 31) + r2.toInt64) * 31) + r3.toInt64)), (0, .ref (G.1 0))]) dX10_digest_39 rfl (by decide) rfl ?_
  refine r_lload_n 0 dX10_digest_40 rfl rfl ?_
  refine r_ldc2 dX10_digest_41 lCX10_250 ?_
  refine r_lmul dX10_digest_44 ?_
  refine r_aload_n 1 dX10_digest_45 rfl rfl ?_
  refine r_callVI (b' := (1, 0, 0)) (c := 0) (S := [.long (((((((1009 * 31) + r1.toInt64) * 31) + r2.toInt64) * 31) + r3.toInt64) * 31)]) [] dX10_digest_46 mX10_rounds lMX10_259 clX10 rfl iF0 sC0 rfl (by decide) (Nat.le_of_ble_eq_true rfl) h (fun r4 M4 h => ?_) rfl
  refine r_i2l dX10_digest_49 ?_
  refine r_ladd dX10_digest_50 ?_
  refine r_lstore_n (l' := [(1, .long ((((((((1009 * 31) + r1.toInt64) * 31) + r2.toInt64) * 31) + r3.toInt64) * 31) + r4.toInt64)), (0, .ref (G.1 0))]) dX10_digest_51 rfl (by decide) rfl ?_
  refine r_lload_n 0 dX10_digest_52 rfl rfl ?_
  refine r_ldc2 dX10_digest_53 lCX10_250 ?_
  refine r_lmul dX10_digest_56 ?_
  refine r_aload_n 1 dX10_digest_57 rfl rfl ?_
  refine r_callVI (b' := (1, 0, 0)) (c := 0) (S := [.long (((((((((1009 * 31) + r1.toInt64) * 31) + r2.toInt64) * 31) + r3.toInt64) * 31) + r4.toInt64) * 31)]) [] dX10_digest_58 mX10_placedTiles lMX10_262 clX10 rfl iF0 sC0 rfl (by decide) (Nat.le_of_ble_eq_true rfl) h (fun r5 M5 h => ?_) rfl
  refine r_i2l dX10_digest_61 ?_
  refine r_ladd dX10_digest_62 ?_
  refine r_lstore_n (l' := [(1, .long ((((((((((1009 * 31) + r1.toInt64) * 31) + r2.toInt64) * 31) + r3.toInt64) * 31) + r4.toInt64) * 31) + r5.toInt64)), (0, .ref (G.1 0))]) dX10_digest_63 rfl (by decide) rfl ?_
  refine r_lload_n 0 dX10_digest_64 rfl rfl ?_
  refine r_ldc2 dX10_digest_65 lCX10_250 ?_
  refine r_lmul dX10_digest_68 ?_
  refine r_aload_n 1 dX10_digest_69 rfl rfl ?_
  refine r_callVI (b' := (3, 0, 0)) (c := 0) (S := [.long (((((((((((1009 * 31) + r1.toInt64) * 31) + r2.toInt64) * 31) + r3.toInt64) * 31) + r4.toInt64) * 31) + r5.toInt64) * 31)]) [] dX10_digest_70 mX10_matches lMX10_265 clX10 rfl iF0 sC0 rfl (by decide) (Nat.le_of_ble_eq_true rfl) h (fun r6 M6 h => ?_) rfl
  refine r_i2l dX10_digest_73 ?_
  refine r_ladd dX10_digest_74 ?_
  refine r_lstore_n (l' := [(1, .long ((((((((((((1009 * 31) + r1.toInt64) * 31) + r2.toInt64) * 31) + r3.toInt64) * 31) + r4.toInt64) * 31) + r5.toInt64) * 31) + r6.toInt64)), (0, .ref (G.1 0))]) dX10_digest_75 rfl (by decide) rfl ?_
  refine r_lload_n 0 dX10_digest_76 rfl rfl ?_
  refine r_ldc2 dX10_digest_77 lCX10_250 ?_
  refine r_lmul dX10_digest_80 ?_
  refine r_aload_n 1 dX10_digest_81 rfl rfl ?_
  refine r_callVI (b' := (4, 0, 0)) (c := 0) (S := [.long (((((((((((((1009 * 31) + r1.toInt64) * 31) + r2.toInt64) * 31) + r3.toInt64) * 31) + r4.toInt64) * 31) + r5.toInt64) * 31) + r6.toInt64) * 31)]) [] dX10_digest_82 mX10_points lMX10_268 clX10 rfl iF0 sC0 rfl (by decide) (Nat.le_of_ble_eq_true rfl) h (fun r7 M7 h => ?_) rfl
  refine r_i2l dX10_digest_85 ?_
  refine r_ladd dX10_digest_86 ?_
  refine r_lstore_n (l' := [(1, .long ((((((((((((((1009 * 31) + r1.toInt64) * 31) + r2.toInt64) * 31) + r3.toInt64) * 31) + r4.toInt64) * 31) + r5.toInt64) * 31) + r6.toInt64) * 31) + r7.toInt64)), (0, .ref (G.1 0))]) dX10_digest_87 rfl (by decide) rfl ?_
  refine r_lload_n 0 dX10_digest_88 rfl rfl ?_
  refine r_ldc2 dX10_digest_89 lCX10_250 ?_
  refine r_lmul dX10_digest_92 ?_
  refine r_aload_n 1 dX10_digest_93 rfl rfl ?_
  refine r_callVI (b' := (3, 0, 0)) (c := 0) (S := [.long (((((((((((((((1009 * 31) + r1.toInt64) * 31) + r2.toInt64) * 31) + r3.toInt64) * 31) + r4.toInt64) * 31) + r5.toInt64) * 31) + r6.toInt64) * 31) + r7.toInt64) * 31)]) [] dX10_digest_94 mX10_rings lMX10_271 clX10 rfl iF0 sC0 rfl (by decide) (Nat.le_of_ble_eq_true rfl) h (fun r8 M8 h => ?_) rfl
  refine r_i2l dX10_digest_97 ?_
  refine r_ladd dX10_digest_98 ?_
  refine r_lstore_n (l' := [(1, .long ((((((((((((((((1009 * 31) + r1.toInt64) * 31) + r2.toInt64) * 31) + r3.toInt64) * 31) + r4.toInt64) * 31) + r5.toInt64) * 31) + r6.toInt64) * 31) + r7.toInt64) * 31) + r8.toInt64)), (0, .ref (G.1 0))]) dX10_digest_99 rfl (by decide) rfl ?_
  refine r_lload_n 0 dX10_digest_100 rfl rfl ?_
  refine r_ldc2 dX10_digest_101 lCX10_250 ?_
  refine r_lmul dX10_digest_104 ?_
  refine r_aload_n 1 dX10_digest_105 rfl rfl ?_
  refine r_callVI (b' := (3, 0, 0)) (c := 0) (S := [.long (((((((((((((((((1009 * 31) + r1.toInt64) * 31) + r2.toInt64) * 31) + r3.toInt64) * 31) + r4.toInt64) * 31) + r5.toInt64) * 31) + r6.toInt64) * 31) + r7.toInt64) * 31) + r8.toInt64) * 31)]) [] dX10_digest_106 mX10_groups lMX10_274 clX10 rfl iF0 sC0 rfl (by decide) (Nat.le_of_ble_eq_true rfl) h (fun r9 M9 h => ?_) rfl
  refine r_i2l dX10_digest_109 ?_
  refine r_ladd dX10_digest_110 ?_
  refine r_lstore_n (l' := [(1, .long ((((((((((((((((((1009 * 31) + r1.toInt64) * 31) + r2.toInt64) * 31) + r3.toInt64) * 31) + r4.toInt64) * 31) + r5.toInt64) * 31) + r6.toInt64) * 31) + r7.toInt64) * 31) + r8.toInt64) * 31) + r9.toInt64)), (0, .ref (G.1 0))]) dX10_digest_111 rfl (by decide) rfl ?_
  refine r_lload_n 0 dX10_digest_112 rfl rfl ?_
  refine r_ldc2 dX10_digest_113 lCX10_250 ?_
  refine r_lmul dX10_digest_116 ?_
  refine r_aload_n 1 dX10_digest_117 rfl rfl ?_
  refine r_callVI (b' := (5, 0, 0)) (c := 0) (S := [.long (((((((((((((((((((1009 * 31) + r1.toInt64) * 31) + r2.toInt64) * 31) + r3.toInt64) * 31) + r4.toInt64) * 31) + r5.toInt64) * 31) + r6.toInt64) * 31) + r7.toInt64) * 31) + r8.toInt64) * 31) + r9.toInt64) * 31)]) [] dX10_digest_118 mX10_bestTile lMX10_277 clX10 rfl iF0 sC0 rfl (by decide) (Nat.le_of_ble_eq_true rfl) h (fun r10 M10 h => ?_) rfl
  refine r_i2l dX10_digest_121 ?_
  refine r_ladd dX10_digest_122 ?_
  refine r_lstore_n (l' := [(1, .long ((((((((((((((((((((1009 * 31) + r1.toInt64) * 31) + r2.toInt64) * 31) + r3.toInt64) * 31) + r4.toInt64) * 31) + r5.toInt64) * 31) + r6.toInt64) * 31) + r7.toInt64) * 31) + r8.toInt64) * 31) + r9.toInt64) * 31) + r10.toInt64)), (0, .ref (G.1 0))]) dX10_digest_123 rfl (by decide) rfl ?_
  refine r_iconst (v := 0) dX10_digest_124 rfl ?_
  refine r_istore_n (l' := [(3, .int 0), (1, .long ((((((((((((((((((((1009 * 31) + r1.toInt64) * 31) + r2.toInt64) * 31) + r3.toInt64) * 31) + r4.toInt64) * 31) + r5.toInt64) * 31) + r6.toInt64) * 31) + r7.toInt64) * 31) + r8.toInt64) * 31) + r9.toInt64) * 31) + r10.toInt64)), (0, .ref (G.1 0))]) dX10_digest_125 rfl (by decide) rfl ?_
  exact Ev.sub (ks := [2, 1, 0]) rfl h
set_option maxHeartbeats 4000000 in
set_option maxRecDepth 100000 in
theorem C_X10_requireCell (G : eG) (M : eM) (F : eM → Prop) (a1 : Int32)
    (h : ((a1 < 0) → False) ∧ ((¬ a1 < 0) → ((a1 < (M 23 2)) → F M) ∧ ((¬ a1 < (M 23 2)) → False))) :
    Cal G 0 68 (1, 0, 0) kX10_requireCell [.ref (G.1 0), .int a1] M (eFV F) := by
  refine Cal.of (by decide +kernel) rfl (Nat.le_of_ble_eq_true rfl) ?_
  show Ev (eZ G 0 68 0 0 (eFV F)) G 0 68 (1, 0, 0) kX10_requireCell 0 [(0, .ref (G.1 0)), (1, .int a1)] [] M 0 0
  refine r_iload_n 1 dX10_requireCell_0 rfl rfl ?_
  refine r_if_lt (t := 15) dX10_requireCell_1 (by decide) (fun q => ?_) (fun q => ?_)
  · replace h := h.1 q
    exact h.elim
  · replace h := h.2 q
    refine r_iload_n 1 dX10_requireCell_4 rfl rfl ?_
    refine r_aload_n 0 dX10_requireCell_5 rfl rfl ?_
    refine r_getR (c := 0) (k := 5) 23 dX10_requireCell_6 clX10 lFX10_51 (by decide) iF0 sC0 rfl ?_
    refine r_getI (c := 23) (k := 2) dX10_requireCell_9 clX1 lFX10_280 (by decide) iF23 sC23 rfl ?_
    refine r_icmp_lt (t := 26) dX10_requireCell_12 (by decide) (fun q => ?_) (fun q => ?_)
    · replace h := h.1 q
      refine r_vretV dX10_requireCell_26 rfl (by decide) (by decide) h
    · replace h := h.2 q
      exact h.elim
set_option maxHeartbeats 4000000 in
set_option maxRecDepth 100000 in
theorem C_X10_requireTile (G : eG) (M : eM) (F : eM → Prop) (a1 : Int32)
    (h : Cal G 0 68 (1, 0, 0) kX1_knows [.ref (G.1 23), .int a1] M (eFZ (fun (r1 : Bool) (M1 : eM) => ((r1 = true) → F M1) ∧ ((r1 = false) → False)))) :
    Cal G 0 68 (2, 0, 0) kX10_requireTile [.ref (G.1 0), .int a1] M (eFV F) := by
  refine Cal.of (by decide +kernel) rfl (Nat.le_of_ble_eq_true rfl) ?_
  show Ev (eZ G 0 68 0 0 (eFV F)) G 0 68 (2, 0, 0) kX10_requireTile 0 [(0, .ref (G.1 0)), (1, .int a1)] [] M 0 0
  refine r_aload_n 0 dX10_requireTile_0 rfl rfl ?_
  refine r_getR (c := 0) (k := 5) 23 dX10_requireTile_1 clX10 lFX10_51 (by decide) iF0 sC0 rfl ?_
  refine r_iload_n 1 dX10_requireTile_4 rfl rfl ?_
  refine r_callVZ (b' := (1, 0, 0)) (c := 23) (S := []) [.int a1] dX10_requireTile_5 mX1_knows lMX10_288 clX1 rfl iF23 sC23 rfl (by decide) (Nat.le_of_ble_eq_true rfl) h (fun r1 M1 h => ?_) rfl
  refine r_zif_ne (t := 22) dX10_requireTile_8 (by decide) (fun q => ?_) (fun q => ?_)
  · replace h := h.1 q
    refine r_vretV dX10_requireTile_22 rfl (by decide) (by decide) h
  · replace h := h.2 q
    exact h.elim
set_option maxHeartbeats 4000000 in
set_option maxRecDepth 100000 in
theorem C_X10_requireEdge (G : eG) (M : eM) (F : eM → Prop) (a1 : Int32)
    (h : ((a1 < 0) → False) ∧ ((¬ a1 < 0) → ((a1 < 6) → F M) ∧ ((¬ a1 < 6) → False))) :
    Cal G 0 68 (1, 0, 0) kX10_requireEdge [.ref (G.1 0), .int a1] M (eFV F) := by
  refine Cal.of (by decide +kernel) rfl (Nat.le_of_ble_eq_true rfl) ?_
  show Ev (eZ G 0 68 0 0 (eFV F)) G 0 68 (1, 0, 0) kX10_requireEdge 0 [(0, .ref (G.1 0)), (1, .int a1)] [] M 0 0
  refine r_iload_n 1 dX10_requireEdge_0 rfl rfl ?_
  refine r_if_lt (t := 10) dX10_requireEdge_1 (by decide) (fun q => ?_) (fun q => ?_)
  · replace h := h.1 q
    exact h.elim
  · replace h := h.2 q
    refine r_iload_n 1 dX10_requireEdge_4 rfl rfl ?_
    refine r_bipush (v := 6) dX10_requireEdge_5 rfl ?_
    refine r_icmp_lt (t := 21) dX10_requireEdge_7 (by decide) (fun q => ?_) (fun q => ?_)
    · replace h := h.1 q
      refine r_vretV dX10_requireEdge_21 rfl (by decide) (by decide) h
    · replace h := h.2 q
      exact h.elim
set_option maxHeartbeats 4000000 in
set_option maxRecDepth 100000 in
theorem C_X10_requireWay (G : eG) (M : eM) (F : eM → Prop) (a1 : Int32) (a2 : Int32) (a3 : Int32)
    (h : Cal G 0 68 (2, 0, 0) kX10_requireTile [.ref (G.1 0), .int a1] M (eFV (fun (M1 : eM) => Cal G 0 68 (1, 0, 0) kX10_requireCell [.ref (G.1 0), .int a2] M1 (eFV (fun (M2 : eM) => Cal G 0 68 (1, 0, 0) kX10_requireEdge [.ref (G.1 0), .int a3] M2 (eFV (fun (M3 : eM) => F M3))))))) :
    Cal G 0 68 (3, 0, 0) kX10_requireWay [.ref (G.1 0), .int a1, .int a2, .int a3] M (eFV F) := by
  refine Cal.of (by decide +kernel) rfl (Nat.le_of_ble_eq_true rfl) ?_
  show Ev (eZ G 0 68 0 0 (eFV F)) G 0 68 (3, 0, 0) kX10_requireWay 0 [(0, .ref (G.1 0)), (1, .int a1), (2, .int a2), (3, .int a3)] [] M 0 0
  refine r_aload_n 0 dX10_requireWay_0 rfl rfl ?_
  refine r_iload_n 1 dX10_requireWay_1 rfl rfl ?_
  refine r_callVV (b' := (2, 0, 0)) (c := 0) (S := []) [.int a1] dX10_requireWay_2 mX10_requireTile lMX10_172 clX10 rfl iF0 sC0 rfl (by decide) (Nat.le_of_ble_eq_true rfl) h (fun M1 h => ?_) rfl
  refine r_aload_n 0 dX10_requireWay_5 rfl rfl ?_
  refine r_iload_n 2 dX10_requireWay_6 rfl rfl ?_
  refine r_callVV (b' := (1, 0, 0)) (c := 0) (S := []) [.int a2] dX10_requireWay_7 mX10_requireCell lMX10_146 clX10 rfl iF0 sC0 rfl (by decide) (Nat.le_of_ble_eq_true rfl) h (fun M2 h => ?_) rfl
  refine r_aload_n 0 dX10_requireWay_10 rfl rfl ?_
  refine r_iload_n 3 dX10_requireWay_11 rfl rfl ?_
  refine r_callVV (b' := (1, 0, 0)) (c := 0) (S := []) [.int a3] dX10_requireWay_12 mX10_requireEdge lMX10_156 clX10 rfl iF0 sC0 rfl (by decide) (Nat.le_of_ble_eq_true rfl) h (fun M3 h => ?_) rfl
  refine r_vretV dX10_requireWay_15 rfl (by decide) (by decide) h
set_option maxHeartbeats 4000000 in
set_option maxRecDepth 100000 in
theorem C_X10_requireTileOn (G : eG) (M : eM) (F : eM → Prop) (a1 : Int32)
    (h : vp_in a1 49 ∧ (((0 ≤ (M 24 a1.toNatClampNeg)) → F M) ∧ ((¬ 0 ≤ (M 24 a1.toNatClampNeg)) → False))) :
    Cal G 0 68 (1, 0, 0) kX10_requireTileOn [.ref (G.1 0), .int a1] M (eFV F) := by
  refine Cal.of (by decide +kernel) rfl (Nat.le_of_ble_eq_true rfl) ?_
  show Ev (eZ G 0 68 0 0 (eFV F)) G 0 68 (1, 0, 0) kX10_requireTileOn 0 [(0, .ref (G.1 0)), (1, .int a1)] [] M 0 0
  refine r_aload_n 0 dX10_requireTileOn_0 rfl rfl ?_
  refine r_getR (c := 0) (k := 5) 23 dX10_requireTileOn_1 clX10 lFX10_51 (by decide) iF0 sC0 rfl ?_
  refine r_getR (c := 23) (k := 5) 24 dX10_requireTileOn_4 clX1 lFX10_149 (by decide) iF23 sC23 rfl ?_
  refine r_iload_n 1 dX10_requireTileOn_7 rfl rfl ?_
  have h1 := h.1
  replace h := h.2
  refine r_iald (c := 24) (N := 49) dX10_requireTileOn_8 iF24 sC24 h1 ?_
  refine r_if_ge (t := 23) dX10_requireTileOn_9 (by decide) (fun q => ?_) (fun q => ?_)
  · replace h := h.1 q
    refine r_vretV dX10_requireTileOn_23 rfl (by decide) (by decide) h
  · replace h := h.2 q
    exact h.elim
set_option maxHeartbeats 4000000 in
set_option maxRecDepth 100000 in
theorem C_X10_requireLying (G : eG) (M : eM) (F : eM → Prop) (a1 : Int32)
    (h : Cal G 0 68 (2, 0, 0) kX1_lies [.ref (G.1 23), .int a1] M (eFZ (fun (r1 : Bool) (M1 : eM) => ((r1 = true) → F M1) ∧ ((r1 = false) → False)))) :
    Cal G 0 68 (3, 0, 0) kX10_requireLying [.ref (G.1 0), .int a1] M (eFV F) := by
  refine Cal.of (by decide +kernel) rfl (Nat.le_of_ble_eq_true rfl) ?_
  show Ev (eZ G 0 68 0 0 (eFV F)) G 0 68 (3, 0, 0) kX10_requireLying 0 [(0, .ref (G.1 0)), (1, .int a1)] [] M 0 0
  refine r_aload_n 0 dX10_requireLying_0 rfl rfl ?_
  refine r_getR (c := 0) (k := 5) 23 dX10_requireLying_1 clX10 lFX10_51 (by decide) iF0 sC0 rfl ?_
  refine r_iload_n 1 dX10_requireLying_4 rfl rfl ?_
  refine r_callVZ (b' := (2, 0, 0)) (c := 23) (S := []) [.int a1] dX10_requireLying_5 mX1_lies lMX10_175 clX1 rfl iF23 sC23 rfl (by decide) (Nat.le_of_ble_eq_true rfl) h (fun r1 M1 h => ?_) rfl
  refine r_zif_ne (t := 22) dX10_requireLying_8 (by decide) (fun q => ?_) (fun q => ?_)
  · replace h := h.1 q
    refine r_vretV dX10_requireLying_22 rfl (by decide) (by decide) h
  · replace h := h.2 q
    exact h.elim
set_option maxHeartbeats 4000000 in
set_option maxRecDepth 100000 in
theorem C_X10_requireSome (G : eG) (M : eM) (F : eM → Prop) (a1 : Int32)
    (h : ((0 ≤ a1) → F M) ∧ ((¬ 0 ≤ a1) → False)) :
    Cal G 0 68 (1, 0, 0) kX10_requireSome [.ref (G.1 0), .int a1] M (eFV F) := by
  refine Cal.of (by decide +kernel) rfl (Nat.le_of_ble_eq_true rfl) ?_
  show Ev (eZ G 0 68 0 0 (eFV F)) G 0 68 (1, 0, 0) kX10_requireSome 0 [(0, .ref (G.1 0)), (1, .int a1)] [] M 0 0
  refine r_iload_n 1 dX10_requireSome_0 rfl rfl ?_
  refine r_if_ge (t := 15) dX10_requireSome_1 (by decide) (fun q => ?_) (fun q => ?_)
  · replace h := h.1 q
    refine r_vretV dX10_requireSome_15 rfl (by decide) (by decide) h
  · replace h := h.2 q
    exact h.elim
set_option maxHeartbeats 4000000 in
set_option maxRecDepth 100000 in
theorem C_X10_requireRounds (G : eG) (M : eM) (F : eM → Prop) (a1 : Int32)
    (h : ((a1 < 1) → False) ∧ ((¬ a1 < 1) → ((a1 ≤ 20) → F M) ∧ ((¬ a1 ≤ 20) → False))) :
    Cal G 0 68 (1, 0, 0) kX10_requireRounds [.ref (G.1 0), .int a1] M (eFV F) := by
  refine Cal.of (by decide +kernel) rfl (Nat.le_of_ble_eq_true rfl) ?_
  show Ev (eZ G 0 68 0 0 (eFV F)) G 0 68 (1, 0, 0) kX10_requireRounds 0 [(0, .ref (G.1 0)), (1, .int a1)] [] M 0 0
  refine r_iload_n 1 dX10_requireRounds_0 rfl rfl ?_
  refine r_iconst (v := 1) dX10_requireRounds_1 rfl ?_
  refine r_icmp_lt (t := 11) dX10_requireRounds_2 (by decide) (fun q => ?_) (fun q => ?_)
  · replace h := h.1 q
    exact h.elim
  · replace h := h.2 q
    refine r_iload_n 1 dX10_requireRounds_5 rfl rfl ?_
    refine r_bipush (v := 20) dX10_requireRounds_6 rfl ?_
    refine r_icmp_le (t := 22) dX10_requireRounds_8 (by decide) (fun q => ?_) (fun q => ?_)
    · replace h := h.1 q
      refine r_vretV dX10_requireRounds_22 rfl (by decide) (by decide) h
    · replace h := h.2 q
      exact h.elim
set_option maxHeartbeats 4000000 in
set_option maxRecDepth 100000 in
theorem CX_X10_feed (G : eG) (M : eM) (E : String) (a1 : Int32) (a2 : Int32) (a3 : Int32) (a4 : Int32) (a5 : Int32)
    (h : Cal G 0 68 (1, 0, 0) kX8_hasRoomFor [.ref (G.1 1), .int 20] M (eFZ (fun (r1 : Bool) (M1 : eM) => ((r1 = true) → Cal G 0 68 (1, 0, 0) kX8_append [.ref (G.1 1), .int a1] M1 (eFV (fun (M2 : eM) => Cal G 0 68 (1, 0, 0) kX8_append [.ref (G.1 1), .int a2] M2 (eFV (fun (M3 : eM) => Cal G 0 68 (1, 0, 0) kX8_append [.ref (G.1 1), .int a3] M3 (eFV (fun (M4 : eM) => Cal G 0 68 (1, 0, 0) kX8_append [.ref (G.1 1), .int a4] M4 (eFV (fun (M5 : eM) => Cal G 0 68 (1, 0, 0) kX8_append [.ref (G.1 1), .int a5] M5 (eFV (fun (M6 : eM) => False))))))))))) ∧ ((r1 = false) → (E = "java/lang/IllegalStateException") ∧ M = M1)))) :
    CalX G 0 68 (10, 1, 6) kX10_feed [.ref (G.1 0), .int a1, .int a2, .int a3, .int a4, .int a5] M E := by
  refine CalX.of (by decide +kernel) rfl (Nat.le_of_ble_eq_true rfl) ?_
  show Ev (eZX G 0 68 1 6 E M) G 0 68 (10, 1, 6) kX10_feed 0 [(0, .ref (G.1 0)), (1, .int a1), (2, .int a2), (3, .int a3), (4, .int a4), (5, .int a5)] [] M 0 0
  refine r_aload_n 0 dX10_feed_0 rfl rfl ?_
  refine r_getR (c := 0) (k := 0) 1 dX10_feed_1 clX10 lFX10_10 (by decide) iF0 sC0 rfl ?_
  refine r_bipush (v := 20) dX10_feed_4 rfl ?_
  refine r_callVZ (b' := (1, 0, 0)) (c := 1) (S := []) [.int 20] dX10_feed_6 mX8_hasRoomFor lMX10_68 clX8 rfl iF1 sC1 rfl (by decide) (Nat.le_of_ble_eq_true rfl) h (fun r1 M1 h => ?_) rfl
  refine r_zif_ne (t := 22) dX10_feed_9 (by decide) (fun q => ?_) (fun q => ?_)
  · replace h := h.1 q
    refine r_aload_n 0 dX10_feed_22 rfl rfl ?_
    refine r_getR (c := 0) (k := 0) 1 dX10_feed_23 clX10 lFX10_10 (by decide) iF0 sC0 rfl ?_
    refine r_iload_n 1 dX10_feed_26 rfl rfl ?_
    refine r_callVV (b' := (1, 0, 0)) (c := 1) (S := []) [.int a1] dX10_feed_27 mX8_append lMX10_79 clX8 rfl iF1 sC1 rfl (by decide) (Nat.le_of_ble_eq_true rfl) h (fun M2 h => ?_) rfl
    refine r_aload_n 0 dX10_feed_30 rfl rfl ?_
    refine r_getR (c := 0) (k := 0) 1 dX10_feed_31 clX10 lFX10_10 (by decide) iF0 sC0 rfl ?_
    refine r_iload_n 2 dX10_feed_34 rfl rfl ?_
    refine r_callVV (b' := (1, 0, 0)) (c := 1) (S := []) [.int a2] dX10_feed_35 mX8_append lMX10_79 clX8 rfl iF1 sC1 rfl (by decide) (Nat.le_of_ble_eq_true rfl) h (fun M3 h => ?_) rfl
    refine r_aload_n 0 dX10_feed_38 rfl rfl ?_
    refine r_getR (c := 0) (k := 0) 1 dX10_feed_39 clX10 lFX10_10 (by decide) iF0 sC0 rfl ?_
    refine r_iload_n 3 dX10_feed_42 rfl rfl ?_
    refine r_callVV (b' := (1, 0, 0)) (c := 1) (S := []) [.int a3] dX10_feed_43 mX8_append lMX10_79 clX8 rfl iF1 sC1 rfl (by decide) (Nat.le_of_ble_eq_true rfl) h (fun M4 h => ?_) rfl
    refine r_aload_n 0 dX10_feed_46 rfl rfl ?_
    refine r_getR (c := 0) (k := 0) 1 dX10_feed_47 clX10 lFX10_10 (by decide) iF0 sC0 rfl ?_
    refine r_iload 4 dX10_feed_50 rfl ?_
    refine r_callVV (b' := (1, 0, 0)) (c := 1) (S := []) [.int a4] dX10_feed_52 mX8_append lMX10_79 clX8 rfl iF1 sC1 rfl (by decide) (Nat.le_of_ble_eq_true rfl) h (fun M5 h => ?_) rfl
    refine r_aload_n 0 dX10_feed_55 rfl rfl ?_
    refine r_getR (c := 0) (k := 0) 1 dX10_feed_56 clX10 lFX10_10 (by decide) iF0 sC0 rfl ?_
    refine r_iload 5 dX10_feed_59 rfl ?_
    refine r_callVV (b' := (1, 0, 0)) (c := 1) (S := []) [.int a5] dX10_feed_61 mX8_append lMX10_79 clX8 rfl iF1 sC1 rfl (by decide) (Nat.le_of_ble_eq_true rfl) h (fun M6 h => ?_) rfl
    refine r_aload_n 0 dX10_feed_64 rfl rfl ?_
    refine r_getR (c := 0) (k := 0) 1 dX10_feed_65 clX10 lFX10_10 (by decide) iF0 sC0 rfl ?_
    refine r_getI (c := 1) (k := 1) dX10_feed_68 clX8 lFX10_83 (by decide) iF1 sC1 rfl ?_
    exact h.elim
  · replace h := h.2 q
    obtain ⟨rfl, hM⟩ := h
    refine Ev.cast hM.symm ?_
    exact r_throwS (ik := 72) (ic := 76) (is := 74) (text := "the tape would be longer than 2000 bytes") (j := eMsgJ 74) eTh_ISE (by decide +kernel) dX10_feed_12 dX10_feed_15 dX10_feed_16 dX10_feed_18 dX10_feed_21 (by decide) (Nat.le_of_ble_eq_true rfl) (by decide) (by decide)
set_option maxHeartbeats 4000000 in
set_option maxRecDepth 100000 in
theorem CX_X10_trim (G : eG) (M : eM) (E : String) (a1 : Int32)
    (h : ((a1 < 0) → E = "java/lang/IllegalArgumentException") ∧ ((¬ a1 < 0) → ((a1 ≤ (M 1 1)) → False) ∧ ((¬ a1 ≤ (M 1 1)) → E = "java/lang/IllegalArgumentException"))) :
    CalX G 0 68 (10, 1, 6) kX10_trim [.ref (G.1 0), .int a1] M E := by
  refine CalX.of (by decide +kernel) rfl (Nat.le_of_ble_eq_true rfl) ?_
  show Ev (eZX G 0 68 1 6 E M) G 0 68 (10, 1, 6) kX10_trim 0 [(0, .ref (G.1 0)), (1, .int a1)] [] M 0 0
  refine r_iload_n 1 dX10_trim_0 rfl rfl ?_
  refine r_if_lt (t := 15) dX10_trim_1 (by decide) (fun q => ?_) (fun q => ?_)
  · replace h := h.1 q
    subst h
    exact r_throwS (ik := 86) (ic := 90) (is := 88) (text := "not a length up to that of the tape") (j := eMsgJ 88) eTh_IAE (by decide +kernel) dX10_trim_15 dX10_trim_18 dX10_trim_19 dX10_trim_21 dX10_trim_24 (by decide) (Nat.le_of_ble_eq_true rfl) (by decide) (by decide)
  · replace h := h.2 q
    refine r_iload_n 1 dX10_trim_4 rfl rfl ?_
    refine r_aload_n 0 dX10_trim_5 rfl rfl ?_
    refine r_getR (c := 0) (k := 0) 1 dX10_trim_6 clX10 lFX10_10 (by decide) iF0 sC0 rfl ?_
    refine r_getI (c := 1) (k := 1) dX10_trim_9 clX8 lFX10_83 (by decide) iF1 sC1 rfl ?_
    refine r_icmp_le (t := 25) dX10_trim_12 (by decide) (fun q => ?_) (fun q => ?_)
    · replace h := h.1 q
      refine r_aload_n 0 dX10_trim_25 rfl rfl ?_
      refine r_getR (c := 0) (k := 0) 1 dX10_trim_26 clX10 lFX10_10 (by decide) iF0 sC0 rfl ?_
      refine r_iload_n 1 dX10_trim_29 rfl rfl ?_
      refine r_putI (c := 1) (k := 1) dX10_trim_30 clX8 lFX10_83 (by decide) iF1 sC1 rfl rfl rfl ?_
      refine r_iload_n 1 dX10_trim_33 rfl rfl ?_
      exact h.elim
    · replace h := h.2 q
      subst h
      exact r_throwS (ik := 86) (ic := 90) (is := 88) (text := "not a length up to that of the tape") (j := eMsgJ 88) eTh_IAE (by decide +kernel) dX10_trim_15 dX10_trim_18 dX10_trim_19 dX10_trim_21 dX10_trim_24 (by decide) (Nat.le_of_ble_eq_true rfl) (by decide) (by decide)
set_option maxHeartbeats 4000000 in
set_option maxRecDepth 100000 in
theorem CX_X10_hasTile (G : eG) (M : eM) (E : String) (a1 : Int32)
    (h : CalX G 0 68 (8, 1, 6) kX10_requireCell [.ref (G.1 0), .int a1] M E) :
    CalX G 0 68 (10, 1, 6) kX10_hasTile [.ref (G.1 0), .int a1] M E := by
  refine CalX.of (by decide +kernel) rfl (Nat.le_of_ble_eq_true rfl) ?_
  show Ev (eZX G 0 68 1 6 E M) G 0 68 (10, 1, 6) kX10_hasTile 0 [(0, .ref (G.1 0)), (1, .int a1)] [] M 0 0
  refine r_aload_n 0 dX10_hasTile_0 rfl rfl ?_
  refine r_iload_n 1 dX10_hasTile_1 rfl rfl ?_
  exact r_callXV (b' := (8, 1, 6)) (c := 0) (S := []) (As := [.int a1]) dX10_hasTile_2 mX10_requireCell lMX10_146 clX10 rfl iF0 sC0 rfl (by decide) (Nat.le_of_ble_eq_true rfl) (by decide) (by decide) h rfl
set_option maxHeartbeats 4000000 in
set_option maxRecDepth 100000 in
theorem CX_X10_tileAt (G : eG) (M : eM) (E : String) (a1 : Int32)
    (h : (CalX G 0 68 (8, 1, 6) kX10_requireCell [.ref (G.1 0), .int a1] M E) ∨ Cal G 0 68 (1, 0, 0) kX10_requireCell [.ref (G.1 0), .int a1] M (eFV (fun (M1 : eM) => (CalX G 0 68 (8, 1, 6) kX10_requireTileOn [.ref (G.1 0), .int a1] M1 E) ∧ M = M1))) :
    CalX G 0 68 (10, 1, 6) kX10_tileAt [.ref (G.1 0), .int a1] M E := by
  refine CalX.of (by decide +kernel) rfl (Nat.le_of_ble_eq_true rfl) ?_
  show Ev (eZX G 0 68 1 6 E M) G 0 68 (10, 1, 6) kX10_tileAt 0 [(0, .ref (G.1 0)), (1, .int a1)] [] M 0 0
  refine r_aload_n 0 dX10_tileAt_0 rfl rfl ?_
  refine r_iload_n 1 dX10_tileAt_1 rfl rfl ?_
  rcases h with h | h
  · exact r_callXV (b' := (8, 1, 6)) (c := 0) (S := []) (As := [.int a1]) dX10_tileAt_2 mX10_requireCell lMX10_146 clX10 rfl iF0 sC0 rfl (by decide) (Nat.le_of_ble_eq_true rfl) (by decide) (by decide) h rfl
  · refine r_callVV (b' := (1, 0, 0)) (c := 0) (S := []) [.int a1] dX10_tileAt_2 mX10_requireCell lMX10_146 clX10 rfl iF0 sC0 rfl (by decide) (Nat.le_of_ble_eq_true rfl) h (fun M1 h => ?_) rfl
    refine r_aload_n 0 dX10_tileAt_5 rfl rfl ?_
    refine r_iload_n 1 dX10_tileAt_6 rfl rfl ?_
    obtain ⟨h, hM⟩ := h
    subst hM
    exact r_callXV (b' := (8, 1, 6)) (c := 0) (S := []) (As := [.int a1]) dX10_tileAt_7 mX10_requireTileOn lMX10_153 clX10 rfl iF0 sC0 rfl (by decide) (Nat.le_of_ble_eq_true rfl) (by decide) (by decide) h rfl
set_option maxHeartbeats 4000000 in
set_option maxRecDepth 100000 in
theorem CX_X10_numberAt (G : eG) (M : eM) (E : String) (a1 : Int32) (a2 : Int32)
    (h : (CalX G 0 68 (8, 1, 6) kX10_requireCell [.ref (G.1 0), .int a1] M E) ∨ Cal G 0 68 (1, 0, 0) kX10_requireCell [.ref (G.1 0), .int a1] M (eFV (fun (M1 : eM) => ((CalX G 0 68 (8, 1, 6) kX10_requireEdge [.ref (G.1 0), .int a2] M1 E) ∧ M = M1) ∨ Cal G 0 68 (1, 0, 0) kX10_requireEdge [.ref (G.1 0), .int a2] M1 (eFV (fun (M2 : eM) => (CalX G 0 68 (8, 1, 6) kX10_requireTileOn [.ref (G.1 0), .int a1] M2 E) ∧ M = M2))))) :
    CalX G 0 68 (10, 1, 6) kX10_numberAt [.ref (G.1 0), .int a1, .int a2] M E := by
  refine CalX.of (by decide +kernel) rfl (Nat.le_of_ble_eq_true rfl) ?_
  show Ev (eZX G 0 68 1 6 E M) G 0 68 (10, 1, 6) kX10_numberAt 0 [(0, .ref (G.1 0)), (1, .int a1), (2, .int a2)] [] M 0 0
  refine r_aload_n 0 dX10_numberAt_0 rfl rfl ?_
  refine r_iload_n 1 dX10_numberAt_1 rfl rfl ?_
  rcases h with h | h
  · exact r_callXV (b' := (8, 1, 6)) (c := 0) (S := []) (As := [.int a1]) dX10_numberAt_2 mX10_requireCell lMX10_146 clX10 rfl iF0 sC0 rfl (by decide) (Nat.le_of_ble_eq_true rfl) (by decide) (by decide) h rfl
  · refine r_callVV (b' := (1, 0, 0)) (c := 0) (S := []) [.int a1] dX10_numberAt_2 mX10_requireCell lMX10_146 clX10 rfl iF0 sC0 rfl (by decide) (Nat.le_of_ble_eq_true rfl) h (fun M1 h => ?_) rfl
    refine r_aload_n 0 dX10_numberAt_5 rfl rfl ?_
    refine r_iload_n 2 dX10_numberAt_6 rfl rfl ?_
    rcases h with h | h
    · obtain ⟨h, hM⟩ := h
      subst hM
      exact r_callXV (b' := (8, 1, 6)) (c := 0) (S := []) (As := [.int a2]) dX10_numberAt_7 mX10_requireEdge lMX10_156 clX10 rfl iF0 sC0 rfl (by decide) (Nat.le_of_ble_eq_true rfl) (by decide) (by decide) h rfl
    · refine r_callVV (b' := (1, 0, 0)) (c := 0) (S := []) [.int a2] dX10_numberAt_7 mX10_requireEdge lMX10_156 clX10 rfl iF0 sC0 rfl (by decide) (Nat.le_of_ble_eq_true rfl) h (fun M2 h => ?_) rfl
      refine r_aload_n 0 dX10_numberAt_10 rfl rfl ?_
      refine r_iload_n 1 dX10_numberAt_11 rfl rfl ?_
      obtain ⟨h, hM⟩ := h
      subst hM
      exact r_callXV (b' := (8, 1, 6)) (c := 0) (S := []) (As := [.int a1]) dX10_numberAt_12 mX10_requireTileOn lMX10_153 clX10 rfl iF0 sC0 rfl (by decide) (Nat.le_of_ble_eq_true rfl) (by decide) (by decide) h rfl
set_option maxHeartbeats 4000000 in
set_option maxRecDepth 100000 in
theorem CX_X10_matchesOf (G : eG) (M : eM) (E : String) (a1 : Int32)
    (h : CalX G 0 68 (8, 1, 6) kX10_requireCell [.ref (G.1 0), .int a1] M E) :
    CalX G 0 68 (10, 1, 6) kX10_matchesOf [.ref (G.1 0), .int a1] M E := by
  refine CalX.of (by decide +kernel) rfl (Nat.le_of_ble_eq_true rfl) ?_
  show Ev (eZX G 0 68 1 6 E M) G 0 68 (10, 1, 6) kX10_matchesOf 0 [(0, .ref (G.1 0)), (1, .int a1)] [] M 0 0
  refine r_aload_n 0 dX10_matchesOf_0 rfl rfl ?_
  refine r_iload_n 1 dX10_matchesOf_1 rfl rfl ?_
  exact r_callXV (b' := (8, 1, 6)) (c := 0) (S := []) (As := [.int a1]) dX10_matchesOf_2 mX10_requireCell lMX10_146 clX10 rfl iF0 sC0 rfl (by decide) (Nat.le_of_ble_eq_true rfl) (by decide) (by decide) h rfl
set_option maxHeartbeats 4000000 in
set_option maxRecDepth 100000 in
theorem CX_X10_isRing (G : eG) (M : eM) (E : String) (a1 : Int32)
    (h : CalX G 0 68 (8, 1, 6) kX10_requireCell [.ref (G.1 0), .int a1] M E) :
    CalX G 0 68 (10, 1, 6) kX10_isRing [.ref (G.1 0), .int a1] M E := by
  refine CalX.of (by decide +kernel) rfl (Nat.le_of_ble_eq_true rfl) ?_
  show Ev (eZX G 0 68 1 6 E M) G 0 68 (10, 1, 6) kX10_isRing 0 [(0, .ref (G.1 0)), (1, .int a1)] [] M 0 0
  refine r_aload_n 0 dX10_isRing_0 rfl rfl ?_
  refine r_iload_n 1 dX10_isRing_1 rfl rfl ?_
  exact r_callXV (b' := (8, 1, 6)) (c := 0) (S := []) (As := [.int a1]) dX10_isRing_2 mX10_requireCell lMX10_146 clX10 rfl iF0 sC0 rfl (by decide) (Nat.le_of_ble_eq_true rfl) (by decide) (by decide) h rfl
set_option maxHeartbeats 4000000 in
set_option maxRecDepth 100000 in
theorem CX_X10_isPlaced (G : eG) (M : eM) (E : String) (a1 : Int32)
    (h : CalX G 0 68 (8, 1, 6) kX10_requireTile [.ref (G.1 0), .int a1] M E) :
    CalX G 0 68 (10, 1, 6) kX10_isPlaced [.ref (G.1 0), .int a1] M E := by
  refine CalX.of (by decide +kernel) rfl (Nat.le_of_ble_eq_true rfl) ?_
  show Ev (eZX G 0 68 1 6 E M) G 0 68 (10, 1, 6) kX10_isPlaced 0 [(0, .ref (G.1 0)), (1, .int a1)] [] M 0 0
  refine r_aload_n 0 dX10_isPlaced_0 rfl rfl ?_
  refine r_iload_n 1 dX10_isPlaced_1 rfl rfl ?_
  exact r_callXV (b' := (8, 1, 6)) (c := 0) (S := []) (As := [.int a1]) dX10_isPlaced_2 mX10_requireTile lMX10_172 clX10 rfl iF0 sC0 rfl (by decide) (Nat.le_of_ble_eq_true rfl) (by decide) (by decide) h rfl
set_option maxHeartbeats 4000000 in
set_option maxRecDepth 100000 in
theorem CX_X10_cellOf (G : eG) (M : eM) (E : String) (a1 : Int32)
    (h : (CalX G 0 68 (8, 1, 6) kX10_requireTile [.ref (G.1 0), .int a1] M E) ∨ Cal G 0 68 (2, 0, 0) kX10_requireTile [.ref (G.1 0), .int a1] M (eFV (fun (M1 : eM) => (CalX G 0 68 (8, 1, 6) kX10_requireLying [.ref (G.1 0), .int a1] M1 E) ∧ M = M1))) :
    CalX G 0 68 (10, 1, 6) kX10_cellOf [.ref (G.1 0), .int a1] M E := by
  refine CalX.of (by decide +kernel) rfl (Nat.le_of_ble_eq_true rfl) ?_
  show Ev (eZX G 0 68 1 6 E M) G 0 68 (10, 1, 6) kX10_cellOf 0 [(0, .ref (G.1 0)), (1, .int a1)] [] M 0 0
  refine r_aload_n 0 dX10_cellOf_0 rfl rfl ?_
  refine r_iload_n 1 dX10_cellOf_1 rfl rfl ?_
  rcases h with h | h
  · exact r_callXV (b' := (8, 1, 6)) (c := 0) (S := []) (As := [.int a1]) dX10_cellOf_2 mX10_requireTile lMX10_172 clX10 rfl iF0 sC0 rfl (by decide) (Nat.le_of_ble_eq_true rfl) (by decide) (by decide) h rfl
  · refine r_callVV (b' := (2, 0, 0)) (c := 0) (S := []) [.int a1] dX10_cellOf_2 mX10_requireTile lMX10_172 clX10 rfl iF0 sC0 rfl (by decide) (Nat.le_of_ble_eq_true rfl) h (fun M1 h => ?_) rfl
    refine r_aload_n 0 dX10_cellOf_5 rfl rfl ?_
    refine r_iload_n 1 dX10_cellOf_6 rfl rfl ?_
    obtain ⟨h, hM⟩ := h
    subst hM
    exact r_callXV (b' := (8, 1, 6)) (c := 0) (S := []) (As := [.int a1]) dX10_cellOf_7 mX10_requireLying lMX10_178 clX10 rfl iF0 sC0 rfl (by decide) (Nat.le_of_ble_eq_true rfl) (by decide) (by decide) h rfl
set_option maxHeartbeats 4000000 in
set_option maxRecDepth 100000 in
theorem CX_X10_turnOf (G : eG) (M : eM) (E : String) (a1 : Int32)
    (h : (CalX G 0 68 (8, 1, 6) kX10_requireTile [.ref (G.1 0), .int a1] M E) ∨ Cal G 0 68 (2, 0, 0) kX10_requireTile [.ref (G.1 0), .int a1] M (eFV (fun (M1 : eM) => (CalX G 0 68 (8, 1, 6) kX10_requireLying [.ref (G.1 0), .int a1] M1 E) ∧ M = M1))) :
    CalX G 0 68 (10, 1, 6) kX10_turnOf [.ref (G.1 0), .int a1] M E := by
  refine CalX.of (by decide +kernel) rfl (Nat.le_of_ble_eq_true rfl) ?_
  show Ev (eZX G 0 68 1 6 E M) G 0 68 (10, 1, 6) kX10_turnOf 0 [(0, .ref (G.1 0)), (1, .int a1)] [] M 0 0
  refine r_aload_n 0 dX10_turnOf_0 rfl rfl ?_
  refine r_iload_n 1 dX10_turnOf_1 rfl rfl ?_
  rcases h with h | h
  · exact r_callXV (b' := (8, 1, 6)) (c := 0) (S := []) (As := [.int a1]) dX10_turnOf_2 mX10_requireTile lMX10_172 clX10 rfl iF0 sC0 rfl (by decide) (Nat.le_of_ble_eq_true rfl) (by decide) (by decide) h rfl
  · refine r_callVV (b' := (2, 0, 0)) (c := 0) (S := []) [.int a1] dX10_turnOf_2 mX10_requireTile lMX10_172 clX10 rfl iF0 sC0 rfl (by decide) (Nat.le_of_ble_eq_true rfl) h (fun M1 h => ?_) rfl
    refine r_aload_n 0 dX10_turnOf_5 rfl rfl ?_
    refine r_iload_n 1 dX10_turnOf_6 rfl rfl ?_
    obtain ⟨h, hM⟩ := h
    subst hM
    exact r_callXV (b' := (8, 1, 6)) (c := 0) (S := []) (As := [.int a1]) dX10_turnOf_7 mX10_requireLying lMX10_178 clX10 rfl iF0 sC0 rfl (by decide) (Nat.le_of_ble_eq_true rfl) (by decide) (by decide) h rfl
set_option maxHeartbeats 4000000 in
set_option maxRecDepth 100000 in
theorem CX_X10_fits (G : eG) (M : eM) (E : String) (a1 : Int32) (a2 : Int32) (a3 : Int32)
    (h : CalX G 0 68 (9, 1, 6) kX10_requireWay [.ref (G.1 0), .int a1, .int a2, .int a3] M E) :
    CalX G 0 68 (10, 1, 6) kX10_fits [.ref (G.1 0), .int a1, .int a2, .int a3] M E := by
  refine CalX.of (by decide +kernel) rfl (Nat.le_of_ble_eq_true rfl) ?_
  show Ev (eZX G 0 68 1 6 E M) G 0 68 (10, 1, 6) kX10_fits 0 [(0, .ref (G.1 0)), (1, .int a1), (2, .int a2), (3, .int a3)] [] M 0 0
  refine r_aload_n 0 dX10_fits_0 rfl rfl ?_
  refine r_iload_n 1 dX10_fits_1 rfl rfl ?_
  refine r_iload_n 2 dX10_fits_2 rfl rfl ?_
  refine r_iload_n 3 dX10_fits_3 rfl rfl ?_
  exact r_callXV (b' := (9, 1, 6)) (c := 0) (S := []) (As := [.int a1, .int a2, .int a3]) dX10_fits_4 mX10_requireWay lMX10_184 clX10 rfl iF0 sC0 rfl (by decide) (Nat.le_of_ble_eq_true rfl) (by decide) (by decide) h rfl
set_option maxHeartbeats 4000000 in
set_option maxRecDepth 100000 in
theorem CX_X10_edgeAgainst (G : eG) (M : eM) (E : String) (a1 : Int32) (a2 : Int32) (a3 : Int32)
    (h : CalX G 0 68 (9, 1, 6) kX10_requireWay [.ref (G.1 0), .int a1, .int a2, .int a3] M E) :
    CalX G 0 68 (10, 1, 6) kX10_edgeAgainst [.ref (G.1 0), .int a1, .int a2, .int a3] M E := by
  refine CalX.of (by decide +kernel) rfl (Nat.le_of_ble_eq_true rfl) ?_
  show Ev (eZX G 0 68 1 6 E M) G 0 68 (10, 1, 6) kX10_edgeAgainst 0 [(0, .ref (G.1 0)), (1, .int a1), (2, .int a2), (3, .int a3)] [] M 0 0
  refine r_aload_n 0 dX10_edgeAgainst_0 rfl rfl ?_
  refine r_iload_n 1 dX10_edgeAgainst_1 rfl rfl ?_
  refine r_iload_n 2 dX10_edgeAgainst_2 rfl rfl ?_
  refine r_iload_n 3 dX10_edgeAgainst_3 rfl rfl ?_
  exact r_callXV (b' := (9, 1, 6)) (c := 0) (S := []) (As := [.int a1, .int a2, .int a3]) dX10_edgeAgainst_4 mX10_requireWay lMX10_184 clX10 rfl iF0 sC0 rfl (by decide) (Nat.le_of_ble_eq_true rfl) (by decide) (by decide) h rfl
set_option maxHeartbeats 4000000 in
set_option maxRecDepth 100000 in
theorem CX_X10_waysOf (G : eG) (M : eM) (E : String) (a1 : Int32)
    (h : CalX G 0 68 (8, 1, 6) kX10_requireTile [.ref (G.1 0), .int a1] M E) :
    CalX G 0 68 (10, 1, 6) kX10_waysOf [.ref (G.1 0), .int a1] M E := by
  refine CalX.of (by decide +kernel) rfl (Nat.le_of_ble_eq_true rfl) ?_
  show Ev (eZX G 0 68 1 6 E M) G 0 68 (10, 1, 6) kX10_waysOf 0 [(0, .ref (G.1 0)), (1, .int a1)] [] M 0 0
  refine r_aload_n 0 dX10_waysOf_0 rfl rfl ?_
  refine r_iload_n 1 dX10_waysOf_1 rfl rfl ?_
  exact r_callXV (b' := (8, 1, 6)) (c := 0) (S := []) (As := [.int a1]) dX10_waysOf_2 mX10_requireTile lMX10_172 clX10 rfl iF0 sC0 rfl (by decide) (Nat.le_of_ble_eq_true rfl) (by decide) (by decide) h rfl
set_option maxHeartbeats 4000000 in
set_option maxRecDepth 100000 in
theorem CX_X10_isLeftover (G : eG) (M : eM) (E : String) (a1 : Int32)
    (h : CalX G 0 68 (8, 1, 6) kX10_requireTile [.ref (G.1 0), .int a1] M E) :
    CalX G 0 68 (10, 1, 6) kX10_isLeftover [.ref (G.1 0), .int a1] M E := by
  refine CalX.of (by decide +kernel) rfl (Nat.le_of_ble_eq_true rfl) ?_
  show Ev (eZX G 0 68 1 6 E M) G 0 68 (10, 1, 6) kX10_isLeftover 0 [(0, .ref (G.1 0)), (1, .int a1)] [] M 0 0
  refine r_aload_n 0 dX10_isLeftover_0 rfl rfl ?_
  refine r_iload_n 1 dX10_isLeftover_1 rfl rfl ?_
  exact r_callXV (b' := (8, 1, 6)) (c := 0) (S := []) (As := [.int a1]) dX10_isLeftover_2 mX10_requireTile lMX10_172 clX10 rfl iF0 sC0 rfl (by decide) (Nat.le_of_ble_eq_true rfl) (by decide) (by decide) h rfl
set_option maxHeartbeats 4000000 in
set_option maxRecDepth 100000 in
theorem CX_X10_putTile (G : eG) (M : eM) (E : String) (a1 : Int32) (a2 : Int32) (a3 : Int32)
    (h : (CalX G 0 68 (9, 1, 6) kX10_requireWay [.ref (G.1 0), .int a1, .int a2, .int a3] M E) ∨ Cal G 0 68 (3, 0, 0) kX10_requireWay [.ref (G.1 0), .int a1, .int a2, .int a3] M (eFV (fun (M1 : eM) => Cal G 0 68 (2, 0, 0) kX1_fitsSo [.ref (G.1 23), .int a1, .int a2, .int a3] M1 (eFZ (fun (r2 : Bool) (M2 : eM) => ((r2 = true) → Cal G 0 68 (2, 0, 0) kX1_pointsFor [.ref (G.1 23), .int a2] M2 (eFI (fun (r3 : Int32) (M3 : eM) => Cal G 0 68 (2, 0, 0) kX1_put [.ref (G.1 23), .int a1, .int a2, .int a3] M3 (eFV (fun (M4 : eM) => False))))) ∧ ((r2 = false) → (E = "java/lang/IllegalStateException") ∧ M = M2)))))) :
    CalX G 0 68 (10, 1, 6) kX10_putTile [.ref (G.1 0), .int a1, .int a2, .int a3] M E := by
  refine CalX.of (by decide +kernel) rfl (Nat.le_of_ble_eq_true rfl) ?_
  show Ev (eZX G 0 68 1 6 E M) G 0 68 (10, 1, 6) kX10_putTile 0 [(0, .ref (G.1 0)), (1, .int a1), (2, .int a2), (3, .int a3)] [] M 0 0
  refine r_aload_n 0 dX10_putTile_0 rfl rfl ?_
  refine r_iload_n 1 dX10_putTile_1 rfl rfl ?_
  refine r_iload_n 2 dX10_putTile_2 rfl rfl ?_
  refine r_iload_n 3 dX10_putTile_3 rfl rfl ?_
  rcases h with h | h
  · exact r_callXV (b' := (9, 1, 6)) (c := 0) (S := []) (As := [.int a1, .int a2, .int a3]) dX10_putTile_4 mX10_requireWay lMX10_184 clX10 rfl iF0 sC0 rfl (by decide) (Nat.le_of_ble_eq_true rfl) (by decide) (by decide) h rfl
  · refine r_callVV (b' := (3, 0, 0)) (c := 0) (S := []) [.int a1, .int a2, .int a3] dX10_putTile_4 mX10_requireWay lMX10_184 clX10 rfl iF0 sC0 rfl (by decide) (Nat.le_of_ble_eq_true rfl) h (fun M1 h => ?_) rfl
    refine r_aload_n 0 dX10_putTile_7 rfl rfl ?_
    refine r_getR (c := 0) (k := 5) 23 dX10_putTile_8 clX10 lFX10_51 (by decide) iF0 sC0 rfl ?_
    refine r_iload_n 1 dX10_putTile_11 rfl rfl ?_
    refine r_iload_n 2 dX10_putTile_12 rfl rfl ?_
    refine r_iload_n 3 dX10_putTile_13 rfl rfl ?_
    refine r_callVZ (b' := (2, 0, 0)) (c := 23) (S := []) [.int a1, .int a2, .int a3] dX10_putTile_14 mX1_fitsSo lMX10_188 clX1 rfl iF23 sC23 rfl (by decide) (Nat.le_of_ble_eq_true rfl) h (fun r2 M2 h => ?_) rfl
    refine r_zif_ne (t := 30) dX10_putTile_17 (by decide) (fun q => ?_) (fun q => ?_)
    · replace h := h.1 q
      refine r_aload_n 0 dX10_putTile_30 rfl rfl ?_
      refine r_getR (c := 0) (k := 5) 23 dX10_putTile_31 clX10 lFX10_51 (by decide) iF0 sC0 rfl ?_
      refine r_iload_n 2 dX10_putTile_34 rfl rfl ?_
      refine r_callVI (b' := (2, 0, 0)) (c := 23) (S := []) [.int a2] dX10_putTile_35 mX1_pointsFor lMX10_211 clX1 rfl iF23 sC23 rfl (by decide) (Nat.le_of_ble_eq_true rfl) h (fun r3 M3 h => ?_) rfl
      refine r_istore (l' := [(4, .int r3), (0, .ref (G.1 0)), (1, .int a1), (2, .int a2), (3, .int a3)]) dX10_putTile_38 (by decide) rfl ?_
      refine r_aload_n 1 dX10_putTile_40 rfl rfl ?_
      refine r_getR (c := 0) (k := 5) 23 dX10_putTile_41 clX10 lFX10_51 (by decide) iF0 sC0 rfl ?_
      refine r_iload_n 2 dX10_putTile_44 rfl rfl ?_
      refine r_iload_n 3 dX10_putTile_45 rfl rfl ?_
      refine r_iload_n 4 dX10_putTile_46 rfl rfl ?_
      refine r_callVV (b' := (2, 0, 0)) (c := 23) (S := []) [.int a1, .int a2, .int a3] dX10_putTile_47 mX1_put lMX10_214 clX1 rfl iF23 sC23 rfl (by decide) (Nat.le_of_ble_eq_true rfl) h (fun M4 h => ?_) rfl
      refine r_iload 0 dX10_putTile_50 rfl ?_
      exact h.elim
    · replace h := h.2 q
      obtain ⟨rfl, hM⟩ := h
      refine Ev.cast hM.symm ?_
      exact r_throwS (ik := 72) (ic := 76) (is := 209) (text := "the tile lies somewhere, or does not fit there so") (j := eMsgJ 209) eTh_ISE (by decide +kernel) dX10_putTile_20 dX10_putTile_23 dX10_putTile_24 dX10_putTile_26 dX10_putTile_29 (by decide) (Nat.le_of_ble_eq_true rfl) (by decide) (by decide)
set_option maxHeartbeats 4000000 in
set_option maxRecDepth 100000 in
theorem CX_X10_takeTile (G : eG) (M : eM) (E : String) (a1 : Int32)
    (h : (CalX G 0 68 (8, 1, 6) kX10_requireTile [.ref (G.1 0), .int a1] M E) ∨ Cal G 0 68 (2, 0, 0) kX10_requireTile [.ref (G.1 0), .int a1] M (eFV (fun (M1 : eM) => (CalX G 0 68 (8, 1, 6) kX10_requireLying [.ref (G.1 0), .int a1] M1 E) ∧ M = M1))) :
    CalX G 0 68 (10, 1, 6) kX10_takeTile [.ref (G.1 0), .int a1] M E := by
  refine CalX.of (by decide +kernel) rfl (Nat.le_of_ble_eq_true rfl) ?_
  show Ev (eZX G 0 68 1 6 E M) G 0 68 (10, 1, 6) kX10_takeTile 0 [(0, .ref (G.1 0)), (1, .int a1)] [] M 0 0
  refine r_aload_n 0 dX10_takeTile_0 rfl rfl ?_
  refine r_iload_n 1 dX10_takeTile_1 rfl rfl ?_
  rcases h with h | h
  · exact r_callXV (b' := (8, 1, 6)) (c := 0) (S := []) (As := [.int a1]) dX10_takeTile_2 mX10_requireTile lMX10_172 clX10 rfl iF0 sC0 rfl (by decide) (Nat.le_of_ble_eq_true rfl) (by decide) (by decide) h rfl
  · refine r_callVV (b' := (2, 0, 0)) (c := 0) (S := []) [.int a1] dX10_takeTile_2 mX10_requireTile lMX10_172 clX10 rfl iF0 sC0 rfl (by decide) (Nat.le_of_ble_eq_true rfl) h (fun M1 h => ?_) rfl
    refine r_aload_n 0 dX10_takeTile_5 rfl rfl ?_
    refine r_iload_n 1 dX10_takeTile_6 rfl rfl ?_
    obtain ⟨h, hM⟩ := h
    subst hM
    exact r_callXV (b' := (8, 1, 6)) (c := 0) (S := []) (As := [.int a1]) dX10_takeTile_7 mX10_requireLying lMX10_178 clX10 rfl iF0 sC0 rfl (by decide) (Nat.le_of_ble_eq_true rfl) (by decide) (by decide) h rfl
set_option maxHeartbeats 4000000 in
set_option maxRecDepth 100000 in
theorem CX_X10_fitTile (G : eG) (M : eM) (E : String) (a1 : Int32)
    (h : (CalX G 0 68 (8, 1, 6) kX10_requireTile [.ref (G.1 0), .int a1] M E) ∨ Cal G 0 68 (2, 0, 0) kX10_requireTile [.ref (G.1 0), .int a1] M (eFV (fun (M1 : eM) => Cal G 0 68 (2, 0, 0) kX1_firstCell [.ref (G.1 23), .int a1] M1 (eFI (fun (r2 : Int32) (M2 : eM) => (CalX G 0 68 (8, 1, 6) kX10_requireSome [.ref (G.1 0), .int r2] M2 E) ∧ M = M2))))) :
    CalX G 0 68 (10, 1, 6) kX10_fitTile [.ref (G.1 0), .int a1] M E := by
  refine CalX.of (by decide +kernel) rfl (Nat.le_of_ble_eq_true rfl) ?_
  show Ev (eZX G 0 68 1 6 E M) G 0 68 (10, 1, 6) kX10_fitTile 0 [(0, .ref (G.1 0)), (1, .int a1)] [] M 0 0
  refine r_aload_n 0 dX10_fitTile_0 rfl rfl ?_
  refine r_iload_n 1 dX10_fitTile_1 rfl rfl ?_
  rcases h with h | h
  · exact r_callXV (b' := (8, 1, 6)) (c := 0) (S := []) (As := [.int a1]) dX10_fitTile_2 mX10_requireTile lMX10_172 clX10 rfl iF0 sC0 rfl (by decide) (Nat.le_of_ble_eq_true rfl) (by decide) (by decide) h rfl
  · refine r_callVV (b' := (2, 0, 0)) (c := 0) (S := []) [.int a1] dX10_fitTile_2 mX10_requireTile lMX10_172 clX10 rfl iF0 sC0 rfl (by decide) (Nat.le_of_ble_eq_true rfl) h (fun M1 h => ?_) rfl
    refine r_aload_n 0 dX10_fitTile_5 rfl rfl ?_
    refine r_getR (c := 0) (k := 5) 23 dX10_fitTile_6 clX10 lFX10_51 (by decide) iF0 sC0 rfl ?_
    refine r_iload_n 1 dX10_fitTile_9 rfl rfl ?_
    refine r_callVI (b' := (2, 0, 0)) (c := 23) (S := []) [.int a1] dX10_fitTile_10 mX1_firstCell lMX10_198 clX1 rfl iF23 sC23 rfl (by decide) (Nat.le_of_ble_eq_true rfl) h (fun r2 M2 h => ?_) rfl
    refine r_istore_n (l' := [(2, .int r2), (0, .ref (G.1 0)), (1, .int a1)]) dX10_fitTile_13 rfl (by decide) rfl ?_
    refine r_aload_n 1 dX10_fitTile_14 rfl rfl ?_
    refine r_iload_n 0 dX10_fitTile_15 rfl rfl ?_
    obtain ⟨h, hM⟩ := h
    subst hM
    exact r_callXV (b' := (8, 1, 6)) (c := 0) (S := []) (As := [.int r2]) dX10_fitTile_16 mX10_requireSome lMX10_220 clX10 rfl iF0 sC0 rfl (by decide) (Nat.le_of_ble_eq_true rfl) (by decide) (by decide) h rfl
set_option maxHeartbeats 4000000 in
set_option maxRecDepth 100000 in
theorem CX_X10_playRounds (G : eG) (M : eM) (E : String) (a1 : Int32)
    (h : CalX G 0 68 (8, 1, 6) kX10_requireRounds [.ref (G.1 0), .int a1] M E) :
    CalX G 0 68 (10, 1, 6) kX10_playRounds [.ref (G.1 0), .int a1] M E := by
  refine CalX.of (by decide +kernel) rfl (Nat.le_of_ble_eq_true rfl) ?_
  show Ev (eZX G 0 68 1 6 E M) G 0 68 (10, 1, 6) kX10_playRounds 0 [(0, .ref (G.1 0)), (1, .int a1)] [] M 0 0
  refine r_aload_n 0 dX10_playRounds_0 rfl rfl ?_
  refine r_iload_n 1 dX10_playRounds_1 rfl rfl ?_
  exact r_callXV (b' := (8, 1, 6)) (c := 0) (S := []) (As := [.int a1]) dX10_playRounds_2 mX10_requireRounds lMX10_227 clX10 rfl iF0 sC0 rfl (by decide) (Nat.le_of_ble_eq_true rfl) (by decide) (by decide) h rfl
set_option maxHeartbeats 4000000 in
set_option maxRecDepth 100000 in
theorem CX_X10_pointsAfter (G : eG) (M : eM) (E : String) (a1 : Int32)
    (h : CalX G 0 68 (8, 1, 6) kX10_requireRounds [.ref (G.1 0), .int a1] M E) :
    CalX G 0 68 (10, 1, 6) kX10_pointsAfter [.ref (G.1 0), .int a1] M E := by
  refine CalX.of (by decide +kernel) rfl (Nat.le_of_ble_eq_true rfl) ?_
  show Ev (eZX G 0 68 1 6 E M) G 0 68 (10, 1, 6) kX10_pointsAfter 0 [(0, .ref (G.1 0)), (1, .int a1)] [] M 0 0
  refine r_aload_n 0 dX10_pointsAfter_0 rfl rfl ?_
  refine r_iload_n 1 dX10_pointsAfter_1 rfl rfl ?_
  exact r_callXV (b' := (8, 1, 6)) (c := 0) (S := []) (As := [.int a1]) dX10_pointsAfter_2 mX10_requireRounds lMX10_227 clX10 rfl iF0 sC0 rfl (by decide) (Nat.le_of_ble_eq_true rfl) (by decide) (by decide) h rfl
set_option maxHeartbeats 4000000 in
set_option maxRecDepth 100000 in
theorem CX_X10_bestCell (G : eG) (M : eM) (E : String) (a1 : Int32)
    (h : (CalX G 0 68 (8, 1, 6) kX10_requireTile [.ref (G.1 0), .int a1] M E) ∨ Cal G 0 68 (2, 0, 0) kX10_requireTile [.ref (G.1 0), .int a1] M (eFV (fun (M1 : eM) => Cal G 0 68 (3, 0, 0) kX1_richestCell [.ref (G.1 23), .int a1] M1 (eFI (fun (r2 : Int32) (M2 : eM) => (CalX G 0 68 (8, 1, 6) kX10_requireSome [.ref (G.1 0), .int r2] M2 E) ∧ M = M2))))) :
    CalX G 0 68 (10, 1, 6) kX10_bestCell [.ref (G.1 0), .int a1] M E := by
  refine CalX.of (by decide +kernel) rfl (Nat.le_of_ble_eq_true rfl) ?_
  show Ev (eZX G 0 68 1 6 E M) G 0 68 (10, 1, 6) kX10_bestCell 0 [(0, .ref (G.1 0)), (1, .int a1)] [] M 0 0
  refine r_aload_n 0 dX10_bestCell_0 rfl rfl ?_
  refine r_iload_n 1 dX10_bestCell_1 rfl rfl ?_
  rcases h with h | h
  · exact r_callXV (b' := (8, 1, 6)) (c := 0) (S := []) (As := [.int a1]) dX10_bestCell_2 mX10_requireTile lMX10_172 clX10 rfl iF0 sC0 rfl (by decide) (Nat.le_of_ble_eq_true rfl) (by decide) (by decide) h rfl
  · refine r_callVV (b' := (2, 0, 0)) (c := 0) (S := []) [.int a1] dX10_bestCell_2 mX10_requireTile lMX10_172 clX10 rfl iF0 sC0 rfl (by decide) (Nat.le_of_ble_eq_true rfl) h (fun M1 h => ?_) rfl
    refine r_aload_n 0 dX10_bestCell_5 rfl rfl ?_
    refine r_getR (c := 0) (k := 5) 23 dX10_bestCell_6 clX10 lFX10_51 (by decide) iF0 sC0 rfl ?_
    refine r_iload_n 1 dX10_bestCell_9 rfl rfl ?_
    refine r_callVI (b' := (3, 0, 0)) (c := 23) (S := []) [.int a1] dX10_bestCell_10 mX1_richestCell lMX10_239 clX1 rfl iF23 sC23 rfl (by decide) (Nat.le_of_ble_eq_true rfl) h (fun r2 M2 h => ?_) rfl
    refine r_istore_n (l' := [(2, .int r2), (0, .ref (G.1 0)), (1, .int a1)]) dX10_bestCell_13 rfl (by decide) rfl ?_
    refine r_aload_n 1 dX10_bestCell_14 rfl rfl ?_
    refine r_iload_n 0 dX10_bestCell_15 rfl rfl ?_
    obtain ⟨h, hM⟩ := h
    subst hM
    exact r_callXV (b' := (8, 1, 6)) (c := 0) (S := []) (As := [.int r2]) dX10_bestCell_16 mX10_requireSome lMX10_220 clX10 rfl iF0 sC0 rfl (by decide) (Nat.le_of_ble_eq_true rfl) (by decide) (by decide) h rfl
set_option maxHeartbeats 4000000 in
set_option maxRecDepth 100000 in
theorem CX_X10_bestTurn (G : eG) (M : eM) (E : String) (a1 : Int32)
    (h : (CalX G 0 68 (8, 1, 6) kX10_requireTile [.ref (G.1 0), .int a1] M E) ∨ Cal G 0 68 (2, 0, 0) kX10_requireTile [.ref (G.1 0), .int a1] M (eFV (fun (M1 : eM) => Cal G 0 68 (3, 0, 0) kX1_richestCell [.ref (G.1 23), .int a1] M1 (eFI (fun (r2 : Int32) (M2 : eM) => (CalX G 0 68 (8, 1, 6) kX10_requireSome [.ref (G.1 0), .int r2] M2 E) ∧ M = M2))))) :
    CalX G 0 68 (10, 1, 6) kX10_bestTurn [.ref (G.1 0), .int a1] M E := by
  refine CalX.of (by decide +kernel) rfl (Nat.le_of_ble_eq_true rfl) ?_
  show Ev (eZX G 0 68 1 6 E M) G 0 68 (10, 1, 6) kX10_bestTurn 0 [(0, .ref (G.1 0)), (1, .int a1)] [] M 0 0
  refine r_aload_n 0 dX10_bestTurn_0 rfl rfl ?_
  refine r_iload_n 1 dX10_bestTurn_1 rfl rfl ?_
  rcases h with h | h
  · exact r_callXV (b' := (8, 1, 6)) (c := 0) (S := []) (As := [.int a1]) dX10_bestTurn_2 mX10_requireTile lMX10_172 clX10 rfl iF0 sC0 rfl (by decide) (Nat.le_of_ble_eq_true rfl) (by decide) (by decide) h rfl
  · refine r_callVV (b' := (2, 0, 0)) (c := 0) (S := []) [.int a1] dX10_bestTurn_2 mX10_requireTile lMX10_172 clX10 rfl iF0 sC0 rfl (by decide) (Nat.le_of_ble_eq_true rfl) h (fun M1 h => ?_) rfl
    refine r_aload_n 0 dX10_bestTurn_5 rfl rfl ?_
    refine r_getR (c := 0) (k := 5) 23 dX10_bestTurn_6 clX10 lFX10_51 (by decide) iF0 sC0 rfl ?_
    refine r_iload_n 1 dX10_bestTurn_9 rfl rfl ?_
    refine r_callVI (b' := (3, 0, 0)) (c := 23) (S := []) [.int a1] dX10_bestTurn_10 mX1_richestCell lMX10_239 clX1 rfl iF23 sC23 rfl (by decide) (Nat.le_of_ble_eq_true rfl) h (fun r2 M2 h => ?_) rfl
    refine r_istore_n (l' := [(2, .int r2), (0, .ref (G.1 0)), (1, .int a1)]) dX10_bestTurn_13 rfl (by decide) rfl ?_
    refine r_aload_n 1 dX10_bestTurn_14 rfl rfl ?_
    refine r_iload_n 0 dX10_bestTurn_15 rfl rfl ?_
    obtain ⟨h, hM⟩ := h
    subst hM
    exact r_callXV (b' := (8, 1, 6)) (c := 0) (S := []) (As := [.int r2]) dX10_bestTurn_16 mX10_requireSome lMX10_220 clX10 rfl iF0 sC0 rfl (by decide) (Nat.le_of_ble_eq_true rfl) (by decide) (by decide) h rfl
set_option maxHeartbeats 4000000 in
set_option maxRecDepth 100000 in
theorem CX_X10_requireCell (G : eG) (M : eM) (E : String) (a1 : Int32)
    (h : ((a1 < 0) → E = "java/lang/IndexOutOfBoundsException") ∧ ((¬ a1 < 0) → ((a1 < (M 23 2)) → False) ∧ ((¬ a1 < (M 23 2)) → E = "java/lang/IndexOutOfBoundsException"))) :
    CalX G 0 68 (8, 1, 6) kX10_requireCell [.ref (G.1 0), .int a1] M E := by
  refine CalX.of (by decide +kernel) rfl (Nat.le_of_ble_eq_true rfl) ?_
  show Ev (eZX G 0 68 1 6 E M) G 0 68 (8, 1, 6) kX10_requireCell 0 [(0, .ref (G.1 0)), (1, .int a1)] [] M 0 0
  refine r_iload_n 1 dX10_requireCell_0 rfl rfl ?_
  refine r_if_lt (t := 15) dX10_requireCell_1 (by decide) (fun q => ?_) (fun q => ?_)
  · replace h := h.1 q
    subst h
    exact r_throwSW (ik := 283) (ic := 287) (is := 285) (text := "no such cell") (j := eMsgJ 285) eTh_IOE (by decide +kernel) dX10_requireCell_15 dX10_requireCell_18 dX10_requireCell_19 dX10_requireCell_22 dX10_requireCell_25 (by decide) (Nat.le_of_ble_eq_true rfl) (by decide) (by decide)
  · replace h := h.2 q
    refine r_iload_n 1 dX10_requireCell_4 rfl rfl ?_
    refine r_aload_n 0 dX10_requireCell_5 rfl rfl ?_
    refine r_getR (c := 0) (k := 5) 23 dX10_requireCell_6 clX10 lFX10_51 (by decide) iF0 sC0 rfl ?_
    refine r_getI (c := 23) (k := 2) dX10_requireCell_9 clX1 lFX10_280 (by decide) iF23 sC23 rfl ?_
    refine r_icmp_lt (t := 26) dX10_requireCell_12 (by decide) (fun q => ?_) (fun q => ?_)
    · replace h := h.1 q
      exact h.elim
    · replace h := h.2 q
      subst h
      exact r_throwSW (ik := 283) (ic := 287) (is := 285) (text := "no such cell") (j := eMsgJ 285) eTh_IOE (by decide +kernel) dX10_requireCell_15 dX10_requireCell_18 dX10_requireCell_19 dX10_requireCell_22 dX10_requireCell_25 (by decide) (Nat.le_of_ble_eq_true rfl) (by decide) (by decide)
set_option maxHeartbeats 4000000 in
set_option maxRecDepth 100000 in
theorem CX_X10_requireTile (G : eG) (M : eM) (E : String) (a1 : Int32)
    (h : Cal G 0 68 (1, 0, 0) kX1_knows [.ref (G.1 23), .int a1] M (eFZ (fun (r1 : Bool) (M1 : eM) => ((r1 = true) → False) ∧ ((r1 = false) → (E = "java/lang/IndexOutOfBoundsException") ∧ M = M1)))) :
    CalX G 0 68 (8, 1, 6) kX10_requireTile [.ref (G.1 0), .int a1] M E := by
  refine CalX.of (by decide +kernel) rfl (Nat.le_of_ble_eq_true rfl) ?_
  show Ev (eZX G 0 68 1 6 E M) G 0 68 (8, 1, 6) kX10_requireTile 0 [(0, .ref (G.1 0)), (1, .int a1)] [] M 0 0
  refine r_aload_n 0 dX10_requireTile_0 rfl rfl ?_
  refine r_getR (c := 0) (k := 5) 23 dX10_requireTile_1 clX10 lFX10_51 (by decide) iF0 sC0 rfl ?_
  refine r_iload_n 1 dX10_requireTile_4 rfl rfl ?_
  refine r_callVZ (b' := (1, 0, 0)) (c := 23) (S := []) [.int a1] dX10_requireTile_5 mX1_knows lMX10_288 clX1 rfl iF23 sC23 rfl (by decide) (Nat.le_of_ble_eq_true rfl) h (fun r1 M1 h => ?_) rfl
  refine r_zif_ne (t := 22) dX10_requireTile_8 (by decide) (fun q => ?_) (fun q => ?_)
  · replace h := h.1 q
    exact h.elim
  · replace h := h.2 q
    obtain ⟨rfl, hM⟩ := h
    refine Ev.cast hM.symm ?_
    exact r_throwSW (ik := 283) (ic := 287) (is := 291) (text := "no such tile") (j := eMsgJ 291) eTh_IOE (by decide +kernel) dX10_requireTile_11 dX10_requireTile_14 dX10_requireTile_15 dX10_requireTile_18 dX10_requireTile_21 (by decide) (Nat.le_of_ble_eq_true rfl) (by decide) (by decide)
set_option maxHeartbeats 4000000 in
set_option maxRecDepth 100000 in
theorem CX_X10_requireEdge (G : eG) (M : eM) (E : String) (a1 : Int32)
    (h : ((a1 < 0) → E = "java/lang/IndexOutOfBoundsException") ∧ ((¬ a1 < 0) → ((a1 < 6) → False) ∧ ((¬ a1 < 6) → E = "java/lang/IndexOutOfBoundsException"))) :
    CalX G 0 68 (8, 1, 6) kX10_requireEdge [.ref (G.1 0), .int a1] M E := by
  refine CalX.of (by decide +kernel) rfl (Nat.le_of_ble_eq_true rfl) ?_
  show Ev (eZX G 0 68 1 6 E M) G 0 68 (8, 1, 6) kX10_requireEdge 0 [(0, .ref (G.1 0)), (1, .int a1)] [] M 0 0
  refine r_iload_n 1 dX10_requireEdge_0 rfl rfl ?_
  refine r_if_lt (t := 10) dX10_requireEdge_1 (by decide) (fun q => ?_) (fun q => ?_)
  · replace h := h.1 q
    subst h
    exact r_throwSW (ik := 283) (ic := 287) (is := 293) (text := "an edge or a turn is 0 to 5") (j := eMsgJ 293) eTh_IOE (by decide +kernel) dX10_requireEdge_10 dX10_requireEdge_13 dX10_requireEdge_14 dX10_requireEdge_17 dX10_requireEdge_20 (by decide) (Nat.le_of_ble_eq_true rfl) (by decide) (by decide)
  · replace h := h.2 q
    refine r_iload_n 1 dX10_requireEdge_4 rfl rfl ?_
    refine r_bipush (v := 6) dX10_requireEdge_5 rfl ?_
    refine r_icmp_lt (t := 21) dX10_requireEdge_7 (by decide) (fun q => ?_) (fun q => ?_)
    · replace h := h.1 q
      exact h.elim
    · replace h := h.2 q
      subst h
      exact r_throwSW (ik := 283) (ic := 287) (is := 293) (text := "an edge or a turn is 0 to 5") (j := eMsgJ 293) eTh_IOE (by decide +kernel) dX10_requireEdge_10 dX10_requireEdge_13 dX10_requireEdge_14 dX10_requireEdge_17 dX10_requireEdge_20 (by decide) (Nat.le_of_ble_eq_true rfl) (by decide) (by decide)
set_option maxHeartbeats 4000000 in
set_option maxRecDepth 100000 in
theorem CX_X10_requireWay (G : eG) (M : eM) (E : String) (a1 : Int32) (a2 : Int32) (a3 : Int32)
    (h : (CalX G 0 68 (8, 1, 6) kX10_requireTile [.ref (G.1 0), .int a1] M E) ∨ Cal G 0 68 (2, 0, 0) kX10_requireTile [.ref (G.1 0), .int a1] M (eFV (fun (M1 : eM) => ((CalX G 0 68 (8, 1, 6) kX10_requireCell [.ref (G.1 0), .int a2] M1 E) ∧ M = M1) ∨ Cal G 0 68 (1, 0, 0) kX10_requireCell [.ref (G.1 0), .int a2] M1 (eFV (fun (M2 : eM) => (CalX G 0 68 (8, 1, 6) kX10_requireEdge [.ref (G.1 0), .int a3] M2 E) ∧ M = M2))))) :
    CalX G 0 68 (9, 1, 6) kX10_requireWay [.ref (G.1 0), .int a1, .int a2, .int a3] M E := by
  refine CalX.of (by decide +kernel) rfl (Nat.le_of_ble_eq_true rfl) ?_
  show Ev (eZX G 0 68 1 6 E M) G 0 68 (9, 1, 6) kX10_requireWay 0 [(0, .ref (G.1 0)), (1, .int a1), (2, .int a2), (3, .int a3)] [] M 0 0
  refine r_aload_n 0 dX10_requireWay_0 rfl rfl ?_
  refine r_iload_n 1 dX10_requireWay_1 rfl rfl ?_
  rcases h with h | h
  · exact r_callXV (b' := (8, 1, 6)) (c := 0) (S := []) (As := [.int a1]) dX10_requireWay_2 mX10_requireTile lMX10_172 clX10 rfl iF0 sC0 rfl (by decide) (Nat.le_of_ble_eq_true rfl) (by decide) (by decide) h rfl
  · refine r_callVV (b' := (2, 0, 0)) (c := 0) (S := []) [.int a1] dX10_requireWay_2 mX10_requireTile lMX10_172 clX10 rfl iF0 sC0 rfl (by decide) (Nat.le_of_ble_eq_true rfl) h (fun M1 h => ?_) rfl
    refine r_aload_n 0 dX10_requireWay_5 rfl rfl ?_
    refine r_iload_n 2 dX10_requireWay_6 rfl rfl ?_
    rcases h with h | h
    · obtain ⟨h, hM⟩ := h
      subst hM
      exact r_callXV (b' := (8, 1, 6)) (c := 0) (S := []) (As := [.int a2]) dX10_requireWay_7 mX10_requireCell lMX10_146 clX10 rfl iF0 sC0 rfl (by decide) (Nat.le_of_ble_eq_true rfl) (by decide) (by decide) h rfl
    · refine r_callVV (b' := (1, 0, 0)) (c := 0) (S := []) [.int a2] dX10_requireWay_7 mX10_requireCell lMX10_146 clX10 rfl iF0 sC0 rfl (by decide) (Nat.le_of_ble_eq_true rfl) h (fun M2 h => ?_) rfl
      refine r_aload_n 0 dX10_requireWay_10 rfl rfl ?_
      refine r_iload_n 3 dX10_requireWay_11 rfl rfl ?_
      obtain ⟨h, hM⟩ := h
      subst hM
      exact r_callXV (b' := (8, 1, 6)) (c := 0) (S := []) (As := [.int a3]) dX10_requireWay_12 mX10_requireEdge lMX10_156 clX10 rfl iF0 sC0 rfl (by decide) (Nat.le_of_ble_eq_true rfl) (by decide) (by decide) h rfl
set_option maxHeartbeats 4000000 in
set_option maxRecDepth 100000 in
theorem CX_X10_requireTileOn (G : eG) (M : eM) (E : String) (a1 : Int32)
    (h : vp_in a1 49 ∧ (((0 ≤ (M 24 a1.toNatClampNeg)) → False) ∧ ((¬ 0 ≤ (M 24 a1.toNatClampNeg)) → E = "java/lang/IllegalStateException"))) :
    CalX G 0 68 (8, 1, 6) kX10_requireTileOn [.ref (G.1 0), .int a1] M E := by
  refine CalX.of (by decide +kernel) rfl (Nat.le_of_ble_eq_true rfl) ?_
  show Ev (eZX G 0 68 1 6 E M) G 0 68 (8, 1, 6) kX10_requireTileOn 0 [(0, .ref (G.1 0)), (1, .int a1)] [] M 0 0
  refine r_aload_n 0 dX10_requireTileOn_0 rfl rfl ?_
  refine r_getR (c := 0) (k := 5) 23 dX10_requireTileOn_1 clX10 lFX10_51 (by decide) iF0 sC0 rfl ?_
  refine r_getR (c := 23) (k := 5) 24 dX10_requireTileOn_4 clX1 lFX10_149 (by decide) iF23 sC23 rfl ?_
  refine r_iload_n 1 dX10_requireTileOn_7 rfl rfl ?_
  have h1 := h.1
  replace h := h.2
  refine r_iald (c := 24) (N := 49) dX10_requireTileOn_8 iF24 sC24 h1 ?_
  refine r_if_ge (t := 23) dX10_requireTileOn_9 (by decide) (fun q => ?_) (fun q => ?_)
  · replace h := h.1 q
    exact h.elim
  · replace h := h.2 q
    subst h
    exact r_throwSW (ik := 72) (ic := 76) (is := 295) (text := "no tile lies there") (j := eMsgJ 295) eTh_ISE (by decide +kernel) dX10_requireTileOn_12 dX10_requireTileOn_15 dX10_requireTileOn_16 dX10_requireTileOn_19 dX10_requireTileOn_22 (by decide) (Nat.le_of_ble_eq_true rfl) (by decide) (by decide)
set_option maxHeartbeats 4000000 in
set_option maxRecDepth 100000 in
theorem CX_X10_requireLying (G : eG) (M : eM) (E : String) (a1 : Int32)
    (h : Cal G 0 68 (2, 0, 0) kX1_lies [.ref (G.1 23), .int a1] M (eFZ (fun (r1 : Bool) (M1 : eM) => ((r1 = true) → False) ∧ ((r1 = false) → (E = "java/lang/IllegalStateException") ∧ M = M1)))) :
    CalX G 0 68 (8, 1, 6) kX10_requireLying [.ref (G.1 0), .int a1] M E := by
  refine CalX.of (by decide +kernel) rfl (Nat.le_of_ble_eq_true rfl) ?_
  show Ev (eZX G 0 68 1 6 E M) G 0 68 (8, 1, 6) kX10_requireLying 0 [(0, .ref (G.1 0)), (1, .int a1)] [] M 0 0
  refine r_aload_n 0 dX10_requireLying_0 rfl rfl ?_
  refine r_getR (c := 0) (k := 5) 23 dX10_requireLying_1 clX10 lFX10_51 (by decide) iF0 sC0 rfl ?_
  refine r_iload_n 1 dX10_requireLying_4 rfl rfl ?_
  refine r_callVZ (b' := (2, 0, 0)) (c := 23) (S := []) [.int a1] dX10_requireLying_5 mX1_lies lMX10_175 clX1 rfl iF23 sC23 rfl (by decide) (Nat.le_of_ble_eq_true rfl) h (fun r1 M1 h => ?_) rfl
  refine r_zif_ne (t := 22) dX10_requireLying_8 (by decide) (fun q => ?_) (fun q => ?_)
  · replace h := h.1 q
    exact h.elim
  · replace h := h.2 q
    obtain ⟨rfl, hM⟩ := h
    refine Ev.cast hM.symm ?_
    exact r_throwSW (ik := 72) (ic := 76) (is := 297) (text := "the tile lies nowhere") (j := eMsgJ 297) eTh_ISE (by decide +kernel) dX10_requireLying_11 dX10_requireLying_14 dX10_requireLying_15 dX10_requireLying_18 dX10_requireLying_21 (by decide) (Nat.le_of_ble_eq_true rfl) (by decide) (by decide)
set_option maxHeartbeats 4000000 in
set_option maxRecDepth 100000 in
theorem CX_X10_requireSome (G : eG) (M : eM) (E : String) (a1 : Int32)
    (h : ((0 ≤ a1) → False) ∧ ((¬ 0 ≤ a1) → E = "java/lang/IllegalStateException")) :
    CalX G 0 68 (8, 1, 6) kX10_requireSome [.ref (G.1 0), .int a1] M E := by
  refine CalX.of (by decide +kernel) rfl (Nat.le_of_ble_eq_true rfl) ?_
  show Ev (eZX G 0 68 1 6 E M) G 0 68 (8, 1, 6) kX10_requireSome 0 [(0, .ref (G.1 0)), (1, .int a1)] [] M 0 0
  refine r_iload_n 1 dX10_requireSome_0 rfl rfl ?_
  refine r_if_ge (t := 15) dX10_requireSome_1 (by decide) (fun q => ?_) (fun q => ?_)
  · replace h := h.1 q
    exact h.elim
  · replace h := h.2 q
    subst h
    exact r_throwSW (ik := 72) (ic := 76) (is := 299) (text := "the tile has no way") (j := eMsgJ 299) eTh_ISE (by decide +kernel) dX10_requireSome_4 dX10_requireSome_7 dX10_requireSome_8 dX10_requireSome_11 dX10_requireSome_14 (by decide) (Nat.le_of_ble_eq_true rfl) (by decide) (by decide)
set_option maxHeartbeats 4000000 in
set_option maxRecDepth 100000 in
theorem CX_X10_requireRounds (G : eG) (M : eM) (E : String) (a1 : Int32)
    (h : ((a1 < 1) → E = "java/lang/IllegalArgumentException") ∧ ((¬ a1 < 1) → ((a1 ≤ 20) → False) ∧ ((¬ a1 ≤ 20) → E = "java/lang/IllegalArgumentException"))) :
    CalX G 0 68 (8, 1, 6) kX10_requireRounds [.ref (G.1 0), .int a1] M E := by
  refine CalX.of (by decide +kernel) rfl (Nat.le_of_ble_eq_true rfl) ?_
  show Ev (eZX G 0 68 1 6 E M) G 0 68 (8, 1, 6) kX10_requireRounds 0 [(0, .ref (G.1 0)), (1, .int a1)] [] M 0 0
  refine r_iload_n 1 dX10_requireRounds_0 rfl rfl ?_
  refine r_iconst (v := 1) dX10_requireRounds_1 rfl ?_
  refine r_icmp_lt (t := 11) dX10_requireRounds_2 (by decide) (fun q => ?_) (fun q => ?_)
  · replace h := h.1 q
    subst h
    exact r_throwSW (ik := 86) (ic := 90) (is := 301) (text := "rounds are 1 to 20") (j := eMsgJ 301) eTh_IAE (by decide +kernel) dX10_requireRounds_11 dX10_requireRounds_14 dX10_requireRounds_15 dX10_requireRounds_18 dX10_requireRounds_21 (by decide) (Nat.le_of_ble_eq_true rfl) (by decide) (by decide)
  · replace h := h.2 q
    refine r_iload_n 1 dX10_requireRounds_5 rfl rfl ?_
    refine r_bipush (v := 20) dX10_requireRounds_6 rfl ?_
    refine r_icmp_le (t := 22) dX10_requireRounds_8 (by decide) (fun q => ?_) (fun q => ?_)
    · replace h := h.1 q
      exact h.elim
    · replace h := h.2 q
      subst h
      exact r_throwSW (ik := 86) (ic := 90) (is := 301) (text := "rounds are 1 to 20") (j := eMsgJ 301) eTh_IAE (by decide +kernel) dX10_requireRounds_11 dX10_requireRounds_14 dX10_requireRounds_15 dX10_requireRounds_18 dX10_requireRounds_21 (by decide) (Nat.le_of_ble_eq_true rfl) (by decide) (by decide)

