set_option maxHeartbeats 4000000 in
set_option maxRecDepth 100000 in
theorem C_X2_begin (G : eG) (M : eM) (F : eM → Prop) 
    (h : Cal G 0 68 (2, 0, 0) kX7_copy [.ref (G.1 21), .ref (G.1 8)] M (eFV (fun (M1 : eM) => Cal G 0 68 (3, 0, 0) kX1_begin [.ref (G.1 23), .ref (G.1 21)] M1 (eFV (fun (M2 : eM) => F (eU M2 16 5 0)))))) :
    Cal G 0 68 (4, 0, 0) kX2_begin [.ref (G.1 16), .ref (G.1 8)] M (eFV F) := by
  refine Cal.of (by decide +kernel) rfl (Nat.le_of_ble_eq_true rfl) ?_
  show Ev (eZ G 0 68 0 0 (eFV F)) G 0 68 (4, 0, 0) kX2_begin 0 [(0, .ref (G.1 16)), (1, .ref (G.1 8))] [] M 0 0
  refine r_aload_n 0 dX2_begin_0 rfl rfl ?_
  refine r_getR (c := 16) (k := 1) 21 dX2_begin_1 clX2 lFX2_12 (by decide) iF16 sC16 rfl ?_
  refine r_aload_n 1 dX2_begin_4 rfl rfl ?_
  refine r_callVV (b' := (2, 0, 0)) (c := 21) (S := []) [.ref (G.1 8)] dX2_begin_5 mX7_copy lMX2_32 clX7 rfl iF21 sC21 rfl (by decide) (Nat.le_of_ble_eq_true rfl) h (fun M1 h => ?_) rfl
  refine r_aload_n 0 dX2_begin_8 rfl rfl ?_
  refine r_getR (c := 16) (k := 0) 23 dX2_begin_9 clX2 lFX2_22 (by decide) iF16 sC16 rfl ?_
  refine r_aload_n 0 dX2_begin_12 rfl rfl ?_
  refine r_getR (c := 16) (k := 1) 21 dX2_begin_13 clX2 lFX2_12 (by decide) iF16 sC16 rfl ?_
  refine r_callVV (b' := (3, 0, 0)) (c := 23) (S := []) [.ref (G.1 21)] dX2_begin_16 mX1_begin lMX2_26 clX1 rfl iF23 sC23 rfl (by decide) (Nat.le_of_ble_eq_true rfl) h (fun M2 h => ?_) rfl
  refine r_aload_n 0 dX2_begin_19 rfl rfl ?_
  refine r_iconst (v := 0) dX2_begin_20 rfl ?_
  refine r_putI (c := 16) (k := 5) dX2_begin_21 clX2 lFX2_35 (by decide) iF16 sC16 rfl rfl rfl ?_
  refine r_vretV dX2_begin_24 rfl (by decide) (by decide) h
set_option maxHeartbeats 4000000 in
set_option maxRecDepth 100000 in
theorem B_X2_playRound_34 (G : eG) (M : eM) (F : Int32 → eM → Prop) (x1 : Int32) (x2 : Int32)
    (h : Ev (eZ G 0 68 0 0 (eFI F)) G 0 68 (7, 0, 0) kX2_playRound 4 [(0, .ref (G.1 16)), (1, .int x1), (2, .int (x2 + 1))] [] M 0 0) :
    Ev (eZ G 0 68 0 0 (eFI F)) G 0 68 (7, 0, 0) kX2_playRound 34 [(0, .ref (G.1 16)), (1, .int x1), (2, .int x2)] [] M 0 0 := by
  refine r_iinc (v := x2 + 1) (l' := [(2, .int (x2 + 1)), (0, .ref (G.1 16)), (1, .int x1)]) 2 dX2_playRound_34 rfl rfl (by decide) rfl ?_
  refine r_goto (t := 4) dX2_playRound_37 (by decide) ?_
  exact Ev.sub (ks := [1, 2, 0]) rfl h
set_option maxHeartbeats 4000000 in
set_option maxRecDepth 100000 in
theorem B_X2_playRound_4 (G : eG) (M : eM) (F : Int32 → eM → Prop) (x1 : Int32) (x2 : Int32)
    (h : (((M 21 6) ≤ x2) → F x1 (eU M 16 5 ((M 16 5) + 1))) ∧ ((¬ (M 21 6) ≤ x2) → vp_in x2 16 ∧ (Cal G 0 68 (6, 0, 0) kX2_carriesOut [.ref (G.1 16), .ref (G.1 (52 + x2.toNatClampNeg))] M (eFZ (fun (r1 : Bool) (M1 : eM) => ((r1 = false) → Ev (eZ G 0 68 0 0 (eFI F)) G 0 68 (7, 0, 0) kX2_playRound 34 [(0, .ref (G.1 16)), (1, .int x1), (2, .int x2)] [] M1 0 0) ∧ ((r1 = true) → Ev (eZ G 0 68 0 0 (eFI F)) G 0 68 (7, 0, 0) kX2_playRound 34 [(0, .ref (G.1 16)), (1, .int (x1 + 1)), (2, .int x2)] [] M1 0 0)))))) :
    Ev (eZ G 0 68 0 0 (eFI F)) G 0 68 (7, 0, 0) kX2_playRound 4 [(0, .ref (G.1 16)), (1, .int x1), (2, .int x2)] [] M 0 0 := by
  refine r_iload_n 2 dX2_playRound_4 rfl rfl ?_
  refine r_aload_n 0 dX2_playRound_5 rfl rfl ?_
  refine r_getR (c := 16) (k := 1) 21 dX2_playRound_6 clX2 lFX2_12 (by decide) iF16 sC16 rfl ?_
  refine r_getI (c := 21) (k := 6) dX2_playRound_9 clX7 lFX2_39 (by decide) iF21 sC21 rfl ?_
  refine r_icmp_ge (t := 40) dX2_playRound_12 (by decide) (fun q => ?_) (fun q => ?_)
  · replace h := h.1 q
    refine r_aload_n 0 dX2_playRound_40 rfl rfl ?_
    refine r_dup dX2_playRound_41 rfl ?_
    refine r_getI (c := 16) (k := 5) dX2_playRound_42 clX2 lFX2_35 (by decide) iF16 sC16 rfl ?_
    refine r_iconst (v := 1) dX2_playRound_45 rfl ?_
    refine r_iadd dX2_playRound_46 ?_
    refine r_putI (c := 16) (k := 5) dX2_playRound_47 clX2 lFX2_35 (by decide) iF16 sC16 rfl rfl rfl ?_
    refine r_iload_n 1 dX2_playRound_50 rfl rfl ?_
    refine r_iretI dX2_playRound_51 rfl (by decide) (by decide) h
  · replace h := h.2 q
    refine r_aload_n 0 dX2_playRound_15 rfl rfl ?_
    refine r_aload_n 0 dX2_playRound_16 rfl rfl ?_
    refine r_getR (c := 16) (k := 1) 21 dX2_playRound_17 clX2 lFX2_12 (by decide) iF16 sC16 rfl ?_
    refine r_getR (c := 21) (k := 5) 18 dX2_playRound_20 clX7 lFX2_42 (by decide) iF21 sC21 rfl ?_
    refine r_iload_n 2 dX2_playRound_23 rfl rfl ?_
    have ho := h.1
    replace h := h.2
    refine r_oald (c := 18) (N := 16) (t := 52) dX2_playRound_24 iF18 sC18 ho ?_
    refine r_callVZ (b' := (6, 0, 0)) (c := 16) (S := []) [.ref (G.1 (52 + x2.toNatClampNeg))] dX2_playRound_25 mX2_carriesOut lMX2_46 clX2 rfl iF16 sC16 rfl (by decide) (Nat.le_of_ble_eq_true rfl) h (fun r1 M1 h => ?_) rfl
    refine r_zif_eq (t := 34) dX2_playRound_28 (by decide) (fun q => ?_) (fun q => ?_)
    · replace h := h.1 q
      exact h
    · replace h := h.2 q
      refine r_iinc (v := x1 + 1) (l' := [(1, .int (x1 + 1)), (0, .ref (G.1 16)), (2, .int x2)]) 1 dX2_playRound_31 rfl rfl (by decide) rfl ?_
      exact Ev.sub (ks := [1, 0, 2]) rfl h
set_option maxHeartbeats 4000000 in
set_option maxRecDepth 100000 in
theorem C_X2_playRound (G : eG) (M : eM) (F : Int32 → eM → Prop) 
    (h : Ev (eZ G 0 68 0 0 (eFI F)) G 0 68 (7, 0, 0) kX2_playRound 4 [(0, .ref (G.1 16)), (1, .int 0), (2, .int 0)] [] M 0 0) :
    Cal G 0 68 (7, 0, 0) kX2_playRound [.ref (G.1 16)] M (eFI F) := by
  refine Cal.of (by decide +kernel) rfl (Nat.le_of_ble_eq_true rfl) ?_
  show Ev (eZ G 0 68 0 0 (eFI F)) G 0 68 (7, 0, 0) kX2_playRound 0 [(0, .ref (G.1 16))] [] M 0 0
  refine r_iconst (v := 0) dX2_playRound_0 rfl ?_
  refine r_istore_n (l' := [(1, .int 0), (0, .ref (G.1 16))]) dX2_playRound_1 rfl (by decide) rfl ?_
  refine r_iconst (v := 0) dX2_playRound_2 rfl ?_
  refine r_istore_n (l' := [(2, .int 0), (1, .int 0), (0, .ref (G.1 16))]) dX2_playRound_3 rfl (by decide) rfl ?_
  exact Ev.sub (ks := [2, 1, 0]) rfl h
set_option maxHeartbeats 4000000 in
set_option maxRecDepth 100000 in
theorem C_X2_keep (G : eG) (M : eM) (F : eM → Prop) 
    (h : Cal G 0 68 (1, 0, 0) kX1_keep [.ref (G.1 23)] (eU M 16 4 (M 16 5)) (eFV (fun (M1 : eM) => F M1))) :
    Cal G 0 68 (2, 0, 0) kX2_keep [.ref (G.1 16)] M (eFV F) := by
  refine Cal.of (by decide +kernel) rfl (Nat.le_of_ble_eq_true rfl) ?_
  show Ev (eZ G 0 68 0 0 (eFV F)) G 0 68 (2, 0, 0) kX2_keep 0 [(0, .ref (G.1 16))] [] M 0 0
  refine r_aload_n 0 dX2_keep_0 rfl rfl ?_
  refine r_aload_n 0 dX2_keep_1 rfl rfl ?_
  refine r_getI (c := 16) (k := 5) dX2_keep_2 clX2 lFX2_35 (by decide) iF16 sC16 rfl ?_
  refine r_putI (c := 16) (k := 4) dX2_keep_5 clX2 lFX2_50 (by decide) iF16 sC16 rfl rfl rfl ?_
  refine r_aload_n 0 dX2_keep_8 rfl rfl ?_
  refine r_getR (c := 16) (k := 0) 23 dX2_keep_9 clX2 lFX2_22 (by decide) iF16 sC16 rfl ?_
  refine r_callVV (b' := (1, 0, 0)) (c := 23) (S := []) [] dX2_keep_12 mX1_keep lMX2_53 clX1 rfl iF23 sC23 rfl (by decide) (Nat.le_of_ble_eq_true rfl) h (fun M1 h => ?_) rfl
  refine r_vretV dX2_keep_15 rfl (by decide) (by decide) h
set_option maxHeartbeats 4000000 in
set_option maxRecDepth 100000 in
theorem C_X2_bringBack (G : eG) (M : eM) (F : eM → Prop) 
    (h : Cal G 0 68 (3, 0, 0) kX1_bringBack [.ref (G.1 23)] (eU M 16 5 (M 16 4)) (eFV (fun (M1 : eM) => F M1))) :
    Cal G 0 68 (4, 0, 0) kX2_bringBack [.ref (G.1 16)] M (eFV F) := by
  refine Cal.of (by decide +kernel) rfl (Nat.le_of_ble_eq_true rfl) ?_
  show Ev (eZ G 0 68 0 0 (eFV F)) G 0 68 (4, 0, 0) kX2_bringBack 0 [(0, .ref (G.1 16))] [] M 0 0
  refine r_aload_n 0 dX2_bringBack_0 rfl rfl ?_
  refine r_aload_n 0 dX2_bringBack_1 rfl rfl ?_
  refine r_getI (c := 16) (k := 4) dX2_bringBack_2 clX2 lFX2_50 (by decide) iF16 sC16 rfl ?_
  refine r_putI (c := 16) (k := 5) dX2_bringBack_5 clX2 lFX2_35 (by decide) iF16 sC16 rfl rfl rfl ?_
  refine r_aload_n 0 dX2_bringBack_8 rfl rfl ?_
  refine r_getR (c := 16) (k := 0) 23 dX2_bringBack_9 clX2 lFX2_22 (by decide) iF16 sC16 rfl ?_
  refine r_callVV (b' := (3, 0, 0)) (c := 23) (S := []) [] dX2_bringBack_12 mX1_bringBack lMX2_56 clX1 rfl iF23 sC23 rfl (by decide) (Nat.le_of_ble_eq_true rfl) h (fun M1 h => ?_) rfl
  refine r_vretV dX2_bringBack_15 rfl (by decide) (by decide) h
set_option maxHeartbeats 4000000 in
set_option maxRecDepth 100000 in
theorem C_X2_carriesOut (G : eG) {i : Int32} (ho : vp_in i 16) (M : eM) (F : Bool → eM → Prop) 
    (h : Cal G 0 68 (1, 0, 0) kX1_knows [.ref (G.1 23), .int (M (52 + i.toNatClampNeg) 1)] M (eFZ (fun (r1 : Bool) (M1 : eM) => ((r1 = true) → (((M1 (52 + i.toNatClampNeg) 4) ≤ (M1 (52 + i.toNatClampNeg) 3)) → Ev (eZ G 0 68 0 0 (eFZ F)) G 0 68 (6, 0, 0) kX2_carriesOut 48 [(0, .ref (G.1 16)), (1, .ref (G.1 (52 + i.toNatClampNeg)))] [] M1 0 0) ∧ ((¬ (M1 (52 + i.toNatClampNeg) 4) ≤ (M1 (52 + i.toNatClampNeg) 3)) → Cal G 0 68 (4, 0, 0) kX2_reckon [.ref (G.1 16), .int (M1 (52 + i.toNatClampNeg) 3), .int (M1 (52 + i.toNatClampNeg) 4)] M1 (eFV (fun (M2 : eM) => Cal G 0 68 (1, 0, 0) kX2_pop [.ref (G.1 16)] M2 (eFI (fun (r3 : Int32) (M3 : eM) => ((¬ r3 = 0) → Ev (eZ G 0 68 0 0 (eFZ F)) G 0 68 (6, 0, 0) kX2_carriesOut 48 [(0, .ref (G.1 16)), (1, .ref (G.1 (52 + i.toNatClampNeg)))] [] M3 0 0) ∧ ((r3 = 0) → F false M3))))))) ∧ ((r1 = false) → F false M1)))) :
    Cal G 0 68 (6, 0, 0) kX2_carriesOut [.ref (G.1 16), .ref (G.1 (52 + i.toNatClampNeg))] M (eFZ F) := by
  refine Cal.of (by decide +kernel) rfl (Nat.le_of_ble_eq_true rfl) ?_
  show Ev (eZ G 0 68 0 0 (eFZ F)) G 0 68 (6, 0, 0) kX2_carriesOut 0 [(0, .ref (G.1 16)), (1, .ref (G.1 (52 + i.toNatClampNeg)))] [] M 0 0
  refine r_aload_n 0 dX2_carriesOut_0 rfl rfl ?_
  refine r_getR (c := 16) (k := 0) 23 dX2_carriesOut_1 clX2 lFX2_22 (by decide) iF16 sC16 rfl ?_
  refine r_aload_n 1 dX2_carriesOut_4 rfl rfl ?_
  refine r_getI (c := (52 + i.toNatClampNeg)) (k := 1) dX2_carriesOut_5 clX6 lFX2_59 (by decide) (eOrdIn_52 ho) (eOrdSh_52 ho) rfl ?_
  refine r_callVZ (b' := (1, 0, 0)) (c := 23) (S := []) [.int (M (52 + i.toNatClampNeg) 1)] dX2_carriesOut_8 mX1_knows lMX2_64 clX1 rfl iF23 sC23 rfl (by decide) (Nat.le_of_ble_eq_true rfl) h (fun r1 M1 h => ?_) rfl
  refine r_zif_ne (t := 16) dX2_carriesOut_11 (by decide) (fun q => ?_) (fun q => ?_)
  · replace h := h.1 q
    refine r_aload_n 1 dX2_carriesOut_16 rfl rfl ?_
    refine r_getI (c := (52 + i.toNatClampNeg)) (k := 3) dX2_carriesOut_17 clX6 lFX2_68 (by decide) (eOrdIn_52 ho) (eOrdSh_52 ho) rfl ?_
    refine r_aload_n 1 dX2_carriesOut_20 rfl rfl ?_
    refine r_getI (c := (52 + i.toNatClampNeg)) (k := 4) dX2_carriesOut_21 clX6 lFX2_71 (by decide) (eOrdIn_52 ho) (eOrdSh_52 ho) rfl ?_
    refine r_icmp_ge (t := 48) dX2_carriesOut_24 (by decide) (fun q => ?_) (fun q => ?_)
    · replace h := h.1 q
      exact h
    · replace h := h.2 q
      refine r_aload_n 0 dX2_carriesOut_27 rfl rfl ?_
      refine r_aload_n 1 dX2_carriesOut_28 rfl rfl ?_
      refine r_getI (c := (52 + i.toNatClampNeg)) (k := 3) dX2_carriesOut_29 clX6 lFX2_68 (by decide) (eOrdIn_52 ho) (eOrdSh_52 ho) rfl ?_
      refine r_aload_n 1 dX2_carriesOut_32 rfl rfl ?_
      refine r_getI (c := (52 + i.toNatClampNeg)) (k := 4) dX2_carriesOut_33 clX6 lFX2_71 (by decide) (eOrdIn_52 ho) (eOrdSh_52 ho) rfl ?_
      refine r_callVV (b' := (4, 0, 0)) (c := 16) (S := []) [.int (M1 (52 + i.toNatClampNeg) 3), .int (M1 (52 + i.toNatClampNeg) 4)] dX2_carriesOut_36 mX2_reckon lMX2_74 clX2 rfl iF16 sC16 rfl (by decide) (Nat.le_of_ble_eq_true rfl) h (fun M2 h => ?_) rfl
      refine r_aload_n 0 dX2_carriesOut_39 rfl rfl ?_
      refine r_callVI (b' := (1, 0, 0)) (c := 16) (S := []) [] dX2_carriesOut_40 mX2_pop lMX2_78 clX2 rfl iF16 sC16 rfl (by decide) (Nat.le_of_ble_eq_true rfl) h (fun r3 M3 h => ?_) rfl
      refine r_if_ne (t := 48) dX2_carriesOut_43 (by decide) (fun q => ?_) (fun q => ?_)
      · replace h := h.1 q
        exact h
      · replace h := h.2 q
        refine r_iconst (v := 0) dX2_carriesOut_46 rfl ?_
        refine r_iretZ0 dX2_carriesOut_47 rfl (by decide) (by decide) h
  · replace h := h.2 q
    refine r_iconst (v := 0) dX2_carriesOut_14 rfl ?_
    refine r_iretZ0 dX2_carriesOut_15 rfl (by decide) (by decide) h
set_option maxHeartbeats 4000000 in
set_option maxRecDepth 100000 in
theorem C_X2_puts (G : eG) {i : Int32} (ho : vp_in i 16) (M : eM) (F : Bool → eM → Prop) 
    (h : Cal G 0 68 (4, 0, 0) kX2_reckon [.ref (G.1 16), .int (M (52 + i.toNatClampNeg) 2), .int (M (52 + i.toNatClampNeg) 3)] M (eFV (fun (M1 : eM) => Cal G 0 68 (1, 0, 0) kX2_pop [.ref (G.1 16)] M1 (eFI (fun (r2 : Int32) (M2 : eM) => Cal G 0 68 (2, 0, 0) kX2_remainder [.int r2, .int 6] M2 (eFI (fun (r3 : Int32) (M3 : eM) => Cal G 0 68 (1, 0, 0) kX2_pop [.ref (G.1 16)] M3 (eFI (fun (r4 : Int32) (M4 : eM) => Cal G 0 68 (2, 0, 0) kX2_remainder [.int r4, .int (M4 23 1)] M4 (eFI (fun (r5 : Int32) (M5 : eM) => Cal G 0 68 (1, 0, 0) kX2_pop [.ref (G.1 16)] M5 (eFI (fun (r6 : Int32) (M6 : eM) => Cal G 0 68 (2, 0, 0) kX2_remainder [.int r6, .int (M6 23 0)] M6 (eFI (fun (r7 : Int32) (M7 : eM) => (((M7 23 2) ≤ ((r5 * (M7 23 0)) + r7)) → F false M7) ∧ ((¬ (M7 23 2) ≤ ((r5 * (M7 23 0)) + r7)) → Cal G 0 68 (2, 0, 0) kX1_fitsSo [.ref (G.1 23), .int (M7 (52 + i.toNatClampNeg) 1), .int ((r5 * (M7 23 0)) + r7), .int r3] M7 (eFZ (fun (r8 : Bool) (M8 : eM) => ((r8 = true) → Cal G 0 68 (2, 0, 0) kX1_put [.ref (G.1 23), .int (M8 (52 + i.toNatClampNeg) 1), .int ((r5 * (M7 23 0)) + r7), .int r3] M8 (eFV (fun (M9 : eM) => F true M9))) ∧ ((r8 = false) → F false M8))))))))))))))))))) :
    Cal G 0 68 (5, 0, 0) kX2_puts [.ref (G.1 16), .ref (G.1 (52 + i.toNatClampNeg))] M (eFZ F) := by
  refine Cal.of (by decide +kernel) rfl (Nat.le_of_ble_eq_true rfl) ?_
  show Ev (eZ G 0 68 0 0 (eFZ F)) G 0 68 (5, 0, 0) kX2_puts 0 [(0, .ref (G.1 16)), (1, .ref (G.1 (52 + i.toNatClampNeg)))] [] M 0 0
  refine r_aload_n 0 dX2_puts_0 rfl rfl ?_
  refine r_aload_n 1 dX2_puts_1 rfl rfl ?_
  refine r_getI (c := (52 + i.toNatClampNeg)) (k := 2) dX2_puts_2 clX6 lFX2_105 (by decide) (eOrdIn_52 ho) (eOrdSh_52 ho) rfl ?_
  refine r_aload_n 1 dX2_puts_5 rfl rfl ?_
  refine r_getI (c := (52 + i.toNatClampNeg)) (k := 3) dX2_puts_6 clX6 lFX2_68 (by decide) (eOrdIn_52 ho) (eOrdSh_52 ho) rfl ?_
  refine r_callVV (b' := (4, 0, 0)) (c := 16) (S := []) [.int (M (52 + i.toNatClampNeg) 2), .int (M (52 + i.toNatClampNeg) 3)] dX2_puts_9 mX2_reckon lMX2_74 clX2 rfl iF16 sC16 rfl (by decide) (Nat.le_of_ble_eq_true rfl) h (fun M1 h => ?_) rfl
  refine r_aload_n 0 dX2_puts_12 rfl rfl ?_
  refine r_callVI (b' := (1, 0, 0)) (c := 16) (S := []) [] dX2_puts_13 mX2_pop lMX2_78 clX2 rfl iF16 sC16 rfl (by decide) (Nat.le_of_ble_eq_true rfl) h (fun r2 M2 h => ?_) rfl
  refine r_bipush (v := 6) dX2_puts_16 rfl ?_
  refine r_callSI (b' := (2, 0, 0)) (S := []) [.int r2, .int 6] dX2_puts_18 mX2_remainder lMX2_108 rfl (by decide) (Nat.le_of_ble_eq_true rfl) h (fun r3 M3 h => ?_) rfl
  refine r_istore_n (l' := [(2, .int r3), (0, .ref (G.1 16)), (1, .ref (G.1 (52 + i.toNatClampNeg)))]) dX2_puts_21 rfl (by decide) rfl ?_
  refine r_aload_n 1 dX2_puts_22 rfl rfl ?_
  refine r_callVI (b' := (1, 0, 0)) (c := 16) (S := []) [] dX2_puts_23 mX2_pop lMX2_78 clX2 rfl iF16 sC16 rfl (by decide) (Nat.le_of_ble_eq_true rfl) h (fun r4 M4 h => ?_) rfl
  refine r_aload_n 1 dX2_puts_26 rfl rfl ?_
  refine r_getR (c := 16) (k := 0) 23 dX2_puts_27 clX2 lFX2_22 (by decide) iF16 sC16 rfl ?_
  refine r_getI (c := 23) (k := 1) dX2_puts_30 clX1 lFX2_112 (by decide) iF23 sC23 rfl ?_
  refine r_callSI (b' := (2, 0, 0)) (S := []) [.int r4, .int (M4 23 1)] dX2_puts_33 mX2_remainder lMX2_108 rfl (by decide) (Nat.le_of_ble_eq_true rfl) h (fun r5 M5 h => ?_) rfl
  refine r_istore_n (l' := [(3, .int r5), (2, .int r3), (0, .ref (G.1 16)), (1, .ref (G.1 (52 + i.toNatClampNeg)))]) dX2_puts_36 rfl (by decide) rfl ?_
  refine r_aload_n 2 dX2_puts_37 rfl rfl ?_
  refine r_callVI (b' := (1, 0, 0)) (c := 16) (S := []) [] dX2_puts_38 mX2_pop lMX2_78 clX2 rfl iF16 sC16 rfl (by decide) (Nat.le_of_ble_eq_true rfl) h (fun r6 M6 h => ?_) rfl
  refine r_aload_n 2 dX2_puts_41 rfl rfl ?_
  refine r_getR (c := 16) (k := 0) 23 dX2_puts_42 clX2 lFX2_22 (by decide) iF16 sC16 rfl ?_
  refine r_getI (c := 23) (k := 0) dX2_puts_45 clX1 lFX2_115 (by decide) iF23 sC23 rfl ?_
  refine r_callSI (b' := (2, 0, 0)) (S := []) [.int r6, .int (M6 23 0)] dX2_puts_48 mX2_remainder lMX2_108 rfl (by decide) (Nat.le_of_ble_eq_true rfl) h (fun r7 M7 h => ?_) rfl
  refine r_istore (l' := [(4, .int r7), (3, .int r5), (2, .int r3), (0, .ref (G.1 16)), (1, .ref (G.1 (52 + i.toNatClampNeg)))]) dX2_puts_51 (by decide) rfl ?_
  refine r_iload_n 1 dX2_puts_53 rfl rfl ?_
  refine r_aload_n 3 dX2_puts_54 rfl rfl ?_
  refine r_getR (c := 16) (k := 0) 23 dX2_puts_55 clX2 lFX2_22 (by decide) iF16 sC16 rfl ?_
  refine r_getI (c := 23) (k := 0) dX2_puts_58 clX1 lFX2_115 (by decide) iF23 sC23 rfl ?_
  refine r_imul dX2_puts_61 ?_
  refine r_iload 0 dX2_puts_62 rfl ?_
  refine r_iadd dX2_puts_64 ?_
  refine r_istore (l' := [(5, .int ((r5 * (M7 23 0)) + r7)), (4, .int r7), (3, .int r5), (2, .int r3), (0, .ref (G.1 16)), (1, .ref (G.1 (52 + i.toNatClampNeg)))]) dX2_puts_65 (by decide) rfl ?_
  refine r_iload 0 dX2_puts_67 rfl ?_
  refine r_aload_n 4 dX2_puts_69 rfl rfl ?_
  refine r_getR (c := 16) (k := 0) 23 dX2_puts_70 clX2 lFX2_22 (by decide) iF16 sC16 rfl ?_
  refine r_getI (c := 23) (k := 2) dX2_puts_73 clX1 lFX2_118 (by decide) iF23 sC23 rfl ?_
  refine r_icmp_ge (t := 96) dX2_puts_76 (by decide) (fun q => ?_) (fun q => ?_)
  · replace h := h.1 q
    refine r_iconst (v := 0) dX2_puts_96 rfl ?_
    refine r_iretZ0 dX2_puts_97 rfl (by decide) (by decide) h
  · replace h := h.2 q
    refine r_aload_n 4 dX2_puts_79 rfl rfl ?_
    refine r_getR (c := 16) (k := 0) 23 dX2_puts_80 clX2 lFX2_22 (by decide) iF16 sC16 rfl ?_
    refine r_aload_n 5 dX2_puts_83 rfl rfl ?_
    refine r_getI (c := (52 + i.toNatClampNeg)) (k := 1) dX2_puts_84 clX6 lFX2_59 (by decide) (eOrdIn_52 ho) (eOrdSh_52 ho) rfl ?_
    refine r_iload 0 dX2_puts_87 rfl ?_
    refine r_iload_n 3 dX2_puts_89 rfl rfl ?_
    refine r_callVZ (b' := (2, 0, 0)) (c := 23) (S := []) [.int (M7 (52 + i.toNatClampNeg) 1), .int ((r5 * (M7 23 0)) + r7), .int r3] dX2_puts_90 mX1_fitsSo lMX2_121 clX1 rfl iF23 sC23 rfl (by decide) (Nat.le_of_ble_eq_true rfl) h (fun r8 M8 h => ?_) rfl
    refine r_zif_ne (t := 98) dX2_puts_93 (by decide) (fun q => ?_) (fun q => ?_)
    · replace h := h.1 q
      refine r_aload_n 4 dX2_puts_98 rfl rfl ?_
      refine r_getR (c := 16) (k := 0) 23 dX2_puts_99 clX2 lFX2_22 (by decide) iF16 sC16 rfl ?_
      refine r_aload_n 5 dX2_puts_102 rfl rfl ?_
      refine r_getI (c := (52 + i.toNatClampNeg)) (k := 1) dX2_puts_103 clX6 lFX2_59 (by decide) (eOrdIn_52 ho) (eOrdSh_52 ho) rfl ?_
      refine r_iload 0 dX2_puts_106 rfl ?_
      refine r_iload_n 3 dX2_puts_108 rfl rfl ?_
      refine r_callVV (b' := (2, 0, 0)) (c := 23) (S := []) [.int (M8 (52 + i.toNatClampNeg) 1), .int ((r5 * (M7 23 0)) + r7), .int r3] dX2_puts_109 mX1_put lMX2_125 clX1 rfl iF23 sC23 rfl (by decide) (Nat.le_of_ble_eq_true rfl) h (fun M9 h => ?_) rfl
      refine r_iconst (v := 1) dX2_puts_112 rfl ?_
      refine r_iretZ1 dX2_puts_113 rfl (by decide) (by decide) h
    · replace h := h.2 q
      refine r_iconst (v := 0) dX2_puts_96 rfl ?_
      refine r_iretZ0 dX2_puts_97 rfl (by decide) (by decide) h
set_option maxHeartbeats 4000000 in
set_option maxRecDepth 100000 in
theorem C_X2_takes (G : eG) (M : eM) (F : Bool → eM → Prop) (a1 : Int32)
    (h : Cal G 0 68 (2, 0, 0) kX1_lies [.ref (G.1 23), .int a1] M (eFZ (fun (r1 : Bool) (M1 : eM) => ((r1 = true) → Cal G 0 68 (1, 0, 0) kX1_lift [.ref (G.1 23), .int a1] M1 (eFV (fun (M2 : eM) => F true M2))) ∧ ((r1 = false) → F false M1)))) :
    Cal G 0 68 (3, 0, 0) kX2_takes [.ref (G.1 16), .int a1] M (eFZ F) := by
  refine Cal.of (by decide +kernel) rfl (Nat.le_of_ble_eq_true rfl) ?_
  show Ev (eZ G 0 68 0 0 (eFZ F)) G 0 68 (3, 0, 0) kX2_takes 0 [(0, .ref (G.1 16)), (1, .int a1)] [] M 0 0
  refine r_aload_n 0 dX2_takes_0 rfl rfl ?_
  refine r_getR (c := 16) (k := 0) 23 dX2_takes_1 clX2 lFX2_22 (by decide) iF16 sC16 rfl ?_
  refine r_iload_n 1 dX2_takes_4 rfl rfl ?_
  refine r_callVZ (b' := (2, 0, 0)) (c := 23) (S := []) [.int a1] dX2_takes_5 mX1_lies lMX2_129 clX1 rfl iF23 sC23 rfl (by decide) (Nat.le_of_ble_eq_true rfl) h (fun r1 M1 h => ?_) rfl
  refine r_zif_ne (t := 13) dX2_takes_8 (by decide) (fun q => ?_) (fun q => ?_)
  · replace h := h.1 q
    refine r_aload_n 0 dX2_takes_13 rfl rfl ?_
    refine r_getR (c := 16) (k := 0) 23 dX2_takes_14 clX2 lFX2_22 (by decide) iF16 sC16 rfl ?_
    refine r_iload_n 1 dX2_takes_17 rfl rfl ?_
    refine r_callVV (b' := (1, 0, 0)) (c := 23) (S := []) [.int a1] dX2_takes_18 mX1_lift lMX2_132 clX1 rfl iF23 sC23 rfl (by decide) (Nat.le_of_ble_eq_true rfl) h (fun M2 h => ?_) rfl
    refine r_iconst (v := 1) dX2_takes_21 rfl ?_
    refine r_iretZ1 dX2_takes_22 rfl (by decide) (by decide) h
  · replace h := h.2 q
    refine r_iconst (v := 0) dX2_takes_11 rfl ?_
    refine r_iretZ0 dX2_takes_12 rfl (by decide) (by decide) h
set_option maxHeartbeats 4000000 in
set_option maxRecDepth 100000 in
theorem C_X2_fitsIn (G : eG) (M : eM) (F : Bool → eM → Prop) (a1 : Int32)
    (h : Cal G 0 68 (2, 0, 0) kX1_firstCell [.ref (G.1 23), .int a1] M (eFI (fun (r1 : Int32) (M1 : eM) => ((0 ≤ r1) → Cal G 0 68 (2, 0, 0) kX1_firstTurn [.ref (G.1 23), .int a1, .int r1] M1 (eFI (fun (r2 : Int32) (M2 : eM) => Cal G 0 68 (2, 0, 0) kX1_put [.ref (G.1 23), .int a1, .int r1, .int r2] M2 (eFV (fun (M3 : eM) => F true M3))))) ∧ ((¬ 0 ≤ r1) → F false M1)))) :
    Cal G 0 68 (3, 0, 0) kX2_fitsIn [.ref (G.1 16), .int a1] M (eFZ F) := by
  refine Cal.of (by decide +kernel) rfl (Nat.le_of_ble_eq_true rfl) ?_
  show Ev (eZ G 0 68 0 0 (eFZ F)) G 0 68 (3, 0, 0) kX2_fitsIn 0 [(0, .ref (G.1 16)), (1, .int a1)] [] M 0 0
  refine r_aload_n 0 dX2_fitsIn_0 rfl rfl ?_
  refine r_getR (c := 16) (k := 0) 23 dX2_fitsIn_1 clX2 lFX2_22 (by decide) iF16 sC16 rfl ?_
  refine r_iload_n 1 dX2_fitsIn_4 rfl rfl ?_
  refine r_callVI (b' := (2, 0, 0)) (c := 23) (S := []) [.int a1] dX2_fitsIn_5 mX1_firstCell lMX2_136 clX1 rfl iF23 sC23 rfl (by decide) (Nat.le_of_ble_eq_true rfl) h (fun r1 M1 h => ?_) rfl
  refine r_istore_n (l' := [(2, .int r1), (0, .ref (G.1 16)), (1, .int a1)]) dX2_fitsIn_8 rfl (by decide) rfl ?_
  refine r_iload_n 0 dX2_fitsIn_9 rfl rfl ?_
  refine r_if_ge (t := 15) dX2_fitsIn_10 (by decide) (fun q => ?_) (fun q => ?_)
  · replace h := h.1 q
    refine r_aload_n 1 dX2_fitsIn_15 rfl rfl ?_
    refine r_getR (c := 16) (k := 0) 23 dX2_fitsIn_16 clX2 lFX2_22 (by decide) iF16 sC16 rfl ?_
    refine r_iload_n 2 dX2_fitsIn_19 rfl rfl ?_
    refine r_iload_n 0 dX2_fitsIn_20 rfl rfl ?_
    refine r_aload_n 1 dX2_fitsIn_21 rfl rfl ?_
    refine r_getR (c := 16) (k := 0) 23 dX2_fitsIn_22 clX2 lFX2_22 (by decide) iF16 sC16 rfl ?_
    refine r_iload_n 2 dX2_fitsIn_25 rfl rfl ?_
    refine r_iload_n 0 dX2_fitsIn_26 rfl rfl ?_
    refine r_callVI (b' := (2, 0, 0)) (c := 23) (S := [.int r1, .int a1, .ref (G.1 23)]) [.int a1, .int r1] dX2_fitsIn_27 mX1_firstTurn lMX2_140 clX1 rfl iF23 sC23 rfl (by decide) (Nat.le_of_ble_eq_true rfl) h (fun r2 M2 h => ?_) rfl
    refine r_callVV (b' := (2, 0, 0)) (c := 23) (S := []) [.int a1, .int r1, .int r2] dX2_fitsIn_30 mX1_put lMX2_125 clX1 rfl iF23 sC23 rfl (by decide) (Nat.le_of_ble_eq_true rfl) h (fun M3 h => ?_) rfl
    refine r_iconst (v := 1) dX2_fitsIn_33 rfl ?_
    refine r_iretZ1 dX2_fitsIn_34 rfl (by decide) (by decide) h
  · replace h := h.2 q
    refine r_iconst (v := 0) dX2_fitsIn_13 rfl ?_
    refine r_iretZ0 dX2_fitsIn_14 rfl (by decide) (by decide) h
set_option maxHeartbeats 4000000 in
set_option maxRecDepth 100000 in
theorem B_X2_reckon_374 (G : eG) (M : eM) (F : eM → Prop) (x2 : Int32) (x3 : Int32)
    (h : Ev (eZ G 0 68 0 0 (eFV F)) G 0 68 (4, 0, 0) kX2_reckon 7 [(0, .ref (G.1 16)), (2, .int x2), (3, .int (x3 + 1))] [] M 0 0) :
    Ev (eZ G 0 68 0 0 (eFV F)) G 0 68 (4, 0, 0) kX2_reckon 374 [(0, .ref (G.1 16)), (2, .int x2), (3, .int x3)] [] M 0 0 := by
  refine r_iinc (v := x3 + 1) (l' := [(3, .int (x3 + 1)), (0, .ref (G.1 16)), (2, .int x2)]) 2 dX2_reckon_374 rfl rfl (by decide) rfl ?_
  refine r_goto (t := 7) dX2_reckon_377 (by decide) ?_
  exact Ev.sub (ks := [1, 2, 0]) rfl h
set_option maxHeartbeats 4000000 in
set_option maxRecDepth 100000 in
theorem B_X2_reckon_353 (G : eG) (M : eM) (F : eM → Prop) (x2 : Int32) (x3 : Int32) (x4 : Int32)
    (h : Cal G 0 68 (1, 0, 0) kX2_pop [.ref (G.1 16)] M (eFI (fun (r1 : Int32) (M1 : eM) => Cal G 0 68 (1, 0, 0) kX2_pop [.ref (G.1 16)] M1 (eFI (fun (r2 : Int32) (M2 : eM) => Cal G 0 68 (3, 0, 0) kX2_combined [eV G 1 x4, .int r2, .int r1] M2 (eFI (fun (r3 : Int32) (M3 : eM) => Cal G 0 68 (1, 0, 0) kX2_push [.ref (G.1 16), .int r3] M3 (eFV (fun (M4 : eM) => Ev (eZ G 0 68 0 0 (eFV F)) G 0 68 (4, 0, 0) kX2_reckon 374 [(0, .ref (G.1 16)), (2, .int x2), (3, .int x3)] [] M4 0 0))))))))) :
    Ev (eZ G 0 68 0 0 (eFV F)) G 0 68 (4, 0, 0) kX2_reckon 353 [(0, .ref (G.1 16)), (2, .int x2), (3, .int x3), (4, eV G 1 x4)] [] M 0 0 := by
  refine r_aload_n 0 dX2_reckon_353 rfl rfl ?_
  refine r_callVI (b' := (1, 0, 0)) (c := 16) (S := []) [] dX2_reckon_354 mX2_pop lMX2_78 clX2 rfl iF16 sC16 rfl (by decide) (Nat.le_of_ble_eq_true rfl) h (fun r1 M1 h => ?_) rfl
  refine r_istore (l' := [(5, .int r1), (0, .ref (G.1 16)), (2, .int x2), (3, .int x3), (4, eV G 1 x4)]) dX2_reckon_357 (by decide) (by simp [List.filter_cons, eV_cat, eCatI, eCatR]) ?_
  refine r_aload_n 1 dX2_reckon_359 rfl rfl ?_
  refine r_kload 4 dX2_reckon_360 rfl ?_
  refine r_aload_n 1 dX2_reckon_362 rfl rfl ?_
  refine r_callVI (b' := (1, 0, 0)) (c := 16) (S := [eV G 1 x4, .ref (G.1 16)]) [] dX2_reckon_363 mX2_pop lMX2_78 clX2 rfl iF16 sC16 rfl (by decide) (by simp [eV_cat, eCatI, eCatR]) h (fun r2 M2 h => ?_) rfl
  refine r_iload 0 dX2_reckon_366 rfl ?_
  refine r_callSI (b' := (3, 0, 0)) (S := [.ref (G.1 16)]) [eV G 1 x4, .int r2, .int r1] dX2_reckon_368 mX2_combined lMX2_171 rfl (by decide) (Nat.le_of_ble_eq_true rfl) h (fun r3 M3 h => ?_) rfl
  refine r_callVV (b' := (1, 0, 0)) (c := 16) (S := []) [.int r3] dX2_reckon_371 mX2_push lMX2_153 clX2 rfl iF16 sC16 rfl (by decide) (Nat.le_of_ble_eq_true rfl) h (fun M4 h => ?_) rfl
  exact Ev.sub (ks := [1, 2, 3]) rfl h
set_option maxHeartbeats 4000000 in
set_option maxRecDepth 100000 in
theorem B_X2_reckon_334 (G : eG) (M : eM) (F : eM → Prop) (x2 : Int32) (x3 : Int32)
    (h : Cal G 0 68 (1, 0, 0) kX2_pop [.ref (G.1 16)] M (eFI (fun (r1 : Int32) (M1 : eM) => ((¬ r1 = 0) → Cal G 0 68 (1, 0, 0) kX2_push [.ref (G.1 16), .int 0] M1 (eFV (fun (M2 : eM) => Ev (eZ G 0 68 0 0 (eFV F)) G 0 68 (4, 0, 0) kX2_reckon 374 [(0, .ref (G.1 16)), (2, .int x2), (3, .int x3)] [] M2 0 0))) ∧ ((r1 = 0) → Cal G 0 68 (1, 0, 0) kX2_push [.ref (G.1 16), .int 1] M1 (eFV (fun (M3 : eM) => Ev (eZ G 0 68 0 0 (eFV F)) G 0 68 (4, 0, 0) kX2_reckon 374 [(0, .ref (G.1 16)), (2, .int x2), (3, .int x3)] [] M3 0 0)))))) :
    Ev (eZ G 0 68 0 0 (eFV F)) G 0 68 (4, 0, 0) kX2_reckon 334 [(0, .ref (G.1 16)), (2, .int x2), (3, .int x3)] [] M 0 0 := by
  refine r_aload_n 0 dX2_reckon_334 rfl rfl ?_
  refine r_aload_n 0 dX2_reckon_335 rfl rfl ?_
  refine r_callVI (b' := (1, 0, 0)) (c := 16) (S := [.ref (G.1 16)]) [] dX2_reckon_336 mX2_pop lMX2_78 clX2 rfl iF16 sC16 rfl (by decide) (Nat.le_of_ble_eq_true rfl) h (fun r1 M1 h => ?_) rfl
  refine r_if_ne (t := 346) dX2_reckon_339 (by decide) (fun q => ?_) (fun q => ?_)
  · replace h := h.1 q
    refine r_iconst (v := 0) dX2_reckon_346 rfl ?_
    refine r_callVV (b' := (1, 0, 0)) (c := 16) (S := []) [.int 0] dX2_reckon_347 mX2_push lMX2_153 clX2 rfl iF16 sC16 rfl (by decide) (Nat.le_of_ble_eq_true rfl) h (fun M2 h => ?_) rfl
    refine r_goto (t := 374) dX2_reckon_350 (by decide) ?_
    exact h
  · replace h := h.2 q
    refine r_iconst (v := 1) dX2_reckon_342 rfl ?_
    refine r_goto (t := 347) dX2_reckon_343 (by decide) ?_
    refine r_callVV (b' := (1, 0, 0)) (c := 16) (S := []) [.int 1] dX2_reckon_347 mX2_push lMX2_153 clX2 rfl iF16 sC16 rfl (by decide) (Nat.le_of_ble_eq_true rfl) h (fun M3 h => ?_) rfl
    refine r_goto (t := 374) dX2_reckon_350 (by decide) ?_
    exact h
set_option maxHeartbeats 4000000 in
set_option maxRecDepth 100000 in
theorem B_X2_reckon_322 (G : eG) (M : eM) (F : eM → Prop) (x2 : Int32) (x3 : Int32)
    (h : Cal G 0 68 (1, 0, 0) kX2_pop [.ref (G.1 16)] M (eFI (fun (r1 : Int32) (M1 : eM) => Cal G 0 68 (1, 0, 0) kX2_push [.ref (G.1 16), .int (-r1)] M1 (eFV (fun (M2 : eM) => Ev (eZ G 0 68 0 0 (eFV F)) G 0 68 (4, 0, 0) kX2_reckon 374 [(0, .ref (G.1 16)), (2, .int x2), (3, .int x3)] [] M2 0 0))))) :
    Ev (eZ G 0 68 0 0 (eFV F)) G 0 68 (4, 0, 0) kX2_reckon 322 [(0, .ref (G.1 16)), (2, .int x2), (3, .int x3)] [] M 0 0 := by
  refine r_aload_n 0 dX2_reckon_322 rfl rfl ?_
  refine r_aload_n 0 dX2_reckon_323 rfl rfl ?_
  refine r_callVI (b' := (1, 0, 0)) (c := 16) (S := [.ref (G.1 16)]) [] dX2_reckon_324 mX2_pop lMX2_78 clX2 rfl iF16 sC16 rfl (by decide) (Nat.le_of_ble_eq_true rfl) h (fun r1 M1 h => ?_) rfl
  refine r_ineg dX2_reckon_327 ?_
  refine r_callVV (b' := (1, 0, 0)) (c := 16) (S := []) [.int (-r1)] dX2_reckon_328 mX2_push lMX2_153 clX2 rfl iF16 sC16 rfl (by decide) (Nat.le_of_ble_eq_true rfl) h (fun M2 h => ?_) rfl
  refine r_goto (t := 374) dX2_reckon_331 (by decide) ?_
  exact h
set_option maxHeartbeats 4000000 in
set_option maxRecDepth 100000 in
theorem B_X2_reckon_292 (G : eG) (M : eM) (F : eM → Prop) (x2 : Int32) (x3 : Int32)
    (h : Cal G 0 68 (1, 0, 0) kX7_operand [.ref (G.1 21), .int x3] M (eFI (fun (r1 : Int32) (M1 : eM) => Cal G 0 68 (2, 0, 0) kX1_firstCell [.ref (G.1 23), .int r1] M1 (eFI (fun (r2 : Int32) (M2 : eM) => ((r2 < 0) → Cal G 0 68 (1, 0, 0) kX2_push [.ref (G.1 16), .int 0] M2 (eFV (fun (M3 : eM) => Ev (eZ G 0 68 0 0 (eFV F)) G 0 68 (4, 0, 0) kX2_reckon 374 [(0, .ref (G.1 16)), (2, .int x2), (3, .int x3)] [] M3 0 0))) ∧ ((¬ r2 < 0) → Cal G 0 68 (1, 0, 0) kX2_push [.ref (G.1 16), .int 1] M2 (eFV (fun (M4 : eM) => Ev (eZ G 0 68 0 0 (eFV F)) G 0 68 (4, 0, 0) kX2_reckon 374 [(0, .ref (G.1 16)), (2, .int x2), (3, .int x3)] [] M4 0 0)))))))) :
    Ev (eZ G 0 68 0 0 (eFV F)) G 0 68 (4, 0, 0) kX2_reckon 292 [(0, .ref (G.1 16)), (2, .int x2), (3, .int x3)] [] M 0 0 := by
  refine r_aload_n 0 dX2_reckon_292 rfl rfl ?_
  refine r_aload_n 0 dX2_reckon_293 rfl rfl ?_
  refine r_getR (c := 16) (k := 0) 23 dX2_reckon_294 clX2 lFX2_22 (by decide) iF16 sC16 rfl ?_
  refine r_aload_n 0 dX2_reckon_297 rfl rfl ?_
  refine r_getR (c := 16) (k := 1) 21 dX2_reckon_298 clX2 lFX2_12 (by decide) iF16 sC16 rfl ?_
  refine r_iload_n 2 dX2_reckon_301 rfl rfl ?_
  refine r_callVI (b' := (1, 0, 0)) (c := 21) (S := [.ref (G.1 23), .ref (G.1 16)]) [.int x3] dX2_reckon_302 mX7_operand lMX2_150 clX7 rfl iF21 sC21 rfl (by decide) (Nat.le_of_ble_eq_true rfl) h (fun r1 M1 h => ?_) rfl
  refine r_callVI (b' := (2, 0, 0)) (c := 23) (S := [.ref (G.1 16)]) [.int r1] dX2_reckon_305 mX1_firstCell lMX2_136 clX1 rfl iF23 sC23 rfl (by decide) (Nat.le_of_ble_eq_true rfl) h (fun r2 M2 h => ?_) rfl
  refine r_if_lt (t := 315) dX2_reckon_308 (by decide) (fun q => ?_) (fun q => ?_)
  · replace h := h.1 q
    refine r_iconst (v := 0) dX2_reckon_315 rfl ?_
    refine r_callVV (b' := (1, 0, 0)) (c := 16) (S := []) [.int 0] dX2_reckon_316 mX2_push lMX2_153 clX2 rfl iF16 sC16 rfl (by decide) (Nat.le_of_ble_eq_true rfl) h (fun M3 h => ?_) rfl
    refine r_goto (t := 374) dX2_reckon_319 (by decide) ?_
    exact h
  · replace h := h.2 q
    refine r_iconst (v := 1) dX2_reckon_311 rfl ?_
    refine r_goto (t := 316) dX2_reckon_312 (by decide) ?_
    refine r_callVV (b' := (1, 0, 0)) (c := 16) (S := []) [.int 1] dX2_reckon_316 mX2_push lMX2_153 clX2 rfl iF16 sC16 rfl (by decide) (Nat.le_of_ble_eq_true rfl) h (fun M4 h => ?_) rfl
    refine r_goto (t := 374) dX2_reckon_319 (by decide) ?_
    exact h
set_option maxHeartbeats 4000000 in
set_option maxRecDepth 100000 in
theorem B_X2_reckon_262 (G : eG) (M : eM) (F : eM → Prop) (x2 : Int32) (x3 : Int32)
    (h : Cal G 0 68 (1, 0, 0) kX7_operand [.ref (G.1 21), .int x3] M (eFI (fun (r1 : Int32) (M1 : eM) => Cal G 0 68 (2, 0, 0) kX1_lies [.ref (G.1 23), .int r1] M1 (eFZ (fun (r2 : Bool) (M2 : eM) => ((r2 = false) → Cal G 0 68 (1, 0, 0) kX2_push [.ref (G.1 16), .int 0] M2 (eFV (fun (M3 : eM) => Ev (eZ G 0 68 0 0 (eFV F)) G 0 68 (4, 0, 0) kX2_reckon 374 [(0, .ref (G.1 16)), (2, .int x2), (3, .int x3)] [] M3 0 0))) ∧ ((r2 = true) → Cal G 0 68 (1, 0, 0) kX2_push [.ref (G.1 16), .int 1] M2 (eFV (fun (M4 : eM) => Ev (eZ G 0 68 0 0 (eFV F)) G 0 68 (4, 0, 0) kX2_reckon 374 [(0, .ref (G.1 16)), (2, .int x2), (3, .int x3)] [] M4 0 0)))))))) :
    Ev (eZ G 0 68 0 0 (eFV F)) G 0 68 (4, 0, 0) kX2_reckon 262 [(0, .ref (G.1 16)), (2, .int x2), (3, .int x3)] [] M 0 0 := by
  refine r_aload_n 0 dX2_reckon_262 rfl rfl ?_
  refine r_aload_n 0 dX2_reckon_263 rfl rfl ?_
  refine r_getR (c := 16) (k := 0) 23 dX2_reckon_264 clX2 lFX2_22 (by decide) iF16 sC16 rfl ?_
  refine r_aload_n 0 dX2_reckon_267 rfl rfl ?_
  refine r_getR (c := 16) (k := 1) 21 dX2_reckon_268 clX2 lFX2_12 (by decide) iF16 sC16 rfl ?_
  refine r_iload_n 2 dX2_reckon_271 rfl rfl ?_
  refine r_callVI (b' := (1, 0, 0)) (c := 21) (S := [.ref (G.1 23), .ref (G.1 16)]) [.int x3] dX2_reckon_272 mX7_operand lMX2_150 clX7 rfl iF21 sC21 rfl (by decide) (Nat.le_of_ble_eq_true rfl) h (fun r1 M1 h => ?_) rfl
  refine r_callVZ (b' := (2, 0, 0)) (c := 23) (S := [.ref (G.1 16)]) [.int r1] dX2_reckon_275 mX1_lies lMX2_129 clX1 rfl iF23 sC23 rfl (by decide) (Nat.le_of_ble_eq_true rfl) h (fun r2 M2 h => ?_) rfl
  refine r_zif_eq (t := 285) dX2_reckon_278 (by decide) (fun q => ?_) (fun q => ?_)
  · replace h := h.1 q
    refine r_iconst (v := 0) dX2_reckon_285 rfl ?_
    refine r_callVV (b' := (1, 0, 0)) (c := 16) (S := []) [.int 0] dX2_reckon_286 mX2_push lMX2_153 clX2 rfl iF16 sC16 rfl (by decide) (Nat.le_of_ble_eq_true rfl) h (fun M3 h => ?_) rfl
    refine r_goto (t := 374) dX2_reckon_289 (by decide) ?_
    exact h
  · replace h := h.2 q
    refine r_iconst (v := 1) dX2_reckon_281 rfl ?_
    refine r_goto (t := 286) dX2_reckon_282 (by decide) ?_
    refine r_callVV (b' := (1, 0, 0)) (c := 16) (S := []) [.int 1] dX2_reckon_286 mX2_push lMX2_153 clX2 rfl iF16 sC16 rfl (by decide) (Nat.le_of_ble_eq_true rfl) h (fun M4 h => ?_) rfl
    refine r_goto (t := 374) dX2_reckon_289 (by decide) ?_
    exact h
set_option maxHeartbeats 4000000 in
set_option maxRecDepth 100000 in
theorem B_X2_reckon_240 (G : eG) (M : eM) (F : eM → Prop) (x2 : Int32) (x3 : Int32)
    (h : Cal G 0 68 (1, 0, 0) kX7_operand [.ref (G.1 21), .int x3] M (eFI (fun (r1 : Int32) (M1 : eM) => Cal G 0 68 (2, 0, 0) kX1_countWays [.ref (G.1 23), .int r1] M1 (eFI (fun (r2 : Int32) (M2 : eM) => Cal G 0 68 (1, 0, 0) kX2_push [.ref (G.1 16), .int r2] M2 (eFV (fun (M3 : eM) => Ev (eZ G 0 68 0 0 (eFV F)) G 0 68 (4, 0, 0) kX2_reckon 374 [(0, .ref (G.1 16)), (2, .int x2), (3, .int x3)] [] M3 0 0))))))) :
    Ev (eZ G 0 68 0 0 (eFV F)) G 0 68 (4, 0, 0) kX2_reckon 240 [(0, .ref (G.1 16)), (2, .int x2), (3, .int x3)] [] M 0 0 := by
  refine r_aload_n 0 dX2_reckon_240 rfl rfl ?_
  refine r_aload_n 0 dX2_reckon_241 rfl rfl ?_
  refine r_getR (c := 16) (k := 0) 23 dX2_reckon_242 clX2 lFX2_22 (by decide) iF16 sC16 rfl ?_
  refine r_aload_n 0 dX2_reckon_245 rfl rfl ?_
  refine r_getR (c := 16) (k := 1) 21 dX2_reckon_246 clX2 lFX2_12 (by decide) iF16 sC16 rfl ?_
  refine r_iload_n 2 dX2_reckon_249 rfl rfl ?_
  refine r_callVI (b' := (1, 0, 0)) (c := 21) (S := [.ref (G.1 23), .ref (G.1 16)]) [.int x3] dX2_reckon_250 mX7_operand lMX2_150 clX7 rfl iF21 sC21 rfl (by decide) (Nat.le_of_ble_eq_true rfl) h (fun r1 M1 h => ?_) rfl
  refine r_callVI (b' := (2, 0, 0)) (c := 23) (S := [.ref (G.1 16)]) [.int r1] dX2_reckon_253 mX1_countWays lMX2_168 clX1 rfl iF23 sC23 rfl (by decide) (Nat.le_of_ble_eq_true rfl) h (fun r2 M2 h => ?_) rfl
  refine r_callVV (b' := (1, 0, 0)) (c := 16) (S := []) [.int r2] dX2_reckon_256 mX2_push lMX2_153 clX2 rfl iF16 sC16 rfl (by decide) (Nat.le_of_ble_eq_true rfl) h (fun M3 h => ?_) rfl
  refine r_goto (t := 374) dX2_reckon_259 (by decide) ?_
  exact h
set_option maxHeartbeats 4000000 in
set_option maxRecDepth 100000 in
theorem B_X2_reckon_218 (G : eG) (M : eM) (F : eM → Prop) (x2 : Int32) (x3 : Int32)
    (h : Cal G 0 68 (1, 0, 0) kX2_push [.ref (G.1 16), .int ((M 23 2) - (M 23 4))] M (eFV (fun (M1 : eM) => Ev (eZ G 0 68 0 0 (eFV F)) G 0 68 (4, 0, 0) kX2_reckon 374 [(0, .ref (G.1 16)), (2, .int x2), (3, .int x3)] [] M1 0 0))) :
    Ev (eZ G 0 68 0 0 (eFV F)) G 0 68 (4, 0, 0) kX2_reckon 218 [(0, .ref (G.1 16)), (2, .int x2), (3, .int x3)] [] M 0 0 := by
  refine r_aload_n 0 dX2_reckon_218 rfl rfl ?_
  refine r_aload_n 0 dX2_reckon_219 rfl rfl ?_
  refine r_getR (c := 16) (k := 0) 23 dX2_reckon_220 clX2 lFX2_22 (by decide) iF16 sC16 rfl ?_
  refine r_getI (c := 23) (k := 2) dX2_reckon_223 clX1 lFX2_118 (by decide) iF23 sC23 rfl ?_
  refine r_aload_n 0 dX2_reckon_226 rfl rfl ?_
  refine r_getR (c := 16) (k := 0) 23 dX2_reckon_227 clX2 lFX2_22 (by decide) iF16 sC16 rfl ?_
  refine r_getI (c := 23) (k := 4) dX2_reckon_230 clX1 lFX2_156 (by decide) iF23 sC23 rfl ?_
  refine r_isub dX2_reckon_233 ?_
  refine r_callVV (b' := (1, 0, 0)) (c := 16) (S := []) [.int ((M 23 2) - (M 23 4))] dX2_reckon_234 mX2_push lMX2_153 clX2 rfl iF16 sC16 rfl (by decide) (Nat.le_of_ble_eq_true rfl) h (fun M1 h => ?_) rfl
  refine r_goto (t := 374) dX2_reckon_237 (by decide) ?_
  exact h
set_option maxHeartbeats 4000000 in
set_option maxRecDepth 100000 in
theorem B_X2_reckon_204 (G : eG) (M : eM) (F : eM → Prop) (x2 : Int32) (x3 : Int32)
    (h : Cal G 0 68 (2, 0, 0) kX1_countRings [.ref (G.1 23)] M (eFI (fun (r1 : Int32) (M1 : eM) => Cal G 0 68 (1, 0, 0) kX2_push [.ref (G.1 16), .int r1] M1 (eFV (fun (M2 : eM) => Ev (eZ G 0 68 0 0 (eFV F)) G 0 68 (4, 0, 0) kX2_reckon 374 [(0, .ref (G.1 16)), (2, .int x2), (3, .int x3)] [] M2 0 0))))) :
    Ev (eZ G 0 68 0 0 (eFV F)) G 0 68 (4, 0, 0) kX2_reckon 204 [(0, .ref (G.1 16)), (2, .int x2), (3, .int x3)] [] M 0 0 := by
  refine r_aload_n 0 dX2_reckon_204 rfl rfl ?_
  refine r_aload_n 0 dX2_reckon_205 rfl rfl ?_
  refine r_getR (c := 16) (k := 0) 23 dX2_reckon_206 clX2 lFX2_22 (by decide) iF16 sC16 rfl ?_
  refine r_callVI (b' := (2, 0, 0)) (c := 23) (S := [.ref (G.1 16)]) [] dX2_reckon_209 mX1_countRings lMX2_165 clX1 rfl iF23 sC23 rfl (by decide) (Nat.le_of_ble_eq_true rfl) h (fun r1 M1 h => ?_) rfl
  refine r_callVV (b' := (1, 0, 0)) (c := 16) (S := []) [.int r1] dX2_reckon_212 mX2_push lMX2_153 clX2 rfl iF16 sC16 rfl (by decide) (Nat.le_of_ble_eq_true rfl) h (fun M2 h => ?_) rfl
  refine r_goto (t := 374) dX2_reckon_215 (by decide) ?_
  exact h
set_option maxHeartbeats 4000000 in
set_option maxRecDepth 100000 in
theorem B_X2_reckon_190 (G : eG) (M : eM) (F : eM → Prop) (x2 : Int32) (x3 : Int32)
    (h : Cal G 0 68 (3, 0, 0) kX1_countPoints [.ref (G.1 23)] M (eFI (fun (r1 : Int32) (M1 : eM) => Cal G 0 68 (1, 0, 0) kX2_push [.ref (G.1 16), .int r1] M1 (eFV (fun (M2 : eM) => Ev (eZ G 0 68 0 0 (eFV F)) G 0 68 (4, 0, 0) kX2_reckon 374 [(0, .ref (G.1 16)), (2, .int x2), (3, .int x3)] [] M2 0 0))))) :
    Ev (eZ G 0 68 0 0 (eFV F)) G 0 68 (4, 0, 0) kX2_reckon 190 [(0, .ref (G.1 16)), (2, .int x2), (3, .int x3)] [] M 0 0 := by
  refine r_aload_n 0 dX2_reckon_190 rfl rfl ?_
  refine r_aload_n 0 dX2_reckon_191 rfl rfl ?_
  refine r_getR (c := 16) (k := 0) 23 dX2_reckon_192 clX2 lFX2_22 (by decide) iF16 sC16 rfl ?_
  refine r_callVI (b' := (3, 0, 0)) (c := 23) (S := [.ref (G.1 16)]) [] dX2_reckon_195 mX1_countPoints lMX2_162 clX1 rfl iF23 sC23 rfl (by decide) (Nat.le_of_ble_eq_true rfl) h (fun r1 M1 h => ?_) rfl
  refine r_callVV (b' := (1, 0, 0)) (c := 16) (S := []) [.int r1] dX2_reckon_198 mX2_push lMX2_153 clX2 rfl iF16 sC16 rfl (by decide) (Nat.le_of_ble_eq_true rfl) h (fun M2 h => ?_) rfl
  refine r_goto (t := 374) dX2_reckon_201 (by decide) ?_
  exact h
set_option maxHeartbeats 4000000 in
set_option maxRecDepth 100000 in
theorem B_X2_reckon_176 (G : eG) (M : eM) (F : eM → Prop) (x2 : Int32) (x3 : Int32)
    (h : Cal G 0 68 (2, 0, 0) kX1_countMatches [.ref (G.1 23)] M (eFI (fun (r1 : Int32) (M1 : eM) => Cal G 0 68 (1, 0, 0) kX2_push [.ref (G.1 16), .int r1] M1 (eFV (fun (M2 : eM) => Ev (eZ G 0 68 0 0 (eFV F)) G 0 68 (4, 0, 0) kX2_reckon 374 [(0, .ref (G.1 16)), (2, .int x2), (3, .int x3)] [] M2 0 0))))) :
    Ev (eZ G 0 68 0 0 (eFV F)) G 0 68 (4, 0, 0) kX2_reckon 176 [(0, .ref (G.1 16)), (2, .int x2), (3, .int x3)] [] M 0 0 := by
  refine r_aload_n 0 dX2_reckon_176 rfl rfl ?_
  refine r_aload_n 0 dX2_reckon_177 rfl rfl ?_
  refine r_getR (c := 16) (k := 0) 23 dX2_reckon_178 clX2 lFX2_22 (by decide) iF16 sC16 rfl ?_
  refine r_callVI (b' := (2, 0, 0)) (c := 23) (S := [.ref (G.1 16)]) [] dX2_reckon_181 mX1_countMatches lMX2_159 clX1 rfl iF23 sC23 rfl (by decide) (Nat.le_of_ble_eq_true rfl) h (fun r1 M1 h => ?_) rfl
  refine r_callVV (b' := (1, 0, 0)) (c := 16) (S := []) [.int r1] dX2_reckon_184 mX2_push lMX2_153 clX2 rfl iF16 sC16 rfl (by decide) (Nat.le_of_ble_eq_true rfl) h (fun M2 h => ?_) rfl
  refine r_goto (t := 374) dX2_reckon_187 (by decide) ?_
  exact h
set_option maxHeartbeats 4000000 in
set_option maxRecDepth 100000 in
theorem B_X2_reckon_162 (G : eG) (M : eM) (F : eM → Prop) (x2 : Int32) (x3 : Int32)
    (h : Cal G 0 68 (1, 0, 0) kX2_push [.ref (G.1 16), .int (M 23 4)] M (eFV (fun (M1 : eM) => Ev (eZ G 0 68 0 0 (eFV F)) G 0 68 (4, 0, 0) kX2_reckon 374 [(0, .ref (G.1 16)), (2, .int x2), (3, .int x3)] [] M1 0 0))) :
    Ev (eZ G 0 68 0 0 (eFV F)) G 0 68 (4, 0, 0) kX2_reckon 162 [(0, .ref (G.1 16)), (2, .int x2), (3, .int x3)] [] M 0 0 := by
  refine r_aload_n 0 dX2_reckon_162 rfl rfl ?_
  refine r_aload_n 0 dX2_reckon_163 rfl rfl ?_
  refine r_getR (c := 16) (k := 0) 23 dX2_reckon_164 clX2 lFX2_22 (by decide) iF16 sC16 rfl ?_
  refine r_getI (c := 23) (k := 4) dX2_reckon_167 clX1 lFX2_156 (by decide) iF23 sC23 rfl ?_
  refine r_callVV (b' := (1, 0, 0)) (c := 16) (S := []) [.int (M 23 4)] dX2_reckon_170 mX2_push lMX2_153 clX2 rfl iF16 sC16 rfl (by decide) (Nat.le_of_ble_eq_true rfl) h (fun M1 h => ?_) rfl
  refine r_goto (t := 374) dX2_reckon_173 (by decide) ?_
  exact h
set_option maxHeartbeats 4000000 in
set_option maxRecDepth 100000 in
theorem B_X2_reckon_151 (G : eG) (M : eM) (F : eM → Prop) (x2 : Int32) (x3 : Int32)
    (h : Cal G 0 68 (1, 0, 0) kX2_push [.ref (G.1 16), .int (M 16 5)] M (eFV (fun (M1 : eM) => Ev (eZ G 0 68 0 0 (eFV F)) G 0 68 (4, 0, 0) kX2_reckon 374 [(0, .ref (G.1 16)), (2, .int x2), (3, .int x3)] [] M1 0 0))) :
    Ev (eZ G 0 68 0 0 (eFV F)) G 0 68 (4, 0, 0) kX2_reckon 151 [(0, .ref (G.1 16)), (2, .int x2), (3, .int x3)] [] M 0 0 := by
  refine r_aload_n 0 dX2_reckon_151 rfl rfl ?_
  refine r_aload_n 0 dX2_reckon_152 rfl rfl ?_
  refine r_getI (c := 16) (k := 5) dX2_reckon_153 clX2 lFX2_35 (by decide) iF16 sC16 rfl ?_
  refine r_callVV (b' := (1, 0, 0)) (c := 16) (S := []) [.int (M 16 5)] dX2_reckon_156 mX2_push lMX2_153 clX2 rfl iF16 sC16 rfl (by decide) (Nat.le_of_ble_eq_true rfl) h (fun M1 h => ?_) rfl
  refine r_goto (t := 374) dX2_reckon_159 (by decide) ?_
  exact h
set_option maxHeartbeats 4000000 in
set_option maxRecDepth 100000 in
theorem B_X2_reckon_136 (G : eG) (M : eM) (F : eM → Prop) (x2 : Int32) (x3 : Int32)
    (h : Cal G 0 68 (1, 0, 0) kX7_operand [.ref (G.1 21), .int x3] M (eFI (fun (r1 : Int32) (M1 : eM) => Cal G 0 68 (1, 0, 0) kX2_push [.ref (G.1 16), .int r1] M1 (eFV (fun (M2 : eM) => Ev (eZ G 0 68 0 0 (eFV F)) G 0 68 (4, 0, 0) kX2_reckon 374 [(0, .ref (G.1 16)), (2, .int x2), (3, .int x3)] [] M2 0 0))))) :
    Ev (eZ G 0 68 0 0 (eFV F)) G 0 68 (4, 0, 0) kX2_reckon 136 [(0, .ref (G.1 16)), (2, .int x2), (3, .int x3)] [] M 0 0 := by
  refine r_aload_n 0 dX2_reckon_136 rfl rfl ?_
  refine r_aload_n 0 dX2_reckon_137 rfl rfl ?_
  refine r_getR (c := 16) (k := 1) 21 dX2_reckon_138 clX2 lFX2_12 (by decide) iF16 sC16 rfl ?_
  refine r_iload_n 2 dX2_reckon_141 rfl rfl ?_
  refine r_callVI (b' := (1, 0, 0)) (c := 21) (S := [.ref (G.1 16)]) [.int x3] dX2_reckon_142 mX7_operand lMX2_150 clX7 rfl iF21 sC21 rfl (by decide) (Nat.le_of_ble_eq_true rfl) h (fun r1 M1 h => ?_) rfl
  refine r_callVV (b' := (1, 0, 0)) (c := 16) (S := []) [.int r1] dX2_reckon_145 mX2_push lMX2_153 clX2 rfl iF16 sC16 rfl (by decide) (Nat.le_of_ble_eq_true rfl) h (fun M2 h => ?_) rfl
  refine r_goto (t := 374) dX2_reckon_148 (by decide) ?_
  exact h
set_option maxHeartbeats 4000000 in
set_option maxRecDepth 100000 in
theorem C_X2_reckon (G : eG) (M : eM) (F : eM → Prop) (a1 : Int32) (a2 : Int32)
    (h : Ev (eZ G 0 68 0 0 (eFV F)) G 0 68 (4, 0, 0) kX2_reckon 7 [(0, .ref (G.1 16)), (2, .int a2), (3, .int a1)] [] (eU M 16 3 0) 0 0) :
    Cal G 0 68 (4, 0, 0) kX2_reckon [.ref (G.1 16), .int a1, .int a2] M (eFV F) := by
  refine Cal.of (by decide +kernel) rfl (Nat.le_of_ble_eq_true rfl) ?_
  show Ev (eZ G 0 68 0 0 (eFV F)) G 0 68 (4, 0, 0) kX2_reckon 0 [(0, .ref (G.1 16)), (1, .int a1), (2, .int a2)] [] M 0 0
  refine r_aload_n 0 dX2_reckon_0 rfl rfl ?_
  refine r_iconst (v := 0) dX2_reckon_1 rfl ?_
  refine r_putI (c := 16) (k := 3) dX2_reckon_2 clX2 lFX2_143 (by decide) iF16 sC16 rfl rfl rfl ?_
  refine r_iload_n 1 dX2_reckon_5 rfl rfl ?_
  refine r_istore_n (l' := [(3, .int a1), (0, .ref (G.1 16)), (1, .int a1), (2, .int a2)]) dX2_reckon_6 rfl (by decide) rfl ?_
  exact Ev.sub (ks := [1, 3, 0]) rfl h
set_option maxHeartbeats 4000000 in
set_option maxRecDepth 100000 in
theorem B_X2_combined_116 (G : eG) (M : eM) (F : Int32 → eM → Prop) (x0 : Int32) (x1 : Int32) (x2 : Int32)
    (h : Cal G 0 68 (2, 0, 0) kX2_holdsBetween [eV G 1 x0, .int x1, .int x2] M (eFZ (fun (r1 : Bool) (M1 : eM) => ((r1 = false) → F 0 M1) ∧ ((r1 = true) → F 1 M1)))) :
    Ev (eZ G 0 68 0 0 (eFI F)) G 0 68 (3, 0, 0) kX2_combined 116 [(0, eV G 1 x0), (1, .int x1), (2, .int x2)] [] M 0 0 := by
  refine r_kload_n 0 dX2_combined_116 rfl rfl ?_
  refine r_iload_n 1 dX2_combined_117 rfl rfl ?_
  refine r_iload_n 2 dX2_combined_118 rfl rfl ?_
  refine r_callSZ (b' := (2, 0, 0)) (S := []) [eV G 1 x0, .int x1, .int x2] dX2_combined_119 mX2_holdsBetween lMX2_183 rfl (by decide) (Nat.le_of_ble_eq_true rfl) h (fun r1 M1 h => ?_) rfl
  refine r_zif_eq (t := 129) dX2_combined_122 (by decide) (fun q => ?_) (fun q => ?_)
  · replace h := h.1 q
    refine r_iconst (v := 0) dX2_combined_129 rfl ?_
    refine r_iretI dX2_combined_130 rfl (by decide) (by decide) h
  · replace h := h.2 q
    refine r_iconst (v := 1) dX2_combined_125 rfl ?_
    refine r_goto (t := 130) dX2_combined_126 (by decide) ?_
    refine r_iretI dX2_combined_130 rfl (by decide) (by decide) h
set_option maxHeartbeats 4000000 in
set_option maxRecDepth 100000 in
theorem B_X2_combined_92 (G : eG) (M : eM) (F : Int32 → eM → Prop) (x1 : Int32) (x2 : Int32)
    (h : ((¬ x2 = 0) → (¬ x2 = 0) ∧ (F (x1 / x2) M)) ∧ ((x2 = 0) → F 0 M)) :
    Ev (eZ G 0 68 0 0 (eFI F)) G 0 68 (3, 0, 0) kX2_combined 92 [(1, .int x1), (2, .int x2)] [] M 0 0 := by
  refine r_iload_n 1 dX2_combined_92 rfl rfl ?_
  refine r_if_ne (t := 100) dX2_combined_93 (by decide) (fun q => ?_) (fun q => ?_)
  · replace h := h.1 q
    refine r_iload_n 0 dX2_combined_100 rfl rfl ?_
    refine r_iload_n 1 dX2_combined_101 rfl rfl ?_
    have h1 := h.1
    replace h := h.2
    refine r_idiv dX2_combined_102 h1 ?_
    refine r_iretI dX2_combined_103 rfl (by decide) (by decide) h
  · replace h := h.2 q
    refine r_iconst (v := 0) dX2_combined_96 rfl ?_
    refine r_goto (t := 103) dX2_combined_97 (by decide) ?_
    refine r_iretI dX2_combined_103 rfl (by decide) (by decide) h
set_option maxHeartbeats 4000000 in
set_option maxRecDepth 100000 in
theorem B_X2_holdsBetween_121 (G : eG) (M : eM) (F : Bool → eM → Prop) (x1 : Int32) (x2 : Int32)
    (h : ((¬ x1 = 0) → F true M) ∧ ((x1 = 0) → ((x2 = 0) → F false M) ∧ ((¬ x2 = 0) → F true M))) :
    Ev (eZ G 0 68 0 0 (eFZ F)) G 0 68 (2, 0, 0) kX2_holdsBetween 121 [(1, .int x1), (2, .int x2)] [] M 0 0 := by
  refine r_iload_n 0 dX2_holdsBetween_121 rfl rfl ?_
  refine r_if_ne (t := 129) dX2_holdsBetween_122 (by decide) (fun q => ?_) (fun q => ?_)
  · replace h := h.1 q
    refine r_iconst (v := 1) dX2_holdsBetween_129 rfl ?_
    refine r_goto (t := 134) dX2_holdsBetween_130 (by decide) ?_
    refine r_iretZ1 dX2_holdsBetween_134 rfl (by decide) (by decide) h
  · replace h := h.2 q
    refine r_iload_n 1 dX2_holdsBetween_125 rfl rfl ?_
    refine r_if_eq (t := 133) dX2_holdsBetween_126 (by decide) (fun q => ?_) (fun q => ?_)
    · replace h := h.1 q
      refine r_iconst (v := 0) dX2_holdsBetween_133 rfl ?_
      refine r_iretZ0 dX2_holdsBetween_134 rfl (by decide) (by decide) h
    · replace h := h.2 q
      refine r_iconst (v := 1) dX2_holdsBetween_129 rfl ?_
      refine r_goto (t := 134) dX2_holdsBetween_130 (by decide) ?_
      refine r_iretZ1 dX2_holdsBetween_134 rfl (by decide) (by decide) h
set_option maxHeartbeats 4000000 in
set_option maxRecDepth 100000 in
theorem B_X2_holdsBetween_107 (G : eG) (M : eM) (F : Bool → eM → Prop) (x1 : Int32) (x2 : Int32)
    (h : ((x1 = 0) → F false M) ∧ ((¬ x1 = 0) → ((x2 = 0) → F false M) ∧ ((¬ x2 = 0) → F true M))) :
    Ev (eZ G 0 68 0 0 (eFZ F)) G 0 68 (2, 0, 0) kX2_holdsBetween 107 [(1, .int x1), (2, .int x2)] [] M 0 0 := by
  refine r_iload_n 0 dX2_holdsBetween_107 rfl rfl ?_
  refine r_if_eq (t := 119) dX2_holdsBetween_108 (by decide) (fun q => ?_) (fun q => ?_)
  · replace h := h.1 q
    refine r_iconst (v := 0) dX2_holdsBetween_119 rfl ?_
    refine r_iretZ0 dX2_holdsBetween_120 rfl (by decide) (by decide) h
  · replace h := h.2 q
    refine r_iload_n 1 dX2_holdsBetween_111 rfl rfl ?_
    refine r_if_eq (t := 119) dX2_holdsBetween_112 (by decide) (fun q => ?_) (fun q => ?_)
    · replace h := h.1 q
      refine r_iconst (v := 0) dX2_holdsBetween_119 rfl ?_
      refine r_iretZ0 dX2_holdsBetween_120 rfl (by decide) (by decide) h
    · replace h := h.2 q
      refine r_iconst (v := 1) dX2_holdsBetween_115 rfl ?_
      refine r_goto (t := 120) dX2_holdsBetween_116 (by decide) ?_
      refine r_iretZ1 dX2_holdsBetween_120 rfl (by decide) (by decide) h
set_option maxHeartbeats 4000000 in
set_option maxRecDepth 100000 in
theorem B_X2_holdsBetween_96 (G : eG) (M : eM) (F : Bool → eM → Prop) (x1 : Int32) (x2 : Int32)
    (h : ((x1 < x2) → F false M) ∧ ((¬ x1 < x2) → F true M)) :
    Ev (eZ G 0 68 0 0 (eFZ F)) G 0 68 (2, 0, 0) kX2_holdsBetween 96 [(1, .int x1), (2, .int x2)] [] M 0 0 := by
  refine r_iload_n 0 dX2_holdsBetween_96 rfl rfl ?_
  refine r_iload_n 1 dX2_holdsBetween_97 rfl rfl ?_
  refine r_icmp_lt (t := 105) dX2_holdsBetween_98 (by decide) (fun q => ?_) (fun q => ?_)
  · replace h := h.1 q
    refine r_iconst (v := 0) dX2_holdsBetween_105 rfl ?_
    refine r_iretZ0 dX2_holdsBetween_106 rfl (by decide) (by decide) h
  · replace h := h.2 q
    refine r_iconst (v := 1) dX2_holdsBetween_101 rfl ?_
    refine r_goto (t := 106) dX2_holdsBetween_102 (by decide) ?_
    refine r_iretZ1 dX2_holdsBetween_106 rfl (by decide) (by decide) h
set_option maxHeartbeats 4000000 in
set_option maxRecDepth 100000 in
theorem B_X2_holdsBetween_85 (G : eG) (M : eM) (F : Bool → eM → Prop) (x1 : Int32) (x2 : Int32)
    (h : ((x2 < x1) → F false M) ∧ ((¬ x2 < x1) → F true M)) :
    Ev (eZ G 0 68 0 0 (eFZ F)) G 0 68 (2, 0, 0) kX2_holdsBetween 85 [(1, .int x1), (2, .int x2)] [] M 0 0 := by
  refine r_iload_n 0 dX2_holdsBetween_85 rfl rfl ?_
  refine r_iload_n 1 dX2_holdsBetween_86 rfl rfl ?_
  refine r_icmp_gt (t := 94) dX2_holdsBetween_87 (by decide) (fun q => ?_) (fun q => ?_)
  · replace h := h.1 q
    refine r_iconst (v := 0) dX2_holdsBetween_94 rfl ?_
    refine r_iretZ0 dX2_holdsBetween_95 rfl (by decide) (by decide) h
  · replace h := h.2 q
    refine r_iconst (v := 1) dX2_holdsBetween_90 rfl ?_
    refine r_goto (t := 95) dX2_holdsBetween_91 (by decide) ?_
    refine r_iretZ1 dX2_holdsBetween_95 rfl (by decide) (by decide) h
set_option maxHeartbeats 4000000 in
set_option maxRecDepth 100000 in
theorem B_X2_holdsBetween_74 (G : eG) (M : eM) (F : Bool → eM → Prop) (x1 : Int32) (x2 : Int32)
    (h : ((¬ x1 = x2) → F false M) ∧ ((x1 = x2) → F true M)) :
    Ev (eZ G 0 68 0 0 (eFZ F)) G 0 68 (2, 0, 0) kX2_holdsBetween 74 [(1, .int x1), (2, .int x2)] [] M 0 0 := by
  refine r_iload_n 0 dX2_holdsBetween_74 rfl rfl ?_
  refine r_iload_n 1 dX2_holdsBetween_75 rfl rfl ?_
  refine r_icmp_ne (t := 83) dX2_holdsBetween_76 (by decide) (fun q => ?_) (fun q => ?_)
  · replace h := h.1 q
    refine r_iconst (v := 0) dX2_holdsBetween_83 rfl ?_
    refine r_iretZ0 dX2_holdsBetween_84 rfl (by decide) (by decide) h
  · replace h := h.2 q
    refine r_iconst (v := 1) dX2_holdsBetween_79 rfl ?_
    refine r_goto (t := 84) dX2_holdsBetween_80 (by decide) ?_
    refine r_iretZ1 dX2_holdsBetween_84 rfl (by decide) (by decide) h
set_option maxHeartbeats 4000000 in
set_option maxRecDepth 100000 in
theorem B_X2_holdsBetween_63 (G : eG) (M : eM) (F : Bool → eM → Prop) (x1 : Int32) (x2 : Int32)
    (h : ((x1 ≤ x2) → F false M) ∧ ((¬ x1 ≤ x2) → F true M)) :
    Ev (eZ G 0 68 0 0 (eFZ F)) G 0 68 (2, 0, 0) kX2_holdsBetween 63 [(1, .int x1), (2, .int x2)] [] M 0 0 := by
  refine r_iload_n 0 dX2_holdsBetween_63 rfl rfl ?_
  refine r_iload_n 1 dX2_holdsBetween_64 rfl rfl ?_
  refine r_icmp_le (t := 72) dX2_holdsBetween_65 (by decide) (fun q => ?_) (fun q => ?_)
  · replace h := h.1 q
    refine r_iconst (v := 0) dX2_holdsBetween_72 rfl ?_
    refine r_iretZ0 dX2_holdsBetween_73 rfl (by decide) (by decide) h
  · replace h := h.2 q
    refine r_iconst (v := 1) dX2_holdsBetween_68 rfl ?_
    refine r_goto (t := 73) dX2_holdsBetween_69 (by decide) ?_
    refine r_iretZ1 dX2_holdsBetween_73 rfl (by decide) (by decide) h
set_option maxHeartbeats 4000000 in
set_option maxRecDepth 100000 in
theorem B_X2_holdsBetween_52 (G : eG) (M : eM) (F : Bool → eM → Prop) (x1 : Int32) (x2 : Int32)
    (h : ((x2 ≤ x1) → F false M) ∧ ((¬ x2 ≤ x1) → F true M)) :
    Ev (eZ G 0 68 0 0 (eFZ F)) G 0 68 (2, 0, 0) kX2_holdsBetween 52 [(1, .int x1), (2, .int x2)] [] M 0 0 := by
  refine r_iload_n 0 dX2_holdsBetween_52 rfl rfl ?_
  refine r_iload_n 1 dX2_holdsBetween_53 rfl rfl ?_
  refine r_icmp_ge (t := 61) dX2_holdsBetween_54 (by decide) (fun q => ?_) (fun q => ?_)
  · replace h := h.1 q
    refine r_iconst (v := 0) dX2_holdsBetween_61 rfl ?_
    refine r_iretZ0 dX2_holdsBetween_62 rfl (by decide) (by decide) h
  · replace h := h.2 q
    refine r_iconst (v := 1) dX2_holdsBetween_57 rfl ?_
    refine r_goto (t := 62) dX2_holdsBetween_58 (by decide) ?_
    refine r_iretZ1 dX2_holdsBetween_62 rfl (by decide) (by decide) h
set_option maxHeartbeats 4000000 in
set_option maxRecDepth 100000 in
theorem C_X2_remainder (G : eG) (M : eM) (F : Int32 → eM → Prop) (a1 : Int32) (a2 : Int32)
    (h : ((a2 ≤ 0) → F 0 M) ∧ ((¬ a2 ≤ 0) → Cal G 0 68 (1, 0, 0) kJ9_floorMod_7cf53 [.int a1, .int a2] M (eFI (fun (r1 : Int32) (M1 : eM) => F r1 M1)))) :
    Cal G 0 68 (2, 0, 0) kX2_remainder [.int a1, .int a2] M (eFI F) := by
  refine Cal.of (by decide +kernel) rfl (Nat.le_of_ble_eq_true rfl) ?_
  show Ev (eZ G 0 68 0 0 (eFI F)) G 0 68 (2, 0, 0) kX2_remainder 0 [(0, .int a1), (1, .int a2)] [] M 0 0
  refine r_iload_n 1 dX2_remainder_0 rfl rfl ?_
  refine r_if_le (t := 12) dX2_remainder_1 (by decide) (fun q => ?_) (fun q => ?_)
  · replace h := h.1 q
    refine r_iconst (v := 0) dX2_remainder_12 rfl ?_
    refine r_iretI dX2_remainder_13 rfl (by decide) (by decide) h
  · replace h := h.2 q
    refine r_iload_n 0 dX2_remainder_4 rfl rfl ?_
    refine r_iload_n 1 dX2_remainder_5 rfl rfl ?_
    refine r_callSI (b' := (1, 0, 0)) (S := []) [.int a1, .int a2] dX2_remainder_6 mJ9_floorMod_7cf53 lMX2_187 rfl (by decide) (Nat.le_of_ble_eq_true rfl) h (fun r1 M1 h => ?_) rfl
    refine r_goto (t := 13) dX2_remainder_9 (by decide) ?_
    refine r_iretI dX2_remainder_13 rfl (by decide) (by decide) h
set_option maxHeartbeats 4000000 in
set_option maxRecDepth 100000 in
theorem C_X2_push (G : eG) (M : eM) (F : eM → Prop) (a1 : Int32)
    (h : ((400 ≤ (M 16 3)) → F M) ∧ ((¬ 400 ≤ (M 16 3)) → vp_in (M 16 3) 400 ∧ (F (eU (eU M 17 (M 16 3).toNatClampNeg a1) 16 3 (((eU M 17 (M 16 3).toNatClampNeg a1) 16 3) + 1))))) :
    Cal G 0 68 (1, 0, 0) kX2_push [.ref (G.1 16), .int a1] M (eFV F) := by
  refine Cal.of (by decide +kernel) rfl (Nat.le_of_ble_eq_true rfl) ?_
  show Ev (eZ G 0 68 0 0 (eFV F)) G 0 68 (1, 0, 0) kX2_push 0 [(0, .ref (G.1 16)), (1, .int a1)] [] M 0 0
  refine r_aload_n 0 dX2_push_0 rfl rfl ?_
  refine r_getI (c := 16) (k := 3) dX2_push_1 clX2 lFX2_143 (by decide) iF16 sC16 rfl ?_
  refine r_aload_n 0 dX2_push_4 rfl rfl ?_
  refine r_getR (c := 16) (k := 2) 17 dX2_push_5 clX2 lFX2_18 (by decide) iF16 sC16 rfl ?_
  refine r_alen (c := 17) (v := 400) dX2_push_8 iF17 sC17 rfl ?_
  refine r_icmp_ge (t := 32) dX2_push_9 (by decide) (fun q => ?_) (fun q => ?_)
  · replace h := h.1 q
    refine r_vretV dX2_push_32 rfl (by decide) (by decide) h
  · replace h := h.2 q
    refine r_aload_n 0 dX2_push_12 rfl rfl ?_
    refine r_getR (c := 16) (k := 2) 17 dX2_push_13 clX2 lFX2_18 (by decide) iF16 sC16 rfl ?_
    refine r_aload_n 0 dX2_push_16 rfl rfl ?_
    refine r_getI (c := 16) (k := 3) dX2_push_17 clX2 lFX2_143 (by decide) iF16 sC16 rfl ?_
    refine r_iload_n 1 dX2_push_20 rfl rfl ?_
    have h1 := h.1
    replace h := h.2
    refine r_iast (c := 17) (N := 400) dX2_push_21 iF17 sC17 h1 ?_
    refine r_aload_n 0 dX2_push_22 rfl rfl ?_
    refine r_dup dX2_push_23 rfl ?_
    refine r_getI (c := 16) (k := 3) dX2_push_24 clX2 lFX2_143 (by decide) iF16 sC16 rfl ?_
    refine r_iconst (v := 1) dX2_push_27 rfl ?_
    refine r_iadd dX2_push_28 ?_
    refine r_putI (c := 16) (k := 3) dX2_push_29 clX2 lFX2_143 (by decide) iF16 sC16 rfl rfl rfl ?_
    refine r_vretV dX2_push_32 rfl (by decide) (by decide) h
set_option maxHeartbeats 4000000 in
set_option maxRecDepth 100000 in
theorem C_X2_pop (G : eG) (M : eM) (F : Int32 → eM → Prop) 
    (h : ((0 < (M 16 3)) → vp_in ((eU M 16 3 ((M 16 3) - 1)) 16 3) 400 ∧ (F ((eU M 16 3 ((M 16 3) - 1)) 17 ((eU M 16 3 ((M 16 3) - 1)) 16 3).toNatClampNeg) (eU M 16 3 ((M 16 3) - 1)))) ∧ ((¬ 0 < (M 16 3)) → F 0 M)) :
    Cal G 0 68 (1, 0, 0) kX2_pop [.ref (G.1 16)] M (eFI F) := by
  refine Cal.of (by decide +kernel) rfl (Nat.le_of_ble_eq_true rfl) ?_
  show Ev (eZ G 0 68 0 0 (eFI F)) G 0 68 (1, 0, 0) kX2_pop 0 [(0, .ref (G.1 16))] [] M 0 0
  refine r_aload_n 0 dX2_pop_0 rfl rfl ?_
  refine r_getI (c := 16) (k := 3) dX2_pop_1 clX2 lFX2_143 (by decide) iF16 sC16 rfl ?_
  refine r_if_gt (t := 9) dX2_pop_4 (by decide) (fun q => ?_) (fun q => ?_)
  · replace h := h.1 q
    refine r_aload_n 0 dX2_pop_9 rfl rfl ?_
    refine r_dup dX2_pop_10 rfl ?_
    refine r_getI (c := 16) (k := 3) dX2_pop_11 clX2 lFX2_143 (by decide) iF16 sC16 rfl ?_
    refine r_iconst (v := 1) dX2_pop_14 rfl ?_
    refine r_isub dX2_pop_15 ?_
    refine r_putI (c := 16) (k := 3) dX2_pop_16 clX2 lFX2_143 (by decide) iF16 sC16 rfl rfl rfl ?_
    refine r_aload_n 0 dX2_pop_19 rfl rfl ?_
    refine r_getR (c := 16) (k := 2) 17 dX2_pop_20 clX2 lFX2_18 (by decide) iF16 sC16 rfl ?_
    refine r_aload_n 0 dX2_pop_23 rfl rfl ?_
    refine r_getI (c := 16) (k := 3) dX2_pop_24 clX2 lFX2_143 (by decide) iF16 sC16 rfl ?_
    have h1 := h.1
    replace h := h.2
    refine r_iald (c := 17) (N := 400) dX2_pop_27 iF17 sC17 h1 ?_
    refine r_iretI dX2_pop_28 rfl (by decide) (by decide) h
  · replace h := h.2 q
    refine r_iconst (v := 0) dX2_pop_7 rfl ?_
    refine r_iretI dX2_pop_8 rfl (by decide) (by decide) h
set_option maxHeartbeats 4000000 in
set_option maxRecDepth 100000 in
theorem B_X5_firstError_22 (G : eG) (M : eM) (F : Int32 → eM → Prop) 
    (h : (((M 3 5) ≤ (M 14 6)) → Cal G 0 68 (2, 0, 0) kX7_resolve [.ref (G.1 8), .ref (G.1 3)] M (eFV (fun (M1 : eM) => F 0 M1))) ∧ ((¬ (M 3 5) ≤ (M 14 6)) → Cal G 0 68 (5, 0, 0) kX5_errorAtToken [.ref (G.1 14)] M (eFI (fun (r2 : Int32) (M2 : eM) => ((r2 = 0) → Ev (eZ G 0 68 0 0 (eFI F)) G 0 68 (6, 0, 0) kX5_firstError 22 [(0, .ref (G.1 14))] [] (eU M2 14 6 ((M2 14 6) + 1)) 0 0) ∧ ((¬ r2 = 0) → F r2 M2))))) :
    Ev (eZ G 0 68 0 0 (eFI F)) G 0 68 (6, 0, 0) kX5_firstError 22 [(0, .ref (G.1 14))] [] M 0 0 := by
  refine r_aload_n 0 dX5_firstError_22 rfl rfl ?_
  refine r_getI (c := 14) (k := 6) dX5_firstError_23 clX5 lFX5_39 (by decide) iF14 sC14 rfl ?_
  refine r_aload_n 0 dX5_firstError_26 rfl rfl ?_
  refine r_getR (c := 14) (k := 0) 3 dX5_firstError_27 clX5 lFX5_24 (by decide) iF14 sC14 rfl ?_
  refine r_getI (c := 3) (k := 5) dX5_firstError_30 clX9 lFX5_42 (by decide) iF3 sC3 rfl ?_
  refine r_icmp_ge (t := 60) dX5_firstError_33 (by decide) (fun q => ?_) (fun q => ?_)
  · replace h := h.1 q
    refine r_aload_n 0 dX5_firstError_60 rfl rfl ?_
    refine r_getR (c := 14) (k := 1) 8 dX5_firstError_61 clX5 lFX5_28 (by decide) iF14 sC14 rfl ?_
    refine r_aload_n 0 dX5_firstError_64 rfl rfl ?_
    refine r_getR (c := 14) (k := 0) 3 dX5_firstError_65 clX5 lFX5_24 (by decide) iF14 sC14 rfl ?_
    refine r_callVV (b' := (2, 0, 0)) (c := 8) (S := []) [.ref (G.1 3)] dX5_firstError_68 mX7_resolve lMX5_51 clX7 rfl iF8 sC8 rfl (by decide) (Nat.le_of_ble_eq_true rfl) h (fun M1 h => ?_) rfl
    refine r_iconst (v := 0) dX5_firstError_71 rfl ?_
    refine r_iretI dX5_firstError_72 rfl (by decide) (by decide) h
  · replace h := h.2 q
    refine r_aload_n 0 dX5_firstError_36 rfl rfl ?_
    refine r_callVI (b' := (5, 0, 0)) (c := 14) (S := []) [] dX5_firstError_37 mX5_errorAtToken lMX5_47 clX5 rfl iF14 sC14 rfl (by decide) (Nat.le_of_ble_eq_true rfl) h (fun r2 M2 h => ?_) rfl
    refine r_istore_n (l' := [(1, .int r2), (0, .ref (G.1 14))]) dX5_firstError_40 rfl (by decide) rfl ?_
    refine r_iload_n 0 dX5_firstError_41 rfl rfl ?_
    refine r_if_eq (t := 47) dX5_firstError_42 (by decide) (fun q => ?_) (fun q => ?_)
    · replace h := h.1 q
      refine r_aload_n 1 dX5_firstError_47 rfl rfl ?_
      refine r_dup dX5_firstError_48 rfl ?_
      refine r_getI (c := 14) (k := 6) dX5_firstError_49 clX5 lFX5_39 (by decide) iF14 sC14 rfl ?_
      refine r_iconst (v := 1) dX5_firstError_52 rfl ?_
      refine r_iadd dX5_firstError_53 ?_
      refine r_putI (c := 14) (k := 6) dX5_firstError_54 clX5 lFX5_39 (by decide) iF14 sC14 rfl rfl rfl ?_
      refine r_goto (t := 22) dX5_firstError_57 (by decide) ?_
      exact Ev.sub (ks := [1]) rfl h
    · replace h := h.2 q
      refine r_iload_n 0 dX5_firstError_45 rfl rfl ?_
      refine r_iretI dX5_firstError_46 rfl (by decide) (by decide) h
set_option maxHeartbeats 4000000 in
set_option maxRecDepth 100000 in
theorem C_X5_firstError (G : eG) (M : eM) (F : Int32 → eM → Prop) 
    (h : Ev (eZ G 0 68 0 0 (eFI F)) G 0 68 (6, 0, 0) kX5_firstError 22 [(0, .ref (G.1 14))] [] (eU (eU (eU (eU M 14 3 0) 14 4 0) 14 5 42) 14 6 0) 0 0) :
    Cal G 0 68 (6, 0, 0) kX5_firstError [.ref (G.1 14)] M (eFI F) := by
  refine Cal.of (by decide +kernel) rfl (Nat.le_of_ble_eq_true rfl) ?_
  show Ev (eZ G 0 68 0 0 (eFI F)) G 0 68 (6, 0, 0) kX5_firstError 0 [(0, .ref (G.1 14))] [] M 0 0
  refine r_aload_n 0 dX5_firstError_0 rfl rfl ?_
  refine r_iconst (v := 0) dX5_firstError_1 rfl ?_
  refine r_putI (c := 14) (k := 3) dX5_firstError_2 clX5 lFX5_32 (by decide) iF14 sC14 rfl rfl rfl ?_
  refine r_aload_n 0 dX5_firstError_5 rfl rfl ?_
  refine r_iconst (v := 0) dX5_firstError_6 rfl ?_
  refine r_putI (c := 14) (k := 4) dX5_firstError_7 clX5 lFX5_36 (by decide) iF14 sC14 rfl rfl rfl ?_
  refine r_aload_n 0 dX5_firstError_10 rfl rfl ?_
  refine r_getsK (w := 42) 41 dX5_firstError_11 lFX5_15 (by decide) rfl rfl ?_
  refine r_putK (c := 14) (k := 5) dX5_firstError_14 clX5 lFX5_21 (by decide) iF14 sC14 rfl rfl rfl ?_
  refine r_aload_n 0 dX5_firstError_17 rfl rfl ?_
  refine r_iconst (v := 0) dX5_firstError_18 rfl ?_
  refine r_putI (c := 14) (k := 6) dX5_firstError_19 clX5 lFX5_39 (by decide) iF14 sC14 rfl rfl rfl ?_
  exact h
set_option maxHeartbeats 4000000 in
set_option maxRecDepth 100000 in
theorem B_X5_errorAtToken_154 (G : eG) (M : eM) (F : Int32 → eM → Prop) 
    (h : Cal G 0 68 (1, 0, 0) kX9_valueOf [.ref (G.1 3), .int (M 14 6)] M (eFI (fun (r1 : Int32) (M1 : eM) => Cal G 0 68 (2, 0, 0) kX5_errorOfNumber [.ref (G.1 14), .int r1] M1 (eFI (fun (r2 : Int32) (M2 : eM) => F r2 M2))))) :
    Ev (eZ G 0 68 0 0 (eFI F)) G 0 68 (5, 0, 0) kX5_errorAtToken 154 [(0, .ref (G.1 14))] [] M 0 0 := by
  refine r_aload_n 0 dX5_errorAtToken_154 rfl rfl ?_
  refine r_aload_n 0 dX5_errorAtToken_155 rfl rfl ?_
  refine r_getR (c := 14) (k := 0) 3 dX5_errorAtToken_156 clX5 lFX5_24 (by decide) iF14 sC14 rfl ?_
  refine r_aload_n 0 dX5_errorAtToken_159 rfl rfl ?_
  refine r_getI (c := 14) (k := 6) dX5_errorAtToken_160 clX5 lFX5_39 (by decide) iF14 sC14 rfl ?_
  refine r_callVI (b' := (1, 0, 0)) (c := 3) (S := [.ref (G.1 14)]) [.int (M 14 6)] dX5_errorAtToken_163 mX9_valueOf lMX5_76 clX9 rfl iF3 sC3 rfl (by decide) (Nat.le_of_ble_eq_true rfl) h (fun r1 M1 h => ?_) rfl
  refine r_callVI (b' := (2, 0, 0)) (c := 14) (S := []) [.int r1] dX5_errorAtToken_166 mX5_errorOfNumber lMX5_79 clX5 rfl iF14 sC14 rfl (by decide) (Nat.le_of_ble_eq_true rfl) h (fun r2 M2 h => ?_) rfl
  refine r_iretI dX5_errorAtToken_169 rfl (by decide) (by decide) h
set_option maxHeartbeats 4000000 in
set_option maxRecDepth 100000 in
theorem B_X5_errorAtToken_145 (G : eG) (M : eM) (F : Int32 → eM → Prop) 
    (h : Cal G 0 68 (4, 0, 0) kX5_tileNamed [.ref (G.1 14)] M (eFI (fun (r1 : Int32) (M1 : eM) => Cal G 0 68 (2, 0, 0) kX5_errorOfName [.ref (G.1 14), .int r1] M1 (eFI (fun (r2 : Int32) (M2 : eM) => F r2 M2))))) :
    Ev (eZ G 0 68 0 0 (eFI F)) G 0 68 (5, 0, 0) kX5_errorAtToken 145 [(0, .ref (G.1 14))] [] M 0 0 := by
  refine r_aload_n 0 dX5_errorAtToken_145 rfl rfl ?_
  refine r_aload_n 0 dX5_errorAtToken_146 rfl rfl ?_
  refine r_callVI (b' := (4, 0, 0)) (c := 14) (S := [.ref (G.1 14)]) [] dX5_errorAtToken_147 mX5_tileNamed lMX5_69 clX5 rfl iF14 sC14 rfl (by decide) (Nat.le_of_ble_eq_true rfl) h (fun r1 M1 h => ?_) rfl
  refine r_callVI (b' := (2, 0, 0)) (c := 14) (S := []) [.int r1] dX5_errorAtToken_150 mX5_errorOfName lMX5_72 clX5 rfl iF14 sC14 rfl (by decide) (Nat.le_of_ble_eq_true rfl) h (fun r2 M2 h => ?_) rfl
  refine r_iretI dX5_errorAtToken_153 rfl (by decide) (by decide) h
set_option maxHeartbeats 4000000 in
set_option maxRecDepth 100000 in
theorem B_X5_errorAtToken_115 (G : eG) (M : eM) (F : Int32 → eM → Prop) (x1 : Int32)
    (h : ((((eU (eU M 14 5 x1) 14 4 (((eU M 14 5 x1) 14 4) + 1)) 14 4) ≤ 16) → F 0 (eU (eU M 14 5 x1) 14 4 (((eU M 14 5 x1) 14 4) + 1))) ∧ ((¬ ((eU (eU M 14 5 x1) 14 4 (((eU M 14 5 x1) 14 4) + 1)) 14 4) ≤ 16) → F 4 (eU (eU M 14 5 x1) 14 4 (((eU M 14 5 x1) 14 4) + 1)))) :
    Ev (eZ G 0 68 0 0 (eFI F)) G 0 68 (5, 0, 0) kX5_errorAtToken 115 [(0, .ref (G.1 14)), (1, eV G 1 x1)] [] M 0 0 := by
  refine r_aload_n 0 dX5_errorAtToken_115 rfl rfl ?_
  refine r_kload_n 1 dX5_errorAtToken_116 rfl rfl ?_
  refine r_putK (c := 14) (k := 5) dX5_errorAtToken_117 clX5 lFX5_21 (by decide) iF14 sC14 rfl rfl rfl ?_
  refine r_aload_n 0 dX5_errorAtToken_120 rfl rfl ?_
  refine r_dup dX5_errorAtToken_121 rfl ?_
  refine r_getI (c := 14) (k := 4) dX5_errorAtToken_122 clX5 lFX5_36 (by decide) iF14 sC14 rfl ?_
  refine r_iconst (v := 1) dX5_errorAtToken_125 rfl ?_
  refine r_iadd dX5_errorAtToken_126 ?_
  refine r_putI (c := 14) (k := 4) dX5_errorAtToken_127 clX5 lFX5_36 (by decide) iF14 sC14 rfl rfl rfl ?_
  refine r_aload_n 0 dX5_errorAtToken_130 rfl rfl ?_
  refine r_getI (c := 14) (k := 4) dX5_errorAtToken_131 clX5 lFX5_36 (by decide) iF14 sC14 rfl ?_
  refine r_bipush (v := 16) dX5_errorAtToken_134 rfl ?_
  refine r_icmp_le (t := 143) dX5_errorAtToken_136 (by decide) (fun q => ?_) (fun q => ?_)
  · replace h := h.1 q
    refine r_iconst (v := 0) dX5_errorAtToken_143 rfl ?_
    refine r_iretI dX5_errorAtToken_144 rfl (by decide) (by decide) h
  · replace h := h.2 q
    refine r_iconst (v := 4) dX5_errorAtToken_139 rfl ?_
    refine r_goto (t := 144) dX5_errorAtToken_140 (by decide) ?_
    refine r_iretI dX5_errorAtToken_144 rfl (by decide) (by decide) h
set_option maxHeartbeats 4000000 in
set_option maxRecDepth 100000 in
theorem B_X5_errorAtToken_108 (G : eG) (M : eM) (F : Int32 → eM → Prop) (x1 : Int32)
    (h : F 0 (eU M 14 5 x1)) :
    Ev (eZ G 0 68 0 0 (eFI F)) G 0 68 (5, 0, 0) kX5_errorAtToken 108 [(0, .ref (G.1 14)), (1, eV G 1 x1)] [] M 0 0 := by
  refine r_aload_n 0 dX5_errorAtToken_108 rfl rfl ?_
  refine r_kload_n 1 dX5_errorAtToken_109 rfl rfl ?_
  refine r_putK (c := 14) (k := 5) dX5_errorAtToken_110 clX5 lFX5_21 (by decide) iF14 sC14 rfl rfl rfl ?_
  refine r_iconst (v := 0) dX5_errorAtToken_113 rfl ?_
  refine r_iretI dX5_errorAtToken_114 rfl (by decide) (by decide) h
set_option maxHeartbeats 4000000 in
set_option maxRecDepth 100000 in
theorem C_X5_errorOfName (G : eG) (M : eM) (F : Int32 → eM → Prop) (a1 : Int32)
    (h : ((eKn1 (M 14 5) = eKn1 3) → ((a1 < 0) → (((M 14 3) < 16) → vp_in (M 14 3) 16 ∧ (F 0 (eU (eU M 15 (M 14 3).toNatClampNeg (M 14 6)) 14 3 (((eU M 15 (M 14 3).toNatClampNeg (M 14 6)) 14 3) + 1)))) ∧ ((¬ (M 14 3) < 16) → F 4 M)) ∧ ((¬ a1 < 0) → F 2 M)) ∧ ((¬ eKn1 (M 14 5) = eKn1 3) → Cal G 0 68 (1, 0, 0) kX9_setValue [.ref (G.1 3), .int (M 14 6), .int a1] M (eFV (fun (M1 : eM) => ((0 ≤ a1) → F 0 M1) ∧ ((¬ 0 ≤ a1) → F 3 M1))))) :
    Cal G 0 68 (2, 0, 0) kX5_errorOfName [.ref (G.1 14), .int a1] M (eFI F) := by
  refine Cal.of (by decide +kernel) rfl (Nat.le_of_ble_eq_true rfl) ?_
  show Ev (eZ G 0 68 0 0 (eFI F)) G 0 68 (2, 0, 0) kX5_errorOfName 0 [(0, .ref (G.1 14)), (1, .int a1)] [] M 0 0
  refine r_aload_n 0 dX5_errorOfName_0 rfl rfl ?_
  refine r_getK (c := 14) (k := 5) dX5_errorOfName_1 clX5 lFX5_21 (by decide) iF14 sC14 rfl ?_
  refine r_getsK (w := 3) 2 dX5_errorOfName_4 lFX5_82 (by decide) rfl rfl ?_
  refine r_kcmp_eq (tg := 32) dX5_errorOfName_7 (by decide) (fun q => ?_) (fun q => ?_)
  · replace h := h.1 q
    refine r_iload_n 1 dX5_errorOfName_32 rfl rfl ?_
    refine r_if_lt (t := 38) dX5_errorOfName_33 (by decide) (fun q => ?_) (fun q => ?_)
    · replace h := h.1 q
      refine r_aload_n 0 dX5_errorOfName_38 rfl rfl ?_
      refine r_getI (c := 14) (k := 3) dX5_errorOfName_39 clX5 lFX5_32 (by decide) iF14 sC14 rfl ?_
      refine r_bipush (v := 16) dX5_errorOfName_42 rfl ?_
      refine r_icmp_lt (t := 49) dX5_errorOfName_44 (by decide) (fun q => ?_) (fun q => ?_)
      · replace h := h.1 q
        refine r_aload_n 0 dX5_errorOfName_49 rfl rfl ?_
        refine r_getR (c := 14) (k := 2) 15 dX5_errorOfName_50 clX5 lFX5_9 (by decide) iF14 sC14 rfl ?_
        refine r_aload_n 0 dX5_errorOfName_53 rfl rfl ?_
        refine r_getI (c := 14) (k := 3) dX5_errorOfName_54 clX5 lFX5_32 (by decide) iF14 sC14 rfl ?_
        refine r_aload_n 0 dX5_errorOfName_57 rfl rfl ?_
        refine r_getI (c := 14) (k := 6) dX5_errorOfName_58 clX5 lFX5_39 (by decide) iF14 sC14 rfl ?_
        have h1 := h.1
        replace h := h.2
        refine r_iast (c := 15) (N := 16) dX5_errorOfName_61 iF15 sC15 h1 ?_
        refine r_aload_n 0 dX5_errorOfName_62 rfl rfl ?_
        refine r_dup dX5_errorOfName_63 rfl ?_
        refine r_getI (c := 14) (k := 3) dX5_errorOfName_64 clX5 lFX5_32 (by decide) iF14 sC14 rfl ?_
        refine r_iconst (v := 1) dX5_errorOfName_67 rfl ?_
        refine r_iadd dX5_errorOfName_68 ?_
        refine r_putI (c := 14) (k := 3) dX5_errorOfName_69 clX5 lFX5_32 (by decide) iF14 sC14 rfl rfl rfl ?_
        refine r_iconst (v := 0) dX5_errorOfName_72 rfl ?_
        refine r_iretI dX5_errorOfName_73 rfl (by decide) (by decide) h
      · replace h := h.2 q
        refine r_iconst (v := 4) dX5_errorOfName_47 rfl ?_
        refine r_iretI dX5_errorOfName_48 rfl (by decide) (by decide) h
    · replace h := h.2 q
      refine r_iconst (v := 2) dX5_errorOfName_36 rfl ?_
      refine r_iretI dX5_errorOfName_37 rfl (by decide) (by decide) h
  · replace h := h.2 q
    refine r_aload_n 0 dX5_errorOfName_10 rfl rfl ?_
    refine r_getR (c := 14) (k := 0) 3 dX5_errorOfName_11 clX5 lFX5_24 (by decide) iF14 sC14 rfl ?_
    refine r_aload_n 0 dX5_errorOfName_14 rfl rfl ?_
    refine r_getI (c := 14) (k := 6) dX5_errorOfName_15 clX5 lFX5_39 (by decide) iF14 sC14 rfl ?_
    refine r_iload_n 1 dX5_errorOfName_18 rfl rfl ?_
    refine r_callVV (b' := (1, 0, 0)) (c := 3) (S := []) [.int (M 14 6), .int a1] dX5_errorOfName_19 mX9_setValue lMX5_85 clX9 rfl iF3 sC3 rfl (by decide) (Nat.le_of_ble_eq_true rfl) h (fun M1 h => ?_) rfl
    refine r_iload_n 1 dX5_errorOfName_22 rfl rfl ?_
    refine r_if_ge (t := 30) dX5_errorOfName_23 (by decide) (fun q => ?_) (fun q => ?_)
    · replace h := h.1 q
      refine r_iconst (v := 0) dX5_errorOfName_30 rfl ?_
      refine r_iretI dX5_errorOfName_31 rfl (by decide) (by decide) h
    · replace h := h.2 q
      refine r_iconst (v := 3) dX5_errorOfName_26 rfl ?_
      refine r_goto (t := 31) dX5_errorOfName_27 (by decide) ?_
      refine r_iretI dX5_errorOfName_31 rfl (by decide) (by decide) h
set_option maxHeartbeats 4000000 in
set_option maxRecDepth 100000 in
theorem B_X5_tileNamed_2 (G : eG) (M : eM) (F : Int32 → eM → Prop) (x1 : Int32)
    (h : (((M 14 3) ≤ x1) → F (-1) M) ∧ ((¬ (M 14 3) ≤ x1) → vp_in x1 16 ∧ (Cal G 0 68 (3, 0, 0) kX9_areSameWords [.ref (G.1 3), .int (M 14 6), .int (M 15 x1.toNatClampNeg)] M (eFZ (fun (r1 : Bool) (M1 : eM) => ((r1 = false) → Ev (eZ G 0 68 0 0 (eFI F)) G 0 68 (4, 0, 0) kX5_tileNamed 2 [(0, .ref (G.1 14)), (1, .int (x1 + 1))] [] M1 0 0) ∧ ((r1 = true) → F x1 M1)))))) :
    Ev (eZ G 0 68 0 0 (eFI F)) G 0 68 (4, 0, 0) kX5_tileNamed 2 [(0, .ref (G.1 14)), (1, .int x1)] [] M 0 0 := by
  refine r_iload_n 1 dX5_tileNamed_2 rfl rfl ?_
  refine r_aload_n 0 dX5_tileNamed_3 rfl rfl ?_
  refine r_getI (c := 14) (k := 3) dX5_tileNamed_4 clX5 lFX5_32 (by decide) iF14 sC14 rfl ?_
  refine r_icmp_ge (t := 38) dX5_tileNamed_7 (by decide) (fun q => ?_) (fun q => ?_)
  · replace h := h.1 q
    refine r_iconst (v := (-1)) dX5_tileNamed_38 rfl ?_
    refine r_iretI dX5_tileNamed_39 rfl (by decide) (by decide) h
  · replace h := h.2 q
    refine r_aload_n 0 dX5_tileNamed_10 rfl rfl ?_
    refine r_getR (c := 14) (k := 0) 3 dX5_tileNamed_11 clX5 lFX5_24 (by decide) iF14 sC14 rfl ?_
    refine r_aload_n 0 dX5_tileNamed_14 rfl rfl ?_
    refine r_getI (c := 14) (k := 6) dX5_tileNamed_15 clX5 lFX5_39 (by decide) iF14 sC14 rfl ?_
    refine r_aload_n 0 dX5_tileNamed_18 rfl rfl ?_
    refine r_getR (c := 14) (k := 2) 15 dX5_tileNamed_19 clX5 lFX5_9 (by decide) iF14 sC14 rfl ?_
    refine r_iload_n 1 dX5_tileNamed_22 rfl rfl ?_
    have h1 := h.1
    replace h := h.2
    refine r_iald (c := 15) (N := 16) dX5_tileNamed_23 iF15 sC15 h1 ?_
    refine r_callVZ (b' := (3, 0, 0)) (c := 3) (S := []) [.int (M 14 6), .int (M 15 x1.toNatClampNeg)] dX5_tileNamed_24 mX9_areSameWords lMX5_89 clX9 rfl iF3 sC3 rfl (by decide) (Nat.le_of_ble_eq_true rfl) h (fun r1 M1 h => ?_) rfl
    refine r_zif_eq (t := 32) dX5_tileNamed_27 (by decide) (fun q => ?_) (fun q => ?_)
    · replace h := h.1 q
      refine r_iinc (v := x1 + 1) (l' := [(1, .int (x1 + 1)), (0, .ref (G.1 14))]) 1 dX5_tileNamed_32 rfl rfl (by decide) rfl ?_
      refine r_goto (t := 2) dX5_tileNamed_35 (by decide) ?_
      exact Ev.sub (ks := [1, 0]) rfl h
    · replace h := h.2 q
      refine r_iload_n 1 dX5_tileNamed_30 rfl rfl ?_
      refine r_iretI dX5_tileNamed_31 rfl (by decide) (by decide) h
set_option maxHeartbeats 4000000 in
set_option maxRecDepth 100000 in
theorem C_X5_tileNamed (G : eG) (M : eM) (F : Int32 → eM → Prop) 
    (h : Ev (eZ G 0 68 0 0 (eFI F)) G 0 68 (4, 0, 0) kX5_tileNamed 2 [(0, .ref (G.1 14)), (1, .int 0)] [] M 0 0) :
    Cal G 0 68 (4, 0, 0) kX5_tileNamed [.ref (G.1 14)] M (eFI F) := by
  refine Cal.of (by decide +kernel) rfl (Nat.le_of_ble_eq_true rfl) ?_
  show Ev (eZ G 0 68 0 0 (eFI F)) G 0 68 (4, 0, 0) kX5_tileNamed 0 [(0, .ref (G.1 14))] [] M 0 0
  refine r_iconst (v := 0) dX5_tileNamed_0 rfl ?_
  refine r_istore_n (l' := [(1, .int 0), (0, .ref (G.1 14))]) dX5_tileNamed_1 rfl (by decide) rfl ?_
  exact Ev.sub (ks := [1, 0]) rfl h
set_option maxHeartbeats 4000000 in
set_option maxRecDepth 100000 in
theorem C_X5_errorOfNumber (G : eG) (M : eM) (F : Int32 → eM → Prop) (a1 : Int32)
    (h : ((¬ eKn1 (M 14 5) = eKn1 1) → ((¬ eKn1 (M 14 5) = eKn1 3) → F 0 M) ∧ ((eKn1 (M 14 5) = eKn1 3) → Cal G 0 68 (1, 0, 0) kX7_addTileNumber [.ref (G.1 8), .int a1] M (eFV (fun (M1 : eM) => ((a1 < 10) → F 0 M1) ∧ ((¬ a1 < 10) → F 5 M1))))) ∧ ((eKn1 (M 14 5) = eKn1 1) → Cal G 0 68 (1, 0, 0) kX7_addSide [.ref (G.1 8), .int a1] M (eFV (fun (M2 : eM) => ((a1 < 3) → F 5 M2) ∧ ((¬ a1 < 3) → ((a1 ≤ 7) → F 0 M2) ∧ ((¬ a1 ≤ 7) → F 5 M2)))))) :
    Cal G 0 68 (2, 0, 0) kX5_errorOfNumber [.ref (G.1 14), .int a1] M (eFI F) := by
  refine Cal.of (by decide +kernel) rfl (Nat.le_of_ble_eq_true rfl) ?_
  show Ev (eZ G 0 68 0 0 (eFI F)) G 0 68 (2, 0, 0) kX5_errorOfNumber 0 [(0, .ref (G.1 14)), (1, .int a1)] [] M 0 0
  refine r_aload_n 0 dX5_errorOfNumber_0 rfl rfl ?_
  refine r_getK (c := 14) (k := 5) dX5_errorOfNumber_1 clX5 lFX5_21 (by decide) iF14 sC14 rfl ?_
  refine r_getsK (w := 1) 0 dX5_errorOfNumber_4 lFX5_93 (by decide) rfl rfl ?_
  refine r_kcmp_ne (tg := 35) dX5_errorOfNumber_7 (by decide) (fun q => ?_) (fun q => ?_)
  · replace h := h.1 q
    refine r_aload_n 0 dX5_errorOfNumber_35 rfl rfl ?_
    refine r_getK (c := 14) (k := 5) dX5_errorOfNumber_36 clX5 lFX5_21 (by decide) iF14 sC14 rfl ?_
    refine r_getsK (w := 3) 2 dX5_errorOfNumber_39 lFX5_82 (by decide) rfl rfl ?_
    refine r_kcmp_ne (tg := 65) dX5_errorOfNumber_42 (by decide) (fun q => ?_) (fun q => ?_)
    · replace h := h.1 q
      refine r_iconst (v := 0) dX5_errorOfNumber_65 rfl ?_
      refine r_iretI dX5_errorOfNumber_66 rfl (by decide) (by decide) h
    · replace h := h.2 q
      refine r_aload_n 0 dX5_errorOfNumber_45 rfl rfl ?_
      refine r_getR (c := 14) (k := 1) 8 dX5_errorOfNumber_46 clX5 lFX5_28 (by decide) iF14 sC14 rfl ?_
      refine r_iload_n 1 dX5_errorOfNumber_49 rfl rfl ?_
      refine r_callVV (b' := (1, 0, 0)) (c := 8) (S := []) [.int a1] dX5_errorOfNumber_50 mX7_addTileNumber lMX5_100 clX7 rfl iF8 sC8 rfl (by decide) (Nat.le_of_ble_eq_true rfl) h (fun M1 h => ?_) rfl
      refine r_iload_n 1 dX5_errorOfNumber_53 rfl rfl ?_
      refine r_bipush (v := 10) dX5_errorOfNumber_54 rfl ?_
      refine r_icmp_lt (t := 63) dX5_errorOfNumber_56 (by decide) (fun q => ?_) (fun q => ?_)
      · replace h := h.1 q
        refine r_iconst (v := 0) dX5_errorOfNumber_63 rfl ?_
        refine r_iretI dX5_errorOfNumber_64 rfl (by decide) (by decide) h
      · replace h := h.2 q
        refine r_iconst (v := 5) dX5_errorOfNumber_59 rfl ?_
        refine r_goto (t := 64) dX5_errorOfNumber_60 (by decide) ?_
        refine r_iretI dX5_errorOfNumber_64 rfl (by decide) (by decide) h
  · replace h := h.2 q
    refine r_aload_n 0 dX5_errorOfNumber_10 rfl rfl ?_
    refine r_getR (c := 14) (k := 1) 8 dX5_errorOfNumber_11 clX5 lFX5_28 (by decide) iF14 sC14 rfl ?_
    refine r_iload_n 1 dX5_errorOfNumber_14 rfl rfl ?_
    refine r_callVV (b' := (1, 0, 0)) (c := 8) (S := []) [.int a1] dX5_errorOfNumber_15 mX7_addSide lMX5_96 clX7 rfl iF8 sC8 rfl (by decide) (Nat.le_of_ble_eq_true rfl) h (fun M2 h => ?_) rfl
    refine r_iload_n 1 dX5_errorOfNumber_18 rfl rfl ?_
    refine r_iconst (v := 3) dX5_errorOfNumber_19 rfl ?_
    refine r_icmp_lt (t := 29) dX5_errorOfNumber_20 (by decide) (fun q => ?_) (fun q => ?_)
    · replace h := h.1 q
      refine r_iconst (v := 5) dX5_errorOfNumber_29 rfl ?_
      refine r_goto (t := 34) dX5_errorOfNumber_30 (by decide) ?_
      refine r_iretI dX5_errorOfNumber_34 rfl (by decide) (by decide) h
    · replace h := h.2 q
      refine r_iload_n 1 dX5_errorOfNumber_23 rfl rfl ?_
      refine r_bipush (v := 7) dX5_errorOfNumber_24 rfl ?_
      refine r_icmp_le (t := 33) dX5_errorOfNumber_26 (by decide) (fun q => ?_) (fun q => ?_)
      · replace h := h.1 q
        refine r_iconst (v := 0) dX5_errorOfNumber_33 rfl ?_
        refine r_iretI dX5_errorOfNumber_34 rfl (by decide) (by decide) h
      · replace h := h.2 q
        refine r_iconst (v := 5) dX5_errorOfNumber_29 rfl ?_
        refine r_goto (t := 34) dX5_errorOfNumber_30 (by decide) ?_
        refine r_iretI dX5_errorOfNumber_34 rfl (by decide) (by decide) h
set_option maxHeartbeats 4000000 in
set_option maxRecDepth 100000 in
theorem B_X9_cutTape_82 (G : eG) (M : eM) (F : eM → Prop) (x1 : Int32)
    (h : (((M 1 1) ≤ x1) → Cal G 0 68 (3, 0, 0) kX9_add [.ref (G.1 3), eV G 1 42, .int x1, .int x1] M (eFV (fun (M1 : eM) => F M1))) ∧ ((¬ (M 1 1) ≤ x1) → Cal G 0 68 (3, 0, 0) kX9_add [.ref (G.1 3), eV G 1 43, .int x1, .int x1] M (eFV (fun (M2 : eM) => F M2)))) :
    Ev (eZ G 0 68 0 0 (eFV F)) G 0 68 (9, 0, 0) kX9_cutTape 82 [(0, .ref (G.1 3)), (1, .int x1)] [] M 0 0 := by
  refine r_aload_n 0 dX9_cutTape_82 rfl rfl ?_
  refine r_iload_n 1 dX9_cutTape_83 rfl rfl ?_
  refine r_aload_n 0 dX9_cutTape_84 rfl rfl ?_
  refine r_getR (c := 3) (k := 0) 1 dX9_cutTape_85 clX9 lFX9_27 (by decide) iF3 sC3 rfl ?_
  refine r_getI (c := 1) (k := 1) dX9_cutTape_88 clX8 lFX9_41 (by decide) iF1 sC1 rfl ?_
  refine r_icmp_ge (t := 100) dX9_cutTape_91 (by decide) (fun q => ?_) (fun q => ?_)
  · replace h := h.1 q
    refine r_getsK (w := 42) 41 dX9_cutTape_100 lFX9_59 (by decide) rfl rfl ?_
    refine r_iload_n 1 dX9_cutTape_103 rfl rfl ?_
    refine r_iload_n 1 dX9_cutTape_104 rfl rfl ?_
    refine r_callVV (b' := (3, 0, 0)) (c := 3) (S := []) [eV G 1 42, .int x1, .int x1] dX9_cutTape_105 mX9_add lMX9_55 clX9 rfl iF3 sC3 rfl (by decide) (Nat.le_of_ble_eq_true rfl) h (fun M1 h => ?_) rfl
    refine r_vretV dX9_cutTape_108 rfl (by decide) (by decide) h
  · replace h := h.2 q
    refine r_getsK (w := 43) 42 dX9_cutTape_94 lFX9_51 (by decide) rfl rfl ?_
    refine r_goto (t := 103) dX9_cutTape_97 (by decide) ?_
    refine r_iload_n 1 dX9_cutTape_103 rfl rfl ?_
    refine r_iload_n 1 dX9_cutTape_104 rfl rfl ?_
    refine r_callVV (b' := (3, 0, 0)) (c := 3) (S := []) [eV G 1 43, .int x1, .int x1] dX9_cutTape_105 mX9_add lMX9_55 clX9 rfl iF3 sC3 rfl (by decide) (Nat.le_of_ble_eq_true rfl) h (fun M2 h => ?_) rfl
    refine r_vretV dX9_cutTape_108 rfl (by decide) (by decide) h
set_option maxHeartbeats 4000000 in
set_option maxRecDepth 100000 in
theorem B_X9_cutTape_16 (G : eG) (M : eM) (F : eM → Prop) (x1 : Int32) (x2 : Int32)
    (h : ((400 ≤ x2) → Ev (eZ G 0 68 0 0 (eFV F)) G 0 68 (9, 0, 0) kX9_cutTape 82 [(0, .ref (G.1 3)), (1, .int x1)] [] M 0 0) ∧ ((¬ 400 ≤ x2) → (((M 1 1) ≤ x1) → Ev (eZ G 0 68 0 0 (eFV F)) G 0 68 (9, 0, 0) kX9_cutTape 82 [(0, .ref (G.1 3)), (1, .int x1)] [] M 0 0) ∧ ((¬ (M 1 1) ≤ x1) → Cal G 0 68 (4, 0, 0) kX9_endOfToken [.ref (G.1 3), .int x1] M (eFI (fun (r1 : Int32) (M1 : eM) => Cal G 0 68 (8, 0, 0) kX9_kindBetween [.ref (G.1 3), .int x1, .int r1] M1 (eFK G (fun (r2 : Int32) (M2 : eM) => ((¬ eKn1 r2 = eKn1 43) → Cal G 0 68 (3, 0, 0) kX9_add [.ref (G.1 3), eV G 1 r2, .int x1, .int r1] M2 (eFV (fun (M3 : eM) => Cal G 0 68 (2, 0, 0) kX8_behindBlanks [.ref (G.1 1), .int r1] M3 (eFI (fun (r4 : Int32) (M4 : eM) => Ev (eZ G 0 68 0 0 (eFV F)) G 0 68 (9, 0, 0) kX9_cutTape 16 [(0, .ref (G.1 3)), (1, .int r4), (2, .int (x2 + 1))] [] M4 0 0))))) ∧ ((eKn1 r2 = eKn1 43) → Ev (eZ G 0 68 0 0 (eFV F)) G 0 68 (9, 0, 0) kX9_cutTape 82 [(0, .ref (G.1 3)), (1, .int x1)] [] M2 0 0)))))))) :
    Ev (eZ G 0 68 0 0 (eFV F)) G 0 68 (9, 0, 0) kX9_cutTape 16 [(0, .ref (G.1 3)), (1, .int x1), (2, .int x2)] [] M 0 0 := by
  refine r_iload_n 2 dX9_cutTape_16 rfl rfl ?_
  refine r_sipush (v := 400) dX9_cutTape_17 rfl ?_
  refine r_icmp_ge (t := 82) dX9_cutTape_20 (by decide) (fun q => ?_) (fun q => ?_)
  · replace h := h.1 q
    exact Ev.sub (ks := [0, 1]) rfl h
  · replace h := h.2 q
    refine r_iload_n 1 dX9_cutTape_23 rfl rfl ?_
    refine r_aload_n 0 dX9_cutTape_24 rfl rfl ?_
    refine r_getR (c := 3) (k := 0) 1 dX9_cutTape_25 clX9 lFX9_27 (by decide) iF3 sC3 rfl ?_
    refine r_getI (c := 1) (k := 1) dX9_cutTape_28 clX8 lFX9_41 (by decide) iF1 sC1 rfl ?_
    refine r_icmp_ge (t := 82) dX9_cutTape_31 (by decide) (fun q => ?_) (fun q => ?_)
    · replace h := h.1 q
      exact Ev.sub (ks := [0, 1]) rfl h
    · replace h := h.2 q
      refine r_aload_n 0 dX9_cutTape_34 rfl rfl ?_
      refine r_iload_n 1 dX9_cutTape_35 rfl rfl ?_
      refine r_callVI (b' := (4, 0, 0)) (c := 3) (S := []) [.int x1] dX9_cutTape_36 mX9_endOfToken lMX9_44 clX9 rfl iF3 sC3 rfl (by decide) (Nat.le_of_ble_eq_true rfl) h (fun r1 M1 h => ?_) rfl
      refine r_istore_n (l' := [(3, .int r1), (0, .ref (G.1 3)), (1, .int x1), (2, .int x2)]) dX9_cutTape_39 rfl (by decide) rfl ?_
      refine r_aload_n 1 dX9_cutTape_40 rfl rfl ?_
      refine r_iload_n 2 dX9_cutTape_41 rfl rfl ?_
      refine r_iload_n 0 dX9_cutTape_42 rfl rfl ?_
      refine r_callVK (b' := (8, 0, 0)) (c := 3) (S := []) [.int x1, .int r1] dX9_cutTape_43 mX9_kindBetween lMX9_47 clX9 rfl iF3 sC3 rfl (by decide) (Nat.le_of_ble_eq_true rfl) h (fun r2 M2 h => ?_) rfl
      refine r_kstore (l' := [(4, eV G 1 r2), (3, .int r1), (0, .ref (G.1 3)), (1, .int x1), (2, .int x2)]) dX9_cutTape_46 (by decide) rfl ?_
      refine r_kload 0 dX9_cutTape_48 rfl ?_
      refine r_getsK (w := 43) 42 dX9_cutTape_50 lFX9_51 (by decide) rfl rfl ?_
      refine r_kcmp_ne (tg := 59) dX9_cutTape_53 (by decide) (fun q => ?_) (fun q => ?_)
      · replace h := h.1 q
        refine r_aload_n 2 dX9_cutTape_59 rfl rfl ?_
        refine r_kload 0 dX9_cutTape_60 rfl ?_
        refine r_iload_n 3 dX9_cutTape_62 rfl rfl ?_
        refine r_iload_n 1 dX9_cutTape_63 rfl rfl ?_
        refine r_callVV (b' := (3, 0, 0)) (c := 3) (S := []) [eV G 1 r2, .int x1, .int r1] dX9_cutTape_64 mX9_add lMX9_55 clX9 rfl iF3 sC3 rfl (by decide) (Nat.le_of_ble_eq_true rfl) h (fun M3 h => ?_) rfl
        refine r_aload_n 2 dX9_cutTape_67 rfl rfl ?_
        refine r_getR (c := 3) (k := 0) 1 dX9_cutTape_68 clX9 lFX9_27 (by decide) iF3 sC3 rfl ?_
        refine r_iload_n 1 dX9_cutTape_71 rfl rfl ?_
        refine r_callVI (b' := (2, 0, 0)) (c := 1) (S := []) [.int r1] dX9_cutTape_72 mX8_behindBlanks lMX9_35 clX8 rfl iF1 sC1 rfl (by decide) (Nat.le_of_ble_eq_true rfl) h (fun r4 M4 h => ?_) rfl
        refine r_istore_n (l' := [(1, .int r4), (4, eV G 1 r2), (3, .int r1), (0, .ref (G.1 3)), (2, .int x2)]) dX9_cutTape_75 rfl (by decide) rfl ?_
        refine r_iinc (v := x2 + 1) (l' := [(2, .int (x2 + 1)), (1, .int r4), (4, eV G 1 r2), (3, .int r1), (0, .ref (G.1 3))]) 4 dX9_cutTape_76 rfl rfl (by decide) rfl ?_
        refine r_goto (t := 16) dX9_cutTape_79 (by decide) ?_
        exact Ev.sub (ks := [4, 1, 0]) rfl h
      · replace h := h.2 q
        refine r_goto (t := 82) dX9_cutTape_56 (by decide) ?_
        exact Ev.sub (ks := [2, 3]) rfl h
set_option maxHeartbeats 4000000 in
set_option maxRecDepth 100000 in
theorem C_X9_cutTape (G : eG) (M : eM) (F : eM → Prop) 
    (h : Cal G 0 68 (2, 0, 0) kX8_behindBlanks [.ref (G.1 1), .int 0] (eU M 3 5 0) (eFI (fun (r1 : Int32) (M1 : eM) => Ev (eZ G 0 68 0 0 (eFV F)) G 0 68 (9, 0, 0) kX9_cutTape 16 [(0, .ref (G.1 3)), (1, .int r1), (2, .int 0)] [] M1 0 0))) :
    Cal G 0 68 (9, 0, 0) kX9_cutTape [.ref (G.1 3)] M (eFV F) := by
  refine Cal.of (by decide +kernel) rfl (Nat.le_of_ble_eq_true rfl) ?_
  show Ev (eZ G 0 68 0 0 (eFV F)) G 0 68 (9, 0, 0) kX9_cutTape 0 [(0, .ref (G.1 3))] [] M 0 0
  refine r_aload_n 0 dX9_cutTape_0 rfl rfl ?_
  refine r_iconst (v := 0) dX9_cutTape_1 rfl ?_
  refine r_putI (c := 3) (k := 5) dX9_cutTape_2 clX9 lFX9_31 (by decide) iF3 sC3 rfl rfl rfl ?_
  refine r_aload_n 0 dX9_cutTape_5 rfl rfl ?_
  refine r_getR (c := 3) (k := 0) 1 dX9_cutTape_6 clX9 lFX9_27 (by decide) iF3 sC3 rfl ?_
  refine r_iconst (v := 0) dX9_cutTape_9 rfl ?_
  refine r_callVI (b' := (2, 0, 0)) (c := 1) (S := []) [.int 0] dX9_cutTape_10 mX8_behindBlanks lMX9_35 clX8 rfl iF1 sC1 rfl (by decide) (Nat.le_of_ble_eq_true rfl) h (fun r1 M1 h => ?_) rfl
  refine r_istore_n (l' := [(1, .int r1), (0, .ref (G.1 3))]) dX9_cutTape_13 rfl (by decide) rfl ?_
  refine r_iconst (v := 0) dX9_cutTape_14 rfl ?_
  refine r_istore_n (l' := [(2, .int 0), (1, .int r1), (0, .ref (G.1 3))]) dX9_cutTape_15 rfl (by decide) rfl ?_
  exact Ev.sub (ks := [2, 1, 0]) rfl h
set_option maxHeartbeats 4000000 in
set_option maxRecDepth 100000 in
theorem C_X9_add (G : eG) (M : eM) (F : eM → Prop) (a1 : Int32) (a2 : Int32) (a3 : Int32)
    (h : ((401 ≤ (M 3 5)) → F M) ∧ ((¬ 401 ≤ (M 3 5)) → vp_in (M 3 5) 401 ∧ (vp_in ((eU M 4 (M 3 5).toNatClampNeg a1) 3 5) 401 ∧ (vp_in ((eU (eU M 4 (M 3 5).toNatClampNeg a1) 5 ((eU M 4 (M 3 5).toNatClampNeg a1) 3 5).toNatClampNeg a2) 3 5) 401 ∧ (((¬ eKn1 a1 = eKn1 40) → vp_in ((eU (eU (eU M 4 (M 3 5).toNatClampNeg a1) 5 ((eU M 4 (M 3 5).toNatClampNeg a1) 3 5).toNatClampNeg a2) 6 ((eU (eU M 4 (M 3 5).toNatClampNeg a1) 5 ((eU M 4 (M 3 5).toNatClampNeg a1) 3 5).toNatClampNeg a2) 3 5).toNatClampNeg a3) 3 5) 401 ∧ (F (eU (eU (eU (eU (eU M 4 (M 3 5).toNatClampNeg a1) 5 ((eU M 4 (M 3 5).toNatClampNeg a1) 3 5).toNatClampNeg a2) 6 ((eU (eU M 4 (M 3 5).toNatClampNeg a1) 5 ((eU M 4 (M 3 5).toNatClampNeg a1) 3 5).toNatClampNeg a2) 3 5).toNatClampNeg a3) 7 ((eU (eU (eU M 4 (M 3 5).toNatClampNeg a1) 5 ((eU M 4 (M 3 5).toNatClampNeg a1) 3 5).toNatClampNeg a2) 6 ((eU (eU M 4 (M 3 5).toNatClampNeg a1) 5 ((eU M 4 (M 3 5).toNatClampNeg a1) 3 5).toNatClampNeg a2) 3 5).toNatClampNeg a3) 3 5).toNatClampNeg 0) 3 5 (((eU (eU (eU (eU M 4 (M 3 5).toNatClampNeg a1) 5 ((eU M 4 (M 3 5).toNatClampNeg a1) 3 5).toNatClampNeg a2) 6 ((eU (eU M 4 (M 3 5).toNatClampNeg a1) 5 ((eU M 4 (M 3 5).toNatClampNeg a1) 3 5).toNatClampNeg a2) 3 5).toNatClampNeg a3) 7 ((eU (eU (eU M 4 (M 3 5).toNatClampNeg a1) 5 ((eU M 4 (M 3 5).toNatClampNeg a1) 3 5).toNatClampNeg a2) 6 ((eU (eU M 4 (M 3 5).toNatClampNeg a1) 5 ((eU M 4 (M 3 5).toNatClampNeg a1) 3 5).toNatClampNeg a2) 3 5).toNatClampNeg a3) 3 5).toNatClampNeg 0) 3 5) + 1)))) ∧ ((eKn1 a1 = eKn1 40) → Cal G 0 68 (2, 0, 0) kX9_numberBetween [.ref (G.1 3), .int a2, .int a3] (eU (eU (eU M 4 (M 3 5).toNatClampNeg a1) 5 ((eU M 4 (M 3 5).toNatClampNeg a1) 3 5).toNatClampNeg a2) 6 ((eU (eU M 4 (M 3 5).toNatClampNeg a1) 5 ((eU M 4 (M 3 5).toNatClampNeg a1) 3 5).toNatClampNeg a2) 3 5).toNatClampNeg a3) (eFI (fun (r1 : Int32) (M1 : eM) => vp_in ((eU (eU (eU M 4 (M 3 5).toNatClampNeg a1) 5 ((eU M 4 (M 3 5).toNatClampNeg a1) 3 5).toNatClampNeg a2) 6 ((eU (eU M 4 (M 3 5).toNatClampNeg a1) 5 ((eU M 4 (M 3 5).toNatClampNeg a1) 3 5).toNatClampNeg a2) 3 5).toNatClampNeg a3) 3 5) 401 ∧ (F (eU (eU M1 7 ((eU (eU (eU M 4 (M 3 5).toNatClampNeg a1) 5 ((eU M 4 (M 3 5).toNatClampNeg a1) 3 5).toNatClampNeg a2) 6 ((eU (eU M 4 (M 3 5).toNatClampNeg a1) 5 ((eU M 4 (M 3 5).toNatClampNeg a1) 3 5).toNatClampNeg a2) 3 5).toNatClampNeg a3) 3 5).toNatClampNeg r1) 3 5 (((eU M1 7 ((eU (eU (eU M 4 (M 3 5).toNatClampNeg a1) 5 ((eU M 4 (M 3 5).toNatClampNeg a1) 3 5).toNatClampNeg a2) 6 ((eU (eU M 4 (M 3 5).toNatClampNeg a1) 5 ((eU M 4 (M 3 5).toNatClampNeg a1) 3 5).toNatClampNeg a2) 3 5).toNatClampNeg a3) 3 5).toNatClampNeg r1) 3 5) + 1))))))))))) :
    Cal G 0 68 (3, 0, 0) kX9_add [.ref (G.1 3), eV G 1 a1, .int a2, .int a3] M (eFV F) := by
  refine Cal.ofK [(0, .ref (G.1 3)), (1, eV G 1 a1), (2, .int a2), (3, .int a3)] (by decide +kernel) rfl (by rw [lg_len _ (by simp [eV_cat, eCatI, eCatR])]; exact Nat.le_of_ble_eq_true rfl) (by simp [lv_args, eV_cat, eCatI, eCatR]) ?_
  show Ev (eZ G 0 68 0 0 (eFV F)) G 0 68 (3, 0, 0) kX9_add 0 [(0, .ref (G.1 3)), (1, eV G 1 a1), (2, .int a2), (3, .int a3)] [] M 0 0
  refine r_aload_n 0 dX9_add_0 rfl rfl ?_
  refine r_getI (c := 3) (k := 5) dX9_add_1 clX9 lFX9_31 (by decide) iF3 sC3 rfl ?_
  refine r_aload_n 0 dX9_add_4 rfl rfl ?_
  refine r_getR (c := 3) (k := 1) 4 dX9_add_5 clX9 lFX9_11 (by decide) iF3 sC3 rfl ?_
  refine r_alen (c := 4) (v := 401) dX9_add_8 iF4 sC4 rfl ?_
  refine r_icmp_ge (t := 78) dX9_add_9 (by decide) (fun q => ?_) (fun q => ?_)
  · replace h := h.1 q
    refine r_vretV dX9_add_78 rfl (by decide) (by decide) h
  · replace h := h.2 q
    refine r_aload_n 0 dX9_add_12 rfl rfl ?_
    refine r_getR (c := 3) (k := 1) 4 dX9_add_13 clX9 lFX9_11 (by decide) iF3 sC3 rfl ?_
    refine r_aload_n 0 dX9_add_16 rfl rfl ?_
    refine r_getI (c := 3) (k := 5) dX9_add_17 clX9 lFX9_31 (by decide) iF3 sC3 rfl ?_
    refine r_kload_n 1 dX9_add_20 rfl rfl ?_
    have h1 := h.1
    replace h := h.2
    refine r_kast (c := 4) (N := 401) dX9_add_21 iF4 sC4 h1 ?_
    refine r_aload_n 0 dX9_add_22 rfl rfl ?_
    refine r_getR (c := 3) (k := 2) 5 dX9_add_23 clX9 lFX9_17 (by decide) iF3 sC3 rfl ?_
    refine r_aload_n 0 dX9_add_26 rfl rfl ?_
    refine r_getI (c := 3) (k := 5) dX9_add_27 clX9 lFX9_31 (by decide) iF3 sC3 rfl ?_
    refine r_iload_n 2 dX9_add_30 rfl rfl ?_
    have h1 := h.1
    replace h := h.2
    refine r_iast (c := 5) (N := 401) dX9_add_31 iF5 sC5 h1 ?_
    refine r_aload_n 0 dX9_add_32 rfl rfl ?_
    refine r_getR (c := 3) (k := 3) 6 dX9_add_33 clX9 lFX9_21 (by decide) iF3 sC3 rfl ?_
    refine r_aload_n 0 dX9_add_36 rfl rfl ?_
    refine r_getI (c := 3) (k := 5) dX9_add_37 clX9 lFX9_31 (by decide) iF3 sC3 rfl ?_
    refine r_iload_n 3 dX9_add_40 rfl rfl ?_
    have h1 := h.1
    replace h := h.2
    refine r_iast (c := 6) (N := 401) dX9_add_41 iF6 sC6 h1 ?_
    refine r_aload_n 0 dX9_add_42 rfl rfl ?_
    refine r_getR (c := 3) (k := 4) 7 dX9_add_43 clX9 lFX9_24 (by decide) iF3 sC3 rfl ?_
    refine r_aload_n 0 dX9_add_46 rfl rfl ?_
    refine r_getI (c := 3) (k := 5) dX9_add_47 clX9 lFX9_31 (by decide) iF3 sC3 rfl ?_
    refine r_kload_n 1 dX9_add_50 rfl rfl ?_
    refine r_getsK (w := 40) 39 dX9_add_51 lFX9_62 (by decide) rfl rfl ?_
    refine r_kcmp_ne (tg := 66) dX9_add_54 (by decide) (fun q => ?_) (fun q => ?_)
    · replace h := h.1 q
      refine r_iconst (v := 0) dX9_add_66 rfl ?_
      have h1 := h.1
      replace h := h.2
      refine r_iast (c := 7) (N := 401) dX9_add_67 iF7 sC7 h1 ?_
      refine r_aload_n 0 dX9_add_68 rfl rfl ?_
      refine r_dup dX9_add_69 rfl ?_
      refine r_getI (c := 3) (k := 5) dX9_add_70 clX9 lFX9_31 (by decide) iF3 sC3 rfl ?_
      refine r_iconst (v := 1) dX9_add_73 rfl ?_
      refine r_iadd dX9_add_74 ?_
      refine r_putI (c := 3) (k := 5) dX9_add_75 clX9 lFX9_31 (by decide) iF3 sC3 rfl rfl rfl ?_
      refine r_vretV dX9_add_78 rfl (by decide) (by decide) h
    · replace h := h.2 q
      refine r_aload_n 0 dX9_add_57 rfl rfl ?_
      refine r_iload_n 2 dX9_add_58 rfl rfl ?_
      refine r_iload_n 3 dX9_add_59 rfl rfl ?_
      refine r_callVI (b' := (2, 0, 0)) (c := 3) (S := [.int ((eU (eU (eU M 4 (M 3 5).toNatClampNeg a1) 5 ((eU M 4 (M 3 5).toNatClampNeg a1) 3 5).toNatClampNeg a2) 6 ((eU (eU M 4 (M 3 5).toNatClampNeg a1) 5 ((eU M 4 (M 3 5).toNatClampNeg a1) 3 5).toNatClampNeg a2) 3 5).toNatClampNeg a3) 3 5), .ref (G.1 7)]) [.int a2, .int a3] dX9_add_60 mX9_numberBetween lMX9_65 clX9 rfl iF3 sC3 rfl (by decide) (Nat.le_of_ble_eq_true rfl) h (fun r1 M1 h => ?_) rfl
      refine r_goto (t := 67) dX9_add_63 (by decide) ?_
      have h1 := h.1
      replace h := h.2
      refine r_iast (c := 7) (N := 401) dX9_add_67 iF7 sC7 h1 ?_
      refine r_aload_n 0 dX9_add_68 rfl rfl ?_
      refine r_dup dX9_add_69 rfl ?_
      refine r_getI (c := 3) (k := 5) dX9_add_70 clX9 lFX9_31 (by decide) iF3 sC3 rfl ?_
      refine r_iconst (v := 1) dX9_add_73 rfl ?_
      refine r_iadd dX9_add_74 ?_
      refine r_putI (c := 3) (k := 5) dX9_add_75 clX9 lFX9_31 (by decide) iF3 sC3 rfl rfl rfl ?_
      refine r_vretV dX9_add_78 rfl (by decide) (by decide) h
set_option maxHeartbeats 4000000 in
set_option maxRecDepth 100000 in
theorem B_X9_endOfToken_80 (G : eG) (M : eM) (F : Int32 → eM → Prop) (x1 : Int32)
    (h : (((0 : Int32) = 0) → F (x1 + 1) M) ∧ ((¬ (0 : Int32) = 0) → F (x1 + 2) M)) :
    Ev (eZ G 0 68 0 0 (eFI F)) G 0 68 (4, 0, 0) kX9_endOfToken 80 [(1, .int x1)] [] M 0 0 := by
  refine r_iconst (v := 0) dX9_endOfToken_80 rfl ?_
  refine r_istore_n (l' := [(3, .int 0), (1, .int x1)]) dX9_endOfToken_81 rfl (by decide) rfl ?_
  refine r_iload_n 1 dX9_endOfToken_82 rfl rfl ?_
  refine r_iload_n 0 dX9_endOfToken_83 rfl rfl ?_
  refine r_if_eq (t := 91) dX9_endOfToken_84 (by decide) (fun q => ?_) (fun q => ?_)
  · replace h := h.1 q
    refine r_iconst (v := 1) dX9_endOfToken_91 rfl ?_
    refine r_iadd dX9_endOfToken_92 ?_
    refine r_iretI dX9_endOfToken_93 rfl (by decide) (by decide) h
  · replace h := h.2 q
    refine r_iconst (v := 2) dX9_endOfToken_87 rfl ?_
    refine r_goto (t := 92) dX9_endOfToken_88 (by decide) ?_
    refine r_iadd dX9_endOfToken_92 ?_
    refine r_iretI dX9_endOfToken_93 rfl (by decide) (by decide) h
set_option maxHeartbeats 4000000 in
set_option maxRecDepth 100000 in
theorem B_X9_endOfToken_61 (G : eG) (M : eM) (F : Int32 → eM → Prop) (x1 : Int32)
    (h : Cal G 0 68 (1, 0, 0) kX8_byteAt [.ref (G.1 1), .int (x1 + 1)] M (eFI (fun (r1 : Int32) (M1 : eM) => ((¬ r1 = 61) → Ev (eZ G 0 68 0 0 (eFI F)) G 0 68 (4, 0, 0) kX9_endOfToken 80 [(1, .int x1)] [] M1 0 0) ∧ ((r1 = 61) → (((1 : Int32) = 0) → F (x1 + 1) M1) ∧ ((¬ (1 : Int32) = 0) → F (x1 + 2) M1))))) :
    Ev (eZ G 0 68 0 0 (eFI F)) G 0 68 (4, 0, 0) kX9_endOfToken 61 [(0, .ref (G.1 3)), (1, .int x1)] [] M 0 0 := by
  refine r_aload_n 0 dX9_endOfToken_61 rfl rfl ?_
  refine r_getR (c := 3) (k := 0) 1 dX9_endOfToken_62 clX9 lFX9_27 (by decide) iF3 sC3 rfl ?_
  refine r_iload_n 1 dX9_endOfToken_65 rfl rfl ?_
  refine r_iconst (v := 1) dX9_endOfToken_66 rfl ?_
  refine r_iadd dX9_endOfToken_67 ?_
  refine r_callVI (b' := (1, 0, 0)) (c := 1) (S := []) [.int (x1 + 1)] dX9_endOfToken_68 mX8_byteAt lMX9_82 clX8 rfl iF1 sC1 rfl (by decide) (Nat.le_of_ble_eq_true rfl) h (fun r1 M1 h => ?_) rfl
  refine r_bipush (v := 61) dX9_endOfToken_71 rfl ?_
  refine r_icmp_ne (t := 80) dX9_endOfToken_73 (by decide) (fun q => ?_) (fun q => ?_)
  · replace h := h.1 q
    exact Ev.sub (ks := [1]) rfl h
  · replace h := h.2 q
    refine r_iconst (v := 1) dX9_endOfToken_76 rfl ?_
    refine r_goto (t := 81) dX9_endOfToken_77 (by decide) ?_
    refine r_istore_n (l' := [(3, .int 1), (0, .ref (G.1 3)), (1, .int x1)]) dX9_endOfToken_81 rfl (by decide) rfl ?_
    refine r_iload_n 2 dX9_endOfToken_82 rfl rfl ?_
    refine r_iload_n 0 dX9_endOfToken_83 rfl rfl ?_
    refine r_if_eq (t := 91) dX9_endOfToken_84 (by decide) (fun q => ?_) (fun q => ?_)
    · replace h := h.1 q
      refine r_iconst (v := 1) dX9_endOfToken_91 rfl ?_
      refine r_iadd dX9_endOfToken_92 ?_
      refine r_iretI dX9_endOfToken_93 rfl (by decide) (by decide) h
    · replace h := h.2 q
      refine r_iconst (v := 2) dX9_endOfToken_87 rfl ?_
      refine r_goto (t := 92) dX9_endOfToken_88 (by decide) ?_
      refine r_iadd dX9_endOfToken_92 ?_
      refine r_iretI dX9_endOfToken_93 rfl (by decide) (by decide) h
set_option maxHeartbeats 4000000 in
set_option maxRecDepth 100000 in
theorem C_X9_endOfToken (G : eG) (M : eM) (F : Int32 → eM → Prop) (a1 : Int32)
    (h : Cal G 0 68 (2, 0, 0) kX8_isLetter [.ref (G.1 1), .int a1] M (eFZ (fun (r1 : Bool) (M1 : eM) => ((r1 = false) → Cal G 0 68 (2, 0, 0) kX8_isDigit [.ref (G.1 1), .int a1] M1 (eFZ (fun (r2 : Bool) (M2 : eM) => ((r2 = false) → Cal G 0 68 (1, 0, 0) kX8_byteAt [.ref (G.1 1), .int a1] M2 (eFI (fun (r3 : Int32) (M3 : eM) => ((r3 = 60) → Ev (eZ G 0 68 0 0 (eFI F)) G 0 68 (4, 0, 0) kX9_endOfToken 61 [(0, .ref (G.1 3)), (1, .int a1)] [] M3 0 0) ∧ ((¬ r3 = 60) → ((¬ r3 = 62) → Ev (eZ G 0 68 0 0 (eFI F)) G 0 68 (4, 0, 0) kX9_endOfToken 80 [(1, .int a1)] [] M3 0 0) ∧ ((r3 = 62) → Ev (eZ G 0 68 0 0 (eFI F)) G 0 68 (4, 0, 0) kX9_endOfToken 61 [(0, .ref (G.1 3)), (1, .int a1)] [] M3 0 0))))) ∧ ((r2 = true) → Cal G 0 68 (3, 0, 0) kX8_behindDigits [.ref (G.1 1), .int a1] M2 (eFI (fun (r4 : Int32) (M4 : eM) => F r4 M4)))))) ∧ ((r1 = true) → Cal G 0 68 (3, 0, 0) kX8_behindWord [.ref (G.1 1), .int a1] M1 (eFI (fun (r5 : Int32) (M5 : eM) => F r5 M5)))))) :
    Cal G 0 68 (4, 0, 0) kX9_endOfToken [.ref (G.1 3), .int a1] M (eFI F) := by
  refine Cal.of (by decide +kernel) rfl (Nat.le_of_ble_eq_true rfl) ?_
  show Ev (eZ G 0 68 0 0 (eFI F)) G 0 68 (4, 0, 0) kX9_endOfToken 0 [(0, .ref (G.1 3)), (1, .int a1)] [] M 0 0
  refine r_aload_n 0 dX9_endOfToken_0 rfl rfl ?_
  refine r_getR (c := 3) (k := 0) 1 dX9_endOfToken_1 clX9 lFX9_27 (by decide) iF3 sC3 rfl ?_
  refine r_iload_n 1 dX9_endOfToken_4 rfl rfl ?_
  refine r_callVZ (b' := (2, 0, 0)) (c := 1) (S := []) [.int a1] dX9_endOfToken_5 mX8_isLetter lMX9_69 clX8 rfl iF1 sC1 rfl (by decide) (Nat.le_of_ble_eq_true rfl) h (fun r1 M1 h => ?_) rfl
  refine r_zif_eq (t := 20) dX9_endOfToken_8 (by decide) (fun q => ?_) (fun q => ?_)
  · replace h := h.1 q
    refine r_aload_n 0 dX9_endOfToken_20 rfl rfl ?_
    refine r_getR (c := 3) (k := 0) 1 dX9_endOfToken_21 clX9 lFX9_27 (by decide) iF3 sC3 rfl ?_
    refine r_iload_n 1 dX9_endOfToken_24 rfl rfl ?_
    refine r_callVZ (b' := (2, 0, 0)) (c := 1) (S := []) [.int a1] dX9_endOfToken_25 mX8_isDigit lMX9_76 clX8 rfl iF1 sC1 rfl (by decide) (Nat.le_of_ble_eq_true rfl) h (fun r2 M2 h => ?_) rfl
    refine r_zif_eq (t := 40) dX9_endOfToken_28 (by decide) (fun q => ?_) (fun q => ?_)
    · replace h := h.1 q
      refine r_aload_n 0 dX9_endOfToken_40 rfl rfl ?_
      refine r_getR (c := 3) (k := 0) 1 dX9_endOfToken_41 clX9 lFX9_27 (by decide) iF3 sC3 rfl ?_
      refine r_iload_n 1 dX9_endOfToken_44 rfl rfl ?_
      refine r_callVI (b' := (1, 0, 0)) (c := 1) (S := []) [.int a1] dX9_endOfToken_45 mX8_byteAt lMX9_82 clX8 rfl iF1 sC1 rfl (by decide) (Nat.le_of_ble_eq_true rfl) h (fun r3 M3 h => ?_) rfl
      refine r_istore_n (l' := [(2, .int r3), (0, .ref (G.1 3)), (1, .int a1)]) dX9_endOfToken_48 rfl (by decide) rfl ?_
      refine r_iload_n 0 dX9_endOfToken_49 rfl rfl ?_
      refine r_bipush (v := 60) dX9_endOfToken_50 rfl ?_
      refine r_icmp_eq (t := 61) dX9_endOfToken_52 (by decide) (fun q => ?_) (fun q => ?_)
      · replace h := h.1 q
        exact Ev.sub (ks := [1, 2]) rfl h
      · replace h := h.2 q
        refine r_iload_n 0 dX9_endOfToken_55 rfl rfl ?_
        refine r_bipush (v := 62) dX9_endOfToken_56 rfl ?_
        refine r_icmp_ne (t := 80) dX9_endOfToken_58 (by decide) (fun q => ?_) (fun q => ?_)
        · replace h := h.1 q
          exact Ev.sub (ks := [2]) rfl h
        · replace h := h.2 q
          exact Ev.sub (ks := [1, 2]) rfl h
    · replace h := h.2 q
      refine r_aload_n 0 dX9_endOfToken_31 rfl rfl ?_
      refine r_getR (c := 3) (k := 0) 1 dX9_endOfToken_32 clX9 lFX9_27 (by decide) iF3 sC3 rfl ?_
      refine r_iload_n 1 dX9_endOfToken_35 rfl rfl ?_
      refine r_callVI (b' := (3, 0, 0)) (c := 1) (S := []) [.int a1] dX9_endOfToken_36 mX8_behindDigits lMX9_79 clX8 rfl iF1 sC1 rfl (by decide) (Nat.le_of_ble_eq_true rfl) h (fun r4 M4 h => ?_) rfl
      refine r_iretI dX9_endOfToken_39 rfl (by decide) (by decide) h
  · replace h := h.2 q
    refine r_aload_n 0 dX9_endOfToken_11 rfl rfl ?_
    refine r_getR (c := 3) (k := 0) 1 dX9_endOfToken_12 clX9 lFX9_27 (by decide) iF3 sC3 rfl ?_
    refine r_iload_n 1 dX9_endOfToken_15 rfl rfl ?_
    refine r_callVI (b' := (3, 0, 0)) (c := 1) (S := []) [.int a1] dX9_endOfToken_16 mX8_behindWord lMX9_73 clX8 rfl iF1 sC1 rfl (by decide) (Nat.le_of_ble_eq_true rfl) h (fun r5 M5 h => ?_) rfl
    refine r_iretI dX9_endOfToken_19 rfl (by decide) (by decide) h
set_option maxHeartbeats 4000000 in
set_option maxRecDepth 100000 in
theorem C_X9_kindBetween (G : eG) (M : eM) (F : Int32 → eM → Prop) (a1 : Int32) (a2 : Int32)
    (h : Cal G 0 68 (2, 0, 0) kX8_isLetter [.ref (G.1 1), .int a1] M (eFZ (fun (r1 : Bool) (M1 : eM) => ((r1 = false) → Cal G 0 68 (2, 0, 0) kX8_isDigit [.ref (G.1 1), .int a1] M1 (eFZ (fun (r2 : Bool) (M2 : eM) => ((r2 = false) → Cal G 0 68 (7, 0, 0) kX9_kindWritten [.ref (G.1 3), .int a1, .int a2, eV G 1 43] M2 (eFK G (fun (r3 : Int32) (M3 : eM) => F r3 M3))) ∧ ((r2 = true) → (((a2 - a1) ≤ 6) → F 40 M2) ∧ ((¬ (a2 - a1) ≤ 6) → F 43 M2))))) ∧ ((r1 = true) → (((a2 - a1) ≤ 10) → Cal G 0 68 (7, 0, 0) kX9_kindWritten [.ref (G.1 3), .int a1, .int a2, eV G 1 41] M1 (eFK G (fun (r4 : Int32) (M4 : eM) => F r4 M4))) ∧ ((¬ (a2 - a1) ≤ 10) → F 43 M1))))) :
    Cal G 0 68 (8, 0, 0) kX9_kindBetween [.ref (G.1 3), .int a1, .int a2] M (eFK G F) := by
  refine Cal.of (by decide +kernel) rfl (Nat.le_of_ble_eq_true rfl) ?_
  show Ev (eZ G 0 68 0 0 (eFK G F)) G 0 68 (8, 0, 0) kX9_kindBetween 0 [(0, .ref (G.1 3)), (1, .int a1), (2, .int a2)] [] M 0 0
  refine r_aload_n 0 dX9_kindBetween_0 rfl rfl ?_
  refine r_getR (c := 3) (k := 0) 1 dX9_kindBetween_1 clX9 lFX9_27 (by decide) iF3 sC3 rfl ?_
  refine r_iload_n 1 dX9_kindBetween_4 rfl rfl ?_
  refine r_callVZ (b' := (2, 0, 0)) (c := 1) (S := []) [.int a1] dX9_kindBetween_5 mX8_isLetter lMX9_69 clX8 rfl iF1 sC1 rfl (by decide) (Nat.le_of_ble_eq_true rfl) h (fun r1 M1 h => ?_) rfl
  refine r_zif_eq (t := 35) dX9_kindBetween_8 (by decide) (fun q => ?_) (fun q => ?_)
  · replace h := h.1 q
    refine r_aload_n 0 dX9_kindBetween_35 rfl rfl ?_
    refine r_getR (c := 3) (k := 0) 1 dX9_kindBetween_36 clX9 lFX9_27 (by decide) iF3 sC3 rfl ?_
    refine r_iload_n 1 dX9_kindBetween_39 rfl rfl ?_
    refine r_callVZ (b' := (2, 0, 0)) (c := 1) (S := []) [.int a1] dX9_kindBetween_40 mX8_isDigit lMX9_76 clX8 rfl iF1 sC1 rfl (by decide) (Nat.le_of_ble_eq_true rfl) h (fun r2 M2 h => ?_) rfl
    refine r_zif_eq (t := 64) dX9_kindBetween_43 (by decide) (fun q => ?_) (fun q => ?_)
    · replace h := h.1 q
      refine r_aload_n 0 dX9_kindBetween_64 rfl rfl ?_
      refine r_iload_n 1 dX9_kindBetween_65 rfl rfl ?_
      refine r_iload_n 2 dX9_kindBetween_66 rfl rfl ?_
      refine r_getsK (w := 43) 42 dX9_kindBetween_67 lFX9_51 (by decide) rfl rfl ?_
      refine r_callVK (b' := (7, 0, 0)) (c := 3) (S := []) [.int a1, .int a2, eV G 1 43] dX9_kindBetween_70 mX9_kindWritten lMX9_88 clX9 rfl iF3 sC3 rfl (by decide) (Nat.le_of_ble_eq_true rfl) h (fun r3 M3 h => ?_) rfl
      refine r_kretK dX9_kindBetween_73 rfl (by decide) (by decide) h
    · replace h := h.2 q
      refine r_iload_n 2 dX9_kindBetween_46 rfl rfl ?_
      refine r_iload_n 1 dX9_kindBetween_47 rfl rfl ?_
      refine r_isub dX9_kindBetween_48 ?_
      refine r_bipush (v := 6) dX9_kindBetween_49 rfl ?_
      refine r_icmp_le (t := 60) dX9_kindBetween_51 (by decide) (fun q => ?_) (fun q => ?_)
      · replace h := h.1 q
        refine r_getsK (w := 40) 39 dX9_kindBetween_60 lFX9_62 (by decide) rfl rfl ?_
        refine r_kretK dX9_kindBetween_63 rfl (by decide) (by decide) h
      · replace h := h.2 q
        refine r_getsK (w := 43) 42 dX9_kindBetween_54 lFX9_51 (by decide) rfl rfl ?_
        refine r_goto (t := 63) dX9_kindBetween_57 (by decide) ?_
        refine r_kretK dX9_kindBetween_63 rfl (by decide) (by decide) h
  · replace h := h.2 q
    refine r_iload_n 2 dX9_kindBetween_11 rfl rfl ?_
    refine r_iload_n 1 dX9_kindBetween_12 rfl rfl ?_
    refine r_isub dX9_kindBetween_13 ?_
    refine r_bipush (v := 10) dX9_kindBetween_14 rfl ?_
    refine r_icmp_le (t := 25) dX9_kindBetween_16 (by decide) (fun q => ?_) (fun q => ?_)
    · replace h := h.1 q
      refine r_aload_n 0 dX9_kindBetween_25 rfl rfl ?_
      refine r_iload_n 1 dX9_kindBetween_26 rfl rfl ?_
      refine r_iload_n 2 dX9_kindBetween_27 rfl rfl ?_
      refine r_getsK (w := 41) 40 dX9_kindBetween_28 lFX9_85 (by decide) rfl rfl ?_
      refine r_callVK (b' := (7, 0, 0)) (c := 3) (S := []) [.int a1, .int a2, eV G 1 41] dX9_kindBetween_31 mX9_kindWritten lMX9_88 clX9 rfl iF3 sC3 rfl (by decide) (Nat.le_of_ble_eq_true rfl) h (fun r4 M4 h => ?_) rfl
      refine r_kretK dX9_kindBetween_34 rfl (by decide) (by decide) h
    · replace h := h.2 q
      refine r_getsK (w := 43) 42 dX9_kindBetween_19 lFX9_51 (by decide) rfl rfl ?_
      refine r_goto (t := 34) dX9_kindBetween_22 (by decide) ?_
      refine r_kretK dX9_kindBetween_34 rfl (by decide) (by decide) h
set_option maxHeartbeats 4000000 in
set_option maxRecDepth 100000 in
theorem B_X9_kindWritten_13 (G : eG) (M : eM) (F : Int32 → eM → Prop) (x1 : Int32) (x2 : Int32) (x3 : Int32) (x5 : Int32) (x6 : Int32)
    (h : ((x5 ≤ x6) → F x3 M) ∧ ((¬ x5 ≤ x6) → vp_in x6 44 ∧ ((1 ≤ (x6 + 1) ∧ (x6 + 1) ≤ 44) ∧ (Cal G 0 68 (6, 0, 0) kX8_says [.ref (G.1 1), .ref (G.1 (1100 + ((x6 + 1).toNatClampNeg - 1))), .int x1, .int x2] M (eFZ (fun (r1 : Bool) (M1 : eM) => ((r1 = false) → Ev (eZ G 0 68 0 0 (eFK G F)) G 0 68 (7, 0, 0) kX9_kindWritten 13 [(0, .ref (G.1 3)), (1, .int x1), (2, .int x2), (3, eV G 1 x3), (4, .ref (G.1 1300)), (5, .int x5), (6, .int (x6 + 1))] [] M1 0 0) ∧ ((r1 = true) → F (x6 + 1) M1))))))) :
    Ev (eZ G 0 68 0 0 (eFK G F)) G 0 68 (7, 0, 0) kX9_kindWritten 13 [(0, .ref (G.1 3)), (1, .int x1), (2, .int x2), (3, eV G 1 x3), (4, .ref (G.1 1300)), (5, .int x5), (6, .int x6)] [] M 0 0 := by
  refine r_iload 6 dX9_kindWritten_13 rfl ?_
  refine r_iload 5 dX9_kindWritten_15 rfl ?_
  refine r_icmp_ge (t := 53) dX9_kindWritten_17 (by decide) (fun q => ?_) (fun q => ?_)
  · replace h := h.1 q
    refine r_kload_n 3 dX9_kindWritten_53 rfl rfl ?_
    refine r_kretK dX9_kindWritten_54 rfl (by decide) (by decide) h
  · replace h := h.2 q
    refine r_aload 4 dX9_kindWritten_20 rfl ?_
    refine r_iload 6 dX9_kindWritten_22 rfl ?_
    have hx := h.1
    replace h := h.2
    refine r_allld dX9_kindWritten_24 hx ?_
    refine r_kstore (l' := [(7, eV G 1 (x6 + 1)), (0, .ref (G.1 3)), (1, .int x1), (2, .int x2), (3, eV G 1 x3), (4, .ref (G.1 1300)), (5, .int x5), (6, .int x6)]) dX9_kindWritten_25 (by decide) rfl ?_
    refine r_aload_n 1 dX9_kindWritten_27 rfl rfl ?_
    refine r_getR (c := 3) (k := 0) 1 dX9_kindWritten_28 clX9 lFX9_27 (by decide) iF3 sC3 rfl ?_
    refine r_kload 0 dX9_kindWritten_31 rfl ?_
    have hx := h.1
    replace h := h.2
    refine r_ktext dX9_kindWritten_33 lFX9_95 hx ?_
    refine r_iload_n 2 dX9_kindWritten_36 rfl rfl ?_
    refine r_iload_n 3 dX9_kindWritten_37 rfl rfl ?_
    refine r_callVZ (b' := (6, 0, 0)) (c := 1) (S := []) [.ref (G.1 (1100 + ((x6 + 1).toNatClampNeg - 1))), .int x1, .int x2] dX9_kindWritten_38 mX8_says lMX9_99 clX8 rfl iF1 sC1 rfl (by decide) (Nat.le_of_ble_eq_true rfl) h (fun r1 M1 h => ?_) rfl
    refine r_zif_eq (t := 47) dX9_kindWritten_41 (by decide) (fun q => ?_) (fun q => ?_)
    · replace h := h.1 q
      refine r_iinc (v := x6 + 1) (l' := [(6, .int (x6 + 1)), (7, eV G 1 (x6 + 1)), (0, .ref (G.1 3)), (1, .int x1), (2, .int x2), (3, eV G 1 x3), (4, .ref (G.1 1300)), (5, .int x5)]) 7 dX9_kindWritten_47 rfl rfl (by decide) rfl ?_
      refine r_goto (t := 13) dX9_kindWritten_50 (by decide) ?_
      exact Ev.sub (ks := [2, 3, 4, 5, 6, 7, 0]) rfl h
    · replace h := h.2 q
      refine r_kload 0 dX9_kindWritten_44 rfl ?_
      refine r_kretK dX9_kindWritten_46 rfl (by decide) (by decide) h
set_option maxHeartbeats 4000000 in
set_option maxRecDepth 100000 in
theorem C_X9_kindWritten (G : eG) (M : eM) (F : Int32 → eM → Prop) (a1 : Int32) (a2 : Int32) (a3 : Int32)
    (h : Ev (eZ G 0 68 0 0 (eFK G F)) G 0 68 (7, 0, 0) kX9_kindWritten 13 [(0, .ref (G.1 3)), (1, .int a1), (2, .int a2), (3, eV G 1 a3), (4, .ref (G.1 1300)), (5, .int 44), (6, .int 0)] [] M 0 0) :
    Cal G 0 68 (7, 0, 0) kX9_kindWritten [.ref (G.1 3), .int a1, .int a2, eV G 1 a3] M (eFK G F) := by
  refine Cal.ofK [(0, .ref (G.1 3)), (1, .int a1), (2, .int a2), (3, eV G 1 a3)] (by decide +kernel) rfl (by rw [lg_len _ (by simp [eV_cat, eCatI, eCatR])]; exact Nat.le_of_ble_eq_true rfl) (by simp [lv_args, eV_cat, eCatI, eCatR]) ?_
  show Ev (eZ G 0 68 0 0 (eFK G F)) G 0 68 (7, 0, 0) kX9_kindWritten 0 [(0, .ref (G.1 3)), (1, .int a1), (2, .int a2), (3, eV G 1 a3)] [] M 0 0
  refine r_getsN (w := .ref (G.1 1300)) dX9_kindWritten_0 lFX9_92 (fun h => h.2.2.2.2.1.1) ?_
  refine r_astore (l' := [(4, .ref (G.1 1300)), (0, .ref (G.1 3)), (1, .int a1), (2, .int a2), (3, eV G 1 a3)]) dX9_kindWritten_3 (by decide) (by simp [List.filter_cons, eV_cat, eCatI, eCatR]) ?_
  refine r_aload 0 dX9_kindWritten_5 rfl ?_
  refine r_tlen (tc := 1300) (v := 44) dX9_kindWritten_7 (fun h => h.2.2.2.2.1) rfl ?_
  refine r_istore (l' := [(5, .int 44), (4, .ref (G.1 1300)), (0, .ref (G.1 3)), (1, .int a1), (2, .int a2), (3, eV G 1 a3)]) dX9_kindWritten_8 (by decide) rfl ?_
  refine r_iconst (v := 0) dX9_kindWritten_10 rfl ?_
  refine r_istore (l' := [(6, .int 0), (5, .int 44), (4, .ref (G.1 1300)), (0, .ref (G.1 3)), (1, .int a1), (2, .int a2), (3, eV G 1 a3)]) dX9_kindWritten_11 (by decide) rfl ?_
  exact Ev.sub (ks := [3, 4, 5, 6, 2, 1, 0]) rfl h
set_option maxHeartbeats 4000000 in
set_option maxRecDepth 100000 in
theorem B_X9_numberBetween_5 (G : eG) (M : eM) (F : Int32 → eM → Prop) (x2 : Int32) (x3 : Int32) (x4 : Int32)
    (h : ((x2 ≤ x4) → F x3 M) ∧ ((¬ x2 ≤ x4) → Cal G 0 68 (1, 0, 0) kX8_byteAt [.ref (G.1 1), .int x4] M (eFI (fun (r1 : Int32) (M1 : eM) => Ev (eZ G 0 68 0 0 (eFI F)) G 0 68 (2, 0, 0) kX9_numberBetween 5 [(0, .ref (G.1 3)), (2, .int x2), (3, .int ((x3 * 10) + (r1 - 48))), (4, .int (x4 + 1))] [] M1 0 0)))) :
    Ev (eZ G 0 68 0 0 (eFI F)) G 0 68 (2, 0, 0) kX9_numberBetween 5 [(0, .ref (G.1 3)), (2, .int x2), (3, .int x3), (4, .int x4)] [] M 0 0 := by
  refine r_iload 3 dX9_numberBetween_5 rfl ?_
  refine r_iload_n 1 dX9_numberBetween_7 rfl rfl ?_
  refine r_icmp_ge (t := 35) dX9_numberBetween_8 (by decide) (fun q => ?_) (fun q => ?_)
  · replace h := h.1 q
    refine r_iload_n 2 dX9_numberBetween_35 rfl rfl ?_
    refine r_iretI dX9_numberBetween_36 rfl (by decide) (by decide) h
  · replace h := h.2 q
    refine r_iload_n 2 dX9_numberBetween_11 rfl rfl ?_
    refine r_bipush (v := 10) dX9_numberBetween_12 rfl ?_
    refine r_imul dX9_numberBetween_14 ?_
    refine r_aload_n 0 dX9_numberBetween_15 rfl rfl ?_
    refine r_getR (c := 3) (k := 0) 1 dX9_numberBetween_16 clX9 lFX9_27 (by decide) iF3 sC3 rfl ?_
    refine r_iload 3 dX9_numberBetween_19 rfl ?_
    refine r_callVI (b' := (1, 0, 0)) (c := 1) (S := [.int (x3 * 10)]) [.int x4] dX9_numberBetween_21 mX8_byteAt lMX9_82 clX8 rfl iF1 sC1 rfl (by decide) (Nat.le_of_ble_eq_true rfl) h (fun r1 M1 h => ?_) rfl
    refine r_bipush (v := 48) dX9_numberBetween_24 rfl ?_
    refine r_isub dX9_numberBetween_26 ?_
    refine r_iadd dX9_numberBetween_27 ?_
    refine r_istore_n (l' := [(3, .int ((x3 * 10) + (r1 - 48))), (0, .ref (G.1 3)), (2, .int x2), (4, .int x4)]) dX9_numberBetween_28 rfl (by decide) rfl ?_
    refine r_iinc (v := x4 + 1) (l' := [(4, .int (x4 + 1)), (3, .int ((x3 * 10) + (r1 - 48))), (0, .ref (G.1 3)), (2, .int x2)]) 3 dX9_numberBetween_29 rfl rfl (by decide) rfl ?_
    refine r_goto (t := 5) dX9_numberBetween_32 (by decide) ?_
    exact Ev.sub (ks := [2, 3, 1, 0]) rfl h
set_option maxHeartbeats 4000000 in
set_option maxRecDepth 100000 in
theorem C_X9_numberBetween (G : eG) (M : eM) (F : Int32 → eM → Prop) (a1 : Int32) (a2 : Int32)
    (h : Ev (eZ G 0 68 0 0 (eFI F)) G 0 68 (2, 0, 0) kX9_numberBetween 5 [(0, .ref (G.1 3)), (2, .int a2), (3, .int 0), (4, .int a1)] [] M 0 0) :
    Cal G 0 68 (2, 0, 0) kX9_numberBetween [.ref (G.1 3), .int a1, .int a2] M (eFI F) := by
  refine Cal.of (by decide +kernel) rfl (Nat.le_of_ble_eq_true rfl) ?_
  show Ev (eZ G 0 68 0 0 (eFI F)) G 0 68 (2, 0, 0) kX9_numberBetween 0 [(0, .ref (G.1 3)), (1, .int a1), (2, .int a2)] [] M 0 0
  refine r_iconst (v := 0) dX9_numberBetween_0 rfl ?_
  refine r_istore_n (l' := [(3, .int 0), (0, .ref (G.1 3)), (1, .int a1), (2, .int a2)]) dX9_numberBetween_1 rfl (by decide) rfl ?_
  refine r_iload_n 2 dX9_numberBetween_2 rfl rfl ?_
  refine r_istore (l' := [(4, .int a1), (3, .int 0), (0, .ref (G.1 3)), (1, .int a1), (2, .int a2)]) dX9_numberBetween_3 (by decide) rfl ?_
  exact Ev.sub (ks := [2, 4, 1, 0]) rfl h
set_option maxHeartbeats 4000000 in
set_option maxRecDepth 100000 in
theorem C_X9_kindOf (G : eG) (M : eM) (F : Int32 → eM → Prop) (a1 : Int32)
    (h : ((a1 < 0) → F 43 M) ∧ ((¬ a1 < 0) → (((M 3 5) ≤ a1) → F 43 M) ∧ ((¬ (M 3 5) ≤ a1) → vp_in a1 401 ∧ (F (M 4 a1.toNatClampNeg) M)))) :
    Cal G 0 68 (1, 0, 0) kX9_kindOf [.ref (G.1 3), .int a1] M (eFK G F) := by
  refine Cal.of (by decide +kernel) rfl (Nat.le_of_ble_eq_true rfl) ?_
  show Ev (eZ G 0 68 0 0 (eFK G F)) G 0 68 (1, 0, 0) kX9_kindOf 0 [(0, .ref (G.1 3)), (1, .int a1)] [] M 0 0
  refine r_iload_n 1 dX9_kindOf_0 rfl rfl ?_
  refine r_if_lt (t := 21) dX9_kindOf_1 (by decide) (fun q => ?_) (fun q => ?_)
  · replace h := h.1 q
    refine r_getsK (w := 43) 42 dX9_kindOf_21 lFX9_51 (by decide) rfl rfl ?_
    refine r_kretK dX9_kindOf_24 rfl (by decide) (by decide) h
  · replace h := h.2 q
    refine r_iload_n 1 dX9_kindOf_4 rfl rfl ?_
    refine r_aload_n 0 dX9_kindOf_5 rfl rfl ?_
    refine r_getI (c := 3) (k := 5) dX9_kindOf_6 clX9 lFX9_31 (by decide) iF3 sC3 rfl ?_
    refine r_icmp_ge (t := 21) dX9_kindOf_9 (by decide) (fun q => ?_) (fun q => ?_)
    · replace h := h.1 q
      refine r_getsK (w := 43) 42 dX9_kindOf_21 lFX9_51 (by decide) rfl rfl ?_
      refine r_kretK dX9_kindOf_24 rfl (by decide) (by decide) h
    · replace h := h.2 q
      refine r_aload_n 0 dX9_kindOf_12 rfl rfl ?_
      refine r_getR (c := 3) (k := 1) 4 dX9_kindOf_13 clX9 lFX9_11 (by decide) iF3 sC3 rfl ?_
      refine r_iload_n 1 dX9_kindOf_16 rfl rfl ?_
      have h1 := h.1
      replace h := h.2
      refine r_kald (c := 4) (N := 401) dX9_kindOf_17 iF4 sC4 h1 ?_
      refine r_goto (t := 24) dX9_kindOf_18 (by decide) ?_
      refine r_kretK dX9_kindOf_24 rfl (by decide) (by decide) h
set_option maxHeartbeats 4000000 in
set_option maxRecDepth 100000 in
theorem C_X9_startOf (G : eG) (M : eM) (F : Int32 → eM → Prop) (a1 : Int32)
    (h : ((a1 < 0) → F (M 1 1) M) ∧ ((¬ a1 < 0) → (((M 3 5) ≤ a1) → F (M 1 1) M) ∧ ((¬ (M 3 5) ≤ a1) → vp_in a1 401 ∧ (F (M 5 a1.toNatClampNeg) M)))) :
    Cal G 0 68 (1, 0, 0) kX9_startOf [.ref (G.1 3), .int a1] M (eFI F) := by
  refine Cal.of (by decide +kernel) rfl (Nat.le_of_ble_eq_true rfl) ?_
  show Ev (eZ G 0 68 0 0 (eFI F)) G 0 68 (1, 0, 0) kX9_startOf 0 [(0, .ref (G.1 3)), (1, .int a1)] [] M 0 0
  refine r_iload_n 1 dX9_startOf_0 rfl rfl ?_
  refine r_if_lt (t := 21) dX9_startOf_1 (by decide) (fun q => ?_) (fun q => ?_)
  · replace h := h.1 q
    refine r_aload_n 0 dX9_startOf_21 rfl rfl ?_
    refine r_getR (c := 3) (k := 0) 1 dX9_startOf_22 clX9 lFX9_27 (by decide) iF3 sC3 rfl ?_
    refine r_getI (c := 1) (k := 1) dX9_startOf_25 clX8 lFX9_41 (by decide) iF1 sC1 rfl ?_
    refine r_iretI dX9_startOf_28 rfl (by decide) (by decide) h
  · replace h := h.2 q
    refine r_iload_n 1 dX9_startOf_4 rfl rfl ?_
    refine r_aload_n 0 dX9_startOf_5 rfl rfl ?_
    refine r_getI (c := 3) (k := 5) dX9_startOf_6 clX9 lFX9_31 (by decide) iF3 sC3 rfl ?_
    refine r_icmp_ge (t := 21) dX9_startOf_9 (by decide) (fun q => ?_) (fun q => ?_)
    · replace h := h.1 q
      refine r_aload_n 0 dX9_startOf_21 rfl rfl ?_
      refine r_getR (c := 3) (k := 0) 1 dX9_startOf_22 clX9 lFX9_27 (by decide) iF3 sC3 rfl ?_
      refine r_getI (c := 1) (k := 1) dX9_startOf_25 clX8 lFX9_41 (by decide) iF1 sC1 rfl ?_
      refine r_iretI dX9_startOf_28 rfl (by decide) (by decide) h
    · replace h := h.2 q
      refine r_aload_n 0 dX9_startOf_12 rfl rfl ?_
      refine r_getR (c := 3) (k := 2) 5 dX9_startOf_13 clX9 lFX9_17 (by decide) iF3 sC3 rfl ?_
      refine r_iload_n 1 dX9_startOf_16 rfl rfl ?_
      have h1 := h.1
      replace h := h.2
      refine r_iald (c := 5) (N := 401) dX9_startOf_17 iF5 sC5 h1 ?_
      refine r_goto (t := 28) dX9_startOf_18 (by decide) ?_
      refine r_iretI dX9_startOf_28 rfl (by decide) (by decide) h
set_option maxHeartbeats 4000000 in
set_option maxRecDepth 100000 in
theorem C_X9_valueOf (G : eG) (M : eM) (F : Int32 → eM → Prop) (a1 : Int32)
    (h : ((a1 < 0) → F 0 M) ∧ ((¬ a1 < 0) → (((M 3 5) ≤ a1) → F 0 M) ∧ ((¬ (M 3 5) ≤ a1) → vp_in a1 401 ∧ (F (M 7 a1.toNatClampNeg) M)))) :
    Cal G 0 68 (1, 0, 0) kX9_valueOf [.ref (G.1 3), .int a1] M (eFI F) := by
  refine Cal.of (by decide +kernel) rfl (Nat.le_of_ble_eq_true rfl) ?_
  show Ev (eZ G 0 68 0 0 (eFI F)) G 0 68 (1, 0, 0) kX9_valueOf 0 [(0, .ref (G.1 3)), (1, .int a1)] [] M 0 0
  refine r_iload_n 1 dX9_valueOf_0 rfl rfl ?_
  refine r_if_lt (t := 21) dX9_valueOf_1 (by decide) (fun q => ?_) (fun q => ?_)
  · replace h := h.1 q
    refine r_iconst (v := 0) dX9_valueOf_21 rfl ?_
    refine r_iretI dX9_valueOf_22 rfl (by decide) (by decide) h
  · replace h := h.2 q
    refine r_iload_n 1 dX9_valueOf_4 rfl rfl ?_
    refine r_aload_n 0 dX9_valueOf_5 rfl rfl ?_
    refine r_getI (c := 3) (k := 5) dX9_valueOf_6 clX9 lFX9_31 (by decide) iF3 sC3 rfl ?_
    refine r_icmp_ge (t := 21) dX9_valueOf_9 (by decide) (fun q => ?_) (fun q => ?_)
    · replace h := h.1 q
      refine r_iconst (v := 0) dX9_valueOf_21 rfl ?_
      refine r_iretI dX9_valueOf_22 rfl (by decide) (by decide) h
    · replace h := h.2 q
      refine r_aload_n 0 dX9_valueOf_12 rfl rfl ?_
      refine r_getR (c := 3) (k := 4) 7 dX9_valueOf_13 clX9 lFX9_24 (by decide) iF3 sC3 rfl ?_
      refine r_iload_n 1 dX9_valueOf_16 rfl rfl ?_
      have h1 := h.1
      replace h := h.2
      refine r_iald (c := 7) (N := 401) dX9_valueOf_17 iF7 sC7 h1 ?_
      refine r_goto (t := 22) dX9_valueOf_18 (by decide) ?_
      refine r_iretI dX9_valueOf_22 rfl (by decide) (by decide) h
set_option maxHeartbeats 4000000 in
set_option maxRecDepth 100000 in
theorem C_X9_setValue (G : eG) (M : eM) (F : eM → Prop) (a1 : Int32) (a2 : Int32)
    (h : ((a1 < 0) → F M) ∧ ((¬ a1 < 0) → (((M 3 5) ≤ a1) → F M) ∧ ((¬ (M 3 5) ≤ a1) → vp_in a1 401 ∧ (F (eU M 7 a1.toNatClampNeg a2))))) :
    Cal G 0 68 (1, 0, 0) kX9_setValue [.ref (G.1 3), .int a1, .int a2] M (eFV F) := by
  refine Cal.of (by decide +kernel) rfl (Nat.le_of_ble_eq_true rfl) ?_
  show Ev (eZ G 0 68 0 0 (eFV F)) G 0 68 (1, 0, 0) kX9_setValue 0 [(0, .ref (G.1 3)), (1, .int a1), (2, .int a2)] [] M 0 0
  refine r_iload_n 1 dX9_setValue_0 rfl rfl ?_
  refine r_if_lt (t := 19) dX9_setValue_1 (by decide) (fun q => ?_) (fun q => ?_)
  · replace h := h.1 q
    refine r_vretV dX9_setValue_19 rfl (by decide) (by decide) h
  · replace h := h.2 q
    refine r_iload_n 1 dX9_setValue_4 rfl rfl ?_
    refine r_aload_n 0 dX9_setValue_5 rfl rfl ?_
    refine r_getI (c := 3) (k := 5) dX9_setValue_6 clX9 lFX9_31 (by decide) iF3 sC3 rfl ?_
    refine r_icmp_ge (t := 19) dX9_setValue_9 (by decide) (fun q => ?_) (fun q => ?_)
    · replace h := h.1 q
      refine r_vretV dX9_setValue_19 rfl (by decide) (by decide) h
    · replace h := h.2 q
      refine r_aload_n 0 dX9_setValue_12 rfl rfl ?_
      refine r_getR (c := 3) (k := 4) 7 dX9_setValue_13 clX9 lFX9_24 (by decide) iF3 sC3 rfl ?_
      refine r_iload_n 1 dX9_setValue_16 rfl rfl ?_
      refine r_iload_n 2 dX9_setValue_17 rfl rfl ?_
      have h1 := h.1
      replace h := h.2
      refine r_iast (c := 7) (N := 401) dX9_setValue_18 iF7 sC7 h1 ?_
      refine r_vretV dX9_setValue_19 rfl (by decide) (by decide) h
set_option maxHeartbeats 4000000 in
set_option maxRecDepth 100000 in
theorem C_X9_areSameWords (G : eG) (M : eM) (F : Bool → eM → Prop) (a1 : Int32) (a2 : Int32)
    (h : ((a1 < 0) → F false M) ∧ ((¬ a1 < 0) → (((M 3 5) ≤ a1) → F false M) ∧ ((¬ (M 3 5) ≤ a1) → ((a2 < 0) → F false M) ∧ ((¬ a2 < 0) → ((a2 < (M 3 5)) → vp_in a1 401 ∧ (vp_in a1 401 ∧ (vp_in a2 401 ∧ (vp_in a2 401 ∧ (((¬ ((M 6 a1.toNatClampNeg) - (M 5 a1.toNatClampNeg)) = ((M 6 a2.toNatClampNeg) - (M 5 a2.toNatClampNeg))) → F false M) ∧ ((((M 6 a1.toNatClampNeg) - (M 5 a1.toNatClampNeg)) = ((M 6 a2.toNatClampNeg) - (M 5 a2.toNatClampNeg))) → vp_in a1 401 ∧ (vp_in a2 401 ∧ (Cal G 0 68 (2, 0, 0) kX8_saysSame [.ref (G.1 1), .int (M 5 a1.toNatClampNeg), .int (M 5 a2.toNatClampNeg), .int ((M 6 a1.toNatClampNeg) - (M 5 a1.toNatClampNeg))] M (eFZ (fun (r1 : Bool) (M1 : eM) => ((r1 = false) → F false M1) ∧ ((r1 = true) → F true M1))))))))))) ∧ ((¬ a2 < (M 3 5)) → F false M))))) :
    Cal G 0 68 (3, 0, 0) kX9_areSameWords [.ref (G.1 3), .int a1, .int a2] M (eFZ F) := by
  refine Cal.of (by decide +kernel) rfl (Nat.le_of_ble_eq_true rfl) ?_
  show Ev (eZ G 0 68 0 0 (eFZ F)) G 0 68 (3, 0, 0) kX9_areSameWords 0 [(0, .ref (G.1 3)), (1, .int a1), (2, .int a2)] [] M 0 0
  refine r_iload_n 1 dX9_areSameWords_0 rfl rfl ?_
  refine r_if_lt (t := 24) dX9_areSameWords_1 (by decide) (fun q => ?_) (fun q => ?_)
  · replace h := h.1 q
    refine r_iconst (v := 0) dX9_areSameWords_24 rfl ?_
    refine r_iretZ0 dX9_areSameWords_25 rfl (by decide) (by decide) h
  · replace h := h.2 q
    refine r_iload_n 1 dX9_areSameWords_4 rfl rfl ?_
    refine r_aload_n 0 dX9_areSameWords_5 rfl rfl ?_
    refine r_getI (c := 3) (k := 5) dX9_areSameWords_6 clX9 lFX9_31 (by decide) iF3 sC3 rfl ?_
    refine r_icmp_ge (t := 24) dX9_areSameWords_9 (by decide) (fun q => ?_) (fun q => ?_)
    · replace h := h.1 q
      refine r_iconst (v := 0) dX9_areSameWords_24 rfl ?_
      refine r_iretZ0 dX9_areSameWords_25 rfl (by decide) (by decide) h
    · replace h := h.2 q
      refine r_iload_n 2 dX9_areSameWords_12 rfl rfl ?_
      refine r_if_lt (t := 24) dX9_areSameWords_13 (by decide) (fun q => ?_) (fun q => ?_)
      · replace h := h.1 q
        refine r_iconst (v := 0) dX9_areSameWords_24 rfl ?_
        refine r_iretZ0 dX9_areSameWords_25 rfl (by decide) (by decide) h
      · replace h := h.2 q
        refine r_iload_n 2 dX9_areSameWords_16 rfl rfl ?_
        refine r_aload_n 0 dX9_areSameWords_17 rfl rfl ?_
        refine r_getI (c := 3) (k := 5) dX9_areSameWords_18 clX9 lFX9_31 (by decide) iF3 sC3 rfl ?_
        refine r_icmp_lt (t := 26) dX9_areSameWords_21 (by decide) (fun q => ?_) (fun q => ?_)
        · replace h := h.1 q
          refine r_aload_n 0 dX9_areSameWords_26 rfl rfl ?_
          refine r_getR (c := 3) (k := 3) 6 dX9_areSameWords_27 clX9 lFX9_21 (by decide) iF3 sC3 rfl ?_
          refine r_iload_n 1 dX9_areSameWords_30 rfl rfl ?_
          have h1 := h.1
          replace h := h.2
          refine r_iald (c := 6) (N := 401) dX9_areSameWords_31 iF6 sC6 h1 ?_
          refine r_aload_n 0 dX9_areSameWords_32 rfl rfl ?_
          refine r_getR (c := 3) (k := 2) 5 dX9_areSameWords_33 clX9 lFX9_17 (by decide) iF3 sC3 rfl ?_
          refine r_iload_n 1 dX9_areSameWords_36 rfl rfl ?_
          have h1 := h.1
          replace h := h.2
          refine r_iald (c := 5) (N := 401) dX9_areSameWords_37 iF5 sC5 h1 ?_
          refine r_isub dX9_areSameWords_38 ?_
          refine r_istore_n (l' := [(3, .int ((M 6 a1.toNatClampNeg) - (M 5 a1.toNatClampNeg))), (0, .ref (G.1 3)), (1, .int a1), (2, .int a2)]) dX9_areSameWords_39 rfl (by decide) rfl ?_
          refine r_iload_n 0 dX9_areSameWords_40 rfl rfl ?_
          refine r_aload_n 1 dX9_areSameWords_41 rfl rfl ?_
          refine r_getR (c := 3) (k := 3) 6 dX9_areSameWords_42 clX9 lFX9_21 (by decide) iF3 sC3 rfl ?_
          refine r_iload_n 3 dX9_areSameWords_45 rfl rfl ?_
          have h1 := h.1
          replace h := h.2
          refine r_iald (c := 6) (N := 401) dX9_areSameWords_46 iF6 sC6 h1 ?_
          refine r_aload_n 1 dX9_areSameWords_47 rfl rfl ?_
          refine r_getR (c := 3) (k := 2) 5 dX9_areSameWords_48 clX9 lFX9_17 (by decide) iF3 sC3 rfl ?_
          refine r_iload_n 3 dX9_areSameWords_51 rfl rfl ?_
          have h1 := h.1
          replace h := h.2
          refine r_iald (c := 5) (N := 401) dX9_areSameWords_52 iF5 sC5 h1 ?_
          refine r_isub dX9_areSameWords_53 ?_
          refine r_icmp_ne (t := 84) dX9_areSameWords_54 (by decide) (fun q => ?_) (fun q => ?_)
          · replace h := h.1 q
            refine r_iconst (v := 0) dX9_areSameWords_84 rfl ?_
            refine r_iretZ0 dX9_areSameWords_85 rfl (by decide) (by decide) h
          · replace h := h.2 q
            refine r_aload_n 1 dX9_areSameWords_57 rfl rfl ?_
            refine r_getR (c := 3) (k := 0) 1 dX9_areSameWords_58 clX9 lFX9_27 (by decide) iF3 sC3 rfl ?_
            refine r_aload_n 1 dX9_areSameWords_61 rfl rfl ?_
            refine r_getR (c := 3) (k := 2) 5 dX9_areSameWords_62 clX9 lFX9_17 (by decide) iF3 sC3 rfl ?_
            refine r_iload_n 2 dX9_areSameWords_65 rfl rfl ?_
            have h1 := h.1
            replace h := h.2
            refine r_iald (c := 5) (N := 401) dX9_areSameWords_66 iF5 sC5 h1 ?_
            refine r_aload_n 1 dX9_areSameWords_67 rfl rfl ?_
            refine r_getR (c := 3) (k := 2) 5 dX9_areSameWords_68 clX9 lFX9_17 (by decide) iF3 sC3 rfl ?_
            refine r_iload_n 3 dX9_areSameWords_71 rfl rfl ?_
            have h1 := h.1
            replace h := h.2
            refine r_iald (c := 5) (N := 401) dX9_areSameWords_72 iF5 sC5 h1 ?_
            refine r_iload_n 0 dX9_areSameWords_73 rfl rfl ?_
            refine r_callVZ (b' := (2, 0, 0)) (c := 1) (S := []) [.int (M 5 a1.toNatClampNeg), .int (M 5 a2.toNatClampNeg), .int ((M 6 a1.toNatClampNeg) - (M 5 a1.toNatClampNeg))] dX9_areSameWords_74 mX8_saysSame lMX9_103 clX8 rfl iF1 sC1 rfl (by decide) (Nat.le_of_ble_eq_true rfl) h (fun r1 M1 h => ?_) rfl
            refine r_zif_eq (t := 84) dX9_areSameWords_77 (by decide) (fun q => ?_) (fun q => ?_)
            · replace h := h.1 q
              refine r_iconst (v := 0) dX9_areSameWords_84 rfl ?_
              refine r_iretZ0 dX9_areSameWords_85 rfl (by decide) (by decide) h
            · replace h := h.2 q
              refine r_iconst (v := 1) dX9_areSameWords_80 rfl ?_
              refine r_goto (t := 85) dX9_areSameWords_81 (by decide) ?_
              refine r_iretZ1 dX9_areSameWords_85 rfl (by decide) (by decide) h
        · replace h := h.2 q
          refine r_iconst (v := 0) dX9_areSameWords_24 rfl ?_
          refine r_iretZ0 dX9_areSameWords_25 rfl (by decide) (by decide) h

