set_option maxHeartbeats 4000000 in
set_option maxRecDepth 100000 in
theorem C_X6_copy (G : eG) {i : Int32} (ho : vp_in i 16) (M : eM) (F : eM → Prop) 
    (h : F (eU (eU (eU (eU (eU M (52 + i.toNatClampNeg) 0 (M (36 + i.toNatClampNeg) 0)) (52 + i.toNatClampNeg) 1 ((eU M (52 + i.toNatClampNeg) 0 (M (36 + i.toNatClampNeg) 0)) (36 + i.toNatClampNeg) 1)) (52 + i.toNatClampNeg) 2 ((eU (eU M (52 + i.toNatClampNeg) 0 (M (36 + i.toNatClampNeg) 0)) (52 + i.toNatClampNeg) 1 ((eU M (52 + i.toNatClampNeg) 0 (M (36 + i.toNatClampNeg) 0)) (36 + i.toNatClampNeg) 1)) (36 + i.toNatClampNeg) 2)) (52 + i.toNatClampNeg) 3 ((eU (eU (eU M (52 + i.toNatClampNeg) 0 (M (36 + i.toNatClampNeg) 0)) (52 + i.toNatClampNeg) 1 ((eU M (52 + i.toNatClampNeg) 0 (M (36 + i.toNatClampNeg) 0)) (36 + i.toNatClampNeg) 1)) (52 + i.toNatClampNeg) 2 ((eU (eU M (52 + i.toNatClampNeg) 0 (M (36 + i.toNatClampNeg) 0)) (52 + i.toNatClampNeg) 1 ((eU M (52 + i.toNatClampNeg) 0 (M (36 + i.toNatClampNeg) 0)) (36 + i.toNatClampNeg) 1)) (36 + i.toNatClampNeg) 2)) (36 + i.toNatClampNeg) 3)) (52 + i.toNatClampNeg) 4 ((eU (eU (eU (eU M (52 + i.toNatClampNeg) 0 (M (36 + i.toNatClampNeg) 0)) (52 + i.toNatClampNeg) 1 ((eU M (52 + i.toNatClampNeg) 0 (M (36 + i.toNatClampNeg) 0)) (36 + i.toNatClampNeg) 1)) (52 + i.toNatClampNeg) 2 ((eU (eU M (52 + i.toNatClampNeg) 0 (M (36 + i.toNatClampNeg) 0)) (52 + i.toNatClampNeg) 1 ((eU M (52 + i.toNatClampNeg) 0 (M (36 + i.toNatClampNeg) 0)) (36 + i.toNatClampNeg) 1)) (36 + i.toNatClampNeg) 2)) (52 + i.toNatClampNeg) 3 ((eU (eU (eU M (52 + i.toNatClampNeg) 0 (M (36 + i.toNatClampNeg) 0)) (52 + i.toNatClampNeg) 1 ((eU M (52 + i.toNatClampNeg) 0 (M (36 + i.toNatClampNeg) 0)) (36 + i.toNatClampNeg) 1)) (52 + i.toNatClampNeg) 2 ((eU (eU M (52 + i.toNatClampNeg) 0 (M (36 + i.toNatClampNeg) 0)) (52 + i.toNatClampNeg) 1 ((eU M (52 + i.toNatClampNeg) 0 (M (36 + i.toNatClampNeg) 0)) (36 + i.toNatClampNeg) 1)) (36 + i.toNatClampNeg) 2)) (36 + i.toNatClampNeg) 3)) (36 + i.toNatClampNeg) 4))) :
    Cal G 0 68 (1, 0, 0) kX6_copy [.ref (G.1 (52 + i.toNatClampNeg)), .ref (G.1 (36 + i.toNatClampNeg))] M (eFV F) := by
  refine Cal.of (by decide +kernel) rfl (Nat.le_of_ble_eq_true rfl) ?_
  show Ev (eZ G 0 68 0 0 (eFV F)) G 0 68 (1, 0, 0) kX6_copy 0 [(0, .ref (G.1 (52 + i.toNatClampNeg))), (1, .ref (G.1 (36 + i.toNatClampNeg)))] [] M 0 0
  refine r_aload_n 0 dX6_copy_0 rfl rfl ?_
  refine r_aload_n 1 dX6_copy_1 rfl rfl ?_
  refine r_getK (c := (36 + i.toNatClampNeg)) (k := 0) dX6_copy_2 clX6 lFX6_13 (by decide) (eOrdIn_36 ho) (eOrdSh_36 ho) rfl ?_
  refine r_putK (c := (52 + i.toNatClampNeg)) (k := 0) dX6_copy_5 clX6 lFX6_13 (by decide) (eOrdIn_52 ho) (eOrdSh_52 ho) rfl rfl rfl ?_
  refine r_aload_n 0 dX6_copy_8 rfl rfl ?_
  refine r_aload_n 1 dX6_copy_9 rfl rfl ?_
  refine r_getI (c := (36 + i.toNatClampNeg)) (k := 1) dX6_copy_10 clX6 lFX6_18 (by decide) (eOrdIn_36 ho) (eOrdSh_36 ho) rfl ?_
  refine r_putI (c := (52 + i.toNatClampNeg)) (k := 1) dX6_copy_13 clX6 lFX6_18 (by decide) (eOrdIn_52 ho) (eOrdSh_52 ho) rfl rfl rfl ?_
  refine r_aload_n 0 dX6_copy_16 rfl rfl ?_
  refine r_aload_n 1 dX6_copy_17 rfl rfl ?_
  refine r_getI (c := (36 + i.toNatClampNeg)) (k := 2) dX6_copy_18 clX6 lFX6_22 (by decide) (eOrdIn_36 ho) (eOrdSh_36 ho) rfl ?_
  refine r_putI (c := (52 + i.toNatClampNeg)) (k := 2) dX6_copy_21 clX6 lFX6_22 (by decide) (eOrdIn_52 ho) (eOrdSh_52 ho) rfl rfl rfl ?_
  refine r_aload_n 0 dX6_copy_24 rfl rfl ?_
  refine r_aload_n 1 dX6_copy_25 rfl rfl ?_
  refine r_getI (c := (36 + i.toNatClampNeg)) (k := 3) dX6_copy_26 clX6 lFX6_25 (by decide) (eOrdIn_36 ho) (eOrdSh_36 ho) rfl ?_
  refine r_putI (c := (52 + i.toNatClampNeg)) (k := 3) dX6_copy_29 clX6 lFX6_25 (by decide) (eOrdIn_52 ho) (eOrdSh_52 ho) rfl rfl rfl ?_
  refine r_aload_n 0 dX6_copy_32 rfl rfl ?_
  refine r_aload_n 1 dX6_copy_33 rfl rfl ?_
  refine r_getI (c := (36 + i.toNatClampNeg)) (k := 4) dX6_copy_34 clX6 lFX6_28 (by decide) (eOrdIn_36 ho) (eOrdSh_36 ho) rfl ?_
  refine r_putI (c := (52 + i.toNatClampNeg)) (k := 4) dX6_copy_37 clX6 lFX6_28 (by decide) (eOrdIn_52 ho) (eOrdSh_52 ho) rfl rfl rfl ?_
  refine r_vretV dX6_copy_40 rfl (by decide) (by decide) h
set_option maxHeartbeats 4000000 in
set_option maxRecDepth 100000 in
theorem C_X7_clear (G : eG) (M : eM) (F : eM → Prop) 
    (h : F (eU (eU (eU (eU (eU (eU M 8 0 5) 8 1 5) 8 2 0) 8 4 0) 8 6 0) 8 9 0)) :
    Cal G 0 68 (1, 0, 0) kX7_clear [.ref (G.1 8)] M (eFV F) := by
  refine Cal.of (by decide +kernel) rfl (Nat.le_of_ble_eq_true rfl) ?_
  show Ev (eZ G 0 68 0 0 (eFV F)) G 0 68 (1, 0, 0) kX7_clear 0 [(0, .ref (G.1 8))] [] M 0 0
  refine r_aload_n 0 dX7_clear_0 rfl rfl ?_
  refine r_iconst (v := 5) dX7_clear_1 rfl ?_
  refine r_putI (c := 8) (k := 0) dX7_clear_2 clX7 lFX7_11 (by decide) iF8 sC8 rfl rfl rfl ?_
  refine r_aload_n 0 dX7_clear_5 rfl rfl ?_
  refine r_iconst (v := 5) dX7_clear_6 rfl ?_
  refine r_putI (c := 8) (k := 1) dX7_clear_7 clX7 lFX7_15 (by decide) iF8 sC8 rfl rfl rfl ?_
  refine r_aload_n 0 dX7_clear_10 rfl rfl ?_
  refine r_iconst (v := 0) dX7_clear_11 rfl ?_
  refine r_putI (c := 8) (k := 2) dX7_clear_12 clX7 lFX7_38 (by decide) iF8 sC8 rfl rfl rfl ?_
  refine r_aload_n 0 dX7_clear_15 rfl rfl ?_
  refine r_iconst (v := 0) dX7_clear_16 rfl ?_
  refine r_putI (c := 8) (k := 4) dX7_clear_17 clX7 lFX7_41 (by decide) iF8 sC8 rfl rfl rfl ?_
  refine r_aload_n 0 dX7_clear_20 rfl rfl ?_
  refine r_iconst (v := 0) dX7_clear_21 rfl ?_
  refine r_putI (c := 8) (k := 6) dX7_clear_22 clX7 lFX7_44 (by decide) iF8 sC8 rfl rfl rfl ?_
  refine r_aload_n 0 dX7_clear_25 rfl rfl ?_
  refine r_iconst (v := 0) dX7_clear_26 rfl ?_
  refine r_putI (c := 8) (k := 9) dX7_clear_27 clX7 lFX7_47 (by decide) iF8 sC8 rfl rfl rfl ?_
  refine r_vretV dX7_clear_30 rfl (by decide) (by decide) h
set_option maxHeartbeats 4000000 in
set_option maxRecDepth 100000 in
theorem B_X7_addSide_20 (G : eG) (M : eM) (F : eM → Prop) 
    (h : F (eU M 8 2 ((M 8 2) + 1))) :
    Ev (eZ G 0 68 0 0 (eFV F)) G 0 68 (1, 0, 0) kX7_addSide 20 [(0, .ref (G.1 8))] [] M 0 0 := by
  refine r_aload_n 0 dX7_addSide_20 rfl rfl ?_
  refine r_dup dX7_addSide_21 rfl ?_
  refine r_getI (c := 8) (k := 2) dX7_addSide_22 clX7 lFX7_38 (by decide) iF8 sC8 rfl ?_
  refine r_iconst (v := 1) dX7_addSide_25 rfl ?_
  refine r_iadd dX7_addSide_26 ?_
  refine r_putI (c := 8) (k := 2) dX7_addSide_27 clX7 lFX7_38 (by decide) iF8 sC8 rfl rfl rfl ?_
  refine r_vretV dX7_addSide_30 rfl (by decide) (by decide) h
set_option maxHeartbeats 4000000 in
set_option maxRecDepth 100000 in
theorem C_X7_addSide (G : eG) (M : eM) (F : eM → Prop) (a1 : Int32)
    (h : ((¬ (M 8 2) = 0) → Ev (eZ G 0 68 0 0 (eFV F)) G 0 68 (1, 0, 0) kX7_addSide 20 [(0, .ref (G.1 8))] [] (eU M 8 1 a1) 0 0) ∧ (((M 8 2) = 0) → Ev (eZ G 0 68 0 0 (eFV F)) G 0 68 (1, 0, 0) kX7_addSide 20 [(0, .ref (G.1 8))] [] (eU M 8 0 a1) 0 0)) :
    Cal G 0 68 (1, 0, 0) kX7_addSide [.ref (G.1 8), .int a1] M (eFV F) := by
  refine Cal.of (by decide +kernel) rfl (Nat.le_of_ble_eq_true rfl) ?_
  show Ev (eZ G 0 68 0 0 (eFV F)) G 0 68 (1, 0, 0) kX7_addSide 0 [(0, .ref (G.1 8)), (1, .int a1)] [] M 0 0
  refine r_aload_n 0 dX7_addSide_0 rfl rfl ?_
  refine r_getI (c := 8) (k := 2) dX7_addSide_1 clX7 lFX7_38 (by decide) iF8 sC8 rfl ?_
  refine r_if_ne (t := 15) dX7_addSide_4 (by decide) (fun q => ?_) (fun q => ?_)
  · replace h := h.1 q
    refine r_aload_n 0 dX7_addSide_15 rfl rfl ?_
    refine r_iload_n 1 dX7_addSide_16 rfl rfl ?_
    refine r_putI (c := 8) (k := 1) dX7_addSide_17 clX7 lFX7_15 (by decide) iF8 sC8 rfl rfl rfl ?_
    exact Ev.sub (ks := [0]) rfl h
  · replace h := h.2 q
    refine r_aload_n 0 dX7_addSide_7 rfl rfl ?_
    refine r_iload_n 1 dX7_addSide_8 rfl rfl ?_
    refine r_putI (c := 8) (k := 0) dX7_addSide_9 clX7 lFX7_11 (by decide) iF8 sC8 rfl rfl rfl ?_
    refine r_goto (t := 20) dX7_addSide_12 (by decide) ?_
    exact Ev.sub (ks := [0]) rfl h
set_option maxHeartbeats 4000000 in
set_option maxRecDepth 100000 in
theorem C_X7_addTileNumber (G : eG) (M : eM) (F : eM → Prop) (a1 : Int32)
    (h : ((48 ≤ (M 8 4)) → F M) ∧ ((¬ 48 ≤ (M 8 4)) → vp_in (M 8 4) 48 ∧ (F (eU (eU M 9 (M 8 4).toNatClampNeg a1) 8 4 (((eU M 9 (M 8 4).toNatClampNeg a1) 8 4) + 1))))) :
    Cal G 0 68 (1, 0, 0) kX7_addTileNumber [.ref (G.1 8), .int a1] M (eFV F) := by
  refine Cal.of (by decide +kernel) rfl (Nat.le_of_ble_eq_true rfl) ?_
  show Ev (eZ G 0 68 0 0 (eFV F)) G 0 68 (1, 0, 0) kX7_addTileNumber 0 [(0, .ref (G.1 8)), (1, .int a1)] [] M 0 0
  refine r_aload_n 0 dX7_addTileNumber_0 rfl rfl ?_
  refine r_getI (c := 8) (k := 4) dX7_addTileNumber_1 clX7 lFX7_41 (by decide) iF8 sC8 rfl ?_
  refine r_aload_n 0 dX7_addTileNumber_4 rfl rfl ?_
  refine r_getR (c := 8) (k := 3) 9 dX7_addTileNumber_5 clX7 lFX7_18 (by decide) iF8 sC8 rfl ?_
  refine r_alen (c := 9) (v := 48) dX7_addTileNumber_8 iF9 sC9 rfl ?_
  refine r_icmp_ge (t := 32) dX7_addTileNumber_9 (by decide) (fun q => ?_) (fun q => ?_)
  · replace h := h.1 q
    refine r_vretV dX7_addTileNumber_32 rfl (by decide) (by decide) h
  · replace h := h.2 q
    refine r_aload_n 0 dX7_addTileNumber_12 rfl rfl ?_
    refine r_getR (c := 8) (k := 3) 9 dX7_addTileNumber_13 clX7 lFX7_18 (by decide) iF8 sC8 rfl ?_
    refine r_aload_n 0 dX7_addTileNumber_16 rfl rfl ?_
    refine r_getI (c := 8) (k := 4) dX7_addTileNumber_17 clX7 lFX7_41 (by decide) iF8 sC8 rfl ?_
    refine r_iload_n 1 dX7_addTileNumber_20 rfl rfl ?_
    have h1 := h.1
    replace h := h.2
    refine r_iast (c := 9) (N := 48) dX7_addTileNumber_21 iF9 sC9 h1 ?_
    refine r_aload_n 0 dX7_addTileNumber_22 rfl rfl ?_
    refine r_dup dX7_addTileNumber_23 rfl ?_
    refine r_getI (c := 8) (k := 4) dX7_addTileNumber_24 clX7 lFX7_41 (by decide) iF8 sC8 rfl ?_
    refine r_iconst (v := 1) dX7_addTileNumber_27 rfl ?_
    refine r_iadd dX7_addTileNumber_28 ?_
    refine r_putI (c := 8) (k := 4) dX7_addTileNumber_29 clX7 lFX7_41 (by decide) iF8 sC8 rfl rfl rfl ?_
    refine r_vretV dX7_addTileNumber_32 rfl (by decide) (by decide) h
set_option maxHeartbeats 4000000 in
set_option maxRecDepth 100000 in
theorem C_X7_tileCount_s (G : eG) (M : eM) (F : Int32 → eM → Prop) 
    (h : F ((M 21 4) / 3) M) :
    Cal G 21 15 (1, 0, 0) kX7_tileCount [.ref (G.1 21)] M (eFI F) := by
  refine Cal.of (by decide +kernel) rfl (Nat.le_of_ble_eq_true rfl) ?_
  show Ev (eZ G 21 15 0 0 (eFI F)) G 21 15 (1, 0, 0) kX7_tileCount 0 [(0, .ref (G.1 21))] [] M 0 0
  refine r_aload_n 0 dX7_tileCount_0 rfl rfl ?_
  refine r_getI (c := 21) (k := 4) dX7_tileCount_1 clX7 lFX7_41 (by decide) iS21 sC21 rfl ?_
  refine r_iconst (v := 3) dX7_tileCount_4 rfl ?_
  refine r_idiv dX7_tileCount_5 (by decide) ?_
  refine r_iretI dX7_tileCount_6 rfl (by decide) (by decide) h
set_option maxHeartbeats 4000000 in
set_option maxRecDepth 100000 in
theorem C_X7_tileNumber_s (G : eG) (M : eM) (F : Int32 → eM → Prop) (a1 : Int32)
    (h : ((a1 < 0) → F 0 M) ∧ ((¬ a1 < 0) → (((M 21 4) ≤ a1) → F 0 M) ∧ ((¬ (M 21 4) ≤ a1) → vp_in a1 48 ∧ (F (M 22 a1.toNatClampNeg) M)))) :
    Cal G 21 15 (1, 0, 0) kX7_tileNumber [.ref (G.1 21), .int a1] M (eFI F) := by
  refine Cal.of (by decide +kernel) rfl (Nat.le_of_ble_eq_true rfl) ?_
  show Ev (eZ G 21 15 0 0 (eFI F)) G 21 15 (1, 0, 0) kX7_tileNumber 0 [(0, .ref (G.1 21)), (1, .int a1)] [] M 0 0
  refine r_iload_n 1 dX7_tileNumber_0 rfl rfl ?_
  refine r_if_lt (t := 21) dX7_tileNumber_1 (by decide) (fun q => ?_) (fun q => ?_)
  · replace h := h.1 q
    refine r_iconst (v := 0) dX7_tileNumber_21 rfl ?_
    refine r_iretI dX7_tileNumber_22 rfl (by decide) (by decide) h
  · replace h := h.2 q
    refine r_iload_n 1 dX7_tileNumber_4 rfl rfl ?_
    refine r_aload_n 0 dX7_tileNumber_5 rfl rfl ?_
    refine r_getI (c := 21) (k := 4) dX7_tileNumber_6 clX7 lFX7_41 (by decide) iS21 sC21 rfl ?_
    refine r_icmp_ge (t := 21) dX7_tileNumber_9 (by decide) (fun q => ?_) (fun q => ?_)
    · replace h := h.1 q
      refine r_iconst (v := 0) dX7_tileNumber_21 rfl ?_
      refine r_iretI dX7_tileNumber_22 rfl (by decide) (by decide) h
    · replace h := h.2 q
      refine r_aload_n 0 dX7_tileNumber_12 rfl rfl ?_
      refine r_getR (c := 21) (k := 3) 22 dX7_tileNumber_13 clX7 lFX7_18 (by decide) iS21 sC21 rfl ?_
      refine r_iload_n 1 dX7_tileNumber_16 rfl rfl ?_
      have h1 := h.1
      replace h := h.2
      refine r_iald (c := 22) (N := 48) dX7_tileNumber_17 iS22 sC22 h1 ?_
      refine r_goto (t := 22) dX7_tileNumber_18 (by decide) ?_
      refine r_iretI dX7_tileNumber_22 rfl (by decide) (by decide) h
set_option maxHeartbeats 4000000 in
set_option maxRecDepth 100000 in
theorem C_X7_beginOrder (G : eG) (M : eM) (F : eM → Prop) (a1 : Int32) (a2 : Int32)
    (h : ((16 ≤ (M 8 6)) → F M) ∧ ((¬ 16 ≤ (M 8 6)) → vp_in (M 8 6) 16 ∧ (F (eU (eU (eU M (36 + (M 8 6).toNatClampNeg) 0 a1) (36 + (M 8 6).toNatClampNeg) 1 a2) (36 + (M 8 6).toNatClampNeg) 2 ((eU (eU M (36 + (M 8 6).toNatClampNeg) 0 a1) (36 + (M 8 6).toNatClampNeg) 1 a2) 8 9))))) :
    Cal G 0 68 (1, 0, 0) kX7_beginOrder [.ref (G.1 8), eV G 1 a1, .int a2] M (eFV F) := by
  refine Cal.ofK [(0, .ref (G.1 8)), (1, eV G 1 a1), (2, .int a2)] (by decide +kernel) rfl (by rw [lg_len _ (by simp [eV_cat, eCatI, eCatR])]; exact Nat.le_of_ble_eq_true rfl) (by simp [lv_args, eV_cat, eCatI, eCatR]) ?_
  show Ev (eZ G 0 68 0 0 (eFV F)) G 0 68 (1, 0, 0) kX7_beginOrder 0 [(0, .ref (G.1 8)), (1, eV G 1 a1), (2, .int a2)] [] M 0 0
  refine r_aload_n 0 dX7_beginOrder_0 rfl rfl ?_
  refine r_getI (c := 8) (k := 6) dX7_beginOrder_1 clX7 lFX7_44 (by decide) iF8 sC8 rfl ?_
  refine r_aload_n 0 dX7_beginOrder_4 rfl rfl ?_
  refine r_getR (c := 8) (k := 5) 10 dX7_beginOrder_5 clX7 lFX7_24 (by decide) iF8 sC8 rfl ?_
  refine r_alen (c := 10) (v := 16) dX7_beginOrder_8 iF10 sC10 rfl ?_
  refine r_icmp_ge (t := 40) dX7_beginOrder_9 (by decide) (fun q => ?_) (fun q => ?_)
  · replace h := h.1 q
    refine r_vretV dX7_beginOrder_40 rfl (by decide) (by decide) h
  · replace h := h.2 q
    refine r_aload_n 0 dX7_beginOrder_12 rfl rfl ?_
    refine r_getR (c := 8) (k := 5) 10 dX7_beginOrder_13 clX7 lFX7_24 (by decide) iF8 sC8 rfl ?_
    refine r_aload_n 0 dX7_beginOrder_16 rfl rfl ?_
    refine r_getI (c := 8) (k := 6) dX7_beginOrder_17 clX7 lFX7_44 (by decide) iF8 sC8 rfl ?_
    have ho := h.1
    replace h := h.2
    refine r_oald (c := 10) (N := 16) (t := 36) dX7_beginOrder_20 iF10 sC10 ho ?_
    refine r_astore_n (l' := [(3, .ref (G.1 (36 + (M 8 6).toNatClampNeg))), (0, .ref (G.1 8)), (1, eV G 1 a1), (2, .int a2)]) dX7_beginOrder_21 rfl (by decide) rfl ?_
    refine r_aload_n 0 dX7_beginOrder_22 rfl rfl ?_
    refine r_kload_n 2 dX7_beginOrder_23 rfl rfl ?_
    refine r_putK (c := (36 + (M 8 6).toNatClampNeg)) (k := 0) dX7_beginOrder_24 clX6 lFX7_50 (by decide) (eOrdIn_36 ho) (eOrdSh_36 ho) rfl rfl rfl ?_
    refine r_aload_n 0 dX7_beginOrder_27 rfl rfl ?_
    refine r_iload_n 3 dX7_beginOrder_28 rfl rfl ?_
    refine r_putI (c := (36 + (M 8 6).toNatClampNeg)) (k := 1) dX7_beginOrder_29 clX6 lFX7_54 (by decide) (eOrdIn_36 ho) (eOrdSh_36 ho) rfl rfl rfl ?_
    refine r_aload_n 0 dX7_beginOrder_32 rfl rfl ?_
    refine r_aload_n 1 dX7_beginOrder_33 rfl rfl ?_
    refine r_getI (c := 8) (k := 9) dX7_beginOrder_34 clX7 lFX7_47 (by decide) iF8 sC8 rfl ?_
    refine r_putI (c := (36 + (M 8 6).toNatClampNeg)) (k := 2) dX7_beginOrder_37 clX6 lFX7_57 (by decide) (eOrdIn_36 ho) (eOrdSh_36 ho) rfl rfl rfl ?_
    refine r_vretV dX7_beginOrder_40 rfl (by decide) (by decide) h
set_option maxHeartbeats 4000000 in
set_option maxRecDepth 100000 in
theorem C_X7_beginTest (G : eG) (M : eM) (F : eM → Prop) 
    (h : ((16 ≤ (M 8 6)) → F M) ∧ ((¬ 16 ≤ (M 8 6)) → vp_in (M 8 6) 16 ∧ (F (eU M (36 + (M 8 6).toNatClampNeg) 3 (M 8 9))))) :
    Cal G 0 68 (1, 0, 0) kX7_beginTest [.ref (G.1 8)] M (eFV F) := by
  refine Cal.of (by decide +kernel) rfl (Nat.le_of_ble_eq_true rfl) ?_
  show Ev (eZ G 0 68 0 0 (eFV F)) G 0 68 (1, 0, 0) kX7_beginTest 0 [(0, .ref (G.1 8))] [] M 0 0
  refine r_aload_n 0 dX7_beginTest_0 rfl rfl ?_
  refine r_getI (c := 8) (k := 6) dX7_beginTest_1 clX7 lFX7_44 (by decide) iF8 sC8 rfl ?_
  refine r_aload_n 0 dX7_beginTest_4 rfl rfl ?_
  refine r_getR (c := 8) (k := 5) 10 dX7_beginTest_5 clX7 lFX7_24 (by decide) iF8 sC8 rfl ?_
  refine r_alen (c := 10) (v := 16) dX7_beginTest_8 iF10 sC10 rfl ?_
  refine r_icmp_ge (t := 28) dX7_beginTest_9 (by decide) (fun q => ?_) (fun q => ?_)
  · replace h := h.1 q
    refine r_vretV dX7_beginTest_28 rfl (by decide) (by decide) h
  · replace h := h.2 q
    refine r_aload_n 0 dX7_beginTest_12 rfl rfl ?_
    refine r_getR (c := 8) (k := 5) 10 dX7_beginTest_13 clX7 lFX7_24 (by decide) iF8 sC8 rfl ?_
    refine r_aload_n 0 dX7_beginTest_16 rfl rfl ?_
    refine r_getI (c := 8) (k := 6) dX7_beginTest_17 clX7 lFX7_44 (by decide) iF8 sC8 rfl ?_
    have ho := h.1
    replace h := h.2
    refine r_oald (c := 10) (N := 16) (t := 36) dX7_beginTest_20 iF10 sC10 ho ?_
    refine r_aload_n 0 dX7_beginTest_21 rfl rfl ?_
    refine r_getI (c := 8) (k := 9) dX7_beginTest_22 clX7 lFX7_47 (by decide) iF8 sC8 rfl ?_
    refine r_putI (c := (36 + (M 8 6).toNatClampNeg)) (k := 3) dX7_beginTest_25 clX6 lFX7_60 (by decide) (eOrdIn_36 ho) (eOrdSh_36 ho) rfl rfl rfl ?_
    refine r_vretV dX7_beginTest_28 rfl (by decide) (by decide) h
set_option maxHeartbeats 4000000 in
set_option maxRecDepth 100000 in
theorem C_X7_endOrder (G : eG) (M : eM) (F : eM → Prop) 
    (h : ((16 ≤ (M 8 6)) → F M) ∧ ((¬ 16 ≤ (M 8 6)) → vp_in (M 8 6) 16 ∧ (F (eU (eU M (36 + (M 8 6).toNatClampNeg) 4 (M 8 9)) 8 6 (((eU M (36 + (M 8 6).toNatClampNeg) 4 (M 8 9)) 8 6) + 1))))) :
    Cal G 0 68 (1, 0, 0) kX7_endOrder [.ref (G.1 8)] M (eFV F) := by
  refine Cal.of (by decide +kernel) rfl (Nat.le_of_ble_eq_true rfl) ?_
  show Ev (eZ G 0 68 0 0 (eFV F)) G 0 68 (1, 0, 0) kX7_endOrder 0 [(0, .ref (G.1 8))] [] M 0 0
  refine r_aload_n 0 dX7_endOrder_0 rfl rfl ?_
  refine r_getI (c := 8) (k := 6) dX7_endOrder_1 clX7 lFX7_44 (by decide) iF8 sC8 rfl ?_
  refine r_aload_n 0 dX7_endOrder_4 rfl rfl ?_
  refine r_getR (c := 8) (k := 5) 10 dX7_endOrder_5 clX7 lFX7_24 (by decide) iF8 sC8 rfl ?_
  refine r_alen (c := 10) (v := 16) dX7_endOrder_8 iF10 sC10 rfl ?_
  refine r_icmp_ge (t := 38) dX7_endOrder_9 (by decide) (fun q => ?_) (fun q => ?_)
  · replace h := h.1 q
    refine r_vretV dX7_endOrder_38 rfl (by decide) (by decide) h
  · replace h := h.2 q
    refine r_aload_n 0 dX7_endOrder_12 rfl rfl ?_
    refine r_getR (c := 8) (k := 5) 10 dX7_endOrder_13 clX7 lFX7_24 (by decide) iF8 sC8 rfl ?_
    refine r_aload_n 0 dX7_endOrder_16 rfl rfl ?_
    refine r_getI (c := 8) (k := 6) dX7_endOrder_17 clX7 lFX7_44 (by decide) iF8 sC8 rfl ?_
    have ho := h.1
    replace h := h.2
    refine r_oald (c := 10) (N := 16) (t := 36) dX7_endOrder_20 iF10 sC10 ho ?_
    refine r_aload_n 0 dX7_endOrder_21 rfl rfl ?_
    refine r_getI (c := 8) (k := 9) dX7_endOrder_22 clX7 lFX7_47 (by decide) iF8 sC8 rfl ?_
    refine r_putI (c := (36 + (M 8 6).toNatClampNeg)) (k := 4) dX7_endOrder_25 clX6 lFX7_63 (by decide) (eOrdIn_36 ho) (eOrdSh_36 ho) rfl rfl rfl ?_
    refine r_aload_n 0 dX7_endOrder_28 rfl rfl ?_
    refine r_dup dX7_endOrder_29 rfl ?_
    refine r_getI (c := 8) (k := 6) dX7_endOrder_30 clX7 lFX7_44 (by decide) iF8 sC8 rfl ?_
    refine r_iconst (v := 1) dX7_endOrder_33 rfl ?_
    refine r_iadd dX7_endOrder_34 ?_
    refine r_putI (c := 8) (k := 6) dX7_endOrder_35 clX7 lFX7_44 (by decide) iF8 sC8 rfl rfl rfl ?_
    refine r_vretV dX7_endOrder_38 rfl (by decide) (by decide) h
set_option maxHeartbeats 4000000 in
set_option maxRecDepth 100000 in
theorem C_X7_add (G : eG) (M : eM) (F : Bool → eM → Prop) (a1 : Int32) (a2 : Int32)
    (h : (((M 8 9) < 400) → vp_in (M 8 9) 400 ∧ (vp_in ((eU M 11 (M 8 9).toNatClampNeg a1) 8 9) 400 ∧ (F true (eU (eU (eU M 11 (M 8 9).toNatClampNeg a1) 12 ((eU M 11 (M 8 9).toNatClampNeg a1) 8 9).toNatClampNeg a2) 8 9 (((eU (eU M 11 (M 8 9).toNatClampNeg a1) 12 ((eU M 11 (M 8 9).toNatClampNeg a1) 8 9).toNatClampNeg a2) 8 9) + 1))))) ∧ ((¬ (M 8 9) < 400) → F false M)) :
    Cal G 0 68 (1, 0, 0) kX7_add [.ref (G.1 8), eV G 1 a1, .int a2] M (eFZ F) := by
  refine Cal.ofK [(0, .ref (G.1 8)), (1, eV G 1 a1), (2, .int a2)] (by decide +kernel) rfl (by rw [lg_len _ (by simp [eV_cat, eCatI, eCatR])]; exact Nat.le_of_ble_eq_true rfl) (by simp [lv_args, eV_cat, eCatI, eCatR]) ?_
  show Ev (eZ G 0 68 0 0 (eFZ F)) G 0 68 (1, 0, 0) kX7_add 0 [(0, .ref (G.1 8)), (1, eV G 1 a1), (2, .int a2)] [] M 0 0
  refine r_aload_n 0 dX7_add_0 rfl rfl ?_
  refine r_getI (c := 8) (k := 9) dX7_add_1 clX7 lFX7_47 (by decide) iF8 sC8 rfl ?_
  refine r_aload_n 0 dX7_add_4 rfl rfl ?_
  refine r_getR (c := 8) (k := 7) 11 dX7_add_5 clX7 lFX7_30 (by decide) iF8 sC8 rfl ?_
  refine r_alen (c := 11) (v := 400) dX7_add_8 iF11 sC11 rfl ?_
  refine r_icmp_lt (t := 14) dX7_add_9 (by decide) (fun q => ?_) (fun q => ?_)
  · replace h := h.1 q
    refine r_aload_n 0 dX7_add_14 rfl rfl ?_
    refine r_getR (c := 8) (k := 7) 11 dX7_add_15 clX7 lFX7_30 (by decide) iF8 sC8 rfl ?_
    refine r_aload_n 0 dX7_add_18 rfl rfl ?_
    refine r_getI (c := 8) (k := 9) dX7_add_19 clX7 lFX7_47 (by decide) iF8 sC8 rfl ?_
    refine r_kload_n 1 dX7_add_22 rfl rfl ?_
    have h1 := h.1
    replace h := h.2
    refine r_kast (c := 11) (N := 400) dX7_add_23 iF11 sC11 h1 ?_
    refine r_aload_n 0 dX7_add_24 rfl rfl ?_
    refine r_getR (c := 8) (k := 8) 12 dX7_add_25 clX7 lFX7_34 (by decide) iF8 sC8 rfl ?_
    refine r_aload_n 0 dX7_add_28 rfl rfl ?_
    refine r_getI (c := 8) (k := 9) dX7_add_29 clX7 lFX7_47 (by decide) iF8 sC8 rfl ?_
    refine r_iload_n 2 dX7_add_32 rfl rfl ?_
    have h1 := h.1
    replace h := h.2
    refine r_iast (c := 12) (N := 400) dX7_add_33 iF12 sC12 h1 ?_
    refine r_aload_n 0 dX7_add_34 rfl rfl ?_
    refine r_dup dX7_add_35 rfl ?_
    refine r_getI (c := 8) (k := 9) dX7_add_36 clX7 lFX7_47 (by decide) iF8 sC8 rfl ?_
    refine r_iconst (v := 1) dX7_add_39 rfl ?_
    refine r_iadd dX7_add_40 ?_
    refine r_putI (c := 8) (k := 9) dX7_add_41 clX7 lFX7_47 (by decide) iF8 sC8 rfl rfl rfl ?_
    refine r_iconst (v := 1) dX7_add_44 rfl ?_
    refine r_iretZ1 dX7_add_45 rfl (by decide) (by decide) h
  · replace h := h.2 q
    refine r_iconst (v := 0) dX7_add_12 rfl ?_
    refine r_iretZ0 dX7_add_13 rfl (by decide) (by decide) h
set_option maxHeartbeats 4000000 in
set_option maxRecDepth 100000 in
theorem B_X7_resolve_34 (G : eG) (M : eM) (F : eM → Prop) (x2 : Int32)
    (h : (((M 8 6) ≤ x2) → F M) ∧ ((¬ (M 8 6) ≤ x2) → vp_in x2 16 ∧ (vp_in x2 16 ∧ (Cal G 0 68 (1, 0, 0) kX9_valueOf [.ref (G.1 3), .int (M (36 + x2.toNatClampNeg) 1)] M (eFI (fun (r1 : Int32) (M1 : eM) => Ev (eZ G 0 68 0 0 (eFV F)) G 0 68 (2, 0, 0) kX7_resolve 34 [(0, .ref (G.1 8)), (1, .ref (G.1 3)), (2, .int (x2 + 1))] [] (eU M1 (36 + x2.toNatClampNeg) 1 r1) 0 0)))))) :
    Ev (eZ G 0 68 0 0 (eFV F)) G 0 68 (2, 0, 0) kX7_resolve 34 [(0, .ref (G.1 8)), (1, .ref (G.1 3)), (2, .int x2)] [] M 0 0 := by
  refine r_iload_n 2 dX7_resolve_34 rfl rfl ?_
  refine r_aload_n 0 dX7_resolve_35 rfl rfl ?_
  refine r_getI (c := 8) (k := 6) dX7_resolve_36 clX7 lFX7_44 (by decide) iF8 sC8 rfl ?_
  refine r_icmp_ge (t := 70) dX7_resolve_39 (by decide) (fun q => ?_) (fun q => ?_)
  · replace h := h.1 q
    refine r_vretV dX7_resolve_70 rfl (by decide) (by decide) h
  · replace h := h.2 q
    refine r_aload_n 0 dX7_resolve_42 rfl rfl ?_
    refine r_getR (c := 8) (k := 5) 10 dX7_resolve_43 clX7 lFX7_24 (by decide) iF8 sC8 rfl ?_
    refine r_iload_n 2 dX7_resolve_46 rfl rfl ?_
    have ho := h.1
    replace h := h.2
    refine r_oald (c := 10) (N := 16) (t := 36) dX7_resolve_47 iF10 sC10 ho ?_
    refine r_aload_n 1 dX7_resolve_48 rfl rfl ?_
    refine r_aload_n 0 dX7_resolve_49 rfl rfl ?_
    refine r_getR (c := 8) (k := 5) 10 dX7_resolve_50 clX7 lFX7_24 (by decide) iF8 sC8 rfl ?_
    refine r_iload_n 2 dX7_resolve_53 rfl rfl ?_
    have ho := h.1
    replace h := h.2
    refine r_oald (c := 10) (N := 16) (t := 36) dX7_resolve_54 iF10 sC10 ho ?_
    refine r_getI (c := (36 + x2.toNatClampNeg)) (k := 1) dX7_resolve_55 clX6 lFX7_54 (by decide) (eOrdIn_36 ho) (eOrdSh_36 ho) rfl ?_
    refine r_callVI (b' := (1, 0, 0)) (c := 3) (S := [.ref (G.1 (36 + x2.toNatClampNeg))]) [.int (M (36 + x2.toNatClampNeg) 1)] dX7_resolve_58 mX9_valueOf lMX7_66 clX9 rfl iF3 sC3 rfl (by decide) (Nat.le_of_ble_eq_true rfl) h (fun r1 M1 h => ?_) rfl
    refine r_putI (c := (36 + x2.toNatClampNeg)) (k := 1) dX7_resolve_61 clX6 lFX7_54 (by decide) (eOrdIn_36 ho) (eOrdSh_36 ho) rfl rfl rfl ?_
    refine r_iinc (v := x2 + 1) (l' := [(2, .int (x2 + 1)), (0, .ref (G.1 8)), (1, .ref (G.1 3))]) 2 dX7_resolve_64 rfl rfl (by decide) rfl ?_
    refine r_goto (t := 34) dX7_resolve_67 (by decide) ?_
    exact Ev.sub (ks := [1, 2, 0]) rfl h
set_option maxHeartbeats 4000000 in
set_option maxRecDepth 100000 in
theorem B_X7_resolve_2 (G : eG) (M : eM) (F : eM → Prop) (x2 : Int32)
    (h : (((M 8 9) ≤ x2) → Ev (eZ G 0 68 0 0 (eFV F)) G 0 68 (2, 0, 0) kX7_resolve 34 [(0, .ref (G.1 8)), (1, .ref (G.1 3)), (2, .int 0)] [] M 0 0) ∧ ((¬ (M 8 9) ≤ x2) → vp_in x2 400 ∧ (Cal G 0 68 (1, 0, 0) kX9_valueOf [.ref (G.1 3), .int (M 12 x2.toNatClampNeg)] M (eFI (fun (r1 : Int32) (M1 : eM) => vp_in x2 400 ∧ (Ev (eZ G 0 68 0 0 (eFV F)) G 0 68 (2, 0, 0) kX7_resolve 2 [(0, .ref (G.1 8)), (1, .ref (G.1 3)), (2, .int (x2 + 1))] [] (eU M1 12 x2.toNatClampNeg r1) 0 0)))))) :
    Ev (eZ G 0 68 0 0 (eFV F)) G 0 68 (2, 0, 0) kX7_resolve 2 [(0, .ref (G.1 8)), (1, .ref (G.1 3)), (2, .int x2)] [] M 0 0 := by
  refine r_iload_n 2 dX7_resolve_2 rfl rfl ?_
  refine r_aload_n 0 dX7_resolve_3 rfl rfl ?_
  refine r_getI (c := 8) (k := 9) dX7_resolve_4 clX7 lFX7_47 (by decide) iF8 sC8 rfl ?_
  refine r_icmp_ge (t := 32) dX7_resolve_7 (by decide) (fun q => ?_) (fun q => ?_)
  · replace h := h.1 q
    refine r_iconst (v := 0) dX7_resolve_32 rfl ?_
    refine r_istore_n (l' := [(2, .int 0), (0, .ref (G.1 8)), (1, .ref (G.1 3))]) dX7_resolve_33 rfl (by decide) rfl ?_
    exact Ev.sub (ks := [1, 2, 0]) rfl h
  · replace h := h.2 q
    refine r_aload_n 0 dX7_resolve_10 rfl rfl ?_
    refine r_getR (c := 8) (k := 8) 12 dX7_resolve_11 clX7 lFX7_34 (by decide) iF8 sC8 rfl ?_
    refine r_iload_n 2 dX7_resolve_14 rfl rfl ?_
    refine r_aload_n 1 dX7_resolve_15 rfl rfl ?_
    refine r_aload_n 0 dX7_resolve_16 rfl rfl ?_
    refine r_getR (c := 8) (k := 8) 12 dX7_resolve_17 clX7 lFX7_34 (by decide) iF8 sC8 rfl ?_
    refine r_iload_n 2 dX7_resolve_20 rfl rfl ?_
    have h1 := h.1
    replace h := h.2
    refine r_iald (c := 12) (N := 400) dX7_resolve_21 iF12 sC12 h1 ?_
    refine r_callVI (b' := (1, 0, 0)) (c := 3) (S := [.int x2, .ref (G.1 12)]) [.int (M 12 x2.toNatClampNeg)] dX7_resolve_22 mX9_valueOf lMX7_66 clX9 rfl iF3 sC3 rfl (by decide) (Nat.le_of_ble_eq_true rfl) h (fun r1 M1 h => ?_) rfl
    have h1 := h.1
    replace h := h.2
    refine r_iast (c := 12) (N := 400) dX7_resolve_25 iF12 sC12 h1 ?_
    refine r_iinc (v := x2 + 1) (l' := [(2, .int (x2 + 1)), (0, .ref (G.1 8)), (1, .ref (G.1 3))]) 2 dX7_resolve_26 rfl rfl (by decide) rfl ?_
    refine r_goto (t := 2) dX7_resolve_29 (by decide) ?_
    exact Ev.sub (ks := [1, 2, 0]) rfl h
set_option maxHeartbeats 4000000 in
set_option maxRecDepth 100000 in
theorem C_X7_resolve (G : eG) (M : eM) (F : eM → Prop) 
    (h : Ev (eZ G 0 68 0 0 (eFV F)) G 0 68 (2, 0, 0) kX7_resolve 2 [(0, .ref (G.1 8)), (1, .ref (G.1 3)), (2, .int 0)] [] M 0 0) :
    Cal G 0 68 (2, 0, 0) kX7_resolve [.ref (G.1 8), .ref (G.1 3)] M (eFV F) := by
  refine Cal.of (by decide +kernel) rfl (Nat.le_of_ble_eq_true rfl) ?_
  show Ev (eZ G 0 68 0 0 (eFV F)) G 0 68 (2, 0, 0) kX7_resolve 0 [(0, .ref (G.1 8)), (1, .ref (G.1 3))] [] M 0 0
  refine r_iconst (v := 0) dX7_resolve_0 rfl ?_
  refine r_istore_n (l' := [(2, .int 0), (0, .ref (G.1 8)), (1, .ref (G.1 3))]) dX7_resolve_1 rfl (by decide) rfl ?_
  exact Ev.sub (ks := [1, 2, 0]) rfl h
set_option maxHeartbeats 4000000 in
set_option maxRecDepth 100000 in
theorem C_X7_step (G : eG) (M : eM) (F : Int32 → eM → Prop) (a1 : Int32)
    (h : ((a1 < 0) → F 42 M) ∧ ((¬ a1 < 0) → (((M 21 9) ≤ a1) → F 42 M) ∧ ((¬ (M 21 9) ≤ a1) → vp_in a1 400 ∧ (F (M 19 a1.toNatClampNeg) M)))) :
    Cal G 0 68 (1, 0, 0) kX7_step [.ref (G.1 21), .int a1] M (eFK G F) := by
  refine Cal.of (by decide +kernel) rfl (Nat.le_of_ble_eq_true rfl) ?_
  show Ev (eZ G 0 68 0 0 (eFK G F)) G 0 68 (1, 0, 0) kX7_step 0 [(0, .ref (G.1 21)), (1, .int a1)] [] M 0 0
  refine r_iload_n 1 dX7_step_0 rfl rfl ?_
  refine r_if_lt (t := 21) dX7_step_1 (by decide) (fun q => ?_) (fun q => ?_)
  · replace h := h.1 q
    refine r_getsK (w := 42) 41 dX7_step_21 lFX7_72 (by decide) rfl rfl ?_
    refine r_kretK dX7_step_24 rfl (by decide) (by decide) h
  · replace h := h.2 q
    refine r_iload_n 1 dX7_step_4 rfl rfl ?_
    refine r_aload_n 0 dX7_step_5 rfl rfl ?_
    refine r_getI (c := 21) (k := 9) dX7_step_6 clX7 lFX7_47 (by decide) iF21 sC21 rfl ?_
    refine r_icmp_ge (t := 21) dX7_step_9 (by decide) (fun q => ?_) (fun q => ?_)
    · replace h := h.1 q
      refine r_getsK (w := 42) 41 dX7_step_21 lFX7_72 (by decide) rfl rfl ?_
      refine r_kretK dX7_step_24 rfl (by decide) (by decide) h
    · replace h := h.2 q
      refine r_aload_n 0 dX7_step_12 rfl rfl ?_
      refine r_getR (c := 21) (k := 7) 19 dX7_step_13 clX7 lFX7_30 (by decide) iF21 sC21 rfl ?_
      refine r_iload_n 1 dX7_step_16 rfl rfl ?_
      have h1 := h.1
      replace h := h.2
      refine r_kald (c := 19) (N := 400) dX7_step_17 iF19 sC19 h1 ?_
      refine r_goto (t := 24) dX7_step_18 (by decide) ?_
      refine r_kretK dX7_step_24 rfl (by decide) (by decide) h
set_option maxHeartbeats 4000000 in
set_option maxRecDepth 100000 in
theorem C_X7_operand (G : eG) (M : eM) (F : Int32 → eM → Prop) (a1 : Int32)
    (h : ((a1 < 0) → F 0 M) ∧ ((¬ a1 < 0) → (((M 21 9) ≤ a1) → F 0 M) ∧ ((¬ (M 21 9) ≤ a1) → vp_in a1 400 ∧ (F (M 20 a1.toNatClampNeg) M)))) :
    Cal G 0 68 (1, 0, 0) kX7_operand [.ref (G.1 21), .int a1] M (eFI F) := by
  refine Cal.of (by decide +kernel) rfl (Nat.le_of_ble_eq_true rfl) ?_
  show Ev (eZ G 0 68 0 0 (eFI F)) G 0 68 (1, 0, 0) kX7_operand 0 [(0, .ref (G.1 21)), (1, .int a1)] [] M 0 0
  refine r_iload_n 1 dX7_operand_0 rfl rfl ?_
  refine r_if_lt (t := 21) dX7_operand_1 (by decide) (fun q => ?_) (fun q => ?_)
  · replace h := h.1 q
    refine r_iconst (v := 0) dX7_operand_21 rfl ?_
    refine r_iretI dX7_operand_22 rfl (by decide) (by decide) h
  · replace h := h.2 q
    refine r_iload_n 1 dX7_operand_4 rfl rfl ?_
    refine r_aload_n 0 dX7_operand_5 rfl rfl ?_
    refine r_getI (c := 21) (k := 9) dX7_operand_6 clX7 lFX7_47 (by decide) iF21 sC21 rfl ?_
    refine r_icmp_ge (t := 21) dX7_operand_9 (by decide) (fun q => ?_) (fun q => ?_)
    · replace h := h.1 q
      refine r_iconst (v := 0) dX7_operand_21 rfl ?_
      refine r_iretI dX7_operand_22 rfl (by decide) (by decide) h
    · replace h := h.2 q
      refine r_aload_n 0 dX7_operand_12 rfl rfl ?_
      refine r_getR (c := 21) (k := 8) 20 dX7_operand_13 clX7 lFX7_34 (by decide) iF21 sC21 rfl ?_
      refine r_iload_n 1 dX7_operand_16 rfl rfl ?_
      have h1 := h.1
      replace h := h.2
      refine r_iald (c := 20) (N := 400) dX7_operand_17 iF20 sC20 h1 ?_
      refine r_goto (t := 22) dX7_operand_18 (by decide) ?_
      refine r_iretI dX7_operand_22 rfl (by decide) (by decide) h
set_option maxHeartbeats 4000000 in
set_option maxRecDepth 100000 in
theorem B_X7_copy_92 (G : eG) (M : eM) (F : eM → Prop) (x2 : Int32)
    (h : (((M 21 9) ≤ x2) → F M) ∧ ((¬ (M 21 9) ≤ x2) → vp_in x2 400 ∧ (vp_in x2 400 ∧ (vp_in x2 400 ∧ (vp_in x2 400 ∧ (Ev (eZ G 0 68 0 0 (eFV F)) G 0 68 (2, 0, 0) kX7_copy 92 [(0, .ref (G.1 21)), (1, .ref (G.1 8)), (2, .int (x2 + 1))] [] (eU (eU M 19 x2.toNatClampNeg (M 11 x2.toNatClampNeg)) 20 x2.toNatClampNeg ((eU M 19 x2.toNatClampNeg (M 11 x2.toNatClampNeg)) 12 x2.toNatClampNeg)) 0 0)))))) :
    Ev (eZ G 0 68 0 0 (eFV F)) G 0 68 (2, 0, 0) kX7_copy 92 [(0, .ref (G.1 21)), (1, .ref (G.1 8)), (2, .int x2)] [] M 0 0 := by
  refine r_iload_n 2 dX7_copy_92 rfl rfl ?_
  refine r_aload_n 0 dX7_copy_93 rfl rfl ?_
  refine r_getI (c := 21) (k := 9) dX7_copy_94 clX7 lFX7_47 (by decide) iF21 sC21 rfl ?_
  refine r_icmp_ge (t := 130) dX7_copy_97 (by decide) (fun q => ?_) (fun q => ?_)
  · replace h := h.1 q
    refine r_vretV dX7_copy_130 rfl (by decide) (by decide) h
  · replace h := h.2 q
    refine r_aload_n 0 dX7_copy_100 rfl rfl ?_
    refine r_getR (c := 21) (k := 7) 19 dX7_copy_101 clX7 lFX7_30 (by decide) iF21 sC21 rfl ?_
    refine r_iload_n 2 dX7_copy_104 rfl rfl ?_
    refine r_aload_n 1 dX7_copy_105 rfl rfl ?_
    refine r_getR (c := 8) (k := 7) 11 dX7_copy_106 clX7 lFX7_30 (by decide) iF8 sC8 rfl ?_
    refine r_iload_n 2 dX7_copy_109 rfl rfl ?_
    have h1 := h.1
    replace h := h.2
    refine r_kald (c := 11) (N := 400) dX7_copy_110 iF11 sC11 h1 ?_
    have h1 := h.1
    replace h := h.2
    refine r_kast (c := 19) (N := 400) dX7_copy_111 iF19 sC19 h1 ?_
    refine r_aload_n 0 dX7_copy_112 rfl rfl ?_
    refine r_getR (c := 21) (k := 8) 20 dX7_copy_113 clX7 lFX7_34 (by decide) iF21 sC21 rfl ?_
    refine r_iload_n 2 dX7_copy_116 rfl rfl ?_
    refine r_aload_n 1 dX7_copy_117 rfl rfl ?_
    refine r_getR (c := 8) (k := 8) 12 dX7_copy_118 clX7 lFX7_34 (by decide) iF8 sC8 rfl ?_
    refine r_iload_n 2 dX7_copy_121 rfl rfl ?_
    have h1 := h.1
    replace h := h.2
    refine r_iald (c := 12) (N := 400) dX7_copy_122 iF12 sC12 h1 ?_
    have h1 := h.1
    replace h := h.2
    refine r_iast (c := 20) (N := 400) dX7_copy_123 iF20 sC20 h1 ?_
    refine r_iinc (v := x2 + 1) (l' := [(2, .int (x2 + 1)), (0, .ref (G.1 21)), (1, .ref (G.1 8))]) 2 dX7_copy_124 rfl rfl (by decide) rfl ?_
    refine r_goto (t := 92) dX7_copy_127 (by decide) ?_
    exact Ev.sub (ks := [1, 2, 0]) rfl h
set_option maxHeartbeats 4000000 in
set_option maxRecDepth 100000 in
theorem B_X7_copy_52 (G : eG) (M : eM) (F : eM → Prop) (x2 : Int32)
    (h : ((16 ≤ x2) → Ev (eZ G 0 68 0 0 (eFV F)) G 0 68 (2, 0, 0) kX7_copy 92 [(0, .ref (G.1 21)), (1, .ref (G.1 8)), (2, .int 0)] [] (eU M 21 9 (M 8 9)) 0 0) ∧ ((¬ 16 ≤ x2) → vp_in x2 16 ∧ (vp_in x2 16 ∧ (Cal G 0 68 (1, 0, 0) kX6_copy [.ref (G.1 (52 + x2.toNatClampNeg)), .ref (G.1 (36 + x2.toNatClampNeg))] M (eFV (fun (M1 : eM) => Ev (eZ G 0 68 0 0 (eFV F)) G 0 68 (2, 0, 0) kX7_copy 52 [(0, .ref (G.1 21)), (1, .ref (G.1 8)), (2, .int (x2 + 1))] [] M1 0 0)))))) :
    Ev (eZ G 0 68 0 0 (eFV F)) G 0 68 (2, 0, 0) kX7_copy 52 [(0, .ref (G.1 21)), (1, .ref (G.1 8)), (2, .int x2)] [] M 0 0 := by
  refine r_iload_n 2 dX7_copy_52 rfl rfl ?_
  refine r_aload_n 0 dX7_copy_53 rfl rfl ?_
  refine r_getR (c := 21) (k := 5) 18 dX7_copy_54 clX7 lFX7_24 (by decide) iF21 sC21 rfl ?_
  refine r_alen (c := 18) (v := 16) dX7_copy_57 iF18 sC18 rfl ?_
  refine r_icmp_ge (t := 82) dX7_copy_58 (by decide) (fun q => ?_) (fun q => ?_)
  · replace h := h.1 q
    refine r_aload_n 0 dX7_copy_82 rfl rfl ?_
    refine r_aload_n 1 dX7_copy_83 rfl rfl ?_
    refine r_getI (c := 8) (k := 9) dX7_copy_84 clX7 lFX7_47 (by decide) iF8 sC8 rfl ?_
    refine r_putI (c := 21) (k := 9) dX7_copy_87 clX7 lFX7_47 (by decide) iF21 sC21 rfl rfl rfl ?_
    refine r_iconst (v := 0) dX7_copy_90 rfl ?_
    refine r_istore_n (l' := [(2, .int 0), (0, .ref (G.1 21)), (1, .ref (G.1 8))]) dX7_copy_91 rfl (by decide) rfl ?_
    exact Ev.sub (ks := [1, 2, 0]) rfl h
  · replace h := h.2 q
    refine r_aload_n 0 dX7_copy_61 rfl rfl ?_
    refine r_getR (c := 21) (k := 5) 18 dX7_copy_62 clX7 lFX7_24 (by decide) iF21 sC21 rfl ?_
    refine r_iload_n 2 dX7_copy_65 rfl rfl ?_
    have ho := h.1
    replace h := h.2
    refine r_oald (c := 18) (N := 16) (t := 52) dX7_copy_66 iF18 sC18 ho ?_
    refine r_aload_n 1 dX7_copy_67 rfl rfl ?_
    refine r_getR (c := 8) (k := 5) 10 dX7_copy_68 clX7 lFX7_24 (by decide) iF8 sC8 rfl ?_
    refine r_iload_n 2 dX7_copy_71 rfl rfl ?_
    have ho := h.1
    replace h := h.2
    refine r_oald (c := 10) (N := 16) (t := 36) dX7_copy_72 iF10 sC10 ho ?_
    refine r_callVV (b' := (1, 0, 0)) (c := (52 + x2.toNatClampNeg)) (S := []) [.ref (G.1 (36 + x2.toNatClampNeg))] dX7_copy_73 mX6_copy lMX7_81 clX6 rfl (eOrdIn_52 ho) (eOrdSh_52 ho) rfl (by decide) (Nat.le_of_ble_eq_true rfl) h (fun M1 h => ?_) rfl
    refine r_iinc (v := x2 + 1) (l' := [(2, .int (x2 + 1)), (0, .ref (G.1 21)), (1, .ref (G.1 8))]) 2 dX7_copy_76 rfl rfl (by decide) rfl ?_
    refine r_goto (t := 52) dX7_copy_79 (by decide) ?_
    exact Ev.sub (ks := [1, 2, 0]) rfl h
set_option maxHeartbeats 4000000 in
set_option maxRecDepth 100000 in
theorem C_X7_copy (G : eG) (M : eM) (F : eM → Prop) 
    (h : ((¬ (0 : Int32) < 0) ∧ (¬ (0 : Int32) < 0) ∧ (¬ (48 : Int32) < 0) ∧ (0 : Int32).toNatClampNeg + (48 : Int32).toNatClampNeg ≤ 48 ∧ (0 : Int32).toNatClampNeg + (48 : Int32).toNatClampNeg ≤ 48) ∧ (Ev (eZ G 0 68 0 0 (eFV F)) G 0 68 (2, 0, 0) kX7_copy 52 [(0, .ref (G.1 21)), (1, .ref (G.1 8)), (2, .int 0)] [] (eU (eCp (eU (eU (eU M 21 0 (M 8 0)) 21 1 ((eU M 21 0 (M 8 0)) 8 1)) 21 4 ((eU (eU M 21 0 (M 8 0)) 21 1 ((eU M 21 0 (M 8 0)) 8 1)) 8 4)) 9 22 (0 : Int32).toNatClampNeg (0 : Int32).toNatClampNeg (48 : Int32).toNatClampNeg) 21 6 ((eCp (eU (eU (eU M 21 0 (M 8 0)) 21 1 ((eU M 21 0 (M 8 0)) 8 1)) 21 4 ((eU (eU M 21 0 (M 8 0)) 21 1 ((eU M 21 0 (M 8 0)) 8 1)) 8 4)) 9 22 (0 : Int32).toNatClampNeg (0 : Int32).toNatClampNeg (48 : Int32).toNatClampNeg) 8 6)) 0 0)) :
    Cal G 0 68 (2, 0, 0) kX7_copy [.ref (G.1 21), .ref (G.1 8)] M (eFV F) := by
  refine Cal.of (by decide +kernel) rfl (Nat.le_of_ble_eq_true rfl) ?_
  show Ev (eZ G 0 68 0 0 (eFV F)) G 0 68 (2, 0, 0) kX7_copy 0 [(0, .ref (G.1 21)), (1, .ref (G.1 8))] [] M 0 0
  refine r_aload_n 0 dX7_copy_0 rfl rfl ?_
  refine r_aload_n 1 dX7_copy_1 rfl rfl ?_
  refine r_getI (c := 8) (k := 0) dX7_copy_2 clX7 lFX7_11 (by decide) iF8 sC8 rfl ?_
  refine r_putI (c := 21) (k := 0) dX7_copy_5 clX7 lFX7_11 (by decide) iF21 sC21 rfl rfl rfl ?_
  refine r_aload_n 0 dX7_copy_8 rfl rfl ?_
  refine r_aload_n 1 dX7_copy_9 rfl rfl ?_
  refine r_getI (c := 8) (k := 1) dX7_copy_10 clX7 lFX7_15 (by decide) iF8 sC8 rfl ?_
  refine r_putI (c := 21) (k := 1) dX7_copy_13 clX7 lFX7_15 (by decide) iF21 sC21 rfl rfl rfl ?_
  refine r_aload_n 0 dX7_copy_16 rfl rfl ?_
  refine r_aload_n 1 dX7_copy_17 rfl rfl ?_
  refine r_getI (c := 8) (k := 4) dX7_copy_18 clX7 lFX7_41 (by decide) iF8 sC8 rfl ?_
  refine r_putI (c := 21) (k := 4) dX7_copy_21 clX7 lFX7_41 (by decide) iF21 sC21 rfl rfl rfl ?_
  refine r_aload_n 1 dX7_copy_24 rfl rfl ?_
  refine r_getR (c := 8) (k := 3) 9 dX7_copy_25 clX7 lFX7_18 (by decide) iF8 sC8 rfl ?_
  refine r_iconst (v := 0) dX7_copy_28 rfl ?_
  refine r_aload_n 0 dX7_copy_29 rfl rfl ?_
  refine r_getR (c := 21) (k := 3) 22 dX7_copy_30 clX7 lFX7_18 (by decide) iF21 sC21 rfl ?_
  refine r_iconst (v := 0) dX7_copy_33 rfl ?_
  refine r_aload_n 0 dX7_copy_34 rfl rfl ?_
  refine r_getR (c := 21) (k := 3) 22 dX7_copy_35 clX7 lFX7_18 (by decide) iF21 sC21 rfl ?_
  refine r_alen (c := 22) (v := 48) dX7_copy_38 iF22 sC22 rfl ?_
  have h1 := h.1
  replace h := h.2
  refine r_copy (c := 9) (c1 := 22) (N := 48) (N1 := 48) dX7_copy_39 lAX7_75 eCy_n eCy_s eCy_i iF9 sC9 iF22 sC22 h1.1 h1.2.1 h1.2.2.1 h1.2.2.2.1 h1.2.2.2.2 (by decide) (Nat.le_of_ble_eq_true rfl) ?_
  refine r_aload_n 0 dX7_copy_42 rfl rfl ?_
  refine r_aload_n 1 dX7_copy_43 rfl rfl ?_
  refine r_getI (c := 8) (k := 6) dX7_copy_44 clX7 lFX7_44 (by decide) iF8 sC8 rfl ?_
  refine r_putI (c := 21) (k := 6) dX7_copy_47 clX7 lFX7_44 (by decide) iF21 sC21 rfl rfl rfl ?_
  refine r_iconst (v := 0) dX7_copy_50 rfl ?_
  refine r_istore_n (l' := [(2, .int 0), (0, .ref (G.1 21)), (1, .ref (G.1 8))]) dX7_copy_51 rfl (by decide) rfl ?_
  exact Ev.sub (ks := [1, 2, 0]) rfl h
set_option maxHeartbeats 4000000 in
set_option maxRecDepth 100000 in
theorem C_X8_hasRoomFor (G : eG) (M : eM) (F : Bool → eM → Prop) (a1 : Int32)
    (h : (((2000 - (M 1 1)) < a1) → F false M) ∧ ((¬ (2000 - (M 1 1)) < a1) → F true M)) :
    Cal G 0 68 (1, 0, 0) kX8_hasRoomFor [.ref (G.1 1), .int a1] M (eFZ F) := by
  refine Cal.of (by decide +kernel) rfl (Nat.le_of_ble_eq_true rfl) ?_
  show Ev (eZ G 0 68 0 0 (eFZ F)) G 0 68 (1, 0, 0) kX8_hasRoomFor 0 [(0, .ref (G.1 1)), (1, .int a1)] [] M 0 0
  refine r_iload_n 1 dX8_hasRoomFor_0 rfl rfl ?_
  refine r_sipush (v := 2000) dX8_hasRoomFor_1 rfl ?_
  refine r_aload_n 0 dX8_hasRoomFor_4 rfl rfl ?_
  refine r_getI (c := 1) (k := 1) dX8_hasRoomFor_5 clX8 lFX8_13 (by decide) iF1 sC1 rfl ?_
  refine r_isub dX8_hasRoomFor_8 ?_
  refine r_icmp_gt (t := 16) dX8_hasRoomFor_9 (by decide) (fun q => ?_) (fun q => ?_)
  · replace h := h.1 q
    refine r_iconst (v := 0) dX8_hasRoomFor_16 rfl ?_
    refine r_iretZ0 dX8_hasRoomFor_17 rfl (by decide) (by decide) h
  · replace h := h.2 q
    refine r_iconst (v := 1) dX8_hasRoomFor_12 rfl ?_
    refine r_goto (t := 17) dX8_hasRoomFor_13 (by decide) ?_
    refine r_iretZ1 dX8_hasRoomFor_17 rfl (by decide) (by decide) h
set_option maxHeartbeats 4000000 in
set_option maxRecDepth 100000 in
theorem B_X8_append_3 (G : eG) (M : eM) (F : eM → Prop) (x1 : Int32) (x2 : Int32)
    (h : ((x2 < 0) → F M) ∧ ((¬ x2 < 0) → ((2000 ≤ (M 1 1)) → F M) ∧ ((¬ 2000 ≤ (M 1 1)) → vp_in (M 1 1) 2000 ∧ (Ev (eZ G 0 68 0 0 (eFV F)) G 0 68 (1, 0, 0) kX8_append 3 [(0, .ref (G.1 1)), (1, .int x1), (2, .int (x2 + (-8)))] [] (eU (eU M 2 (M 1 1).toNatClampNeg (((x1 >>> (x2 &&& 31)).toInt8.toInt32).toInt8.toInt32)) 1 1 (((eU M 2 (M 1 1).toNatClampNeg (((x1 >>> (x2 &&& 31)).toInt8.toInt32).toInt8.toInt32)) 1 1) + 1)) 0 0)))) :
    Ev (eZ G 0 68 0 0 (eFV F)) G 0 68 (1, 0, 0) kX8_append 3 [(0, .ref (G.1 1)), (1, .int x1), (2, .int x2)] [] M 0 0 := by
  refine r_iload_n 2 dX8_append_3 rfl rfl ?_
  refine r_if_lt (t := 46) dX8_append_4 (by decide) (fun q => ?_) (fun q => ?_)
  · replace h := h.1 q
    refine r_vretV dX8_append_46 rfl (by decide) (by decide) h
  · replace h := h.2 q
    refine r_aload_n 0 dX8_append_7 rfl rfl ?_
    refine r_getI (c := 1) (k := 1) dX8_append_8 clX8 lFX8_13 (by decide) iF1 sC1 rfl ?_
    refine r_sipush (v := 2000) dX8_append_11 rfl ?_
    refine r_icmp_ge (t := 46) dX8_append_14 (by decide) (fun q => ?_) (fun q => ?_)
    · replace h := h.1 q
      refine r_vretV dX8_append_46 rfl (by decide) (by decide) h
    · replace h := h.2 q
      refine r_aload_n 0 dX8_append_17 rfl rfl ?_
      refine r_getR (c := 1) (k := 0) 2 dX8_append_18 clX8 lFX8_9 (by decide) iF1 sC1 rfl ?_
      refine r_aload_n 0 dX8_append_21 rfl rfl ?_
      refine r_getI (c := 1) (k := 1) dX8_append_22 clX8 lFX8_13 (by decide) iF1 sC1 rfl ?_
      refine r_iload_n 1 dX8_append_25 rfl rfl ?_
      refine r_iload_n 2 dX8_append_26 rfl rfl ?_
      refine r_ishr dX8_append_27 ?_
      refine r_i2b dX8_append_28 ?_
      have h1 := h.1
      replace h := h.2
      refine r_bast (c := 2) (N := 2000) dX8_append_29 iF2 sC2 h1 ?_
      refine r_aload_n 0 dX8_append_30 rfl rfl ?_
      refine r_dup dX8_append_31 rfl ?_
      refine r_getI (c := 1) (k := 1) dX8_append_32 clX8 lFX8_13 (by decide) iF1 sC1 rfl ?_
      refine r_iconst (v := 1) dX8_append_35 rfl ?_
      refine r_iadd dX8_append_36 ?_
      refine r_putI (c := 1) (k := 1) dX8_append_37 clX8 lFX8_13 (by decide) iF1 sC1 rfl rfl rfl ?_
      refine r_iinc (v := x2 + (-8)) (l' := [(2, .int (x2 + (-8))), (0, .ref (G.1 1)), (1, .int x1)]) 2 dX8_append_40 rfl rfl (by decide) rfl ?_
      refine r_goto (t := 3) dX8_append_43 (by decide) ?_
      exact Ev.sub (ks := [1, 2, 0]) rfl h
set_option maxHeartbeats 4000000 in
set_option maxRecDepth 100000 in
theorem C_X8_append (G : eG) (M : eM) (F : eM → Prop) (a1 : Int32)
    (h : Ev (eZ G 0 68 0 0 (eFV F)) G 0 68 (1, 0, 0) kX8_append 3 [(0, .ref (G.1 1)), (1, .int a1), (2, .int 24)] [] M 0 0) :
    Cal G 0 68 (1, 0, 0) kX8_append [.ref (G.1 1), .int a1] M (eFV F) := by
  refine Cal.of (by decide +kernel) rfl (Nat.le_of_ble_eq_true rfl) ?_
  show Ev (eZ G 0 68 0 0 (eFV F)) G 0 68 (1, 0, 0) kX8_append 0 [(0, .ref (G.1 1)), (1, .int a1)] [] M 0 0
  refine r_bipush (v := 24) dX8_append_0 rfl ?_
  refine r_istore_n (l' := [(2, .int 24), (0, .ref (G.1 1)), (1, .int a1)]) dX8_append_2 rfl (by decide) rfl ?_
  exact Ev.sub (ks := [1, 2, 0]) rfl h
set_option maxHeartbeats 4000000 in
set_option maxRecDepth 100000 in
theorem C_X8_byteAt (G : eG) (M : eM) (F : Int32 → eM → Prop) (a1 : Int32)
    (h : ((a1 < 0) → F 0 M) ∧ ((¬ a1 < 0) → (((M 1 1) ≤ a1) → F 0 M) ∧ ((¬ (M 1 1) ≤ a1) → vp_in a1 2000 ∧ (F (M 2 a1.toNatClampNeg) M)))) :
    Cal G 0 68 (1, 0, 0) kX8_byteAt [.ref (G.1 1), .int a1] M (eFI F) := by
  refine Cal.of (by decide +kernel) rfl (Nat.le_of_ble_eq_true rfl) ?_
  show Ev (eZ G 0 68 0 0 (eFI F)) G 0 68 (1, 0, 0) kX8_byteAt 0 [(0, .ref (G.1 1)), (1, .int a1)] [] M 0 0
  refine r_iload_n 1 dX8_byteAt_0 rfl rfl ?_
  refine r_if_lt (t := 21) dX8_byteAt_1 (by decide) (fun q => ?_) (fun q => ?_)
  · replace h := h.1 q
    refine r_iconst (v := 0) dX8_byteAt_21 rfl ?_
    refine r_iretI dX8_byteAt_22 rfl (by decide) (by decide) h
  · replace h := h.2 q
    refine r_iload_n 1 dX8_byteAt_4 rfl rfl ?_
    refine r_aload_n 0 dX8_byteAt_5 rfl rfl ?_
    refine r_getI (c := 1) (k := 1) dX8_byteAt_6 clX8 lFX8_13 (by decide) iF1 sC1 rfl ?_
    refine r_icmp_ge (t := 21) dX8_byteAt_9 (by decide) (fun q => ?_) (fun q => ?_)
    · replace h := h.1 q
      refine r_iconst (v := 0) dX8_byteAt_21 rfl ?_
      refine r_iretI dX8_byteAt_22 rfl (by decide) (by decide) h
    · replace h := h.2 q
      refine r_aload_n 0 dX8_byteAt_12 rfl rfl ?_
      refine r_getR (c := 1) (k := 0) 2 dX8_byteAt_13 clX8 lFX8_9 (by decide) iF1 sC1 rfl ?_
      refine r_iload_n 1 dX8_byteAt_16 rfl rfl ?_
      have h1 := h.1
      replace h := h.2
      refine r_bald (c := 2) (N := 2000) dX8_byteAt_17 iF2 sC2 h1 ?_
      refine r_goto (t := 22) dX8_byteAt_18 (by decide) ?_
      refine r_iretI dX8_byteAt_22 rfl (by decide) (by decide) h
set_option maxHeartbeats 4000000 in
set_option maxRecDepth 100000 in
theorem C_X8_isLetter (G : eG) (M : eM) (F : Bool → eM → Prop) (a1 : Int32)
    (h : Cal G 0 68 (1, 0, 0) kX8_byteAt [.ref (G.1 1), .int a1] M (eFI (fun (r1 : Int32) (M1 : eM) => ((r1 < 97) → F false M1) ∧ ((¬ r1 < 97) → ((122 < r1) → F false M1) ∧ ((¬ 122 < r1) → F true M1))))) :
    Cal G 0 68 (2, 0, 0) kX8_isLetter [.ref (G.1 1), .int a1] M (eFZ F) := by
  refine Cal.of (by decide +kernel) rfl (Nat.le_of_ble_eq_true rfl) ?_
  show Ev (eZ G 0 68 0 0 (eFZ F)) G 0 68 (2, 0, 0) kX8_isLetter 0 [(0, .ref (G.1 1)), (1, .int a1)] [] M 0 0
  refine r_aload_n 0 dX8_isLetter_0 rfl rfl ?_
  refine r_iload_n 1 dX8_isLetter_1 rfl rfl ?_
  refine r_callVI (b' := (1, 0, 0)) (c := 1) (S := []) [.int a1] dX8_isLetter_2 mX8_byteAt lMX8_17 clX8 rfl iF1 sC1 rfl (by decide) (Nat.le_of_ble_eq_true rfl) h (fun r1 M1 h => ?_) rfl
  refine r_istore_n (l' := [(2, .int r1), (0, .ref (G.1 1)), (1, .int a1)]) dX8_isLetter_5 rfl (by decide) rfl ?_
  refine r_iload_n 0 dX8_isLetter_6 rfl rfl ?_
  refine r_bipush (v := 97) dX8_isLetter_7 rfl ?_
  refine r_icmp_lt (t := 22) dX8_isLetter_9 (by decide) (fun q => ?_) (fun q => ?_)
  · replace h := h.1 q
    refine r_iconst (v := 0) dX8_isLetter_22 rfl ?_
    refine r_iretZ0 dX8_isLetter_23 rfl (by decide) (by decide) h
  · replace h := h.2 q
    refine r_iload_n 0 dX8_isLetter_12 rfl rfl ?_
    refine r_bipush (v := 122) dX8_isLetter_13 rfl ?_
    refine r_icmp_gt (t := 22) dX8_isLetter_15 (by decide) (fun q => ?_) (fun q => ?_)
    · replace h := h.1 q
      refine r_iconst (v := 0) dX8_isLetter_22 rfl ?_
      refine r_iretZ0 dX8_isLetter_23 rfl (by decide) (by decide) h
    · replace h := h.2 q
      refine r_iconst (v := 1) dX8_isLetter_18 rfl ?_
      refine r_goto (t := 23) dX8_isLetter_19 (by decide) ?_
      refine r_iretZ1 dX8_isLetter_23 rfl (by decide) (by decide) h
set_option maxHeartbeats 4000000 in
set_option maxRecDepth 100000 in
theorem C_X8_isDigit (G : eG) (M : eM) (F : Bool → eM → Prop) (a1 : Int32)
    (h : Cal G 0 68 (1, 0, 0) kX8_byteAt [.ref (G.1 1), .int a1] M (eFI (fun (r1 : Int32) (M1 : eM) => ((r1 < 48) → F false M1) ∧ ((¬ r1 < 48) → ((57 < r1) → F false M1) ∧ ((¬ 57 < r1) → F true M1))))) :
    Cal G 0 68 (2, 0, 0) kX8_isDigit [.ref (G.1 1), .int a1] M (eFZ F) := by
  refine Cal.of (by decide +kernel) rfl (Nat.le_of_ble_eq_true rfl) ?_
  show Ev (eZ G 0 68 0 0 (eFZ F)) G 0 68 (2, 0, 0) kX8_isDigit 0 [(0, .ref (G.1 1)), (1, .int a1)] [] M 0 0
  refine r_aload_n 0 dX8_isDigit_0 rfl rfl ?_
  refine r_iload_n 1 dX8_isDigit_1 rfl rfl ?_
  refine r_callVI (b' := (1, 0, 0)) (c := 1) (S := []) [.int a1] dX8_isDigit_2 mX8_byteAt lMX8_17 clX8 rfl iF1 sC1 rfl (by decide) (Nat.le_of_ble_eq_true rfl) h (fun r1 M1 h => ?_) rfl
  refine r_istore_n (l' := [(2, .int r1), (0, .ref (G.1 1)), (1, .int a1)]) dX8_isDigit_5 rfl (by decide) rfl ?_
  refine r_iload_n 0 dX8_isDigit_6 rfl rfl ?_
  refine r_bipush (v := 48) dX8_isDigit_7 rfl ?_
  refine r_icmp_lt (t := 22) dX8_isDigit_9 (by decide) (fun q => ?_) (fun q => ?_)
  · replace h := h.1 q
    refine r_iconst (v := 0) dX8_isDigit_22 rfl ?_
    refine r_iretZ0 dX8_isDigit_23 rfl (by decide) (by decide) h
  · replace h := h.2 q
    refine r_iload_n 0 dX8_isDigit_12 rfl rfl ?_
    refine r_bipush (v := 57) dX8_isDigit_13 rfl ?_
    refine r_icmp_gt (t := 22) dX8_isDigit_15 (by decide) (fun q => ?_) (fun q => ?_)
    · replace h := h.1 q
      refine r_iconst (v := 0) dX8_isDigit_22 rfl ?_
      refine r_iretZ0 dX8_isDigit_23 rfl (by decide) (by decide) h
    · replace h := h.2 q
      refine r_iconst (v := 1) dX8_isDigit_18 rfl ?_
      refine r_goto (t := 23) dX8_isDigit_19 (by decide) ?_
      refine r_iretZ1 dX8_isDigit_23 rfl (by decide) (by decide) h
set_option maxHeartbeats 4000000 in
set_option maxRecDepth 100000 in
theorem B_X8_behindBlanks_30 (G : eG) (M : eM) (F : Int32 → eM → Prop) (x2 : Int32)
    (h : Ev (eZ G 0 68 0 0 (eFI F)) G 0 68 (2, 0, 0) kX8_behindBlanks 2 [(0, .ref (G.1 1)), (2, .int (x2 + 1))] [] M 0 0) :
    Ev (eZ G 0 68 0 0 (eFI F)) G 0 68 (2, 0, 0) kX8_behindBlanks 30 [(0, .ref (G.1 1)), (2, .int x2)] [] M 0 0 := by
  refine r_iinc (v := x2 + 1) (l' := [(2, .int (x2 + 1)), (0, .ref (G.1 1))]) 1 dX8_behindBlanks_30 rfl rfl (by decide) rfl ?_
  refine r_goto (t := 2) dX8_behindBlanks_33 (by decide) ?_
  exact Ev.sub (ks := [1, 0]) rfl h
set_option maxHeartbeats 4000000 in
set_option maxRecDepth 100000 in
theorem B_X8_behindBlanks_2 (G : eG) (M : eM) (F : Int32 → eM → Prop) (x2 : Int32)
    (h : (((M 1 1) ≤ x2) → F x2 M) ∧ ((¬ (M 1 1) ≤ x2) → Cal G 0 68 (1, 0, 0) kX8_byteAt [.ref (G.1 1), .int x2] M (eFI (fun (r1 : Int32) (M1 : eM) => ((r1 = 32) → Ev (eZ G 0 68 0 0 (eFI F)) G 0 68 (2, 0, 0) kX8_behindBlanks 30 [(0, .ref (G.1 1)), (2, .int x2)] [] M1 0 0) ∧ ((¬ r1 = 32) → Cal G 0 68 (1, 0, 0) kX8_byteAt [.ref (G.1 1), .int x2] M1 (eFI (fun (r2 : Int32) (M2 : eM) => ((¬ r2 = 10) → F x2 M2) ∧ ((r2 = 10) → Ev (eZ G 0 68 0 0 (eFI F)) G 0 68 (2, 0, 0) kX8_behindBlanks 30 [(0, .ref (G.1 1)), (2, .int x2)] [] M2 0 0)))))))) :
    Ev (eZ G 0 68 0 0 (eFI F)) G 0 68 (2, 0, 0) kX8_behindBlanks 2 [(0, .ref (G.1 1)), (2, .int x2)] [] M 0 0 := by
  refine r_iload_n 1 dX8_behindBlanks_2 rfl rfl ?_
  refine r_aload_n 0 dX8_behindBlanks_3 rfl rfl ?_
  refine r_getI (c := 1) (k := 1) dX8_behindBlanks_4 clX8 lFX8_13 (by decide) iF1 sC1 rfl ?_
  refine r_icmp_ge (t := 36) dX8_behindBlanks_7 (by decide) (fun q => ?_) (fun q => ?_)
  · replace h := h.1 q
    refine r_iload_n 1 dX8_behindBlanks_36 rfl rfl ?_
    refine r_iretI dX8_behindBlanks_37 rfl (by decide) (by decide) h
  · replace h := h.2 q
    refine r_aload_n 0 dX8_behindBlanks_10 rfl rfl ?_
    refine r_iload_n 1 dX8_behindBlanks_11 rfl rfl ?_
    refine r_callVI (b' := (1, 0, 0)) (c := 1) (S := []) [.int x2] dX8_behindBlanks_12 mX8_byteAt lMX8_17 clX8 rfl iF1 sC1 rfl (by decide) (Nat.le_of_ble_eq_true rfl) h (fun r1 M1 h => ?_) rfl
    refine r_bipush (v := 32) dX8_behindBlanks_15 rfl ?_
    refine r_icmp_eq (t := 30) dX8_behindBlanks_17 (by decide) (fun q => ?_) (fun q => ?_)
    · replace h := h.1 q
      exact h
    · replace h := h.2 q
      refine r_aload_n 0 dX8_behindBlanks_20 rfl rfl ?_
      refine r_iload_n 1 dX8_behindBlanks_21 rfl rfl ?_
      refine r_callVI (b' := (1, 0, 0)) (c := 1) (S := []) [.int x2] dX8_behindBlanks_22 mX8_byteAt lMX8_17 clX8 rfl iF1 sC1 rfl (by decide) (Nat.le_of_ble_eq_true rfl) h (fun r2 M2 h => ?_) rfl
      refine r_bipush (v := 10) dX8_behindBlanks_25 rfl ?_
      refine r_icmp_ne (t := 36) dX8_behindBlanks_27 (by decide) (fun q => ?_) (fun q => ?_)
      · replace h := h.1 q
        refine r_iload_n 1 dX8_behindBlanks_36 rfl rfl ?_
        refine r_iretI dX8_behindBlanks_37 rfl (by decide) (by decide) h
      · replace h := h.2 q
        exact h
set_option maxHeartbeats 4000000 in
set_option maxRecDepth 100000 in
theorem C_X8_behindBlanks (G : eG) (M : eM) (F : Int32 → eM → Prop) (a1 : Int32)
    (h : Ev (eZ G 0 68 0 0 (eFI F)) G 0 68 (2, 0, 0) kX8_behindBlanks 2 [(0, .ref (G.1 1)), (2, .int a1)] [] M 0 0) :
    Cal G 0 68 (2, 0, 0) kX8_behindBlanks [.ref (G.1 1), .int a1] M (eFI F) := by
  refine Cal.of (by decide +kernel) rfl (Nat.le_of_ble_eq_true rfl) ?_
  show Ev (eZ G 0 68 0 0 (eFI F)) G 0 68 (2, 0, 0) kX8_behindBlanks 0 [(0, .ref (G.1 1)), (1, .int a1)] [] M 0 0
  refine r_iload_n 1 dX8_behindBlanks_0 rfl rfl ?_
  refine r_istore_n (l' := [(2, .int a1), (0, .ref (G.1 1)), (1, .int a1)]) dX8_behindBlanks_1 rfl (by decide) rfl ?_
  exact Ev.sub (ks := [1, 0]) rfl h
set_option maxHeartbeats 4000000 in
set_option maxRecDepth 100000 in
theorem B_X8_behindWord_26 (G : eG) (M : eM) (F : Int32 → eM → Prop) (x2 : Int32)
    (h : Ev (eZ G 0 68 0 0 (eFI F)) G 0 68 (3, 0, 0) kX8_behindWord 2 [(0, .ref (G.1 1)), (2, .int (x2 + 1))] [] M 0 0) :
    Ev (eZ G 0 68 0 0 (eFI F)) G 0 68 (3, 0, 0) kX8_behindWord 26 [(0, .ref (G.1 1)), (2, .int x2)] [] M 0 0 := by
  refine r_iinc (v := x2 + 1) (l' := [(2, .int (x2 + 1)), (0, .ref (G.1 1))]) 1 dX8_behindWord_26 rfl rfl (by decide) rfl ?_
  refine r_goto (t := 2) dX8_behindWord_29 (by decide) ?_
  exact Ev.sub (ks := [1, 0]) rfl h
set_option maxHeartbeats 4000000 in
set_option maxRecDepth 100000 in
theorem B_X8_behindWord_2 (G : eG) (M : eM) (F : Int32 → eM → Prop) (x2 : Int32)
    (h : (((M 1 1) ≤ x2) → F x2 M) ∧ ((¬ (M 1 1) ≤ x2) → Cal G 0 68 (2, 0, 0) kX8_isLetter [.ref (G.1 1), .int x2] M (eFZ (fun (r1 : Bool) (M1 : eM) => ((r1 = true) → Ev (eZ G 0 68 0 0 (eFI F)) G 0 68 (3, 0, 0) kX8_behindWord 26 [(0, .ref (G.1 1)), (2, .int x2)] [] M1 0 0) ∧ ((r1 = false) → Cal G 0 68 (2, 0, 0) kX8_isDigit [.ref (G.1 1), .int x2] M1 (eFZ (fun (r2 : Bool) (M2 : eM) => ((r2 = false) → F x2 M2) ∧ ((r2 = true) → Ev (eZ G 0 68 0 0 (eFI F)) G 0 68 (3, 0, 0) kX8_behindWord 26 [(0, .ref (G.1 1)), (2, .int x2)] [] M2 0 0)))))))) :
    Ev (eZ G 0 68 0 0 (eFI F)) G 0 68 (3, 0, 0) kX8_behindWord 2 [(0, .ref (G.1 1)), (2, .int x2)] [] M 0 0 := by
  refine r_iload_n 1 dX8_behindWord_2 rfl rfl ?_
  refine r_aload_n 0 dX8_behindWord_3 rfl rfl ?_
  refine r_getI (c := 1) (k := 1) dX8_behindWord_4 clX8 lFX8_13 (by decide) iF1 sC1 rfl ?_
  refine r_icmp_ge (t := 32) dX8_behindWord_7 (by decide) (fun q => ?_) (fun q => ?_)
  · replace h := h.1 q
    refine r_iload_n 1 dX8_behindWord_32 rfl rfl ?_
    refine r_iretI dX8_behindWord_33 rfl (by decide) (by decide) h
  · replace h := h.2 q
    refine r_aload_n 0 dX8_behindWord_10 rfl rfl ?_
    refine r_iload_n 1 dX8_behindWord_11 rfl rfl ?_
    refine r_callVZ (b' := (2, 0, 0)) (c := 1) (S := []) [.int x2] dX8_behindWord_12 mX8_isLetter lMX8_21 clX8 rfl iF1 sC1 rfl (by decide) (Nat.le_of_ble_eq_true rfl) h (fun r1 M1 h => ?_) rfl
    refine r_zif_ne (t := 26) dX8_behindWord_15 (by decide) (fun q => ?_) (fun q => ?_)
    · replace h := h.1 q
      exact h
    · replace h := h.2 q
      refine r_aload_n 0 dX8_behindWord_18 rfl rfl ?_
      refine r_iload_n 1 dX8_behindWord_19 rfl rfl ?_
      refine r_callVZ (b' := (2, 0, 0)) (c := 1) (S := []) [.int x2] dX8_behindWord_20 mX8_isDigit lMX8_25 clX8 rfl iF1 sC1 rfl (by decide) (Nat.le_of_ble_eq_true rfl) h (fun r2 M2 h => ?_) rfl
      refine r_zif_eq (t := 32) dX8_behindWord_23 (by decide) (fun q => ?_) (fun q => ?_)
      · replace h := h.1 q
        refine r_iload_n 1 dX8_behindWord_32 rfl rfl ?_
        refine r_iretI dX8_behindWord_33 rfl (by decide) (by decide) h
      · replace h := h.2 q
        exact h
set_option maxHeartbeats 4000000 in
set_option maxRecDepth 100000 in
theorem C_X8_behindWord (G : eG) (M : eM) (F : Int32 → eM → Prop) (a1 : Int32)
    (h : Ev (eZ G 0 68 0 0 (eFI F)) G 0 68 (3, 0, 0) kX8_behindWord 2 [(0, .ref (G.1 1)), (2, .int a1)] [] M 0 0) :
    Cal G 0 68 (3, 0, 0) kX8_behindWord [.ref (G.1 1), .int a1] M (eFI F) := by
  refine Cal.of (by decide +kernel) rfl (Nat.le_of_ble_eq_true rfl) ?_
  show Ev (eZ G 0 68 0 0 (eFI F)) G 0 68 (3, 0, 0) kX8_behindWord 0 [(0, .ref (G.1 1)), (1, .int a1)] [] M 0 0
  refine r_iload_n 1 dX8_behindWord_0 rfl rfl ?_
  refine r_istore_n (l' := [(2, .int a1), (0, .ref (G.1 1)), (1, .int a1)]) dX8_behindWord_1 rfl (by decide) rfl ?_
  exact Ev.sub (ks := [1, 0]) rfl h
set_option maxHeartbeats 4000000 in
set_option maxRecDepth 100000 in
theorem B_X8_behindDigits_2 (G : eG) (M : eM) (F : Int32 → eM → Prop) (x2 : Int32)
    (h : (((M 1 1) ≤ x2) → F x2 M) ∧ ((¬ (M 1 1) ≤ x2) → Cal G 0 68 (2, 0, 0) kX8_isDigit [.ref (G.1 1), .int x2] M (eFZ (fun (r1 : Bool) (M1 : eM) => ((r1 = false) → F x2 M1) ∧ ((r1 = true) → Ev (eZ G 0 68 0 0 (eFI F)) G 0 68 (3, 0, 0) kX8_behindDigits 2 [(0, .ref (G.1 1)), (2, .int (x2 + 1))] [] M1 0 0))))) :
    Ev (eZ G 0 68 0 0 (eFI F)) G 0 68 (3, 0, 0) kX8_behindDigits 2 [(0, .ref (G.1 1)), (2, .int x2)] [] M 0 0 := by
  refine r_iload_n 1 dX8_behindDigits_2 rfl rfl ?_
  refine r_aload_n 0 dX8_behindDigits_3 rfl rfl ?_
  refine r_getI (c := 1) (k := 1) dX8_behindDigits_4 clX8 lFX8_13 (by decide) iF1 sC1 rfl ?_
  refine r_icmp_ge (t := 24) dX8_behindDigits_7 (by decide) (fun q => ?_) (fun q => ?_)
  · replace h := h.1 q
    refine r_iload_n 1 dX8_behindDigits_24 rfl rfl ?_
    refine r_iretI dX8_behindDigits_25 rfl (by decide) (by decide) h
  · replace h := h.2 q
    refine r_aload_n 0 dX8_behindDigits_10 rfl rfl ?_
    refine r_iload_n 1 dX8_behindDigits_11 rfl rfl ?_
    refine r_callVZ (b' := (2, 0, 0)) (c := 1) (S := []) [.int x2] dX8_behindDigits_12 mX8_isDigit lMX8_25 clX8 rfl iF1 sC1 rfl (by decide) (Nat.le_of_ble_eq_true rfl) h (fun r1 M1 h => ?_) rfl
    refine r_zif_eq (t := 24) dX8_behindDigits_15 (by decide) (fun q => ?_) (fun q => ?_)
    · replace h := h.1 q
      refine r_iload_n 1 dX8_behindDigits_24 rfl rfl ?_
      refine r_iretI dX8_behindDigits_25 rfl (by decide) (by decide) h
    · replace h := h.2 q
      refine r_iinc (v := x2 + 1) (l' := [(2, .int (x2 + 1)), (0, .ref (G.1 1))]) 1 dX8_behindDigits_18 rfl rfl (by decide) rfl ?_
      refine r_goto (t := 2) dX8_behindDigits_21 (by decide) ?_
      exact Ev.sub (ks := [1, 0]) rfl h
set_option maxHeartbeats 4000000 in
set_option maxRecDepth 100000 in
theorem C_X8_behindDigits (G : eG) (M : eM) (F : Int32 → eM → Prop) (a1 : Int32)
    (h : Ev (eZ G 0 68 0 0 (eFI F)) G 0 68 (3, 0, 0) kX8_behindDigits 2 [(0, .ref (G.1 1)), (2, .int a1)] [] M 0 0) :
    Cal G 0 68 (3, 0, 0) kX8_behindDigits [.ref (G.1 1), .int a1] M (eFI F) := by
  refine Cal.of (by decide +kernel) rfl (Nat.le_of_ble_eq_true rfl) ?_
  show Ev (eZ G 0 68 0 0 (eFI F)) G 0 68 (3, 0, 0) kX8_behindDigits 0 [(0, .ref (G.1 1)), (1, .int a1)] [] M 0 0
  refine r_iload_n 1 dX8_behindDigits_0 rfl rfl ?_
  refine r_istore_n (l' := [(2, .int a1), (0, .ref (G.1 1)), (1, .int a1)]) dX8_behindDigits_1 rfl (by decide) rfl ?_
  exact Ev.sub (ks := [1, 0]) rfl h
set_option maxHeartbeats 4000000 in
set_option maxRecDepth 100000 in
theorem B_X8_says_15 (G : eG) {k : Nat} (hk : k < eKtx.length) (M : eM) (F : Bool → eM → Prop) (x2 : Int32) (x4 : Int32)
    (h : (((eKl k) ≤ x4) → F true M) ∧ ((¬ (eKl k) ≤ x4) → vp_in x4 (eKtx.getD k []).length ∧ (Cal G 0 68 (1, 0, 0) kX8_byteAt [.ref (G.1 1), .int (x2 + x4)] M (eFI (fun (r1 : Int32) (M1 : eM) => (((eKc k x4.toNatClampNeg) = r1) → Ev (eZ G 0 68 0 0 (eFZ F)) G 0 68 (6, 0, 0) kX8_says 15 [(0, .ref (G.1 1)), (1, .ref (G.1 (1100 + k))), (2, .int x2), (4, .int (x4 + 1))] [] M1 0 0) ∧ ((¬ (eKc k x4.toNatClampNeg) = r1) → F false M1)))))) :
    Ev (eZ G 0 68 0 0 (eFZ F)) G 0 68 (6, 0, 0) kX8_says 15 [(0, .ref (G.1 1)), (1, .ref (G.1 (1100 + k))), (2, .int x2), (4, .int x4)] [] M 0 0 := by
  refine r_iload 3 dX8_says_15 rfl ?_
  refine r_aload_n 1 dX8_says_17 rfl rfl ?_
  refine r_callTI (eSt.k G) hk (b' := (2, 0, 0)) (S := [.int x4]) [] dX8_says_18 mJ0_length_8abf5 lMX8_28 rfl rfl (by decide) (Nat.le_of_ble_eq_true rfl) (C_length (eSt.k G) hk (eKlen hk) (fun r M' => eKl k = r ∧ M = M') ⟨rfl, rfl⟩) (fun r M' q => ?_) rfl
  obtain ⟨rfl, rfl⟩ := q
  refine r_icmp_ge (t := 49) dX8_says_21 (by decide) (fun q => ?_) (fun q => ?_)
  · replace h := h.1 q
    refine r_iconst (v := 1) dX8_says_49 rfl ?_
    refine r_iretZ1 dX8_says_50 rfl (by decide) (by decide) h
  · replace h := h.2 q
    refine r_aload_n 1 dX8_says_24 rfl rfl ?_
    refine r_iload 3 dX8_says_25 rfl ?_
    have h1 := h.1
    replace h := h.2
    refine r_callTI (eSt.k G) hk (b' := (4, 0, 0)) (S := []) [.int x4] dX8_says_27 mJ0_charAt_5068e lMX8_34 rfl rfl (by decide) (Nat.le_of_ble_eq_true rfl) (C_charAt (eSt.k G) hk (eKlen hk) h1 (fun r M' => eKc k x4.toNatClampNeg = r ∧ M = M') ⟨rfl, rfl⟩) (fun r M' q => ?_) rfl
    obtain ⟨rfl, rfl⟩ := q
    refine r_aload_n 0 dX8_says_30 rfl rfl ?_
    refine r_iload_n 2 dX8_says_31 rfl rfl ?_
    refine r_iload 3 dX8_says_32 rfl ?_
    refine r_iadd dX8_says_34 ?_
    refine r_callVI (b' := (1, 0, 0)) (c := 1) (S := [.int (eKc k x4.toNatClampNeg)]) [.int (x2 + x4)] dX8_says_35 mX8_byteAt lMX8_17 clX8 rfl iF1 sC1 rfl (by decide) (Nat.le_of_ble_eq_true rfl) h (fun r1 M1 h => ?_) rfl
    refine r_icmp_eq (t := 43) dX8_says_38 (by decide) (fun q => ?_) (fun q => ?_)
    · replace h := h.1 q
      refine r_iinc (v := x4 + 1) (l' := [(4, .int (x4 + 1)), (0, .ref (G.1 1)), (1, .ref (G.1 (1100 + k))), (2, .int x2)]) 3 dX8_says_43 rfl rfl (by decide) rfl ?_
      refine r_goto (t := 15) dX8_says_46 (by decide) ?_
      exact Ev.sub (ks := [1, 2, 3, 0]) rfl h
    · replace h := h.2 q
      refine r_iconst (v := 0) dX8_says_41 rfl ?_
      refine r_iretZ0 dX8_says_42 rfl (by decide) (by decide) h
set_option maxHeartbeats 4000000 in
set_option maxRecDepth 100000 in
theorem C_X8_says (G : eG) {k : Nat} (hk : k < eKtx.length) (M : eM) (F : Bool → eM → Prop) (a2 : Int32) (a3 : Int32)
    (h : (((eKl k) = (a3 - a2)) → Ev (eZ G 0 68 0 0 (eFZ F)) G 0 68 (6, 0, 0) kX8_says 15 [(0, .ref (G.1 1)), (1, .ref (G.1 (1100 + k))), (2, .int a2), (4, .int 0)] [] M 0 0) ∧ ((¬ (eKl k) = (a3 - a2)) → F false M)) :
    Cal G 0 68 (6, 0, 0) kX8_says [.ref (G.1 1), .ref (G.1 (1100 + k)), .int a2, .int a3] M (eFZ F) := by
  refine Cal.of (by decide +kernel) rfl (Nat.le_of_ble_eq_true rfl) ?_
  show Ev (eZ G 0 68 0 0 (eFZ F)) G 0 68 (6, 0, 0) kX8_says 0 [(0, .ref (G.1 1)), (1, .ref (G.1 (1100 + k))), (2, .int a2), (3, .int a3)] [] M 0 0
  refine r_aload_n 1 dX8_says_0 rfl rfl ?_
  refine r_callTI (eSt.k G) hk (b' := (2, 0, 0)) (S := []) [] dX8_says_1 mJ0_length_8abf5 lMX8_28 rfl rfl (by decide) (Nat.le_of_ble_eq_true rfl) (C_length (eSt.k G) hk (eKlen hk) (fun r M' => eKl k = r ∧ M = M') ⟨rfl, rfl⟩) (fun r M' q => ?_) rfl
  obtain ⟨rfl, rfl⟩ := q
  refine r_iload_n 3 dX8_says_4 rfl rfl ?_
  refine r_iload_n 2 dX8_says_5 rfl rfl ?_
  refine r_isub dX8_says_6 ?_
  refine r_icmp_eq (t := 12) dX8_says_7 (by decide) (fun q => ?_) (fun q => ?_)
  · replace h := h.1 q
    refine r_iconst (v := 0) dX8_says_12 rfl ?_
    refine r_istore (l' := [(4, .int 0), (0, .ref (G.1 1)), (1, .ref (G.1 (1100 + k))), (2, .int a2), (3, .int a3)]) dX8_says_13 (by decide) rfl ?_
    exact Ev.sub (ks := [1, 2, 3, 0]) rfl h
  · replace h := h.2 q
    refine r_iconst (v := 0) dX8_says_10 rfl ?_
    refine r_iretZ0 dX8_says_11 rfl (by decide) (by decide) h
set_option maxHeartbeats 4000000 in
set_option maxRecDepth 100000 in
theorem B_X8_saysSame_3 (G : eG) (M : eM) (F : Bool → eM → Prop) (x1 : Int32) (x2 : Int32) (x3 : Int32) (x4 : Int32)
    (h : ((x3 ≤ x4) → F true M) ∧ ((¬ x3 ≤ x4) → Cal G 0 68 (1, 0, 0) kX8_byteAt [.ref (G.1 1), .int (x1 + x4)] M (eFI (fun (r1 : Int32) (M1 : eM) => Cal G 0 68 (1, 0, 0) kX8_byteAt [.ref (G.1 1), .int (x2 + x4)] M1 (eFI (fun (r2 : Int32) (M2 : eM) => ((r1 = r2) → Ev (eZ G 0 68 0 0 (eFZ F)) G 0 68 (2, 0, 0) kX8_saysSame 3 [(0, .ref (G.1 1)), (1, .int x1), (2, .int x2), (3, .int x3), (4, .int (x4 + 1))] [] M2 0 0) ∧ ((¬ r1 = r2) → F false M2))))))) :
    Ev (eZ G 0 68 0 0 (eFZ F)) G 0 68 (2, 0, 0) kX8_saysSame 3 [(0, .ref (G.1 1)), (1, .int x1), (2, .int x2), (3, .int x3), (4, .int x4)] [] M 0 0 := by
  refine r_iload 4 dX8_saysSame_3 rfl ?_
  refine r_iload_n 3 dX8_saysSame_5 rfl rfl ?_
  refine r_icmp_ge (t := 36) dX8_saysSame_6 (by decide) (fun q => ?_) (fun q => ?_)
  · replace h := h.1 q
    refine r_iconst (v := 1) dX8_saysSame_36 rfl ?_
    refine r_iretZ1 dX8_saysSame_37 rfl (by decide) (by decide) h
  · replace h := h.2 q
    refine r_aload_n 0 dX8_saysSame_9 rfl rfl ?_
    refine r_iload_n 1 dX8_saysSame_10 rfl rfl ?_
    refine r_iload 4 dX8_saysSame_11 rfl ?_
    refine r_iadd dX8_saysSame_13 ?_
    refine r_callVI (b' := (1, 0, 0)) (c := 1) (S := []) [.int (x1 + x4)] dX8_saysSame_14 mX8_byteAt lMX8_17 clX8 rfl iF1 sC1 rfl (by decide) (Nat.le_of_ble_eq_true rfl) h (fun r1 M1 h => ?_) rfl
    refine r_aload_n 0 dX8_saysSame_17 rfl rfl ?_
    refine r_iload_n 2 dX8_saysSame_18 rfl rfl ?_
    refine r_iload 4 dX8_saysSame_19 rfl ?_
    refine r_iadd dX8_saysSame_21 ?_
    refine r_callVI (b' := (1, 0, 0)) (c := 1) (S := [.int r1]) [.int (x2 + x4)] dX8_saysSame_22 mX8_byteAt lMX8_17 clX8 rfl iF1 sC1 rfl (by decide) (Nat.le_of_ble_eq_true rfl) h (fun r2 M2 h => ?_) rfl
    refine r_icmp_eq (t := 30) dX8_saysSame_25 (by decide) (fun q => ?_) (fun q => ?_)
    · replace h := h.1 q
      refine r_iinc (v := x4 + 1) (l' := [(4, .int (x4 + 1)), (0, .ref (G.1 1)), (1, .int x1), (2, .int x2), (3, .int x3)]) 4 dX8_saysSame_30 rfl rfl (by decide) rfl ?_
      refine r_goto (t := 3) dX8_saysSame_33 (by decide) ?_
      exact Ev.sub (ks := [1, 2, 3, 4, 0]) rfl h
    · replace h := h.2 q
      refine r_iconst (v := 0) dX8_saysSame_28 rfl ?_
      refine r_iretZ0 dX8_saysSame_29 rfl (by decide) (by decide) h
set_option maxHeartbeats 4000000 in
set_option maxRecDepth 100000 in
theorem C_X8_saysSame (G : eG) (M : eM) (F : Bool → eM → Prop) (a1 : Int32) (a2 : Int32) (a3 : Int32)
    (h : Ev (eZ G 0 68 0 0 (eFZ F)) G 0 68 (2, 0, 0) kX8_saysSame 3 [(0, .ref (G.1 1)), (1, .int a1), (2, .int a2), (3, .int a3), (4, .int 0)] [] M 0 0) :
    Cal G 0 68 (2, 0, 0) kX8_saysSame [.ref (G.1 1), .int a1, .int a2, .int a3] M (eFZ F) := by
  refine Cal.of (by decide +kernel) rfl (Nat.le_of_ble_eq_true rfl) ?_
  show Ev (eZ G 0 68 0 0 (eFZ F)) G 0 68 (2, 0, 0) kX8_saysSame 0 [(0, .ref (G.1 1)), (1, .int a1), (2, .int a2), (3, .int a3)] [] M 0 0
  refine r_iconst (v := 0) dX8_saysSame_0 rfl ?_
  refine r_istore (l' := [(4, .int 0), (0, .ref (G.1 1)), (1, .int a1), (2, .int a2), (3, .int a3)]) dX8_saysSame_1 (by decide) rfl ?_
  exact Ev.sub (ks := [1, 2, 3, 4, 0]) rfl h
set_option maxHeartbeats 4000000 in
set_option maxRecDepth 100000 in
theorem C_J6_bitCount_0f7a4 (G : eG) (M : eM) (F : Int32 → eM → Prop) (a1 : Int32)
    (h : F ((((((((a1 - (((a1.toUInt32 >>> ((1 : Int32).toUInt32 &&& Int32.toUInt32 31)).toInt32) &&& 1431655765)) &&& 858993459) + ((((a1 - (((a1.toUInt32 >>> ((1 : Int32).toUInt32 &&& Int32.toUInt32 31)).toInt32) &&& 1431655765)).toUInt32 >>> ((2 : Int32).toUInt32 &&& Int32.toUInt32 31)).toInt32) &&& 858993459)) + (((((a1 - (((a1.toUInt32 >>> ((1 : Int32).toUInt32 &&& Int32.toUInt32 31)).toInt32) &&& 1431655765)) &&& 858993459) + ((((a1 - (((a1.toUInt32 >>> ((1 : Int32).toUInt32 &&& Int32.toUInt32 31)).toInt32) &&& 1431655765)).toUInt32 >>> ((2 : Int32).toUInt32 &&& Int32.toUInt32 31)).toInt32) &&& 858993459)).toUInt32 >>> ((4 : Int32).toUInt32 &&& Int32.toUInt32 31)).toInt32)) &&& 252645135) + (((((((a1 - (((a1.toUInt32 >>> ((1 : Int32).toUInt32 &&& Int32.toUInt32 31)).toInt32) &&& 1431655765)) &&& 858993459) + ((((a1 - (((a1.toUInt32 >>> ((1 : Int32).toUInt32 &&& Int32.toUInt32 31)).toInt32) &&& 1431655765)).toUInt32 >>> ((2 : Int32).toUInt32 &&& Int32.toUInt32 31)).toInt32) &&& 858993459)) + (((((a1 - (((a1.toUInt32 >>> ((1 : Int32).toUInt32 &&& Int32.toUInt32 31)).toInt32) &&& 1431655765)) &&& 858993459) + ((((a1 - (((a1.toUInt32 >>> ((1 : Int32).toUInt32 &&& Int32.toUInt32 31)).toInt32) &&& 1431655765)).toUInt32 >>> ((2 : Int32).toUInt32 &&& Int32.toUInt32 31)).toInt32) &&& 858993459)).toUInt32 >>> ((4 : Int32).toUInt32 &&& Int32.toUInt32 31)).toInt32)) &&& 252645135).toUInt32 >>> ((8 : Int32).toUInt32 &&& Int32.toUInt32 31)).toInt32)) + ((((((((a1 - (((a1.toUInt32 >>> ((1 : Int32).toUInt32 &&& Int32.toUInt32 31)).toInt32) &&& 1431655765)) &&& 858993459) + ((((a1 - (((a1.toUInt32 >>> ((1 : Int32).toUInt32 &&& Int32.toUInt32 31)).toInt32) &&& 1431655765)).toUInt32 >>> ((2 : Int32).toUInt32 &&& Int32.toUInt32 31)).toInt32) &&& 858993459)) + (((((a1 - (((a1.toUInt32 >>> ((1 : Int32).toUInt32 &&& Int32.toUInt32 31)).toInt32) &&& 1431655765)) &&& 858993459) + ((((a1 - (((a1.toUInt32 >>> ((1 : Int32).toUInt32 &&& Int32.toUInt32 31)).toInt32) &&& 1431655765)).toUInt32 >>> ((2 : Int32).toUInt32 &&& Int32.toUInt32 31)).toInt32) &&& 858993459)).toUInt32 >>> ((4 : Int32).toUInt32 &&& Int32.toUInt32 31)).toInt32)) &&& 252645135) + (((((((a1 - (((a1.toUInt32 >>> ((1 : Int32).toUInt32 &&& Int32.toUInt32 31)).toInt32) &&& 1431655765)) &&& 858993459) + ((((a1 - (((a1.toUInt32 >>> ((1 : Int32).toUInt32 &&& Int32.toUInt32 31)).toInt32) &&& 1431655765)).toUInt32 >>> ((2 : Int32).toUInt32 &&& Int32.toUInt32 31)).toInt32) &&& 858993459)) + (((((a1 - (((a1.toUInt32 >>> ((1 : Int32).toUInt32 &&& Int32.toUInt32 31)).toInt32) &&& 1431655765)) &&& 858993459) + ((((a1 - (((a1.toUInt32 >>> ((1 : Int32).toUInt32 &&& Int32.toUInt32 31)).toInt32) &&& 1431655765)).toUInt32 >>> ((2 : Int32).toUInt32 &&& Int32.toUInt32 31)).toInt32) &&& 858993459)).toUInt32 >>> ((4 : Int32).toUInt32 &&& Int32.toUInt32 31)).toInt32)) &&& 252645135).toUInt32 >>> ((8 : Int32).toUInt32 &&& Int32.toUInt32 31)).toInt32)).toUInt32 >>> ((16 : Int32).toUInt32 &&& Int32.toUInt32 31)).toInt32)) &&& 63) M) :
    Cal G 0 68 (1, 0, 0) kJ6_bitCount_0f7a4 [.int a1] M (eFI F) := by
  refine Cal.of (by decide +kernel) rfl (Nat.le_of_ble_eq_true rfl) ?_
  show Ev (eZ G 0 68 0 0 (eFI F)) G 0 68 (1, 0, 0) kJ6_bitCount_0f7a4 0 [(0, .int a1)] [] M 0 0
  refine r_iload_n 0 dJ6_bitCount_0f7a4_0 rfl rfl ?_
  refine r_iload_n 0 dJ6_bitCount_0f7a4_1 rfl rfl ?_
  refine r_iconst (v := 1) dJ6_bitCount_0f7a4_2 rfl ?_
  refine r_iushr dJ6_bitCount_0f7a4_3 ?_
  refine r_ldcw dJ6_bitCount_0f7a4_4 lCJ6_265 ?_
  refine r_iand dJ6_bitCount_0f7a4_7 ?_
  refine r_isub dJ6_bitCount_0f7a4_8 ?_
  refine r_istore_n (l' := [(0, .int (a1 - (((a1.toUInt32 >>> ((1 : Int32).toUInt32 &&& Int32.toUInt32 31)).toInt32) &&& 1431655765)))]) dJ6_bitCount_0f7a4_9 rfl (by decide) rfl ?_
  refine r_iload_n 0 dJ6_bitCount_0f7a4_10 rfl rfl ?_
  refine r_ldcw dJ6_bitCount_0f7a4_11 lCJ6_266 ?_
  refine r_iand dJ6_bitCount_0f7a4_14 ?_
  refine r_iload_n 0 dJ6_bitCount_0f7a4_15 rfl rfl ?_
  refine r_iconst (v := 2) dJ6_bitCount_0f7a4_16 rfl ?_
  refine r_iushr dJ6_bitCount_0f7a4_17 ?_
  refine r_ldcw dJ6_bitCount_0f7a4_18 lCJ6_266 ?_
  refine r_iand dJ6_bitCount_0f7a4_21 ?_
  refine r_iadd dJ6_bitCount_0f7a4_22 ?_
  refine r_istore_n (l' := [(0, .int (((a1 - (((a1.toUInt32 >>> ((1 : Int32).toUInt32 &&& Int32.toUInt32 31)).toInt32) &&& 1431655765)) &&& 858993459) + ((((a1 - (((a1.toUInt32 >>> ((1 : Int32).toUInt32 &&& Int32.toUInt32 31)).toInt32) &&& 1431655765)).toUInt32 >>> ((2 : Int32).toUInt32 &&& Int32.toUInt32 31)).toInt32) &&& 858993459)))]) dJ6_bitCount_0f7a4_23 rfl (by decide) rfl ?_
  refine r_iload_n 0 dJ6_bitCount_0f7a4_24 rfl rfl ?_
  refine r_iload_n 0 dJ6_bitCount_0f7a4_25 rfl rfl ?_
  refine r_iconst (v := 4) dJ6_bitCount_0f7a4_26 rfl ?_
  refine r_iushr dJ6_bitCount_0f7a4_27 ?_
  refine r_iadd dJ6_bitCount_0f7a4_28 ?_
  refine r_ldcw dJ6_bitCount_0f7a4_29 lCJ6_267 ?_
  refine r_iand dJ6_bitCount_0f7a4_32 ?_
  refine r_istore_n (l' := [(0, .int (((((a1 - (((a1.toUInt32 >>> ((1 : Int32).toUInt32 &&& Int32.toUInt32 31)).toInt32) &&& 1431655765)) &&& 858993459) + ((((a1 - (((a1.toUInt32 >>> ((1 : Int32).toUInt32 &&& Int32.toUInt32 31)).toInt32) &&& 1431655765)).toUInt32 >>> ((2 : Int32).toUInt32 &&& Int32.toUInt32 31)).toInt32) &&& 858993459)) + (((((a1 - (((a1.toUInt32 >>> ((1 : Int32).toUInt32 &&& Int32.toUInt32 31)).toInt32) &&& 1431655765)) &&& 858993459) + ((((a1 - (((a1.toUInt32 >>> ((1 : Int32).toUInt32 &&& Int32.toUInt32 31)).toInt32) &&& 1431655765)).toUInt32 >>> ((2 : Int32).toUInt32 &&& Int32.toUInt32 31)).toInt32) &&& 858993459)).toUInt32 >>> ((4 : Int32).toUInt32 &&& Int32.toUInt32 31)).toInt32)) &&& 252645135))]) dJ6_bitCount_0f7a4_33 rfl (by decide) rfl ?_
  refine r_iload_n 0 dJ6_bitCount_0f7a4_34 rfl rfl ?_
  refine r_iload_n 0 dJ6_bitCount_0f7a4_35 rfl rfl ?_
  refine r_bipush (v := 8) dJ6_bitCount_0f7a4_36 rfl ?_
  refine r_iushr dJ6_bitCount_0f7a4_38 ?_
  refine r_iadd dJ6_bitCount_0f7a4_39 ?_
  refine r_istore_n (l' := [(0, .int ((((((a1 - (((a1.toUInt32 >>> ((1 : Int32).toUInt32 &&& Int32.toUInt32 31)).toInt32) &&& 1431655765)) &&& 858993459) + ((((a1 - (((a1.toUInt32 >>> ((1 : Int32).toUInt32 &&& Int32.toUInt32 31)).toInt32) &&& 1431655765)).toUInt32 >>> ((2 : Int32).toUInt32 &&& Int32.toUInt32 31)).toInt32) &&& 858993459)) + (((((a1 - (((a1.toUInt32 >>> ((1 : Int32).toUInt32 &&& Int32.toUInt32 31)).toInt32) &&& 1431655765)) &&& 858993459) + ((((a1 - (((a1.toUInt32 >>> ((1 : Int32).toUInt32 &&& Int32.toUInt32 31)).toInt32) &&& 1431655765)).toUInt32 >>> ((2 : Int32).toUInt32 &&& Int32.toUInt32 31)).toInt32) &&& 858993459)).toUInt32 >>> ((4 : Int32).toUInt32 &&& Int32.toUInt32 31)).toInt32)) &&& 252645135) + (((((((a1 - (((a1.toUInt32 >>> ((1 : Int32).toUInt32 &&& Int32.toUInt32 31)).toInt32) &&& 1431655765)) &&& 858993459) + ((((a1 - (((a1.toUInt32 >>> ((1 : Int32).toUInt32 &&& Int32.toUInt32 31)).toInt32) &&& 1431655765)).toUInt32 >>> ((2 : Int32).toUInt32 &&& Int32.toUInt32 31)).toInt32) &&& 858993459)) + (((((a1 - (((a1.toUInt32 >>> ((1 : Int32).toUInt32 &&& Int32.toUInt32 31)).toInt32) &&& 1431655765)) &&& 858993459) + ((((a1 - (((a1.toUInt32 >>> ((1 : Int32).toUInt32 &&& Int32.toUInt32 31)).toInt32) &&& 1431655765)).toUInt32 >>> ((2 : Int32).toUInt32 &&& Int32.toUInt32 31)).toInt32) &&& 858993459)).toUInt32 >>> ((4 : Int32).toUInt32 &&& Int32.toUInt32 31)).toInt32)) &&& 252645135).toUInt32 >>> ((8 : Int32).toUInt32 &&& Int32.toUInt32 31)).toInt32)))]) dJ6_bitCount_0f7a4_40 rfl (by decide) rfl ?_
  refine r_iload_n 0 dJ6_bitCount_0f7a4_41 rfl rfl ?_
  refine r_iload_n 0 dJ6_bitCount_0f7a4_42 rfl rfl ?_
  refine r_bipush (v := 16) dJ6_bitCount_0f7a4_43 rfl ?_
  refine r_iushr dJ6_bitCount_0f7a4_45 ?_
  refine r_iadd dJ6_bitCount_0f7a4_46 ?_
  refine r_istore_n (l' := [(0, .int (((((((a1 - (((a1.toUInt32 >>> ((1 : Int32).toUInt32 &&& Int32.toUInt32 31)).toInt32) &&& 1431655765)) &&& 858993459) + ((((a1 - (((a1.toUInt32 >>> ((1 : Int32).toUInt32 &&& Int32.toUInt32 31)).toInt32) &&& 1431655765)).toUInt32 >>> ((2 : Int32).toUInt32 &&& Int32.toUInt32 31)).toInt32) &&& 858993459)) + (((((a1 - (((a1.toUInt32 >>> ((1 : Int32).toUInt32 &&& Int32.toUInt32 31)).toInt32) &&& 1431655765)) &&& 858993459) + ((((a1 - (((a1.toUInt32 >>> ((1 : Int32).toUInt32 &&& Int32.toUInt32 31)).toInt32) &&& 1431655765)).toUInt32 >>> ((2 : Int32).toUInt32 &&& Int32.toUInt32 31)).toInt32) &&& 858993459)).toUInt32 >>> ((4 : Int32).toUInt32 &&& Int32.toUInt32 31)).toInt32)) &&& 252645135) + (((((((a1 - (((a1.toUInt32 >>> ((1 : Int32).toUInt32 &&& Int32.toUInt32 31)).toInt32) &&& 1431655765)) &&& 858993459) + ((((a1 - (((a1.toUInt32 >>> ((1 : Int32).toUInt32 &&& Int32.toUInt32 31)).toInt32) &&& 1431655765)).toUInt32 >>> ((2 : Int32).toUInt32 &&& Int32.toUInt32 31)).toInt32) &&& 858993459)) + (((((a1 - (((a1.toUInt32 >>> ((1 : Int32).toUInt32 &&& Int32.toUInt32 31)).toInt32) &&& 1431655765)) &&& 858993459) + ((((a1 - (((a1.toUInt32 >>> ((1 : Int32).toUInt32 &&& Int32.toUInt32 31)).toInt32) &&& 1431655765)).toUInt32 >>> ((2 : Int32).toUInt32 &&& Int32.toUInt32 31)).toInt32) &&& 858993459)).toUInt32 >>> ((4 : Int32).toUInt32 &&& Int32.toUInt32 31)).toInt32)) &&& 252645135).toUInt32 >>> ((8 : Int32).toUInt32 &&& Int32.toUInt32 31)).toInt32)) + ((((((((a1 - (((a1.toUInt32 >>> ((1 : Int32).toUInt32 &&& Int32.toUInt32 31)).toInt32) &&& 1431655765)) &&& 858993459) + ((((a1 - (((a1.toUInt32 >>> ((1 : Int32).toUInt32 &&& Int32.toUInt32 31)).toInt32) &&& 1431655765)).toUInt32 >>> ((2 : Int32).toUInt32 &&& Int32.toUInt32 31)).toInt32) &&& 858993459)) + (((((a1 - (((a1.toUInt32 >>> ((1 : Int32).toUInt32 &&& Int32.toUInt32 31)).toInt32) &&& 1431655765)) &&& 858993459) + ((((a1 - (((a1.toUInt32 >>> ((1 : Int32).toUInt32 &&& Int32.toUInt32 31)).toInt32) &&& 1431655765)).toUInt32 >>> ((2 : Int32).toUInt32 &&& Int32.toUInt32 31)).toInt32) &&& 858993459)).toUInt32 >>> ((4 : Int32).toUInt32 &&& Int32.toUInt32 31)).toInt32)) &&& 252645135) + (((((((a1 - (((a1.toUInt32 >>> ((1 : Int32).toUInt32 &&& Int32.toUInt32 31)).toInt32) &&& 1431655765)) &&& 858993459) + ((((a1 - (((a1.toUInt32 >>> ((1 : Int32).toUInt32 &&& Int32.toUInt32 31)).toInt32) &&& 1431655765)).toUInt32 >>> ((2 : Int32).toUInt32 &&& Int32.toUInt32 31)).toInt32) &&& 858993459)) + (((((a1 - (((a1.toUInt32 >>> ((1 : Int32).toUInt32 &&& Int32.toUInt32 31)).toInt32) &&& 1431655765)) &&& 858993459) + ((((a1 - (((a1.toUInt32 >>> ((1 : Int32).toUInt32 &&& Int32.toUInt32 31)).toInt32) &&& 1431655765)).toUInt32 >>> ((2 : Int32).toUInt32 &&& Int32.toUInt32 31)).toInt32) &&& 858993459)).toUInt32 >>> ((4 : Int32).toUInt32 &&& Int32.toUInt32 31)).toInt32)) &&& 252645135).toUInt32 >>> ((8 : Int32).toUInt32 &&& Int32.toUInt32 31)).toInt32)).toUInt32 >>> ((16 : Int32).toUInt32 &&& Int32.toUInt32 31)).toInt32)))]) dJ6_bitCount_0f7a4_47 rfl (by decide) rfl ?_
  refine r_iload_n 0 dJ6_bitCount_0f7a4_48 rfl rfl ?_
  refine r_bipush (v := 63) dJ6_bitCount_0f7a4_49 rfl ?_
  refine r_iand dJ6_bitCount_0f7a4_51 ?_
  refine r_iretI dJ6_bitCount_0f7a4_52 rfl (by decide) (by decide) h
set_option maxHeartbeats 4000000 in
set_option maxRecDepth 100000 in
theorem B_J7_fill_53178_24s_5 (G : eG) (M : eM) (F : eM → Prop) (x1 : Int32) (x2 : Int32) (x3 : Int32)
    (h : ((x3 ≤ x2) → F M) ∧ ((¬ x3 ≤ x2) → vp_in x2 49 ∧ (Ev (eZ G 21 15 0 0 (eFV F)) G 21 15 (1, 0, 0) kJ7_fill_53178 5 [(0, .ref (G.1 24)), (1, .int x1), (2, .int (x2 + 1)), (3, .int x3)] [] (eU M 24 x2.toNatClampNeg x1) 0 0))) :
    Ev (eZ G 21 15 0 0 (eFV F)) G 21 15 (1, 0, 0) kJ7_fill_53178 5 [(0, .ref (G.1 24)), (1, .int x1), (2, .int x2), (3, .int x3)] [] M 0 0 := by
  refine r_iload_n 2 dJ7_fill_53178_5 rfl rfl ?_
  refine r_iload_n 3 dJ7_fill_53178_6 rfl rfl ?_
  refine r_icmp_ge (t := 20) dJ7_fill_53178_7 (by decide) (fun q => ?_) (fun q => ?_)
  · replace h := h.1 q
    refine r_vretV dJ7_fill_53178_20 rfl (by decide) (by decide) h
  · replace h := h.2 q
    refine r_aload_n 0 dJ7_fill_53178_10 rfl rfl ?_
    refine r_iload_n 2 dJ7_fill_53178_11 rfl rfl ?_
    refine r_iload_n 1 dJ7_fill_53178_12 rfl rfl ?_
    have h1 := h.1
    replace h := h.2
    refine r_iast (c := 24) (N := 49) dJ7_fill_53178_13 iS24 sC24 h1 ?_
    refine r_iinc (v := x2 + 1) (l' := [(2, .int (x2 + 1)), (0, .ref (G.1 24)), (1, .int x1), (3, .int x3)]) 2 dJ7_fill_53178_14 rfl rfl (by decide) rfl ?_
    refine r_goto (t := 5) dJ7_fill_53178_17 (by decide) ?_
    exact Ev.sub (ks := [1, 2, 0, 3]) rfl h
set_option maxHeartbeats 4000000 in
set_option maxRecDepth 100000 in
theorem C_J7_fill_53178_24s (G : eG) (M : eM) (F : eM → Prop) (a1 : Int32)
    (h : Ev (eZ G 21 15 0 0 (eFV F)) G 21 15 (1, 0, 0) kJ7_fill_53178 5 [(0, .ref (G.1 24)), (1, .int a1), (2, .int 0), (3, .int 49)] [] M 0 0) :
    Cal G 21 15 (1, 0, 0) kJ7_fill_53178 [.ref (G.1 24), .int a1] M (eFV F) := by
  refine Cal.of (by decide +kernel) rfl (Nat.le_of_ble_eq_true rfl) ?_
  show Ev (eZ G 21 15 0 0 (eFV F)) G 21 15 (1, 0, 0) kJ7_fill_53178 0 [(0, .ref (G.1 24)), (1, .int a1)] [] M 0 0
  refine r_iconst (v := 0) dJ7_fill_53178_0 rfl ?_
  refine r_istore_n (l' := [(2, .int 0), (0, .ref (G.1 24)), (1, .int a1)]) dJ7_fill_53178_1 rfl (by decide) rfl ?_
  refine r_aload_n 1 dJ7_fill_53178_2 rfl rfl ?_
  refine r_alen (c := 24) (v := 49) dJ7_fill_53178_3 iS24 sC24 rfl ?_
  refine r_istore_n (l' := [(3, .int 49), (2, .int 0), (0, .ref (G.1 24)), (1, .int a1)]) dJ7_fill_53178_4 rfl (by decide) rfl ?_
  exact Ev.sub (ks := [2, 3, 1, 0]) rfl h
set_option maxHeartbeats 4000000 in
set_option maxRecDepth 100000 in
theorem B_J7_fill_53178_25s_5 (G : eG) (M : eM) (F : eM → Prop) (x1 : Int32) (x2 : Int32) (x3 : Int32)
    (h : ((x3 ≤ x2) → F M) ∧ ((¬ x3 ≤ x2) → vp_in x2 16 ∧ (Ev (eZ G 21 15 0 0 (eFV F)) G 21 15 (1, 0, 0) kJ7_fill_53178 5 [(0, .ref (G.1 25)), (1, .int x1), (2, .int (x2 + 1)), (3, .int x3)] [] (eU M 25 x2.toNatClampNeg x1) 0 0))) :
    Ev (eZ G 21 15 0 0 (eFV F)) G 21 15 (1, 0, 0) kJ7_fill_53178 5 [(0, .ref (G.1 25)), (1, .int x1), (2, .int x2), (3, .int x3)] [] M 0 0 := by
  refine r_iload_n 2 dJ7_fill_53178_5 rfl rfl ?_
  refine r_iload_n 3 dJ7_fill_53178_6 rfl rfl ?_
  refine r_icmp_ge (t := 20) dJ7_fill_53178_7 (by decide) (fun q => ?_) (fun q => ?_)
  · replace h := h.1 q
    refine r_vretV dJ7_fill_53178_20 rfl (by decide) (by decide) h
  · replace h := h.2 q
    refine r_aload_n 0 dJ7_fill_53178_10 rfl rfl ?_
    refine r_iload_n 2 dJ7_fill_53178_11 rfl rfl ?_
    refine r_iload_n 1 dJ7_fill_53178_12 rfl rfl ?_
    have h1 := h.1
    replace h := h.2
    refine r_iast (c := 25) (N := 16) dJ7_fill_53178_13 iS25 sC25 h1 ?_
    refine r_iinc (v := x2 + 1) (l' := [(2, .int (x2 + 1)), (0, .ref (G.1 25)), (1, .int x1), (3, .int x3)]) 2 dJ7_fill_53178_14 rfl rfl (by decide) rfl ?_
    refine r_goto (t := 5) dJ7_fill_53178_17 (by decide) ?_
    exact Ev.sub (ks := [1, 2, 0, 3]) rfl h
set_option maxHeartbeats 4000000 in
set_option maxRecDepth 100000 in
theorem C_J7_fill_53178_25s (G : eG) (M : eM) (F : eM → Prop) (a1 : Int32)
    (h : Ev (eZ G 21 15 0 0 (eFV F)) G 21 15 (1, 0, 0) kJ7_fill_53178 5 [(0, .ref (G.1 25)), (1, .int a1), (2, .int 0), (3, .int 16)] [] M 0 0) :
    Cal G 21 15 (1, 0, 0) kJ7_fill_53178 [.ref (G.1 25), .int a1] M (eFV F) := by
  refine Cal.of (by decide +kernel) rfl (Nat.le_of_ble_eq_true rfl) ?_
  show Ev (eZ G 21 15 0 0 (eFV F)) G 21 15 (1, 0, 0) kJ7_fill_53178 0 [(0, .ref (G.1 25)), (1, .int a1)] [] M 0 0
  refine r_iconst (v := 0) dJ7_fill_53178_0 rfl ?_
  refine r_istore_n (l' := [(2, .int 0), (0, .ref (G.1 25)), (1, .int a1)]) dJ7_fill_53178_1 rfl (by decide) rfl ?_
  refine r_aload_n 1 dJ7_fill_53178_2 rfl rfl ?_
  refine r_alen (c := 25) (v := 16) dJ7_fill_53178_3 iS25 sC25 rfl ?_
  refine r_istore_n (l' := [(3, .int 16), (2, .int 0), (0, .ref (G.1 25)), (1, .int a1)]) dJ7_fill_53178_4 rfl (by decide) rfl ?_
  exact Ev.sub (ks := [2, 3, 1, 0]) rfl h
set_option maxHeartbeats 4000000 in
set_option maxRecDepth 100000 in
theorem B_J7_fill_53178_26s_5 (G : eG) (M : eM) (F : eM → Prop) (x1 : Int32) (x2 : Int32) (x3 : Int32)
    (h : ((x3 ≤ x2) → F M) ∧ ((¬ x3 ≤ x2) → vp_in x2 16 ∧ (Ev (eZ G 21 15 0 0 (eFV F)) G 21 15 (1, 0, 0) kJ7_fill_53178 5 [(0, .ref (G.1 26)), (1, .int x1), (2, .int (x2 + 1)), (3, .int x3)] [] (eU M 26 x2.toNatClampNeg x1) 0 0))) :
    Ev (eZ G 21 15 0 0 (eFV F)) G 21 15 (1, 0, 0) kJ7_fill_53178 5 [(0, .ref (G.1 26)), (1, .int x1), (2, .int x2), (3, .int x3)] [] M 0 0 := by
  refine r_iload_n 2 dJ7_fill_53178_5 rfl rfl ?_
  refine r_iload_n 3 dJ7_fill_53178_6 rfl rfl ?_
  refine r_icmp_ge (t := 20) dJ7_fill_53178_7 (by decide) (fun q => ?_) (fun q => ?_)
  · replace h := h.1 q
    refine r_vretV dJ7_fill_53178_20 rfl (by decide) (by decide) h
  · replace h := h.2 q
    refine r_aload_n 0 dJ7_fill_53178_10 rfl rfl ?_
    refine r_iload_n 2 dJ7_fill_53178_11 rfl rfl ?_
    refine r_iload_n 1 dJ7_fill_53178_12 rfl rfl ?_
    have h1 := h.1
    replace h := h.2
    refine r_iast (c := 26) (N := 16) dJ7_fill_53178_13 iS26 sC26 h1 ?_
    refine r_iinc (v := x2 + 1) (l' := [(2, .int (x2 + 1)), (0, .ref (G.1 26)), (1, .int x1), (3, .int x3)]) 2 dJ7_fill_53178_14 rfl rfl (by decide) rfl ?_
    refine r_goto (t := 5) dJ7_fill_53178_17 (by decide) ?_
    exact Ev.sub (ks := [1, 2, 0, 3]) rfl h
set_option maxHeartbeats 4000000 in
set_option maxRecDepth 100000 in
theorem C_J7_fill_53178_26s (G : eG) (M : eM) (F : eM → Prop) (a1 : Int32)
    (h : Ev (eZ G 21 15 0 0 (eFV F)) G 21 15 (1, 0, 0) kJ7_fill_53178 5 [(0, .ref (G.1 26)), (1, .int a1), (2, .int 0), (3, .int 16)] [] M 0 0) :
    Cal G 21 15 (1, 0, 0) kJ7_fill_53178 [.ref (G.1 26), .int a1] M (eFV F) := by
  refine Cal.of (by decide +kernel) rfl (Nat.le_of_ble_eq_true rfl) ?_
  show Ev (eZ G 21 15 0 0 (eFV F)) G 21 15 (1, 0, 0) kJ7_fill_53178 0 [(0, .ref (G.1 26)), (1, .int a1)] [] M 0 0
  refine r_iconst (v := 0) dJ7_fill_53178_0 rfl ?_
  refine r_istore_n (l' := [(2, .int 0), (0, .ref (G.1 26)), (1, .int a1)]) dJ7_fill_53178_1 rfl (by decide) rfl ?_
  refine r_aload_n 1 dJ7_fill_53178_2 rfl rfl ?_
  refine r_alen (c := 26) (v := 16) dJ7_fill_53178_3 iS26 sC26 rfl ?_
  refine r_istore_n (l' := [(3, .int 16), (2, .int 0), (0, .ref (G.1 26)), (1, .int a1)]) dJ7_fill_53178_4 rfl (by decide) rfl ?_
  exact Ev.sub (ks := [2, 3, 1, 0]) rfl h
set_option maxHeartbeats 4000000 in
set_option maxRecDepth 100000 in
theorem B_J7_fill_53178_28s_5 (G : eG) (M : eM) (F : eM → Prop) (x1 : Int32) (x2 : Int32) (x3 : Int32)
    (h : ((x3 ≤ x2) → F M) ∧ ((¬ x3 ≤ x2) → vp_in x2 960 ∧ (Ev (eZ G 21 15 0 0 (eFV F)) G 21 15 (1, 0, 0) kJ7_fill_53178 5 [(0, .ref (G.1 28)), (1, .int x1), (2, .int (x2 + 1)), (3, .int x3)] [] (eU M 28 x2.toNatClampNeg x1) 0 0))) :
    Ev (eZ G 21 15 0 0 (eFV F)) G 21 15 (1, 0, 0) kJ7_fill_53178 5 [(0, .ref (G.1 28)), (1, .int x1), (2, .int x2), (3, .int x3)] [] M 0 0 := by
  refine r_iload_n 2 dJ7_fill_53178_5 rfl rfl ?_
  refine r_iload_n 3 dJ7_fill_53178_6 rfl rfl ?_
  refine r_icmp_ge (t := 20) dJ7_fill_53178_7 (by decide) (fun q => ?_) (fun q => ?_)
  · replace h := h.1 q
    refine r_vretV dJ7_fill_53178_20 rfl (by decide) (by decide) h
  · replace h := h.2 q
    refine r_aload_n 0 dJ7_fill_53178_10 rfl rfl ?_
    refine r_iload_n 2 dJ7_fill_53178_11 rfl rfl ?_
    refine r_iload_n 1 dJ7_fill_53178_12 rfl rfl ?_
    have h1 := h.1
    replace h := h.2
    refine r_iast (c := 28) (N := 960) dJ7_fill_53178_13 iS28 sC28 h1 ?_
    refine r_iinc (v := x2 + 1) (l' := [(2, .int (x2 + 1)), (0, .ref (G.1 28)), (1, .int x1), (3, .int x3)]) 2 dJ7_fill_53178_14 rfl rfl (by decide) rfl ?_
    refine r_goto (t := 5) dJ7_fill_53178_17 (by decide) ?_
    exact Ev.sub (ks := [1, 2, 0, 3]) rfl h
set_option maxHeartbeats 4000000 in
set_option maxRecDepth 100000 in
theorem C_J7_fill_53178_28s (G : eG) (M : eM) (F : eM → Prop) (a1 : Int32)
    (h : Ev (eZ G 21 15 0 0 (eFV F)) G 21 15 (1, 0, 0) kJ7_fill_53178 5 [(0, .ref (G.1 28)), (1, .int a1), (2, .int 0), (3, .int 960)] [] M 0 0) :
    Cal G 21 15 (1, 0, 0) kJ7_fill_53178 [.ref (G.1 28), .int a1] M (eFV F) := by
  refine Cal.of (by decide +kernel) rfl (Nat.le_of_ble_eq_true rfl) ?_
  show Ev (eZ G 21 15 0 0 (eFV F)) G 21 15 (1, 0, 0) kJ7_fill_53178 0 [(0, .ref (G.1 28)), (1, .int a1)] [] M 0 0
  refine r_iconst (v := 0) dJ7_fill_53178_0 rfl ?_
  refine r_istore_n (l' := [(2, .int 0), (0, .ref (G.1 28)), (1, .int a1)]) dJ7_fill_53178_1 rfl (by decide) rfl ?_
  refine r_aload_n 1 dJ7_fill_53178_2 rfl rfl ?_
  refine r_alen (c := 28) (v := 960) dJ7_fill_53178_3 iS28 sC28 rfl ?_
  refine r_istore_n (l' := [(3, .int 960), (2, .int 0), (0, .ref (G.1 28)), (1, .int a1)]) dJ7_fill_53178_4 rfl (by decide) rfl ?_
  exact Ev.sub (ks := [2, 3, 1, 0]) rfl h
set_option maxHeartbeats 4000000 in
set_option maxRecDepth 100000 in
theorem B_J7_fill_53178_30s_5 (G : eG) (M : eM) (F : eM → Prop) (x1 : Int32) (x2 : Int32) (x3 : Int32)
    (h : ((x3 ≤ x2) → F M) ∧ ((¬ x3 ≤ x2) → vp_in x2 294 ∧ (Ev (eZ G 21 15 0 0 (eFV F)) G 21 15 (1, 0, 0) kJ7_fill_53178 5 [(0, .ref (G.1 30)), (1, .int x1), (2, .int (x2 + 1)), (3, .int x3)] [] (eU M 30 x2.toNatClampNeg x1) 0 0))) :
    Ev (eZ G 21 15 0 0 (eFV F)) G 21 15 (1, 0, 0) kJ7_fill_53178 5 [(0, .ref (G.1 30)), (1, .int x1), (2, .int x2), (3, .int x3)] [] M 0 0 := by
  refine r_iload_n 2 dJ7_fill_53178_5 rfl rfl ?_
  refine r_iload_n 3 dJ7_fill_53178_6 rfl rfl ?_
  refine r_icmp_ge (t := 20) dJ7_fill_53178_7 (by decide) (fun q => ?_) (fun q => ?_)
  · replace h := h.1 q
    refine r_vretV dJ7_fill_53178_20 rfl (by decide) (by decide) h
  · replace h := h.2 q
    refine r_aload_n 0 dJ7_fill_53178_10 rfl rfl ?_
    refine r_iload_n 2 dJ7_fill_53178_11 rfl rfl ?_
    refine r_iload_n 1 dJ7_fill_53178_12 rfl rfl ?_
    have h1 := h.1
    replace h := h.2
    refine r_iast (c := 30) (N := 294) dJ7_fill_53178_13 iS30 sC30 h1 ?_
    refine r_iinc (v := x2 + 1) (l' := [(2, .int (x2 + 1)), (0, .ref (G.1 30)), (1, .int x1), (3, .int x3)]) 2 dJ7_fill_53178_14 rfl rfl (by decide) rfl ?_
    refine r_goto (t := 5) dJ7_fill_53178_17 (by decide) ?_
    exact Ev.sub (ks := [1, 2, 0, 3]) rfl h
set_option maxHeartbeats 4000000 in
set_option maxRecDepth 100000 in
theorem C_J7_fill_53178_30s (G : eG) (M : eM) (F : eM → Prop) (a1 : Int32)
    (h : Ev (eZ G 21 15 0 0 (eFV F)) G 21 15 (1, 0, 0) kJ7_fill_53178 5 [(0, .ref (G.1 30)), (1, .int a1), (2, .int 0), (3, .int 294)] [] M 0 0) :
    Cal G 21 15 (1, 0, 0) kJ7_fill_53178 [.ref (G.1 30), .int a1] M (eFV F) := by
  refine Cal.of (by decide +kernel) rfl (Nat.le_of_ble_eq_true rfl) ?_
  show Ev (eZ G 21 15 0 0 (eFV F)) G 21 15 (1, 0, 0) kJ7_fill_53178 0 [(0, .ref (G.1 30)), (1, .int a1)] [] M 0 0
  refine r_iconst (v := 0) dJ7_fill_53178_0 rfl ?_
  refine r_istore_n (l' := [(2, .int 0), (0, .ref (G.1 30)), (1, .int a1)]) dJ7_fill_53178_1 rfl (by decide) rfl ?_
  refine r_aload_n 1 dJ7_fill_53178_2 rfl rfl ?_
  refine r_alen (c := 30) (v := 294) dJ7_fill_53178_3 iS30 sC30 rfl ?_
  refine r_istore_n (l' := [(3, .int 294), (2, .int 0), (0, .ref (G.1 30)), (1, .int a1)]) dJ7_fill_53178_4 rfl (by decide) rfl ?_
  exact Ev.sub (ks := [2, 3, 1, 0]) rfl h
set_option maxHeartbeats 4000000 in
set_option maxRecDepth 100000 in
theorem B_J7_fill_53178_31s_5 (G : eG) (M : eM) (F : eM → Prop) (x1 : Int32) (x2 : Int32) (x3 : Int32)
    (h : ((x3 ≤ x2) → F M) ∧ ((¬ x3 ≤ x2) → vp_in x2 49 ∧ (Ev (eZ G 21 15 0 0 (eFV F)) G 21 15 (1, 0, 0) kJ7_fill_53178 5 [(0, .ref (G.1 31)), (1, .int x1), (2, .int (x2 + 1)), (3, .int x3)] [] (eU M 31 x2.toNatClampNeg x1) 0 0))) :
    Ev (eZ G 21 15 0 0 (eFV F)) G 21 15 (1, 0, 0) kJ7_fill_53178 5 [(0, .ref (G.1 31)), (1, .int x1), (2, .int x2), (3, .int x3)] [] M 0 0 := by
  refine r_iload_n 2 dJ7_fill_53178_5 rfl rfl ?_
  refine r_iload_n 3 dJ7_fill_53178_6 rfl rfl ?_
  refine r_icmp_ge (t := 20) dJ7_fill_53178_7 (by decide) (fun q => ?_) (fun q => ?_)
  · replace h := h.1 q
    refine r_vretV dJ7_fill_53178_20 rfl (by decide) (by decide) h
  · replace h := h.2 q
    refine r_aload_n 0 dJ7_fill_53178_10 rfl rfl ?_
    refine r_iload_n 2 dJ7_fill_53178_11 rfl rfl ?_
    refine r_iload_n 1 dJ7_fill_53178_12 rfl rfl ?_
    have h1 := h.1
    replace h := h.2
    refine r_iast (c := 31) (N := 49) dJ7_fill_53178_13 iS31 sC31 h1 ?_
    refine r_iinc (v := x2 + 1) (l' := [(2, .int (x2 + 1)), (0, .ref (G.1 31)), (1, .int x1), (3, .int x3)]) 2 dJ7_fill_53178_14 rfl rfl (by decide) rfl ?_
    refine r_goto (t := 5) dJ7_fill_53178_17 (by decide) ?_
    exact Ev.sub (ks := [1, 2, 0, 3]) rfl h
set_option maxHeartbeats 4000000 in
set_option maxRecDepth 100000 in
theorem C_J7_fill_53178_31s (G : eG) (M : eM) (F : eM → Prop) (a1 : Int32)
    (h : Ev (eZ G 21 15 0 0 (eFV F)) G 21 15 (1, 0, 0) kJ7_fill_53178 5 [(0, .ref (G.1 31)), (1, .int a1), (2, .int 0), (3, .int 49)] [] M 0 0) :
    Cal G 21 15 (1, 0, 0) kJ7_fill_53178 [.ref (G.1 31), .int a1] M (eFV F) := by
  refine Cal.of (by decide +kernel) rfl (Nat.le_of_ble_eq_true rfl) ?_
  show Ev (eZ G 21 15 0 0 (eFV F)) G 21 15 (1, 0, 0) kJ7_fill_53178 0 [(0, .ref (G.1 31)), (1, .int a1)] [] M 0 0
  refine r_iconst (v := 0) dJ7_fill_53178_0 rfl ?_
  refine r_istore_n (l' := [(2, .int 0), (0, .ref (G.1 31)), (1, .int a1)]) dJ7_fill_53178_1 rfl (by decide) rfl ?_
  refine r_aload_n 1 dJ7_fill_53178_2 rfl rfl ?_
  refine r_alen (c := 31) (v := 49) dJ7_fill_53178_3 iS31 sC31 rfl ?_
  refine r_istore_n (l' := [(3, .int 49), (2, .int 0), (0, .ref (G.1 31)), (1, .int a1)]) dJ7_fill_53178_4 rfl (by decide) rfl ?_
  exact Ev.sub (ks := [2, 3, 1, 0]) rfl h
set_option maxHeartbeats 4000000 in
set_option maxRecDepth 100000 in
theorem B_J7_fill_53178_35_5 (G : eG) (M : eM) (F : eM → Prop) (x1 : Int32) (x2 : Int32) (x3 : Int32)
    (h : ((x3 ≤ x2) → F M) ∧ ((¬ x3 ≤ x2) → vp_in x2 49 ∧ (Ev (eZ G 0 68 0 0 (eFV F)) G 0 68 (1, 0, 0) kJ7_fill_53178 5 [(0, .ref (G.1 35)), (1, .int x1), (2, .int (x2 + 1)), (3, .int x3)] [] (eU M 35 x2.toNatClampNeg x1) 0 0))) :
    Ev (eZ G 0 68 0 0 (eFV F)) G 0 68 (1, 0, 0) kJ7_fill_53178 5 [(0, .ref (G.1 35)), (1, .int x1), (2, .int x2), (3, .int x3)] [] M 0 0 := by
  refine r_iload_n 2 dJ7_fill_53178_5 rfl rfl ?_
  refine r_iload_n 3 dJ7_fill_53178_6 rfl rfl ?_
  refine r_icmp_ge (t := 20) dJ7_fill_53178_7 (by decide) (fun q => ?_) (fun q => ?_)
  · replace h := h.1 q
    refine r_vretV dJ7_fill_53178_20 rfl (by decide) (by decide) h
  · replace h := h.2 q
    refine r_aload_n 0 dJ7_fill_53178_10 rfl rfl ?_
    refine r_iload_n 2 dJ7_fill_53178_11 rfl rfl ?_
    refine r_iload_n 1 dJ7_fill_53178_12 rfl rfl ?_
    have h1 := h.1
    replace h := h.2
    refine r_iast (c := 35) (N := 49) dJ7_fill_53178_13 iF35 sC35 h1 ?_
    refine r_iinc (v := x2 + 1) (l' := [(2, .int (x2 + 1)), (0, .ref (G.1 35)), (1, .int x1), (3, .int x3)]) 2 dJ7_fill_53178_14 rfl rfl (by decide) rfl ?_
    refine r_goto (t := 5) dJ7_fill_53178_17 (by decide) ?_
    exact Ev.sub (ks := [1, 2, 0, 3]) rfl h
set_option maxHeartbeats 4000000 in
set_option maxRecDepth 100000 in
theorem C_J7_fill_53178_35 (G : eG) (M : eM) (F : eM → Prop) (a1 : Int32)
    (h : Ev (eZ G 0 68 0 0 (eFV F)) G 0 68 (1, 0, 0) kJ7_fill_53178 5 [(0, .ref (G.1 35)), (1, .int a1), (2, .int 0), (3, .int 49)] [] M 0 0) :
    Cal G 0 68 (1, 0, 0) kJ7_fill_53178 [.ref (G.1 35), .int a1] M (eFV F) := by
  refine Cal.of (by decide +kernel) rfl (Nat.le_of_ble_eq_true rfl) ?_
  show Ev (eZ G 0 68 0 0 (eFV F)) G 0 68 (1, 0, 0) kJ7_fill_53178 0 [(0, .ref (G.1 35)), (1, .int a1)] [] M 0 0
  refine r_iconst (v := 0) dJ7_fill_53178_0 rfl ?_
  refine r_istore_n (l' := [(2, .int 0), (0, .ref (G.1 35)), (1, .int a1)]) dJ7_fill_53178_1 rfl (by decide) rfl ?_
  refine r_aload_n 1 dJ7_fill_53178_2 rfl rfl ?_
  refine r_alen (c := 35) (v := 49) dJ7_fill_53178_3 iF35 sC35 rfl ?_
  refine r_istore_n (l' := [(3, .int 49), (2, .int 0), (0, .ref (G.1 35)), (1, .int a1)]) dJ7_fill_53178_4 rfl (by decide) rfl ?_
  exact Ev.sub (ks := [2, 3, 1, 0]) rfl h

