set_option maxHeartbeats 4000000 in
set_option maxRecDepth 100000 in
theorem B_X1_begin_s_123 (G : eG) (M : eM) (F : eM → Prop) (x2 : Int32)
    (h : (((M 23 3) ≤ x2) → F M) ∧ ((¬ (M 23 3) ≤ x2) → Cal G 21 15 (2, 0, 0) kX1_learnTile [.ref (G.1 23), .int x2, .ref (G.1 21)] M (eFV (fun (M1 : eM) => Ev (eZ G 21 15 0 0 (eFV F)) G 21 15 (3, 0, 0) kX1_begin 123 [(0, .ref (G.1 23)), (1, .ref (G.1 21)), (2, .int (x2 + 1))] [] M1 0 0)))) :
    Ev (eZ G 21 15 0 0 (eFV F)) G 21 15 (3, 0, 0) kX1_begin 123 [(0, .ref (G.1 23)), (1, .ref (G.1 21)), (2, .int x2)] [] M 0 0 := by
  refine r_iload_n 2 dX1_begin_123 rfl rfl ?_
  refine r_aload_n 0 dX1_begin_124 rfl rfl ?_
  refine r_getI (c := 23) (k := 3) dX1_begin_125 clX1 lFX1_72 (by decide) iS23 sC23 rfl ?_
  refine r_icmp_ge (t := 143) dX1_begin_128 (by decide) (fun q => ?_) (fun q => ?_)
  · replace h := h.1 q
    refine r_vretV dX1_begin_143 rfl (by decide) (by decide) h
  · replace h := h.2 q
    refine r_aload_n 0 dX1_begin_131 rfl rfl ?_
    refine r_iload_n 2 dX1_begin_132 rfl rfl ?_
    refine r_aload_n 1 dX1_begin_133 rfl rfl ?_
    refine r_callVV (b' := (2, 0, 0)) (c := 23) (S := []) [.int x2, .ref (G.1 21)] dX1_begin_134 mX1_learnTile lMX1_87 clX1 rfl iS23 sC23 rfl (by decide) (Nat.le_of_ble_eq_true rfl) h (fun M1 h => ?_) rfl
    refine r_iinc (v := x2 + 1) (l' := [(2, .int (x2 + 1)), (0, .ref (G.1 23)), (1, .ref (G.1 21))]) 2 dX1_begin_137 rfl rfl (by decide) rfl ?_
    refine r_goto (t := 123) dX1_begin_140 (by decide) ?_
    exact Ev.sub (ks := [1, 2, 0]) rfl h
set_option maxHeartbeats 4000000 in
set_option maxRecDepth 100000 in
theorem B_X1_begin_s_94 (G : eG) (M : eM) (F : eM → Prop) (x2 : Int32)
    (h : (((M 23 2) ≤ x2) → Cal G 21 15 (1, 0, 0) kJ7_fill_53178 [.ref (G.1 28), .int 0] M (eFV (fun (M1 : eM) => Ev (eZ G 21 15 0 0 (eFV F)) G 21 15 (3, 0, 0) kX1_begin 123 [(0, .ref (G.1 23)), (1, .ref (G.1 21)), (2, .int 0)] [] M1 0 0))) ∧ ((¬ (M 23 2) ≤ x2) → Cal G 21 15 (1, 0, 0) kX1_findCellsBeside [.ref (G.1 23), .int x2] M (eFV (fun (M2 : eM) => Ev (eZ G 21 15 0 0 (eFV F)) G 21 15 (3, 0, 0) kX1_begin 94 [(0, .ref (G.1 23)), (1, .ref (G.1 21)), (2, .int (x2 + 1))] [] M2 0 0)))) :
    Ev (eZ G 21 15 0 0 (eFV F)) G 21 15 (3, 0, 0) kX1_begin 94 [(0, .ref (G.1 23)), (1, .ref (G.1 21)), (2, .int x2)] [] M 0 0 := by
  refine r_iload_n 2 dX1_begin_94 rfl rfl ?_
  refine r_aload_n 0 dX1_begin_95 rfl rfl ?_
  refine r_getI (c := 23) (k := 2) dX1_begin_96 clX1 lFX1_65 (by decide) iS23 sC23 rfl ?_
  refine r_icmp_ge (t := 113) dX1_begin_99 (by decide) (fun q => ?_) (fun q => ?_)
  · replace h := h.1 q
    refine r_aload_n 0 dX1_begin_113 rfl rfl ?_
    refine r_getR (c := 23) (k := 9) 28 dX1_begin_114 clX1 lFX1_24 (by decide) iS23 sC23 rfl ?_
    refine r_iconst (v := 0) dX1_begin_117 rfl ?_
    refine r_callSV (b' := (1, 0, 0)) (S := []) [.ref (G.1 28), .int 0] dX1_begin_118 mJ7_fill_53178 lMX1_77 rfl (by decide) (Nat.le_of_ble_eq_true rfl) h (fun M1 h => ?_) rfl
    refine r_iconst (v := 0) dX1_begin_121 rfl ?_
    refine r_istore_n (l' := [(2, .int 0), (0, .ref (G.1 23)), (1, .ref (G.1 21))]) dX1_begin_122 rfl (by decide) rfl ?_
    exact Ev.sub (ks := [1, 2, 0]) rfl h
  · replace h := h.2 q
    refine r_aload_n 0 dX1_begin_102 rfl rfl ?_
    refine r_iload_n 2 dX1_begin_103 rfl rfl ?_
    refine r_callVV (b' := (1, 0, 0)) (c := 23) (S := []) [.int x2] dX1_begin_104 mX1_findCellsBeside lMX1_83 clX1 rfl iS23 sC23 rfl (by decide) (Nat.le_of_ble_eq_true rfl) h (fun M2 h => ?_) rfl
    refine r_iinc (v := x2 + 1) (l' := [(2, .int (x2 + 1)), (0, .ref (G.1 23)), (1, .ref (G.1 21))]) 2 dX1_begin_107 rfl rfl (by decide) rfl ?_
    refine r_goto (t := 94) dX1_begin_110 (by decide) ?_
    exact Ev.sub (ks := [1, 2, 0]) rfl h
set_option maxHeartbeats 4000000 in
set_option maxRecDepth 100000 in
theorem C_X1_begin_s (G : eG) (M : eM) (F : eM → Prop) 
    (h : Cal G 21 15 (1, 0, 0) kX7_tileCount [.ref (G.1 21)] (eU (eU (eU M 23 0 (M 21 0)) 23 1 ((eU M 23 0 (M 21 0)) 21 1)) 23 2 (if 49 < (((eU (eU M 23 0 (M 21 0)) 23 1 ((eU M 23 0 (M 21 0)) 21 1)) 23 0) * ((eU (eU M 23 0 (M 21 0)) 23 1 ((eU M 23 0 (M 21 0)) 21 1)) 23 1)) then 49 else (((eU (eU M 23 0 (M 21 0)) 23 1 ((eU M 23 0 (M 21 0)) 21 1)) 23 0) * ((eU (eU M 23 0 (M 21 0)) 23 1 ((eU M 23 0 (M 21 0)) 21 1)) 23 1)))) (eFI (fun (r1 : Int32) (M1 : eM) => Cal G 21 15 (1, 0, 0) kJ7_fill_53178 [.ref (G.1 24), .int (-1)] (eU (eU M1 23 3 (if 16 < r1 then 16 else r1)) 23 4 0) (eFV (fun (M2 : eM) => Cal G 21 15 (1, 0, 0) kJ7_fill_53178 [.ref (G.1 25), .int (-1)] M2 (eFV (fun (M3 : eM) => Cal G 21 15 (1, 0, 0) kJ7_fill_53178 [.ref (G.1 26), .int 0] M3 (eFV (fun (M4 : eM) => Cal G 21 15 (1, 0, 0) kJ7_fill_53178 [.ref (G.1 30), .int (-1)] M4 (eFV (fun (M5 : eM) => Cal G 21 15 (1, 0, 0) kJ7_fill_53178 [.ref (G.1 31), .int 0] M5 (eFV (fun (M6 : eM) => Ev (eZ G 21 15 0 0 (eFV F)) G 21 15 (3, 0, 0) kX1_begin 94 [(0, .ref (G.1 23)), (1, .ref (G.1 21)), (2, .int 0)] [] M6 0 0))))))))))))) :
    Cal G 21 15 (3, 0, 0) kX1_begin [.ref (G.1 23), .ref (G.1 21)] M (eFV F) := by
  refine Cal.of (by decide +kernel) rfl (Nat.le_of_ble_eq_true rfl) ?_
  show Ev (eZ G 21 15 0 0 (eFV F)) G 21 15 (3, 0, 0) kX1_begin 0 [(0, .ref (G.1 23)), (1, .ref (G.1 21))] [] M 0 0
  refine r_aload_n 0 dX1_begin_0 rfl rfl ?_
  refine r_aload_n 1 dX1_begin_1 rfl rfl ?_
  refine r_getI (c := 21) (k := 0) dX1_begin_2 clX7 lFX1_48 (by decide) iS21 sC21 rfl ?_
  refine r_putI (c := 23) (k := 0) dX1_begin_5 clX1 lFX1_54 (by decide) iS23 sC23 rfl rfl rfl ?_
  refine r_aload_n 0 dX1_begin_8 rfl rfl ?_
  refine r_aload_n 1 dX1_begin_9 rfl rfl ?_
  refine r_getI (c := 21) (k := 1) dX1_begin_10 clX7 lFX1_55 (by decide) iS21 sC21 rfl ?_
  refine r_putI (c := 23) (k := 1) dX1_begin_13 clX1 lFX1_58 (by decide) iS23 sC23 rfl rfl rfl ?_
  refine r_aload_n 0 dX1_begin_16 rfl rfl ?_
  refine r_aload_n 0 dX1_begin_17 rfl rfl ?_
  refine r_getI (c := 23) (k := 0) dX1_begin_18 clX1 lFX1_54 (by decide) iS23 sC23 rfl ?_
  refine r_aload_n 0 dX1_begin_21 rfl rfl ?_
  refine r_getI (c := 23) (k := 1) dX1_begin_22 clX1 lFX1_58 (by decide) iS23 sC23 rfl ?_
  refine r_imul dX1_begin_25 ?_
  refine r_bipush (v := 49) dX1_begin_26 rfl ?_
  refine r_mmin dX1_begin_28 lMX1_59 eMm_min1 eMm_i eMm_min2 (by decide) (Nat.le_of_ble_eq_true rfl) ⟨Nat.le_refl _, Nat.le_refl _⟩ ?_
  refine r_putI (c := 23) (k := 2) dX1_begin_31 clX1 lFX1_65 (by decide) iS23 sC23 rfl rfl rfl ?_
  refine r_aload_n 0 dX1_begin_34 rfl rfl ?_
  refine r_aload_n 1 dX1_begin_35 rfl rfl ?_
  refine r_callVI (b' := (1, 0, 0)) (c := 21) (S := [.ref (G.1 23)]) [] dX1_begin_36 mX7_tileCount lMX1_68 clX7 rfl iS21 sC21 rfl (by decide) (Nat.le_of_ble_eq_true rfl) h (fun r1 M1 h => ?_) rfl
  refine r_bipush (v := 16) dX1_begin_39 rfl ?_
  refine r_mmin dX1_begin_41 lMX1_59 eMm_min1 eMm_i eMm_min2 (by decide) (Nat.le_of_ble_eq_true rfl) ⟨Nat.le_refl _, Nat.le_refl _⟩ ?_
  refine r_putI (c := 23) (k := 3) dX1_begin_44 clX1 lFX1_72 (by decide) iS23 sC23 rfl rfl rfl ?_
  refine r_aload_n 0 dX1_begin_47 rfl rfl ?_
  refine r_iconst (v := 0) dX1_begin_48 rfl ?_
  refine r_putI (c := 23) (k := 4) dX1_begin_49 clX1 lFX1_74 (by decide) iS23 sC23 rfl rfl rfl ?_
  refine r_aload_n 0 dX1_begin_52 rfl rfl ?_
  refine r_getR (c := 23) (k := 5) 24 dX1_begin_53 clX1 lFX1_9 (by decide) iS23 sC23 rfl ?_
  refine r_iconst (v := (-1)) dX1_begin_56 rfl ?_
  refine r_callSV (b' := (1, 0, 0)) (S := []) [.ref (G.1 24), .int (-1)] dX1_begin_57 mJ7_fill_53178 lMX1_77 rfl (by decide) (Nat.le_of_ble_eq_true rfl) h (fun M2 h => ?_) rfl
  refine r_aload_n 0 dX1_begin_60 rfl rfl ?_
  refine r_getR (c := 23) (k := 6) 25 dX1_begin_61 clX1 lFX1_15 (by decide) iS23 sC23 rfl ?_
  refine r_iconst (v := (-1)) dX1_begin_64 rfl ?_
  refine r_callSV (b' := (1, 0, 0)) (S := []) [.ref (G.1 25), .int (-1)] dX1_begin_65 mJ7_fill_53178 lMX1_77 rfl (by decide) (Nat.le_of_ble_eq_true rfl) h (fun M3 h => ?_) rfl
  refine r_aload_n 0 dX1_begin_68 rfl rfl ?_
  refine r_getR (c := 23) (k := 7) 26 dX1_begin_69 clX1 lFX1_18 (by decide) iS23 sC23 rfl ?_
  refine r_iconst (v := 0) dX1_begin_72 rfl ?_
  refine r_callSV (b' := (1, 0, 0)) (S := []) [.ref (G.1 26), .int 0] dX1_begin_73 mJ7_fill_53178 lMX1_77 rfl (by decide) (Nat.le_of_ble_eq_true rfl) h (fun M4 h => ?_) rfl
  refine r_aload_n 0 dX1_begin_76 rfl rfl ?_
  refine r_getR (c := 23) (k := 11) 30 dX1_begin_77 clX1 lFX1_30 (by decide) iS23 sC23 rfl ?_
  refine r_iconst (v := (-1)) dX1_begin_80 rfl ?_
  refine r_callSV (b' := (1, 0, 0)) (S := []) [.ref (G.1 30), .int (-1)] dX1_begin_81 mJ7_fill_53178 lMX1_77 rfl (by decide) (Nat.le_of_ble_eq_true rfl) h (fun M5 h => ?_) rfl
  refine r_aload_n 0 dX1_begin_84 rfl rfl ?_
  refine r_getR (c := 23) (k := 12) 31 dX1_begin_85 clX1 lFX1_33 (by decide) iS23 sC23 rfl ?_
  refine r_iconst (v := 0) dX1_begin_88 rfl ?_
  refine r_callSV (b' := (1, 0, 0)) (S := []) [.ref (G.1 31), .int 0] dX1_begin_89 mJ7_fill_53178 lMX1_77 rfl (by decide) (Nat.le_of_ble_eq_true rfl) h (fun M6 h => ?_) rfl
  refine r_iconst (v := 0) dX1_begin_92 rfl ?_
  refine r_istore_n (l' := [(2, .int 0), (0, .ref (G.1 23)), (1, .ref (G.1 21))]) dX1_begin_93 rfl (by decide) rfl ?_
  exact Ev.sub (ks := [1, 2, 0]) rfl h
set_option maxHeartbeats 4000000 in
set_option maxRecDepth 100000 in
theorem B_X1_findCellsBeside_s_98 (G : eG) (M : eM) (F : eM → Prop) (x1 : Int32) (x2 : Int32) (x3 : Int32) (x4 : Int32) (x5 : Int32) (x6 : Int32)
    (h : (((0 : Int32) = 0) → vp_in ((x1 * 6) + x4) 294 ∧ (Ev (eZ G 21 15 0 0 (eFV F)) G 21 15 (1, 0, 0) kX1_findCellsBeside 39 [(0, .ref (G.1 23)), (1, .int x1), (2, .int x2), (3, .int x3), (4, .int (x4 + 1))] [] (eU M 29 ((x1 * 6) + x4).toNatClampNeg (-1)) 0 0)) ∧ ((¬ (0 : Int32) = 0) → vp_in ((x1 * 6) + x4) 294 ∧ (Ev (eZ G 21 15 0 0 (eFV F)) G 21 15 (1, 0, 0) kX1_findCellsBeside 39 [(0, .ref (G.1 23)), (1, .int x1), (2, .int x2), (3, .int x3), (4, .int (x4 + 1))] [] (eU M 29 ((x1 * 6) + x4).toNatClampNeg ((x6 * (M 23 0)) + x5)) 0 0))) :
    Ev (eZ G 21 15 0 0 (eFV F)) G 21 15 (1, 0, 0) kX1_findCellsBeside 98 [(0, .ref (G.1 23)), (1, .int x1), (2, .int x2), (3, .int x3), (4, .int x4), (5, .int x5), (6, .int x6)] [] M 0 0 := by
  refine r_iconst (v := 0) dX1_findCellsBeside_98 rfl ?_
  refine r_istore (l' := [(7, .int 0), (0, .ref (G.1 23)), (1, .int x1), (2, .int x2), (3, .int x3), (4, .int x4), (5, .int x5), (6, .int x6)]) dX1_findCellsBeside_99 (by decide) rfl ?_
  refine r_aload_n 1 dX1_findCellsBeside_101 rfl rfl ?_
  refine r_getR (c := 23) (k := 10) 29 dX1_findCellsBeside_102 clX1 lFX1_27 (by decide) iS23 sC23 rfl ?_
  refine r_iload_n 2 dX1_findCellsBeside_105 rfl rfl ?_
  refine r_bipush (v := 6) dX1_findCellsBeside_106 rfl ?_
  refine r_imul dX1_findCellsBeside_108 ?_
  refine r_iload 5 dX1_findCellsBeside_109 rfl ?_
  refine r_iadd dX1_findCellsBeside_111 ?_
  refine r_iload 0 dX1_findCellsBeside_112 rfl ?_
  refine r_if_eq (t := 130) dX1_findCellsBeside_114 (by decide) (fun q => ?_) (fun q => ?_)
  · replace h := h.1 q
    refine r_iconst (v := (-1)) dX1_findCellsBeside_130 rfl ?_
    have h1 := h.1
    replace h := h.2
    refine r_iast (c := 29) (N := 294) dX1_findCellsBeside_131 iS29 sC29 h1 ?_
    refine r_iinc (v := x4 + 1) (l' := [(4, .int (x4 + 1)), (7, .int 0), (0, .ref (G.1 23)), (1, .int x1), (2, .int x2), (3, .int x3), (5, .int x5), (6, .int x6)]) 5 dX1_findCellsBeside_132 rfl rfl (by decide) rfl ?_
    refine r_goto (t := 39) dX1_findCellsBeside_135 (by decide) ?_
    exact Ev.sub (ks := [2, 3, 4, 5, 0]) rfl h
  · replace h := h.2 q
    refine r_iload 7 dX1_findCellsBeside_117 rfl ?_
    refine r_aload_n 1 dX1_findCellsBeside_119 rfl rfl ?_
    refine r_getI (c := 23) (k := 0) dX1_findCellsBeside_120 clX1 lFX1_54 (by decide) iS23 sC23 rfl ?_
    refine r_imul dX1_findCellsBeside_123 ?_
    refine r_iload 6 dX1_findCellsBeside_124 rfl ?_
    refine r_iadd dX1_findCellsBeside_126 ?_
    refine r_goto (t := 131) dX1_findCellsBeside_127 (by decide) ?_
    have h1 := h.1
    replace h := h.2
    refine r_iast (c := 29) (N := 294) dX1_findCellsBeside_131 iS29 sC29 h1 ?_
    refine r_iinc (v := x4 + 1) (l' := [(4, .int (x4 + 1)), (7, .int 0), (0, .ref (G.1 23)), (1, .int x1), (2, .int x2), (3, .int x3), (5, .int x5), (6, .int x6)]) 5 dX1_findCellsBeside_132 rfl rfl (by decide) rfl ?_
    refine r_goto (t := 39) dX1_findCellsBeside_135 (by decide) ?_
    exact Ev.sub (ks := [2, 3, 4, 5, 0]) rfl h
set_option maxHeartbeats 4000000 in
set_option maxRecDepth 100000 in
theorem B_X1_findCellsBeside_s_39 (G : eG) (M : eM) (F : eM → Prop) (x1 : Int32) (x2 : Int32) (x3 : Int32) (x4 : Int32)
    (h : ((6 ≤ x4) → F M) ∧ ((¬ 6 ≤ x4) → vp_in x4 6 ∧ (vp_in x4 6 ∧ ((((x2 + (eCol x4.toNatClampNeg)) < 0) → Ev (eZ G 21 15 0 0 (eFV F)) G 21 15 (1, 0, 0) kX1_findCellsBeside 98 [(0, .ref (G.1 23)), (1, .int x1), (2, .int x2), (3, .int x3), (4, .int x4), (5, .int (x2 + (eCol x4.toNatClampNeg))), (6, .int (x3 + (eRow x4.toNatClampNeg)))] [] M 0 0) ∧ ((¬ (x2 + (eCol x4.toNatClampNeg)) < 0) → (((M 23 0) ≤ (x2 + (eCol x4.toNatClampNeg))) → Ev (eZ G 21 15 0 0 (eFV F)) G 21 15 (1, 0, 0) kX1_findCellsBeside 98 [(0, .ref (G.1 23)), (1, .int x1), (2, .int x2), (3, .int x3), (4, .int x4), (5, .int (x2 + (eCol x4.toNatClampNeg))), (6, .int (x3 + (eRow x4.toNatClampNeg)))] [] M 0 0) ∧ ((¬ (M 23 0) ≤ (x2 + (eCol x4.toNatClampNeg))) → (((x3 + (eRow x4.toNatClampNeg)) < 0) → Ev (eZ G 21 15 0 0 (eFV F)) G 21 15 (1, 0, 0) kX1_findCellsBeside 98 [(0, .ref (G.1 23)), (1, .int x1), (2, .int x2), (3, .int x3), (4, .int x4), (5, .int (x2 + (eCol x4.toNatClampNeg))), (6, .int (x3 + (eRow x4.toNatClampNeg)))] [] M 0 0) ∧ ((¬ (x3 + (eRow x4.toNatClampNeg)) < 0) → (((M 23 1) ≤ (x3 + (eRow x4.toNatClampNeg))) → Ev (eZ G 21 15 0 0 (eFV F)) G 21 15 (1, 0, 0) kX1_findCellsBeside 98 [(0, .ref (G.1 23)), (1, .int x1), (2, .int x2), (3, .int x3), (4, .int x4), (5, .int (x2 + (eCol x4.toNatClampNeg))), (6, .int (x3 + (eRow x4.toNatClampNeg)))] [] M 0 0) ∧ ((¬ (M 23 1) ≤ (x3 + (eRow x4.toNatClampNeg))) → (((1 : Int32) = 0) → vp_in ((x1 * 6) + x4) 294 ∧ (Ev (eZ G 21 15 0 0 (eFV F)) G 21 15 (1, 0, 0) kX1_findCellsBeside 39 [(0, .ref (G.1 23)), (1, .int x1), (2, .int x2), (3, .int x3), (4, .int (x4 + 1))] [] (eU M 29 ((x1 * 6) + x4).toNatClampNeg (-1)) 0 0)) ∧ ((¬ (1 : Int32) = 0) → vp_in ((x1 * 6) + x4) 294 ∧ (Ev (eZ G 21 15 0 0 (eFV F)) G 21 15 (1, 0, 0) kX1_findCellsBeside 39 [(0, .ref (G.1 23)), (1, .int x1), (2, .int x2), (3, .int x3), (4, .int (x4 + 1))] [] (eU M 29 ((x1 * 6) + x4).toNatClampNeg (((x3 + (eRow x4.toNatClampNeg)) * (M 23 0)) + (x2 + (eCol x4.toNatClampNeg)))) 0 0)))))))))) :
    Ev (eZ G 21 15 0 0 (eFV F)) G 21 15 (1, 0, 0) kX1_findCellsBeside 39 [(0, .ref (G.1 23)), (1, .int x1), (2, .int x2), (3, .int x3), (4, .int x4)] [] M 0 0 := by
  refine r_iload 4 dX1_findCellsBeside_39 rfl ?_
  refine r_bipush (v := 6) dX1_findCellsBeside_41 rfl ?_
  refine r_icmp_ge (t := 138) dX1_findCellsBeside_43 (by decide) (fun q => ?_) (fun q => ?_)
  · replace h := h.1 q
    refine r_vretV dX1_findCellsBeside_138 rfl (by decide) (by decide) h
  · replace h := h.2 q
    refine r_iload_n 2 dX1_findCellsBeside_46 rfl rfl ?_
    refine r_gets (w := .ref (G.1 1301)) dX1_findCellsBeside_47 lFX1_91 (fun h => h.2.2.2.2.2.1.1) ?_
    refine r_iload 4 dX1_findCellsBeside_50 rfl ?_
    have h1 := h.1
    replace h := h.2
    refine r_tald (tc := 1301) (f := eCol) dX1_findCellsBeside_52 (fun h => h.2.2.2.2.2.1) h1 ?_
    refine r_iadd dX1_findCellsBeside_53 ?_
    refine r_istore (l' := [(5, .int (x2 + (eCol x4.toNatClampNeg))), (0, .ref (G.1 23)), (1, .int x1), (2, .int x2), (3, .int x3), (4, .int x4)]) dX1_findCellsBeside_54 (by decide) rfl ?_
    refine r_iload_n 4 dX1_findCellsBeside_56 rfl rfl ?_
    refine r_gets (w := .ref (G.1 1302)) dX1_findCellsBeside_57 lFX1_94 (fun h => h.2.2.2.2.2.2.1.1) ?_
    refine r_iload 5 dX1_findCellsBeside_60 rfl ?_
    have h1 := h.1
    replace h := h.2
    refine r_tald (tc := 1302) (f := eRow) dX1_findCellsBeside_62 (fun h => h.2.2.2.2.2.2.1) h1 ?_
    refine r_iadd dX1_findCellsBeside_63 ?_
    refine r_istore (l' := [(6, .int (x3 + (eRow x4.toNatClampNeg))), (5, .int (x2 + (eCol x4.toNatClampNeg))), (0, .ref (G.1 23)), (1, .int x1), (2, .int x2), (3, .int x3), (4, .int x4)]) dX1_findCellsBeside_64 (by decide) rfl ?_
    refine r_iload 1 dX1_findCellsBeside_66 rfl ?_
    refine r_if_lt (t := 98) dX1_findCellsBeside_68 (by decide) (fun q => ?_) (fun q => ?_)
    · replace h := h.1 q
      exact Ev.sub (ks := [2, 3, 4, 5, 6, 1, 0]) rfl h
    · replace h := h.2 q
      refine r_iload 1 dX1_findCellsBeside_71 rfl ?_
      refine r_aload_n 2 dX1_findCellsBeside_73 rfl rfl ?_
      refine r_getI (c := 23) (k := 0) dX1_findCellsBeside_74 clX1 lFX1_54 (by decide) iS23 sC23 rfl ?_
      refine r_icmp_ge (t := 98) dX1_findCellsBeside_77 (by decide) (fun q => ?_) (fun q => ?_)
      · replace h := h.1 q
        exact Ev.sub (ks := [2, 3, 4, 5, 6, 1, 0]) rfl h
      · replace h := h.2 q
        refine r_iload 0 dX1_findCellsBeside_80 rfl ?_
        refine r_if_lt (t := 98) dX1_findCellsBeside_82 (by decide) (fun q => ?_) (fun q => ?_)
        · replace h := h.1 q
          exact Ev.sub (ks := [2, 3, 4, 5, 6, 1, 0]) rfl h
        · replace h := h.2 q
          refine r_iload 0 dX1_findCellsBeside_85 rfl ?_
          refine r_aload_n 2 dX1_findCellsBeside_87 rfl rfl ?_
          refine r_getI (c := 23) (k := 1) dX1_findCellsBeside_88 clX1 lFX1_58 (by decide) iS23 sC23 rfl ?_
          refine r_icmp_ge (t := 98) dX1_findCellsBeside_91 (by decide) (fun q => ?_) (fun q => ?_)
          · replace h := h.1 q
            exact Ev.sub (ks := [2, 3, 4, 5, 6, 1, 0]) rfl h
          · replace h := h.2 q
            refine r_iconst (v := 1) dX1_findCellsBeside_94 rfl ?_
            refine r_goto (t := 99) dX1_findCellsBeside_95 (by decide) ?_
            refine r_istore (l' := [(7, .int 1), (6, .int (x3 + (eRow x4.toNatClampNeg))), (5, .int (x2 + (eCol x4.toNatClampNeg))), (0, .ref (G.1 23)), (1, .int x1), (2, .int x2), (3, .int x3), (4, .int x4)]) dX1_findCellsBeside_99 (by decide) rfl ?_
            refine r_aload_n 3 dX1_findCellsBeside_101 rfl rfl ?_
            refine r_getR (c := 23) (k := 10) 29 dX1_findCellsBeside_102 clX1 lFX1_27 (by decide) iS23 sC23 rfl ?_
            refine r_iload_n 4 dX1_findCellsBeside_105 rfl rfl ?_
            refine r_bipush (v := 6) dX1_findCellsBeside_106 rfl ?_
            refine r_imul dX1_findCellsBeside_108 ?_
            refine r_iload 7 dX1_findCellsBeside_109 rfl ?_
            refine r_iadd dX1_findCellsBeside_111 ?_
            refine r_iload 0 dX1_findCellsBeside_112 rfl ?_
            refine r_if_eq (t := 130) dX1_findCellsBeside_114 (by decide) (fun q => ?_) (fun q => ?_)
            · replace h := h.1 q
              refine r_iconst (v := (-1)) dX1_findCellsBeside_130 rfl ?_
              have h1 := h.1
              replace h := h.2
              refine r_iast (c := 29) (N := 294) dX1_findCellsBeside_131 iS29 sC29 h1 ?_
              refine r_iinc (v := x4 + 1) (l' := [(4, .int (x4 + 1)), (7, .int 1), (6, .int (x3 + (eRow x4.toNatClampNeg))), (5, .int (x2 + (eCol x4.toNatClampNeg))), (0, .ref (G.1 23)), (1, .int x1), (2, .int x2), (3, .int x3)]) 7 dX1_findCellsBeside_132 rfl rfl (by decide) rfl ?_
              refine r_goto (t := 39) dX1_findCellsBeside_135 (by decide) ?_
              exact Ev.sub (ks := [4, 5, 6, 7, 0]) rfl h
            · replace h := h.2 q
              refine r_iload 1 dX1_findCellsBeside_117 rfl ?_
              refine r_aload_n 3 dX1_findCellsBeside_119 rfl rfl ?_
              refine r_getI (c := 23) (k := 0) dX1_findCellsBeside_120 clX1 lFX1_54 (by decide) iS23 sC23 rfl ?_
              refine r_imul dX1_findCellsBeside_123 ?_
              refine r_iload 2 dX1_findCellsBeside_124 rfl ?_
              refine r_iadd dX1_findCellsBeside_126 ?_
              refine r_goto (t := 131) dX1_findCellsBeside_127 (by decide) ?_
              have h1 := h.1
              replace h := h.2
              refine r_iast (c := 29) (N := 294) dX1_findCellsBeside_131 iS29 sC29 h1 ?_
              refine r_iinc (v := x4 + 1) (l' := [(4, .int (x4 + 1)), (7, .int 1), (6, .int (x3 + (eRow x4.toNatClampNeg))), (5, .int (x2 + (eCol x4.toNatClampNeg))), (0, .ref (G.1 23)), (1, .int x1), (2, .int x2), (3, .int x3)]) 7 dX1_findCellsBeside_132 rfl rfl (by decide) rfl ?_
              refine r_goto (t := 39) dX1_findCellsBeside_135 (by decide) ?_
              exact Ev.sub (ks := [4, 5, 6, 7, 0]) rfl h
set_option maxHeartbeats 4000000 in
set_option maxRecDepth 100000 in
theorem C_X1_findCellsBeside_s (G : eG) (M : eM) (F : eM → Prop) (a1 : Int32)
    (h : (((M 23 0) ≤ 0) → (((M 23 0) ≤ 0) → Ev (eZ G 21 15 0 0 (eFV F)) G 21 15 (1, 0, 0) kX1_findCellsBeside 39 [(0, .ref (G.1 23)), (1, .int a1), (2, .int 0), (3, .int 0), (4, .int 0)] [] M 0 0) ∧ ((¬ (M 23 0) ≤ 0) → (¬ M 23 0 = 0) ∧ (Ev (eZ G 21 15 0 0 (eFV F)) G 21 15 (1, 0, 0) kX1_findCellsBeside 39 [(0, .ref (G.1 23)), (1, .int a1), (2, .int 0), (3, .int (a1 / (M 23 0))), (4, .int 0)] [] M 0 0))) ∧ ((¬ (M 23 0) ≤ 0) → (¬ M 23 0 = 0) ∧ ((((M 23 0) ≤ 0) → Ev (eZ G 21 15 0 0 (eFV F)) G 21 15 (1, 0, 0) kX1_findCellsBeside 39 [(0, .ref (G.1 23)), (1, .int a1), (2, .int (a1 - a1 / (M 23 0) * (M 23 0))), (3, .int 0), (4, .int 0)] [] M 0 0) ∧ ((¬ (M 23 0) ≤ 0) → (¬ M 23 0 = 0) ∧ (Ev (eZ G 21 15 0 0 (eFV F)) G 21 15 (1, 0, 0) kX1_findCellsBeside 39 [(0, .ref (G.1 23)), (1, .int a1), (2, .int (a1 - a1 / (M 23 0) * (M 23 0))), (3, .int (a1 / (M 23 0))), (4, .int 0)] [] M 0 0))))) :
    Cal G 21 15 (1, 0, 0) kX1_findCellsBeside [.ref (G.1 23), .int a1] M (eFV F) := by
  refine Cal.of (by decide +kernel) rfl (Nat.le_of_ble_eq_true rfl) ?_
  show Ev (eZ G 21 15 0 0 (eFV F)) G 21 15 (1, 0, 0) kX1_findCellsBeside 0 [(0, .ref (G.1 23)), (1, .int a1)] [] M 0 0
  refine r_aload_n 0 dX1_findCellsBeside_0 rfl rfl ?_
  refine r_getI (c := 23) (k := 0) dX1_findCellsBeside_1 clX1 lFX1_54 (by decide) iS23 sC23 rfl ?_
  refine r_if_le (t := 16) dX1_findCellsBeside_4 (by decide) (fun q => ?_) (fun q => ?_)
  · replace h := h.1 q
    refine r_iconst (v := 0) dX1_findCellsBeside_16 rfl ?_
    refine r_istore_n (l' := [(2, .int 0), (0, .ref (G.1 23)), (1, .int a1)]) dX1_findCellsBeside_17 rfl (by decide) rfl ?_
    refine r_aload_n 1 dX1_findCellsBeside_18 rfl rfl ?_
    refine r_getI (c := 23) (k := 0) dX1_findCellsBeside_19 clX1 lFX1_54 (by decide) iS23 sC23 rfl ?_
    refine r_if_le (t := 34) dX1_findCellsBeside_22 (by decide) (fun q => ?_) (fun q => ?_)
    · replace h := h.1 q
      refine r_iconst (v := 0) dX1_findCellsBeside_34 rfl ?_
      refine r_istore_n (l' := [(3, .int 0), (2, .int 0), (0, .ref (G.1 23)), (1, .int a1)]) dX1_findCellsBeside_35 rfl (by decide) rfl ?_
      refine r_iconst (v := 0) dX1_findCellsBeside_36 rfl ?_
      refine r_istore (l' := [(4, .int 0), (3, .int 0), (2, .int 0), (0, .ref (G.1 23)), (1, .int a1)]) dX1_findCellsBeside_37 (by decide) rfl ?_
      exact Ev.sub (ks := [3, 4, 2, 1, 0]) rfl h
    · replace h := h.2 q
      refine r_iload_n 2 dX1_findCellsBeside_25 rfl rfl ?_
      refine r_aload_n 1 dX1_findCellsBeside_26 rfl rfl ?_
      refine r_getI (c := 23) (k := 0) dX1_findCellsBeside_27 clX1 lFX1_54 (by decide) iS23 sC23 rfl ?_
      have h1 := h.1
      replace h := h.2
      refine r_idiv dX1_findCellsBeside_30 h1 ?_
      refine r_goto (t := 35) dX1_findCellsBeside_31 (by decide) ?_
      refine r_istore_n (l' := [(3, .int (a1 / (M 23 0))), (2, .int 0), (0, .ref (G.1 23)), (1, .int a1)]) dX1_findCellsBeside_35 rfl (by decide) rfl ?_
      refine r_iconst (v := 0) dX1_findCellsBeside_36 rfl ?_
      refine r_istore (l' := [(4, .int 0), (3, .int (a1 / (M 23 0))), (2, .int 0), (0, .ref (G.1 23)), (1, .int a1)]) dX1_findCellsBeside_37 (by decide) rfl ?_
      exact Ev.sub (ks := [3, 4, 2, 1, 0]) rfl h
  · replace h := h.2 q
    refine r_iload_n 1 dX1_findCellsBeside_7 rfl rfl ?_
    refine r_aload_n 0 dX1_findCellsBeside_8 rfl rfl ?_
    refine r_getI (c := 23) (k := 0) dX1_findCellsBeside_9 clX1 lFX1_54 (by decide) iS23 sC23 rfl ?_
    have h1 := h.1
    replace h := h.2
    refine r_irem dX1_findCellsBeside_12 h1 ?_
    refine r_goto (t := 17) dX1_findCellsBeside_13 (by decide) ?_
    refine r_istore_n (l' := [(2, .int (a1 - a1 / (M 23 0) * (M 23 0))), (0, .ref (G.1 23)), (1, .int a1)]) dX1_findCellsBeside_17 rfl (by decide) rfl ?_
    refine r_aload_n 1 dX1_findCellsBeside_18 rfl rfl ?_
    refine r_getI (c := 23) (k := 0) dX1_findCellsBeside_19 clX1 lFX1_54 (by decide) iS23 sC23 rfl ?_
    refine r_if_le (t := 34) dX1_findCellsBeside_22 (by decide) (fun q => ?_) (fun q => ?_)
    · replace h := h.1 q
      refine r_iconst (v := 0) dX1_findCellsBeside_34 rfl ?_
      refine r_istore_n (l' := [(3, .int 0), (2, .int (a1 - a1 / (M 23 0) * (M 23 0))), (0, .ref (G.1 23)), (1, .int a1)]) dX1_findCellsBeside_35 rfl (by decide) rfl ?_
      refine r_iconst (v := 0) dX1_findCellsBeside_36 rfl ?_
      refine r_istore (l' := [(4, .int 0), (3, .int 0), (2, .int (a1 - a1 / (M 23 0) * (M 23 0))), (0, .ref (G.1 23)), (1, .int a1)]) dX1_findCellsBeside_37 (by decide) rfl ?_
      exact Ev.sub (ks := [3, 4, 2, 1, 0]) rfl h
    · replace h := h.2 q
      refine r_iload_n 2 dX1_findCellsBeside_25 rfl rfl ?_
      refine r_aload_n 1 dX1_findCellsBeside_26 rfl rfl ?_
      refine r_getI (c := 23) (k := 0) dX1_findCellsBeside_27 clX1 lFX1_54 (by decide) iS23 sC23 rfl ?_
      have h1 := h.1
      replace h := h.2
      refine r_idiv dX1_findCellsBeside_30 h1 ?_
      refine r_goto (t := 35) dX1_findCellsBeside_31 (by decide) ?_
      refine r_istore_n (l' := [(3, .int (a1 / (M 23 0))), (2, .int (a1 - a1 / (M 23 0) * (M 23 0))), (0, .ref (G.1 23)), (1, .int a1)]) dX1_findCellsBeside_35 rfl (by decide) rfl ?_
      refine r_iconst (v := 0) dX1_findCellsBeside_36 rfl ?_
      refine r_istore (l' := [(4, .int 0), (3, .int (a1 / (M 23 0))), (2, .int (a1 - a1 / (M 23 0) * (M 23 0))), (0, .ref (G.1 23)), (1, .int a1)]) dX1_findCellsBeside_37 (by decide) rfl ?_
      exact Ev.sub (ks := [3, 4, 2, 1, 0]) rfl h
set_option maxHeartbeats 4000000 in
set_option maxRecDepth 100000 in
theorem B_X1_learnTile_s_96 (G : eG) (M : eM) (F : eM → Prop) (x1 : Int32) (x3 : Int32) (x4 : Int32)
    (h : Ev (eZ G 21 15 0 0 (eFV F)) G 21 15 (2, 0, 0) kX1_learnTile 43 [(0, .ref (G.1 23)), (1, .int x1), (3, .int x3), (4, .int (x4 + 1))] [] M 0 0) :
    Ev (eZ G 21 15 0 0 (eFV F)) G 21 15 (2, 0, 0) kX1_learnTile 96 [(0, .ref (G.1 23)), (1, .int x1), (3, .int x3), (4, .int x4)] [] M 0 0 := by
  refine r_iinc (v := x4 + 1) (l' := [(4, .int (x4 + 1)), (0, .ref (G.1 23)), (1, .int x1), (3, .int x3)]) 3 dX1_learnTile_96 rfl rfl (by decide) rfl ?_
  refine r_goto (t := 43) dX1_learnTile_99 (by decide) ?_
  exact Ev.sub (ks := [1, 2, 3, 0]) rfl h
set_option maxHeartbeats 4000000 in
set_option maxRecDepth 100000 in
theorem B_X1_learnTile_s_43 (G : eG) (M : eM) (F : eM → Prop) (x1 : Int32) (x3 : Int32) (x4 : Int32)
    (h : ((6 ≤ x4) → Ev (eZ G 21 15 0 0 (eFV F)) G 21 15 (2, 0, 0) kX1_learnTile 34 [(0, .ref (G.1 23)), (1, .int x1), (3, .int (x3 + 1))] [] M 0 0) ∧ ((¬ 6 ≤ x4) → Cal G 21 15 (1, 0, 0) kX1_numberOf [.ref (G.1 23), .int x1, .int x3, .int x4] M (eFI (fun (r1 : Int32) (M1 : eM) => ((r1 < 0) → Ev (eZ G 21 15 0 0 (eFV F)) G 21 15 (2, 0, 0) kX1_learnTile 96 [(0, .ref (G.1 23)), (1, .int x1), (3, .int x3), (4, .int x4)] [] M1 0 0) ∧ ((¬ r1 < 0) → ((10 ≤ r1) → Ev (eZ G 21 15 0 0 (eFV F)) G 21 15 (2, 0, 0) kX1_learnTile 96 [(0, .ref (G.1 23)), (1, .int x1), (3, .int x3), (4, .int x4)] [] M1 0 0) ∧ ((¬ 10 ≤ r1) → vp_in ((((x1 * 6) + x3) * 10) + r1) 960 ∧ (vp_in ((((x1 * 6) + x3) * 10) + r1) 960 ∧ (Ev (eZ G 21 15 0 0 (eFV F)) G 21 15 (2, 0, 0) kX1_learnTile 96 [(0, .ref (G.1 23)), (1, .int x1), (3, .int x3), (4, .int x4)] [] (eU M1 28 ((((x1 * 6) + x3) * 10) + r1).toNatClampNeg ((M1 28 ((((x1 * 6) + x3) * 10) + r1).toNatClampNeg) ||| (1 <<< (x4 &&& 31)))) 0 0)))))))) :
    Ev (eZ G 21 15 0 0 (eFV F)) G 21 15 (2, 0, 0) kX1_learnTile 43 [(0, .ref (G.1 23)), (1, .int x1), (3, .int x3), (4, .int x4)] [] M 0 0 := by
  refine r_iload 3 dX1_learnTile_43 rfl ?_
  refine r_bipush (v := 6) dX1_learnTile_45 rfl ?_
  refine r_icmp_ge (t := 102) dX1_learnTile_47 (by decide) (fun q => ?_) (fun q => ?_)
  · replace h := h.1 q
    refine r_iinc (v := x3 + 1) (l' := [(3, .int (x3 + 1)), (0, .ref (G.1 23)), (1, .int x1), (4, .int x4)]) 2 dX1_learnTile_102 rfl rfl (by decide) rfl ?_
    refine r_goto (t := 34) dX1_learnTile_105 (by decide) ?_
    exact Ev.sub (ks := [1, 2, 0]) rfl h
  · replace h := h.2 q
    refine r_aload_n 0 dX1_learnTile_50 rfl rfl ?_
    refine r_iload_n 1 dX1_learnTile_51 rfl rfl ?_
    refine r_iload_n 2 dX1_learnTile_52 rfl rfl ?_
    refine r_iload 3 dX1_learnTile_53 rfl ?_
    refine r_callVI (b' := (1, 0, 0)) (c := 23) (S := []) [.int x1, .int x3, .int x4] dX1_learnTile_55 mX1_numberOf lMX1_101 clX1 rfl iS23 sC23 rfl (by decide) (Nat.le_of_ble_eq_true rfl) h (fun r1 M1 h => ?_) rfl
    refine r_istore (l' := [(5, .int r1), (0, .ref (G.1 23)), (1, .int x1), (3, .int x3), (4, .int x4)]) dX1_learnTile_58 (by decide) rfl ?_
    refine r_iload 0 dX1_learnTile_60 rfl ?_
    refine r_if_lt (t := 96) dX1_learnTile_62 (by decide) (fun q => ?_) (fun q => ?_)
    · replace h := h.1 q
      exact Ev.sub (ks := [1, 2, 3, 4]) rfl h
    · replace h := h.2 q
      refine r_iload 0 dX1_learnTile_65 rfl ?_
      refine r_bipush (v := 10) dX1_learnTile_67 rfl ?_
      refine r_icmp_ge (t := 96) dX1_learnTile_69 (by decide) (fun q => ?_) (fun q => ?_)
      · replace h := h.1 q
        exact Ev.sub (ks := [1, 2, 3, 4]) rfl h
      · replace h := h.2 q
        refine r_aload_n 1 dX1_learnTile_72 rfl rfl ?_
        refine r_getR (c := 23) (k := 9) 28 dX1_learnTile_73 clX1 lFX1_24 (by decide) iS23 sC23 rfl ?_
        refine r_iload_n 2 dX1_learnTile_76 rfl rfl ?_
        refine r_bipush (v := 6) dX1_learnTile_77 rfl ?_
        refine r_imul dX1_learnTile_79 ?_
        refine r_iload_n 3 dX1_learnTile_80 rfl rfl ?_
        refine r_iadd dX1_learnTile_81 ?_
        refine r_bipush (v := 10) dX1_learnTile_82 rfl ?_
        refine r_imul dX1_learnTile_84 ?_
        refine r_iload 0 dX1_learnTile_85 rfl ?_
        refine r_iadd dX1_learnTile_87 ?_
        refine r_dup2 dX1_learnTile_88 rfl rfl ?_
        have h1 := h.1
        replace h := h.2
        refine r_iald (c := 28) (N := 960) dX1_learnTile_89 iS28 sC28 h1 ?_
        refine r_iconst (v := 1) dX1_learnTile_90 rfl ?_
        refine r_iload 4 dX1_learnTile_91 rfl ?_
        refine r_ishl dX1_learnTile_93 ?_
        refine r_ior dX1_learnTile_94 ?_
        have h1 := h.1
        replace h := h.2
        refine r_iast (c := 28) (N := 960) dX1_learnTile_95 iS28 sC28 h1 ?_
        exact Ev.sub (ks := [1, 2, 3, 4]) rfl h
set_option maxHeartbeats 4000000 in
set_option maxRecDepth 100000 in
theorem B_X1_learnTile_s_34 (G : eG) (M : eM) (F : eM → Prop) (x1 : Int32) (x3 : Int32)
    (h : ((6 ≤ x3) → F M) ∧ ((¬ 6 ≤ x3) → Ev (eZ G 21 15 0 0 (eFV F)) G 21 15 (2, 0, 0) kX1_learnTile 43 [(0, .ref (G.1 23)), (1, .int x1), (3, .int x3), (4, .int 0)] [] M 0 0)) :
    Ev (eZ G 21 15 0 0 (eFV F)) G 21 15 (2, 0, 0) kX1_learnTile 34 [(0, .ref (G.1 23)), (1, .int x1), (3, .int x3)] [] M 0 0 := by
  refine r_iload_n 2 dX1_learnTile_34 rfl rfl ?_
  refine r_bipush (v := 6) dX1_learnTile_35 rfl ?_
  refine r_icmp_ge (t := 108) dX1_learnTile_37 (by decide) (fun q => ?_) (fun q => ?_)
  · replace h := h.1 q
    refine r_vretV dX1_learnTile_108 rfl (by decide) (by decide) h
  · replace h := h.2 q
    refine r_iconst (v := 0) dX1_learnTile_40 rfl ?_
    refine r_istore (l' := [(4, .int 0), (0, .ref (G.1 23)), (1, .int x1), (3, .int x3)]) dX1_learnTile_41 (by decide) rfl ?_
    exact Ev.sub (ks := [1, 2, 3, 0]) rfl h
set_option maxHeartbeats 4000000 in
set_option maxRecDepth 100000 in
theorem B_X1_learnTile_s_2 (G : eG) (M : eM) (F : eM → Prop) (x1 : Int32) (x3 : Int32)
    (h : ((3 ≤ x3) → Ev (eZ G 21 15 0 0 (eFV F)) G 21 15 (2, 0, 0) kX1_learnTile 34 [(0, .ref (G.1 23)), (1, .int x1), (3, .int 0)] [] M 0 0) ∧ ((¬ 3 ≤ x3) → Cal G 21 15 (1, 0, 0) kX7_tileNumber [.ref (G.1 21), .int ((x1 * 3) + x3)] M (eFI (fun (r1 : Int32) (M1 : eM) => vp_in ((x1 * 3) + x3) 48 ∧ (Ev (eZ G 21 15 0 0 (eFV F)) G 21 15 (2, 0, 0) kX1_learnTile 2 [(0, .ref (G.1 23)), (1, .int x1), (2, .ref (G.1 21)), (3, .int (x3 + 1))] [] (eU M1 27 ((x1 * 3) + x3).toNatClampNeg r1) 0 0))))) :
    Ev (eZ G 21 15 0 0 (eFV F)) G 21 15 (2, 0, 0) kX1_learnTile 2 [(0, .ref (G.1 23)), (1, .int x1), (2, .ref (G.1 21)), (3, .int x3)] [] M 0 0 := by
  refine r_iload_n 3 dX1_learnTile_2 rfl rfl ?_
  refine r_iconst (v := 3) dX1_learnTile_3 rfl ?_
  refine r_icmp_ge (t := 32) dX1_learnTile_4 (by decide) (fun q => ?_) (fun q => ?_)
  · replace h := h.1 q
    refine r_iconst (v := 0) dX1_learnTile_32 rfl ?_
    refine r_istore_n (l' := [(3, .int 0), (0, .ref (G.1 23)), (1, .int x1), (2, .ref (G.1 21))]) dX1_learnTile_33 rfl (by decide) rfl ?_
    exact Ev.sub (ks := [1, 2, 0]) rfl h
  · replace h := h.2 q
    refine r_aload_n 0 dX1_learnTile_7 rfl rfl ?_
    refine r_getR (c := 23) (k := 8) 27 dX1_learnTile_8 clX1 lFX1_21 (by decide) iS23 sC23 rfl ?_
    refine r_iload_n 1 dX1_learnTile_11 rfl rfl ?_
    refine r_iconst (v := 3) dX1_learnTile_12 rfl ?_
    refine r_imul dX1_learnTile_13 ?_
    refine r_iload_n 3 dX1_learnTile_14 rfl rfl ?_
    refine r_iadd dX1_learnTile_15 ?_
    refine r_aload_n 2 dX1_learnTile_16 rfl rfl ?_
    refine r_iload_n 1 dX1_learnTile_17 rfl rfl ?_
    refine r_iconst (v := 3) dX1_learnTile_18 rfl ?_
    refine r_imul dX1_learnTile_19 ?_
    refine r_iload_n 3 dX1_learnTile_20 rfl rfl ?_
    refine r_iadd dX1_learnTile_21 ?_
    refine r_callVI (b' := (1, 0, 0)) (c := 21) (S := [.int ((x1 * 3) + x3), .ref (G.1 27)]) [.int ((x1 * 3) + x3)] dX1_learnTile_22 mX7_tileNumber lMX1_97 clX7 rfl iS21 sC21 rfl (by decide) (Nat.le_of_ble_eq_true rfl) h (fun r1 M1 h => ?_) rfl
    have h1 := h.1
    replace h := h.2
    refine r_iast (c := 27) (N := 48) dX1_learnTile_25 iS27 sC27 h1 ?_
    refine r_iinc (v := x3 + 1) (l' := [(3, .int (x3 + 1)), (0, .ref (G.1 23)), (1, .int x1), (2, .ref (G.1 21))]) 3 dX1_learnTile_26 rfl rfl (by decide) rfl ?_
    refine r_goto (t := 2) dX1_learnTile_29 (by decide) ?_
    exact Ev.sub (ks := [1, 2, 3, 0]) rfl h
set_option maxHeartbeats 4000000 in
set_option maxRecDepth 100000 in
theorem C_X1_learnTile_s (G : eG) (M : eM) (F : eM → Prop) (a1 : Int32)
    (h : Ev (eZ G 21 15 0 0 (eFV F)) G 21 15 (2, 0, 0) kX1_learnTile 2 [(0, .ref (G.1 23)), (1, .int a1), (2, .ref (G.1 21)), (3, .int 0)] [] M 0 0) :
    Cal G 21 15 (2, 0, 0) kX1_learnTile [.ref (G.1 23), .int a1, .ref (G.1 21)] M (eFV F) := by
  refine Cal.of (by decide +kernel) rfl (Nat.le_of_ble_eq_true rfl) ?_
  show Ev (eZ G 21 15 0 0 (eFV F)) G 21 15 (2, 0, 0) kX1_learnTile 0 [(0, .ref (G.1 23)), (1, .int a1), (2, .ref (G.1 21))] [] M 0 0
  refine r_iconst (v := 0) dX1_learnTile_0 rfl ?_
  refine r_istore_n (l' := [(3, .int 0), (0, .ref (G.1 23)), (1, .int a1), (2, .ref (G.1 21))]) dX1_learnTile_1 rfl (by decide) rfl ?_
  exact Ev.sub (ks := [1, 2, 3, 0]) rfl h
set_option maxHeartbeats 4000000 in
set_option maxRecDepth 100000 in
theorem C_X1_knows (G : eG) (M : eM) (F : Bool → eM → Prop) (a1 : Int32)
    (h : ((a1 < 0) → F false M) ∧ ((¬ a1 < 0) → (((M 23 3) ≤ a1) → F false M) ∧ ((¬ (M 23 3) ≤ a1) → F true M))) :
    Cal G 0 68 (1, 0, 0) kX1_knows [.ref (G.1 23), .int a1] M (eFZ F) := by
  refine Cal.of (by decide +kernel) rfl (Nat.le_of_ble_eq_true rfl) ?_
  show Ev (eZ G 0 68 0 0 (eFZ F)) G 0 68 (1, 0, 0) kX1_knows 0 [(0, .ref (G.1 23)), (1, .int a1)] [] M 0 0
  refine r_iload_n 1 dX1_knows_0 rfl rfl ?_
  refine r_if_lt (t := 16) dX1_knows_1 (by decide) (fun q => ?_) (fun q => ?_)
  · replace h := h.1 q
    refine r_iconst (v := 0) dX1_knows_16 rfl ?_
    refine r_iretZ0 dX1_knows_17 rfl (by decide) (by decide) h
  · replace h := h.2 q
    refine r_iload_n 1 dX1_knows_4 rfl rfl ?_
    refine r_aload_n 0 dX1_knows_5 rfl rfl ?_
    refine r_getI (c := 23) (k := 3) dX1_knows_6 clX1 lFX1_72 (by decide) iF23 sC23 rfl ?_
    refine r_icmp_ge (t := 16) dX1_knows_9 (by decide) (fun q => ?_) (fun q => ?_)
    · replace h := h.1 q
      refine r_iconst (v := 0) dX1_knows_16 rfl ?_
      refine r_iretZ0 dX1_knows_17 rfl (by decide) (by decide) h
    · replace h := h.2 q
      refine r_iconst (v := 1) dX1_knows_12 rfl ?_
      refine r_goto (t := 17) dX1_knows_13 (by decide) ?_
      refine r_iretZ1 dX1_knows_17 rfl (by decide) (by decide) h
set_option maxHeartbeats 4000000 in
set_option maxRecDepth 100000 in
theorem C_X1_lies (G : eG) (M : eM) (F : Bool → eM → Prop) (a1 : Int32)
    (h : Cal G 0 68 (1, 0, 0) kX1_knows [.ref (G.1 23), .int a1] M (eFZ (fun (r1 : Bool) (M1 : eM) => ((r1 = false) → F false M1) ∧ ((r1 = true) → vp_in a1 16 ∧ ((((M1 25 a1.toNatClampNeg) < 0) → F false M1) ∧ ((¬ (M1 25 a1.toNatClampNeg) < 0) → F true M1)))))) :
    Cal G 0 68 (2, 0, 0) kX1_lies [.ref (G.1 23), .int a1] M (eFZ F) := by
  refine Cal.of (by decide +kernel) rfl (Nat.le_of_ble_eq_true rfl) ?_
  show Ev (eZ G 0 68 0 0 (eFZ F)) G 0 68 (2, 0, 0) kX1_lies 0 [(0, .ref (G.1 23)), (1, .int a1)] [] M 0 0
  refine r_aload_n 0 dX1_lies_0 rfl rfl ?_
  refine r_iload_n 1 dX1_lies_1 rfl rfl ?_
  refine r_callVZ (b' := (1, 0, 0)) (c := 23) (S := []) [.int a1] dX1_lies_2 mX1_knows lMX1_105 clX1 rfl iF23 sC23 rfl (by decide) (Nat.le_of_ble_eq_true rfl) h (fun r1 M1 h => ?_) rfl
  refine r_zif_eq (t := 21) dX1_lies_5 (by decide) (fun q => ?_) (fun q => ?_)
  · replace h := h.1 q
    refine r_iconst (v := 0) dX1_lies_21 rfl ?_
    refine r_iretZ0 dX1_lies_22 rfl (by decide) (by decide) h
  · replace h := h.2 q
    refine r_aload_n 0 dX1_lies_8 rfl rfl ?_
    refine r_getR (c := 23) (k := 6) 25 dX1_lies_9 clX1 lFX1_15 (by decide) iF23 sC23 rfl ?_
    refine r_iload_n 1 dX1_lies_12 rfl rfl ?_
    have h1 := h.1
    replace h := h.2
    refine r_iald (c := 25) (N := 16) dX1_lies_13 iF25 sC25 h1 ?_
    refine r_if_lt (t := 21) dX1_lies_14 (by decide) (fun q => ?_) (fun q => ?_)
    · replace h := h.1 q
      refine r_iconst (v := 0) dX1_lies_21 rfl ?_
      refine r_iretZ0 dX1_lies_22 rfl (by decide) (by decide) h
    · replace h := h.2 q
      refine r_iconst (v := 1) dX1_lies_17 rfl ?_
      refine r_goto (t := 22) dX1_lies_18 (by decide) ?_
      refine r_iretZ1 dX1_lies_22 rfl (by decide) (by decide) h
set_option maxHeartbeats 4000000 in
set_option maxRecDepth 100000 in
theorem C_X1_numberOf_s (G : eG) (M : eM) (F : Int32 → eM → Prop) (a1 : Int32) (a2 : Int32) (a3 : Int32)
    (h : vp_in ((a1 * 3) + ((((a2 + 6) - a3) - ((a2 + 6) - a3) / 6 * 6) / 2)) 48 ∧ (F (M 27 ((a1 * 3) + ((((a2 + 6) - a3) - ((a2 + 6) - a3) / 6 * 6) / 2)).toNatClampNeg) M)) :
    Cal G 21 15 (1, 0, 0) kX1_numberOf [.ref (G.1 23), .int a1, .int a2, .int a3] M (eFI F) := by
  refine Cal.of (by decide +kernel) rfl (Nat.le_of_ble_eq_true rfl) ?_
  show Ev (eZ G 21 15 0 0 (eFI F)) G 21 15 (1, 0, 0) kX1_numberOf 0 [(0, .ref (G.1 23)), (1, .int a1), (2, .int a2), (3, .int a3)] [] M 0 0
  refine r_iload_n 2 dX1_numberOf_0 rfl rfl ?_
  refine r_bipush (v := 6) dX1_numberOf_1 rfl ?_
  refine r_iadd dX1_numberOf_3 ?_
  refine r_iload_n 3 dX1_numberOf_4 rfl rfl ?_
  refine r_isub dX1_numberOf_5 ?_
  refine r_bipush (v := 6) dX1_numberOf_6 rfl ?_
  refine r_irem dX1_numberOf_8 (by decide) ?_
  refine r_istore (l' := [(4, .int (((a2 + 6) - a3) - ((a2 + 6) - a3) / 6 * 6)), (0, .ref (G.1 23)), (1, .int a1), (2, .int a2), (3, .int a3)]) dX1_numberOf_9 (by decide) rfl ?_
  refine r_aload_n 1 dX1_numberOf_11 rfl rfl ?_
  refine r_getR (c := 23) (k := 8) 27 dX1_numberOf_12 clX1 lFX1_21 (by decide) iS23 sC23 rfl ?_
  refine r_iload_n 2 dX1_numberOf_15 rfl rfl ?_
  refine r_iconst (v := 3) dX1_numberOf_16 rfl ?_
  refine r_imul dX1_numberOf_17 ?_
  refine r_iload 0 dX1_numberOf_18 rfl ?_
  refine r_iconst (v := 2) dX1_numberOf_20 rfl ?_
  refine r_idiv dX1_numberOf_21 (by decide) ?_
  refine r_iadd dX1_numberOf_22 ?_
  have h1 := h.1
  replace h := h.2
  refine r_iald (c := 27) (N := 48) dX1_numberOf_23 iS27 sC27 h1 ?_
  refine r_iretI dX1_numberOf_24 rfl (by decide) (by decide) h
set_option maxHeartbeats 4000000 in
set_option maxRecDepth 100000 in
theorem C_X1_numberOf (G : eG) (M : eM) (F : Int32 → eM → Prop) (a1 : Int32) (a2 : Int32) (a3 : Int32)
    (h : vp_in ((a1 * 3) + ((((a2 + 6) - a3) - ((a2 + 6) - a3) / 6 * 6) / 2)) 48 ∧ (F (M 27 ((a1 * 3) + ((((a2 + 6) - a3) - ((a2 + 6) - a3) / 6 * 6) / 2)).toNatClampNeg) M)) :
    Cal G 0 68 (1, 0, 0) kX1_numberOf [.ref (G.1 23), .int a1, .int a2, .int a3] M (eFI F) := by
  refine Cal.of (by decide +kernel) rfl (Nat.le_of_ble_eq_true rfl) ?_
  show Ev (eZ G 0 68 0 0 (eFI F)) G 0 68 (1, 0, 0) kX1_numberOf 0 [(0, .ref (G.1 23)), (1, .int a1), (2, .int a2), (3, .int a3)] [] M 0 0
  refine r_iload_n 2 dX1_numberOf_0 rfl rfl ?_
  refine r_bipush (v := 6) dX1_numberOf_1 rfl ?_
  refine r_iadd dX1_numberOf_3 ?_
  refine r_iload_n 3 dX1_numberOf_4 rfl rfl ?_
  refine r_isub dX1_numberOf_5 ?_
  refine r_bipush (v := 6) dX1_numberOf_6 rfl ?_
  refine r_irem dX1_numberOf_8 (by decide) ?_
  refine r_istore (l' := [(4, .int (((a2 + 6) - a3) - ((a2 + 6) - a3) / 6 * 6)), (0, .ref (G.1 23)), (1, .int a1), (2, .int a2), (3, .int a3)]) dX1_numberOf_9 (by decide) rfl ?_
  refine r_aload_n 1 dX1_numberOf_11 rfl rfl ?_
  refine r_getR (c := 23) (k := 8) 27 dX1_numberOf_12 clX1 lFX1_21 (by decide) iF23 sC23 rfl ?_
  refine r_iload_n 2 dX1_numberOf_15 rfl rfl ?_
  refine r_iconst (v := 3) dX1_numberOf_16 rfl ?_
  refine r_imul dX1_numberOf_17 ?_
  refine r_iload 0 dX1_numberOf_18 rfl ?_
  refine r_iconst (v := 2) dX1_numberOf_20 rfl ?_
  refine r_idiv dX1_numberOf_21 (by decide) ?_
  refine r_iadd dX1_numberOf_22 ?_
  have h1 := h.1
  replace h := h.2
  refine r_iald (c := 27) (N := 48) dX1_numberOf_23 iF27 sC27 h1 ?_
  refine r_iretI dX1_numberOf_24 rfl (by decide) (by decide) h
set_option maxHeartbeats 4000000 in
set_option maxRecDepth 100000 in
theorem B_X1_turnsFitting_94 (G : eG) (M : eM) (F : Int32 → eM → Prop) (x1 : Int32) (x2 : Int32) (x3 : Int32) (x4 : Int32)
    (h : Ev (eZ G 0 68 0 0 (eFI F)) G 0 68 (1, 0, 0) kX1_turnsFitting 47 [(0, .ref (G.1 23)), (1, .int x1), (2, .int x2), (3, .int x3), (4, .int (x4 + 1))] [] M 0 0) :
    Ev (eZ G 0 68 0 0 (eFI F)) G 0 68 (1, 0, 0) kX1_turnsFitting 94 [(0, .ref (G.1 23)), (1, .int x1), (2, .int x2), (3, .int x3), (4, .int x4)] [] M 0 0 := by
  refine r_iinc (v := x4 + 1) (l' := [(4, .int (x4 + 1)), (0, .ref (G.1 23)), (1, .int x1), (2, .int x2), (3, .int x3)]) 4 dX1_turnsFitting_94 rfl rfl (by decide) rfl ?_
  refine r_goto (t := 47) dX1_turnsFitting_97 (by decide) ?_
  exact Ev.sub (ks := [1, 2, 3, 4, 0]) rfl h
set_option maxHeartbeats 4000000 in
set_option maxRecDepth 100000 in
theorem B_X1_turnsFitting_47 (G : eG) (M : eM) (F : Int32 → eM → Prop) (x1 : Int32) (x2 : Int32) (x3 : Int32) (x4 : Int32)
    (h : ((6 ≤ x4) → F x3 M) ∧ ((¬ 6 ≤ x4) → vp_in ((x2 * 6) + x4) 294 ∧ ((((M 30 ((x2 * 6) + x4).toNatClampNeg) < 0) → Ev (eZ G 0 68 0 0 (eFI F)) G 0 68 (1, 0, 0) kX1_turnsFitting 94 [(0, .ref (G.1 23)), (1, .int x1), (2, .int x2), (3, .int x3), (4, .int x4)] [] M 0 0) ∧ ((¬ (M 30 ((x2 * 6) + x4).toNatClampNeg) < 0) → vp_in ((((x1 * 6) + x4) * 10) + (M 30 ((x2 * 6) + x4).toNatClampNeg)) 960 ∧ (Ev (eZ G 0 68 0 0 (eFI F)) G 0 68 (1, 0, 0) kX1_turnsFitting 94 [(0, .ref (G.1 23)), (1, .int x1), (2, .int x2), (3, .int (x3 &&& (M 28 ((((x1 * 6) + x4) * 10) + (M 30 ((x2 * 6) + x4).toNatClampNeg)).toNatClampNeg))), (4, .int x4)] [] M 0 0))))) :
    Ev (eZ G 0 68 0 0 (eFI F)) G 0 68 (1, 0, 0) kX1_turnsFitting 47 [(0, .ref (G.1 23)), (1, .int x1), (2, .int x2), (3, .int x3), (4, .int x4)] [] M 0 0 := by
  refine r_iload 4 dX1_turnsFitting_47 rfl ?_
  refine r_bipush (v := 6) dX1_turnsFitting_49 rfl ?_
  refine r_icmp_ge (t := 100) dX1_turnsFitting_51 (by decide) (fun q => ?_) (fun q => ?_)
  · replace h := h.1 q
    refine r_iload_n 3 dX1_turnsFitting_100 rfl rfl ?_
    refine r_iretI dX1_turnsFitting_101 rfl (by decide) (by decide) h
  · replace h := h.2 q
    refine r_aload_n 0 dX1_turnsFitting_54 rfl rfl ?_
    refine r_getR (c := 23) (k := 11) 30 dX1_turnsFitting_55 clX1 lFX1_30 (by decide) iF23 sC23 rfl ?_
    refine r_iload_n 2 dX1_turnsFitting_58 rfl rfl ?_
    refine r_bipush (v := 6) dX1_turnsFitting_59 rfl ?_
    refine r_imul dX1_turnsFitting_61 ?_
    refine r_iload 4 dX1_turnsFitting_62 rfl ?_
    refine r_iadd dX1_turnsFitting_64 ?_
    have h1 := h.1
    replace h := h.2
    refine r_iald (c := 30) (N := 294) dX1_turnsFitting_65 iF30 sC30 h1 ?_
    refine r_istore (l' := [(5, .int (M 30 ((x2 * 6) + x4).toNatClampNeg)), (0, .ref (G.1 23)), (1, .int x1), (2, .int x2), (3, .int x3), (4, .int x4)]) dX1_turnsFitting_66 (by decide) rfl ?_
    refine r_iload 0 dX1_turnsFitting_68 rfl ?_
    refine r_if_lt (t := 94) dX1_turnsFitting_70 (by decide) (fun q => ?_) (fun q => ?_)
    · replace h := h.1 q
      exact Ev.sub (ks := [1, 2, 3, 4, 5]) rfl h
    · replace h := h.2 q
      refine r_iload_n 4 dX1_turnsFitting_73 rfl rfl ?_
      refine r_aload_n 1 dX1_turnsFitting_74 rfl rfl ?_
      refine r_getR (c := 23) (k := 9) 28 dX1_turnsFitting_75 clX1 lFX1_24 (by decide) iF23 sC23 rfl ?_
      refine r_iload_n 2 dX1_turnsFitting_78 rfl rfl ?_
      refine r_bipush (v := 6) dX1_turnsFitting_79 rfl ?_
      refine r_imul dX1_turnsFitting_81 ?_
      refine r_iload 5 dX1_turnsFitting_82 rfl ?_
      refine r_iadd dX1_turnsFitting_84 ?_
      refine r_bipush (v := 10) dX1_turnsFitting_85 rfl ?_
      refine r_imul dX1_turnsFitting_87 ?_
      refine r_iload 0 dX1_turnsFitting_88 rfl ?_
      refine r_iadd dX1_turnsFitting_90 ?_
      have h1 := h.1
      replace h := h.2
      refine r_iald (c := 28) (N := 960) dX1_turnsFitting_91 iF28 sC28 h1 ?_
      refine r_iand dX1_turnsFitting_92 ?_
      refine r_istore_n (l' := [(3, .int (x3 &&& (M 28 ((((x1 * 6) + x4) * 10) + (M 30 ((x2 * 6) + x4).toNatClampNeg)).toNatClampNeg))), (5, .int (M 30 ((x2 * 6) + x4).toNatClampNeg)), (0, .ref (G.1 23)), (1, .int x1), (2, .int x2), (4, .int x4)]) dX1_turnsFitting_93 rfl (by decide) rfl ?_
      exact Ev.sub (ks := [2, 3, 4, 0, 5]) rfl h
set_option maxHeartbeats 4000000 in
set_option maxRecDepth 100000 in
theorem C_X1_turnsFitting (G : eG) (M : eM) (F : Int32 → eM → Prop) (a1 : Int32) (a2 : Int32)
    (h : vp_in a2 49 ∧ (((0 ≤ (M 24 a2.toNatClampNeg)) → F 0 M) ∧ ((¬ 0 ≤ (M 24 a2.toNatClampNeg)) → vp_in a1 16 ∧ ((((M 25 a1.toNatClampNeg) < 0) → ((¬ (M 23 4) = 0) → vp_in a2 49 ∧ (((¬ (M 31 a2.toNatClampNeg) = 0) → Ev (eZ G 0 68 0 0 (eFI F)) G 0 68 (1, 0, 0) kX1_turnsFitting 47 [(0, .ref (G.1 23)), (1, .int a1), (2, .int a2), (3, .int 63), (4, .int 0)] [] M 0 0) ∧ (((M 31 a2.toNatClampNeg) = 0) → F 0 M))) ∧ (((M 23 4) = 0) → F 63 M)) ∧ ((¬ (M 25 a1.toNatClampNeg) < 0) → F 0 M))))) :
    Cal G 0 68 (1, 0, 0) kX1_turnsFitting [.ref (G.1 23), .int a1, .int a2] M (eFI F) := by
  refine Cal.of (by decide +kernel) rfl (Nat.le_of_ble_eq_true rfl) ?_
  show Ev (eZ G 0 68 0 0 (eFI F)) G 0 68 (1, 0, 0) kX1_turnsFitting 0 [(0, .ref (G.1 23)), (1, .int a1), (2, .int a2)] [] M 0 0
  refine r_aload_n 0 dX1_turnsFitting_0 rfl rfl ?_
  refine r_getR (c := 23) (k := 5) 24 dX1_turnsFitting_1 clX1 lFX1_9 (by decide) iF23 sC23 rfl ?_
  refine r_iload_n 2 dX1_turnsFitting_4 rfl rfl ?_
  have h1 := h.1
  replace h := h.2
  refine r_iald (c := 24) (N := 49) dX1_turnsFitting_5 iF24 sC24 h1 ?_
  refine r_if_ge (t := 18) dX1_turnsFitting_6 (by decide) (fun q => ?_) (fun q => ?_)
  · replace h := h.1 q
    refine r_iconst (v := 0) dX1_turnsFitting_18 rfl ?_
    refine r_iretI dX1_turnsFitting_19 rfl (by decide) (by decide) h
  · replace h := h.2 q
    refine r_aload_n 0 dX1_turnsFitting_9 rfl rfl ?_
    refine r_getR (c := 23) (k := 6) 25 dX1_turnsFitting_10 clX1 lFX1_15 (by decide) iF23 sC23 rfl ?_
    refine r_iload_n 1 dX1_turnsFitting_13 rfl rfl ?_
    have h1 := h.1
    replace h := h.2
    refine r_iald (c := 25) (N := 16) dX1_turnsFitting_14 iF25 sC25 h1 ?_
    refine r_if_lt (t := 20) dX1_turnsFitting_15 (by decide) (fun q => ?_) (fun q => ?_)
    · replace h := h.1 q
      refine r_aload_n 0 dX1_turnsFitting_20 rfl rfl ?_
      refine r_getI (c := 23) (k := 4) dX1_turnsFitting_21 clX1 lFX1_74 (by decide) iF23 sC23 rfl ?_
      refine r_if_ne (t := 30) dX1_turnsFitting_24 (by decide) (fun q => ?_) (fun q => ?_)
      · replace h := h.1 q
        refine r_aload_n 0 dX1_turnsFitting_30 rfl rfl ?_
        refine r_getR (c := 23) (k := 12) 31 dX1_turnsFitting_31 clX1 lFX1_33 (by decide) iF23 sC23 rfl ?_
        refine r_iload_n 2 dX1_turnsFitting_34 rfl rfl ?_
        have h1 := h.1
        replace h := h.2
        refine r_iald (c := 31) (N := 49) dX1_turnsFitting_35 iF31 sC31 h1 ?_
        refine r_if_ne (t := 41) dX1_turnsFitting_36 (by decide) (fun q => ?_) (fun q => ?_)
        · replace h := h.1 q
          refine r_bipush (v := 63) dX1_turnsFitting_41 rfl ?_
          refine r_istore_n (l' := [(3, .int 63), (0, .ref (G.1 23)), (1, .int a1), (2, .int a2)]) dX1_turnsFitting_43 rfl (by decide) rfl ?_
          refine r_iconst (v := 0) dX1_turnsFitting_44 rfl ?_
          refine r_istore (l' := [(4, .int 0), (3, .int 63), (0, .ref (G.1 23)), (1, .int a1), (2, .int a2)]) dX1_turnsFitting_45 (by decide) rfl ?_
          exact Ev.sub (ks := [2, 3, 4, 1, 0]) rfl h
        · replace h := h.2 q
          refine r_iconst (v := 0) dX1_turnsFitting_39 rfl ?_
          refine r_iretI dX1_turnsFitting_40 rfl (by decide) (by decide) h
      · replace h := h.2 q
        refine r_bipush (v := 63) dX1_turnsFitting_27 rfl ?_
        refine r_iretI dX1_turnsFitting_29 rfl (by decide) (by decide) h
    · replace h := h.2 q
      refine r_iconst (v := 0) dX1_turnsFitting_18 rfl ?_
      refine r_iretI dX1_turnsFitting_19 rfl (by decide) (by decide) h
set_option maxHeartbeats 4000000 in
set_option maxRecDepth 100000 in
theorem C_X1_fitsSo (G : eG) (M : eM) (F : Bool → eM → Prop) (a1 : Int32) (a2 : Int32) (a3 : Int32)
    (h : Cal G 0 68 (1, 0, 0) kX1_turnsFitting [.ref (G.1 23), .int a1, .int a2] M (eFI (fun (r1 : Int32) (M1 : eM) => ((¬ ((r1 >>> (a3 &&& 31)) &&& 1) = 1) → F false M1) ∧ ((((r1 >>> (a3 &&& 31)) &&& 1) = 1) → F true M1)))) :
    Cal G 0 68 (2, 0, 0) kX1_fitsSo [.ref (G.1 23), .int a1, .int a2, .int a3] M (eFZ F) := by
  refine Cal.of (by decide +kernel) rfl (Nat.le_of_ble_eq_true rfl) ?_
  show Ev (eZ G 0 68 0 0 (eFZ F)) G 0 68 (2, 0, 0) kX1_fitsSo 0 [(0, .ref (G.1 23)), (1, .int a1), (2, .int a2), (3, .int a3)] [] M 0 0
  refine r_aload_n 0 dX1_fitsSo_0 rfl rfl ?_
  refine r_iload_n 1 dX1_fitsSo_1 rfl rfl ?_
  refine r_iload_n 2 dX1_fitsSo_2 rfl rfl ?_
  refine r_callVI (b' := (1, 0, 0)) (c := 23) (S := []) [.int a1, .int a2] dX1_fitsSo_3 mX1_turnsFitting lMX1_109 clX1 rfl iF23 sC23 rfl (by decide) (Nat.le_of_ble_eq_true rfl) h (fun r1 M1 h => ?_) rfl
  refine r_iload_n 3 dX1_fitsSo_6 rfl rfl ?_
  refine r_ishr dX1_fitsSo_7 ?_
  refine r_iconst (v := 1) dX1_fitsSo_8 rfl ?_
  refine r_iand dX1_fitsSo_9 ?_
  refine r_iconst (v := 1) dX1_fitsSo_10 rfl ?_
  refine r_icmp_ne (t := 18) dX1_fitsSo_11 (by decide) (fun q => ?_) (fun q => ?_)
  · replace h := h.1 q
    refine r_iconst (v := 0) dX1_fitsSo_18 rfl ?_
    refine r_iretZ0 dX1_fitsSo_19 rfl (by decide) (by decide) h
  · replace h := h.2 q
    refine r_iconst (v := 1) dX1_fitsSo_14 rfl ?_
    refine r_goto (t := 19) dX1_fitsSo_15 (by decide) ?_
    refine r_iretZ1 dX1_fitsSo_19 rfl (by decide) (by decide) h
set_option maxHeartbeats 4000000 in
set_option maxRecDepth 100000 in
theorem B_X1_countWays_4 (G : eG) (M : eM) (F : Int32 → eM → Prop) (x1 : Int32) (x2 : Int32) (x3 : Int32)
    (h : (((M 23 2) ≤ x3) → F x2 M) ∧ ((¬ (M 23 2) ≤ x3) → Cal G 0 68 (1, 0, 0) kX1_knows [.ref (G.1 23), .int x1] M (eFZ (fun (r1 : Bool) (M1 : eM) => ((r1 = false) → F x2 M1) ∧ ((r1 = true) → Cal G 0 68 (1, 0, 0) kX1_turnsFitting [.ref (G.1 23), .int x1, .int x3] M1 (eFI (fun (r2 : Int32) (M2 : eM) => Cal G 0 68 (1, 0, 0) kJ6_bitCount_0f7a4 [.int r2] M2 (eFI (fun (r3 : Int32) (M3 : eM) => Ev (eZ G 0 68 0 0 (eFI F)) G 0 68 (2, 0, 0) kX1_countWays 4 [(0, .ref (G.1 23)), (1, .int x1), (2, .int (x2 + r3)), (3, .int (x3 + 1))] [] M3 0 0))))))))) :
    Ev (eZ G 0 68 0 0 (eFI F)) G 0 68 (2, 0, 0) kX1_countWays 4 [(0, .ref (G.1 23)), (1, .int x1), (2, .int x2), (3, .int x3)] [] M 0 0 := by
  refine r_iload_n 3 dX1_countWays_4 rfl rfl ?_
  refine r_aload_n 0 dX1_countWays_5 rfl rfl ?_
  refine r_getI (c := 23) (k := 2) dX1_countWays_6 clX1 lFX1_65 (by decide) iF23 sC23 rfl ?_
  refine r_icmp_ge (t := 38) dX1_countWays_9 (by decide) (fun q => ?_) (fun q => ?_)
  · replace h := h.1 q
    refine r_iload_n 2 dX1_countWays_38 rfl rfl ?_
    refine r_iretI dX1_countWays_39 rfl (by decide) (by decide) h
  · replace h := h.2 q
    refine r_aload_n 0 dX1_countWays_12 rfl rfl ?_
    refine r_iload_n 1 dX1_countWays_13 rfl rfl ?_
    refine r_callVZ (b' := (1, 0, 0)) (c := 23) (S := []) [.int x1] dX1_countWays_14 mX1_knows lMX1_105 clX1 rfl iF23 sC23 rfl (by decide) (Nat.le_of_ble_eq_true rfl) h (fun r1 M1 h => ?_) rfl
    refine r_zif_eq (t := 38) dX1_countWays_17 (by decide) (fun q => ?_) (fun q => ?_)
    · replace h := h.1 q
      refine r_iload_n 2 dX1_countWays_38 rfl rfl ?_
      refine r_iretI dX1_countWays_39 rfl (by decide) (by decide) h
    · replace h := h.2 q
      refine r_iload_n 2 dX1_countWays_20 rfl rfl ?_
      refine r_aload_n 0 dX1_countWays_21 rfl rfl ?_
      refine r_iload_n 1 dX1_countWays_22 rfl rfl ?_
      refine r_iload_n 3 dX1_countWays_23 rfl rfl ?_
      refine r_callVI (b' := (1, 0, 0)) (c := 23) (S := [.int x2]) [.int x1, .int x3] dX1_countWays_24 mX1_turnsFitting lMX1_109 clX1 rfl iF23 sC23 rfl (by decide) (Nat.le_of_ble_eq_true rfl) h (fun r2 M2 h => ?_) rfl
      refine r_callSI (b' := (1, 0, 0)) (S := [.int x2]) [.int r2] dX1_countWays_27 mJ6_bitCount_0f7a4 lMX1_112 rfl (by decide) (Nat.le_of_ble_eq_true rfl) h (fun r3 M3 h => ?_) rfl
      refine r_iadd dX1_countWays_30 ?_
      refine r_istore_n (l' := [(2, .int (x2 + r3)), (0, .ref (G.1 23)), (1, .int x1), (3, .int x3)]) dX1_countWays_31 rfl (by decide) rfl ?_
      refine r_iinc (v := x3 + 1) (l' := [(3, .int (x3 + 1)), (2, .int (x2 + r3)), (0, .ref (G.1 23)), (1, .int x1)]) 3 dX1_countWays_32 rfl rfl (by decide) rfl ?_
      refine r_goto (t := 4) dX1_countWays_35 (by decide) ?_
      exact Ev.sub (ks := [2, 3, 1, 0]) rfl h
set_option maxHeartbeats 4000000 in
set_option maxRecDepth 100000 in
theorem C_X1_countWays (G : eG) (M : eM) (F : Int32 → eM → Prop) (a1 : Int32)
    (h : Ev (eZ G 0 68 0 0 (eFI F)) G 0 68 (2, 0, 0) kX1_countWays 4 [(0, .ref (G.1 23)), (1, .int a1), (2, .int 0), (3, .int 0)] [] M 0 0) :
    Cal G 0 68 (2, 0, 0) kX1_countWays [.ref (G.1 23), .int a1] M (eFI F) := by
  refine Cal.of (by decide +kernel) rfl (Nat.le_of_ble_eq_true rfl) ?_
  show Ev (eZ G 0 68 0 0 (eFI F)) G 0 68 (2, 0, 0) kX1_countWays 0 [(0, .ref (G.1 23)), (1, .int a1)] [] M 0 0
  refine r_iconst (v := 0) dX1_countWays_0 rfl ?_
  refine r_istore_n (l' := [(2, .int 0), (0, .ref (G.1 23)), (1, .int a1)]) dX1_countWays_1 rfl (by decide) rfl ?_
  refine r_iconst (v := 0) dX1_countWays_2 rfl ?_
  refine r_istore_n (l' := [(3, .int 0), (2, .int 0), (0, .ref (G.1 23)), (1, .int a1)]) dX1_countWays_3 rfl (by decide) rfl ?_
  exact Ev.sub (ks := [2, 3, 1, 0]) rfl h
set_option maxHeartbeats 4000000 in
set_option maxRecDepth 100000 in
theorem B_X1_firstCell_2 (G : eG) (M : eM) (F : Int32 → eM → Prop) (x1 : Int32) (x2 : Int32)
    (h : (((M 23 2) ≤ x2) → F (-1) M) ∧ ((¬ (M 23 2) ≤ x2) → Cal G 0 68 (1, 0, 0) kX1_knows [.ref (G.1 23), .int x1] M (eFZ (fun (r1 : Bool) (M1 : eM) => ((r1 = false) → F (-1) M1) ∧ ((r1 = true) → Cal G 0 68 (1, 0, 0) kX1_turnsFitting [.ref (G.1 23), .int x1, .int x2] M1 (eFI (fun (r2 : Int32) (M2 : eM) => ((r2 = 0) → Ev (eZ G 0 68 0 0 (eFI F)) G 0 68 (2, 0, 0) kX1_firstCell 2 [(0, .ref (G.1 23)), (1, .int x1), (2, .int (x2 + 1))] [] M2 0 0) ∧ ((¬ r2 = 0) → F x2 M2)))))))) :
    Ev (eZ G 0 68 0 0 (eFI F)) G 0 68 (2, 0, 0) kX1_firstCell 2 [(0, .ref (G.1 23)), (1, .int x1), (2, .int x2)] [] M 0 0 := by
  refine r_iload_n 2 dX1_firstCell_2 rfl rfl ?_
  refine r_aload_n 0 dX1_firstCell_3 rfl rfl ?_
  refine r_getI (c := 23) (k := 2) dX1_firstCell_4 clX1 lFX1_65 (by decide) iF23 sC23 rfl ?_
  refine r_icmp_ge (t := 35) dX1_firstCell_7 (by decide) (fun q => ?_) (fun q => ?_)
  · replace h := h.1 q
    refine r_iconst (v := (-1)) dX1_firstCell_35 rfl ?_
    refine r_iretI dX1_firstCell_36 rfl (by decide) (by decide) h
  · replace h := h.2 q
    refine r_aload_n 0 dX1_firstCell_10 rfl rfl ?_
    refine r_iload_n 1 dX1_firstCell_11 rfl rfl ?_
    refine r_callVZ (b' := (1, 0, 0)) (c := 23) (S := []) [.int x1] dX1_firstCell_12 mX1_knows lMX1_105 clX1 rfl iF23 sC23 rfl (by decide) (Nat.le_of_ble_eq_true rfl) h (fun r1 M1 h => ?_) rfl
    refine r_zif_eq (t := 35) dX1_firstCell_15 (by decide) (fun q => ?_) (fun q => ?_)
    · replace h := h.1 q
      refine r_iconst (v := (-1)) dX1_firstCell_35 rfl ?_
      refine r_iretI dX1_firstCell_36 rfl (by decide) (by decide) h
    · replace h := h.2 q
      refine r_aload_n 0 dX1_firstCell_18 rfl rfl ?_
      refine r_iload_n 1 dX1_firstCell_19 rfl rfl ?_
      refine r_iload_n 2 dX1_firstCell_20 rfl rfl ?_
      refine r_callVI (b' := (1, 0, 0)) (c := 23) (S := []) [.int x1, .int x2] dX1_firstCell_21 mX1_turnsFitting lMX1_109 clX1 rfl iF23 sC23 rfl (by decide) (Nat.le_of_ble_eq_true rfl) h (fun r2 M2 h => ?_) rfl
      refine r_if_eq (t := 29) dX1_firstCell_24 (by decide) (fun q => ?_) (fun q => ?_)
      · replace h := h.1 q
        refine r_iinc (v := x2 + 1) (l' := [(2, .int (x2 + 1)), (0, .ref (G.1 23)), (1, .int x1)]) 2 dX1_firstCell_29 rfl rfl (by decide) rfl ?_
        refine r_goto (t := 2) dX1_firstCell_32 (by decide) ?_
        exact Ev.sub (ks := [1, 2, 0]) rfl h
      · replace h := h.2 q
        refine r_iload_n 2 dX1_firstCell_27 rfl rfl ?_
        refine r_iretI dX1_firstCell_28 rfl (by decide) (by decide) h
set_option maxHeartbeats 4000000 in
set_option maxRecDepth 100000 in
theorem C_X1_firstCell (G : eG) (M : eM) (F : Int32 → eM → Prop) (a1 : Int32)
    (h : Ev (eZ G 0 68 0 0 (eFI F)) G 0 68 (2, 0, 0) kX1_firstCell 2 [(0, .ref (G.1 23)), (1, .int a1), (2, .int 0)] [] M 0 0) :
    Cal G 0 68 (2, 0, 0) kX1_firstCell [.ref (G.1 23), .int a1] M (eFI F) := by
  refine Cal.of (by decide +kernel) rfl (Nat.le_of_ble_eq_true rfl) ?_
  show Ev (eZ G 0 68 0 0 (eFI F)) G 0 68 (2, 0, 0) kX1_firstCell 0 [(0, .ref (G.1 23)), (1, .int a1)] [] M 0 0
  refine r_iconst (v := 0) dX1_firstCell_0 rfl ?_
  refine r_istore_n (l' := [(2, .int 0), (0, .ref (G.1 23)), (1, .int a1)]) dX1_firstCell_1 rfl (by decide) rfl ?_
  exact Ev.sub (ks := [1, 2, 0]) rfl h
set_option maxHeartbeats 4000000 in
set_option maxRecDepth 100000 in
theorem B_X1_firstTurn_10 (G : eG) (M : eM) (F : Int32 → eM → Prop) (x3 : Int32) (x4 : Int32)
    (h : ((5 ≤ x4) → F x4 M) ∧ ((¬ 5 ≤ x4) → ((¬ ((x3 >>> (x4 &&& 31)) &&& 1) = 0) → F x4 M) ∧ ((((x3 >>> (x4 &&& 31)) &&& 1) = 0) → Ev (eZ G 0 68 0 0 (eFI F)) G 0 68 (2, 0, 0) kX1_firstTurn 10 [(3, .int x3), (4, .int (x4 + 1))] [] M 0 0))) :
    Ev (eZ G 0 68 0 0 (eFI F)) G 0 68 (2, 0, 0) kX1_firstTurn 10 [(3, .int x3), (4, .int x4)] [] M 0 0 := by
  refine r_iload 1 dX1_firstTurn_10 rfl ?_
  refine r_iconst (v := 5) dX1_firstTurn_12 rfl ?_
  refine r_icmp_ge (t := 31) dX1_firstTurn_13 (by decide) (fun q => ?_) (fun q => ?_)
  · replace h := h.1 q
    refine r_iload 1 dX1_firstTurn_31 rfl ?_
    refine r_iretI dX1_firstTurn_33 rfl (by decide) (by decide) h
  · replace h := h.2 q
    refine r_iload_n 0 dX1_firstTurn_16 rfl rfl ?_
    refine r_iload 1 dX1_firstTurn_17 rfl ?_
    refine r_ishr dX1_firstTurn_19 ?_
    refine r_iconst (v := 1) dX1_firstTurn_20 rfl ?_
    refine r_iand dX1_firstTurn_21 ?_
    refine r_if_ne (t := 31) dX1_firstTurn_22 (by decide) (fun q => ?_) (fun q => ?_)
    · replace h := h.1 q
      refine r_iload 1 dX1_firstTurn_31 rfl ?_
      refine r_iretI dX1_firstTurn_33 rfl (by decide) (by decide) h
    · replace h := h.2 q
      refine r_iinc (v := x4 + 1) (l' := [(4, .int (x4 + 1)), (3, .int x3)]) 1 dX1_firstTurn_25 rfl rfl (by decide) rfl ?_
      refine r_goto (t := 10) dX1_firstTurn_28 (by decide) ?_
      exact Ev.sub (ks := [1, 0]) rfl h
set_option maxHeartbeats 4000000 in
set_option maxRecDepth 100000 in
theorem C_X1_firstTurn (G : eG) (M : eM) (F : Int32 → eM → Prop) (a1 : Int32) (a2 : Int32)
    (h : Cal G 0 68 (1, 0, 0) kX1_turnsFitting [.ref (G.1 23), .int a1, .int a2] M (eFI (fun (r1 : Int32) (M1 : eM) => Ev (eZ G 0 68 0 0 (eFI F)) G 0 68 (2, 0, 0) kX1_firstTurn 10 [(3, .int r1), (4, .int 0)] [] M1 0 0))) :
    Cal G 0 68 (2, 0, 0) kX1_firstTurn [.ref (G.1 23), .int a1, .int a2] M (eFI F) := by
  refine Cal.of (by decide +kernel) rfl (Nat.le_of_ble_eq_true rfl) ?_
  show Ev (eZ G 0 68 0 0 (eFI F)) G 0 68 (2, 0, 0) kX1_firstTurn 0 [(0, .ref (G.1 23)), (1, .int a1), (2, .int a2)] [] M 0 0
  refine r_aload_n 0 dX1_firstTurn_0 rfl rfl ?_
  refine r_iload_n 1 dX1_firstTurn_1 rfl rfl ?_
  refine r_iload_n 2 dX1_firstTurn_2 rfl rfl ?_
  refine r_callVI (b' := (1, 0, 0)) (c := 23) (S := []) [.int a1, .int a2] dX1_firstTurn_3 mX1_turnsFitting lMX1_109 clX1 rfl iF23 sC23 rfl (by decide) (Nat.le_of_ble_eq_true rfl) h (fun r1 M1 h => ?_) rfl
  refine r_istore_n (l' := [(3, .int r1), (0, .ref (G.1 23)), (1, .int a1), (2, .int a2)]) dX1_firstTurn_6 rfl (by decide) rfl ?_
  refine r_iconst (v := 0) dX1_firstTurn_7 rfl ?_
  refine r_istore (l' := [(4, .int 0), (3, .int r1), (0, .ref (G.1 23)), (1, .int a1), (2, .int a2)]) dX1_firstTurn_8 (by decide) rfl ?_
  exact Ev.sub (ks := [1, 0]) rfl h
set_option maxHeartbeats 4000000 in
set_option maxRecDepth 100000 in
theorem B_X1_firstClash_45 (G : eG) (M : eM) (F : Int32 → eM → Prop) (x1 : Int32) (x2 : Int32) (x3 : Int32) (x4 : Int32)
    (h : Ev (eZ G 0 68 0 0 (eFI F)) G 0 68 (2, 0, 0) kX1_firstClash 3 [(0, .ref (G.1 23)), (1, .int x1), (2, .int x2), (3, .int x3), (4, .int (x4 + 1))] [] M 0 0) :
    Ev (eZ G 0 68 0 0 (eFI F)) G 0 68 (2, 0, 0) kX1_firstClash 45 [(0, .ref (G.1 23)), (1, .int x1), (2, .int x2), (3, .int x3), (4, .int x4)] [] M 0 0 := by
  refine r_iinc (v := x4 + 1) (l' := [(4, .int (x4 + 1)), (0, .ref (G.1 23)), (1, .int x1), (2, .int x2), (3, .int x3)]) 4 dX1_firstClash_45 rfl rfl (by decide) rfl ?_
  refine r_goto (t := 3) dX1_firstClash_48 (by decide) ?_
  exact Ev.sub (ks := [1, 2, 3, 4, 0]) rfl h
set_option maxHeartbeats 4000000 in
set_option maxRecDepth 100000 in
theorem B_X1_firstClash_3 (G : eG) (M : eM) (F : Int32 → eM → Prop) (x1 : Int32) (x2 : Int32) (x3 : Int32) (x4 : Int32)
    (h : ((6 ≤ x4) → F (-1) M) ∧ ((¬ 6 ≤ x4) → vp_in ((x2 * 6) + x4) 294 ∧ ((((M 30 ((x2 * 6) + x4).toNatClampNeg) < 0) → Ev (eZ G 0 68 0 0 (eFI F)) G 0 68 (2, 0, 0) kX1_firstClash 45 [(0, .ref (G.1 23)), (1, .int x1), (2, .int x2), (3, .int x3), (4, .int x4)] [] M 0 0) ∧ ((¬ (M 30 ((x2 * 6) + x4).toNatClampNeg) < 0) → Cal G 0 68 (1, 0, 0) kX1_numberOf [.ref (G.1 23), .int x1, .int x4, .int x3] M (eFI (fun (r1 : Int32) (M1 : eM) => (((M 30 ((x2 * 6) + x4).toNatClampNeg) = r1) → Ev (eZ G 0 68 0 0 (eFI F)) G 0 68 (2, 0, 0) kX1_firstClash 45 [(0, .ref (G.1 23)), (1, .int x1), (2, .int x2), (3, .int x3), (4, .int x4)] [] M1 0 0) ∧ ((¬ (M 30 ((x2 * 6) + x4).toNatClampNeg) = r1) → F x4 M1))))))) :
    Ev (eZ G 0 68 0 0 (eFI F)) G 0 68 (2, 0, 0) kX1_firstClash 3 [(0, .ref (G.1 23)), (1, .int x1), (2, .int x2), (3, .int x3), (4, .int x4)] [] M 0 0 := by
  refine r_iload 4 dX1_firstClash_3 rfl ?_
  refine r_bipush (v := 6) dX1_firstClash_5 rfl ?_
  refine r_icmp_ge (t := 51) dX1_firstClash_7 (by decide) (fun q => ?_) (fun q => ?_)
  · replace h := h.1 q
    refine r_iconst (v := (-1)) dX1_firstClash_51 rfl ?_
    refine r_iretI dX1_firstClash_52 rfl (by decide) (by decide) h
  · replace h := h.2 q
    refine r_aload_n 0 dX1_firstClash_10 rfl rfl ?_
    refine r_getR (c := 23) (k := 11) 30 dX1_firstClash_11 clX1 lFX1_30 (by decide) iF23 sC23 rfl ?_
    refine r_iload_n 2 dX1_firstClash_14 rfl rfl ?_
    refine r_bipush (v := 6) dX1_firstClash_15 rfl ?_
    refine r_imul dX1_firstClash_17 ?_
    refine r_iload 4 dX1_firstClash_18 rfl ?_
    refine r_iadd dX1_firstClash_20 ?_
    have h1 := h.1
    replace h := h.2
    refine r_iald (c := 30) (N := 294) dX1_firstClash_21 iF30 sC30 h1 ?_
    refine r_istore (l' := [(5, .int (M 30 ((x2 * 6) + x4).toNatClampNeg)), (0, .ref (G.1 23)), (1, .int x1), (2, .int x2), (3, .int x3), (4, .int x4)]) dX1_firstClash_22 (by decide) rfl ?_
    refine r_iload 0 dX1_firstClash_24 rfl ?_
    refine r_if_lt (t := 45) dX1_firstClash_26 (by decide) (fun q => ?_) (fun q => ?_)
    · replace h := h.1 q
      exact Ev.sub (ks := [1, 2, 3, 4, 5]) rfl h
    · replace h := h.2 q
      refine r_iload 0 dX1_firstClash_29 rfl ?_
      refine r_aload_n 1 dX1_firstClash_31 rfl rfl ?_
      refine r_iload_n 2 dX1_firstClash_32 rfl rfl ?_
      refine r_iload 5 dX1_firstClash_33 rfl ?_
      refine r_iload_n 4 dX1_firstClash_35 rfl rfl ?_
      refine r_callVI (b' := (1, 0, 0)) (c := 23) (S := [.int (M 30 ((x2 * 6) + x4).toNatClampNeg)]) [.int x1, .int x4, .int x3] dX1_firstClash_36 mX1_numberOf lMX1_101 clX1 rfl iF23 sC23 rfl (by decide) (Nat.le_of_ble_eq_true rfl) h (fun r1 M1 h => ?_) rfl
      refine r_icmp_eq (t := 45) dX1_firstClash_39 (by decide) (fun q => ?_) (fun q => ?_)
      · replace h := h.1 q
        exact Ev.sub (ks := [1, 2, 3, 4, 5]) rfl h
      · replace h := h.2 q
        refine r_iload 5 dX1_firstClash_42 rfl ?_
        refine r_iretI dX1_firstClash_44 rfl (by decide) (by decide) h
set_option maxHeartbeats 4000000 in
set_option maxRecDepth 100000 in
theorem C_X1_firstClash (G : eG) (M : eM) (F : Int32 → eM → Prop) (a1 : Int32) (a2 : Int32) (a3 : Int32)
    (h : Ev (eZ G 0 68 0 0 (eFI F)) G 0 68 (2, 0, 0) kX1_firstClash 3 [(0, .ref (G.1 23)), (1, .int a1), (2, .int a2), (3, .int a3), (4, .int 0)] [] M 0 0) :
    Cal G 0 68 (2, 0, 0) kX1_firstClash [.ref (G.1 23), .int a1, .int a2, .int a3] M (eFI F) := by
  refine Cal.of (by decide +kernel) rfl (Nat.le_of_ble_eq_true rfl) ?_
  show Ev (eZ G 0 68 0 0 (eFI F)) G 0 68 (2, 0, 0) kX1_firstClash 0 [(0, .ref (G.1 23)), (1, .int a1), (2, .int a2), (3, .int a3)] [] M 0 0
  refine r_iconst (v := 0) dX1_firstClash_0 rfl ?_
  refine r_istore (l' := [(4, .int 0), (0, .ref (G.1 23)), (1, .int a1), (2, .int a2), (3, .int a3)]) dX1_firstClash_1 (by decide) rfl ?_
  exact Ev.sub (ks := [1, 2, 3, 4, 0]) rfl h
set_option maxHeartbeats 4000000 in
set_option maxRecDepth 100000 in
theorem B_X1_put_97 (G : eG) (M : eM) (F : eM → Prop) (x1 : Int32) (x2 : Int32) (x3 : Int32) (x4 : Int32)
    (h : Ev (eZ G 0 68 0 0 (eFV F)) G 0 68 (2, 0, 0) kX1_put 34 [(0, .ref (G.1 23)), (1, .int x1), (2, .int x2), (3, .int x3), (4, .int (x4 + 1))] [] M 0 0) :
    Ev (eZ G 0 68 0 0 (eFV F)) G 0 68 (2, 0, 0) kX1_put 97 [(0, .ref (G.1 23)), (1, .int x1), (2, .int x2), (3, .int x3), (4, .int x4)] [] M 0 0 := by
  refine r_iinc (v := x4 + 1) (l' := [(4, .int (x4 + 1)), (0, .ref (G.1 23)), (1, .int x1), (2, .int x2), (3, .int x3)]) 4 dX1_put_97 rfl rfl (by decide) rfl ?_
  refine r_goto (t := 34) dX1_put_100 (by decide) ?_
  exact Ev.sub (ks := [1, 2, 3, 4, 0]) rfl h
set_option maxHeartbeats 4000000 in
set_option maxRecDepth 100000 in
theorem B_X1_put_34 (G : eG) (M : eM) (F : eM → Prop) (x1 : Int32) (x2 : Int32) (x3 : Int32) (x4 : Int32)
    (h : ((6 ≤ x4) → F M) ∧ ((¬ 6 ≤ x4) → vp_in ((x2 * 6) + x4) 294 ∧ ((((M 29 ((x2 * 6) + x4).toNatClampNeg) < 0) → Ev (eZ G 0 68 0 0 (eFV F)) G 0 68 (2, 0, 0) kX1_put 97 [(0, .ref (G.1 23)), (1, .int x1), (2, .int x2), (3, .int x3), (4, .int x4)] [] M 0 0) ∧ ((¬ (M 29 ((x2 * 6) + x4).toNatClampNeg) < 0) → Cal G 0 68 (1, 0, 0) kX1_numberOf [.ref (G.1 23), .int x1, .int x4, .int x3] M (eFI (fun (r1 : Int32) (M1 : eM) => vp_in (((M 29 ((x2 * 6) + x4).toNatClampNeg) * 6) + ((x4 + 3) - (x4 + 3) / 6 * 6)) 294 ∧ (vp_in (M 29 ((x2 * 6) + x4).toNatClampNeg) 49 ∧ (vp_in (M 29 ((x2 * 6) + x4).toNatClampNeg) 49 ∧ (Ev (eZ G 0 68 0 0 (eFV F)) G 0 68 (2, 0, 0) kX1_put 97 [(0, .ref (G.1 23)), (1, .int x1), (2, .int x2), (3, .int x3), (4, .int x4)] [] (eU (eU M1 30 (((M 29 ((x2 * 6) + x4).toNatClampNeg) * 6) + ((x4 + 3) - (x4 + 3) / 6 * 6)).toNatClampNeg r1) 31 (M 29 ((x2 * 6) + x4).toNatClampNeg).toNatClampNeg (((eU M1 30 (((M 29 ((x2 * 6) + x4).toNatClampNeg) * 6) + ((x4 + 3) - (x4 + 3) / 6 * 6)).toNatClampNeg r1) 31 (M 29 ((x2 * 6) + x4).toNatClampNeg).toNatClampNeg) + 1)) 0 0))))))))) :
    Ev (eZ G 0 68 0 0 (eFV F)) G 0 68 (2, 0, 0) kX1_put 34 [(0, .ref (G.1 23)), (1, .int x1), (2, .int x2), (3, .int x3), (4, .int x4)] [] M 0 0 := by
  refine r_iload 4 dX1_put_34 rfl ?_
  refine r_bipush (v := 6) dX1_put_36 rfl ?_
  refine r_icmp_ge (t := 103) dX1_put_38 (by decide) (fun q => ?_) (fun q => ?_)
  · replace h := h.1 q
    refine r_vretV dX1_put_103 rfl (by decide) (by decide) h
  · replace h := h.2 q
    refine r_aload_n 0 dX1_put_41 rfl rfl ?_
    refine r_getR (c := 23) (k := 10) 29 dX1_put_42 clX1 lFX1_27 (by decide) iF23 sC23 rfl ?_
    refine r_iload_n 2 dX1_put_45 rfl rfl ?_
    refine r_bipush (v := 6) dX1_put_46 rfl ?_
    refine r_imul dX1_put_48 ?_
    refine r_iload 4 dX1_put_49 rfl ?_
    refine r_iadd dX1_put_51 ?_
    have h1 := h.1
    replace h := h.2
    refine r_iald (c := 29) (N := 294) dX1_put_52 iF29 sC29 h1 ?_
    refine r_istore (l' := [(5, .int (M 29 ((x2 * 6) + x4).toNatClampNeg)), (0, .ref (G.1 23)), (1, .int x1), (2, .int x2), (3, .int x3), (4, .int x4)]) dX1_put_53 (by decide) rfl ?_
    refine r_iload 0 dX1_put_55 rfl ?_
    refine r_if_lt (t := 97) dX1_put_57 (by decide) (fun q => ?_) (fun q => ?_)
    · replace h := h.1 q
      exact Ev.sub (ks := [1, 2, 3, 4, 5]) rfl h
    · replace h := h.2 q
      refine r_aload_n 1 dX1_put_60 rfl rfl ?_
      refine r_getR (c := 23) (k := 11) 30 dX1_put_61 clX1 lFX1_30 (by decide) iF23 sC23 rfl ?_
      refine r_iload 0 dX1_put_64 rfl ?_
      refine r_bipush (v := 6) dX1_put_66 rfl ?_
      refine r_imul dX1_put_68 ?_
      refine r_iload 5 dX1_put_69 rfl ?_
      refine r_iconst (v := 3) dX1_put_71 rfl ?_
      refine r_iadd dX1_put_72 ?_
      refine r_bipush (v := 6) dX1_put_73 rfl ?_
      refine r_irem dX1_put_75 (by decide) ?_
      refine r_iadd dX1_put_76 ?_
      refine r_aload_n 1 dX1_put_77 rfl rfl ?_
      refine r_iload_n 2 dX1_put_78 rfl rfl ?_
      refine r_iload 5 dX1_put_79 rfl ?_
      refine r_iload_n 4 dX1_put_81 rfl rfl ?_
      refine r_callVI (b' := (1, 0, 0)) (c := 23) (S := [.int (((M 29 ((x2 * 6) + x4).toNatClampNeg) * 6) + ((x4 + 3) - (x4 + 3) / 6 * 6)), .ref (G.1 30)]) [.int x1, .int x4, .int x3] dX1_put_82 mX1_numberOf lMX1_101 clX1 rfl iF23 sC23 rfl (by decide) (Nat.le_of_ble_eq_true rfl) h (fun r1 M1 h => ?_) rfl
      have h1 := h.1
      replace h := h.2
      refine r_iast (c := 30) (N := 294) dX1_put_85 iF30 sC30 h1 ?_
      refine r_aload_n 1 dX1_put_86 rfl rfl ?_
      refine r_getR (c := 23) (k := 12) 31 dX1_put_87 clX1 lFX1_33 (by decide) iF23 sC23 rfl ?_
      refine r_iload 0 dX1_put_90 rfl ?_
      refine r_dup2 dX1_put_92 rfl rfl ?_
      have h1 := h.1
      replace h := h.2
      refine r_iald (c := 31) (N := 49) dX1_put_93 iF31 sC31 h1 ?_
      refine r_iconst (v := 1) dX1_put_94 rfl ?_
      refine r_iadd dX1_put_95 ?_
      have h1 := h.1
      replace h := h.2
      refine r_iast (c := 31) (N := 49) dX1_put_96 iF31 sC31 h1 ?_
      exact Ev.sub (ks := [1, 2, 3, 4, 5]) rfl h
set_option maxHeartbeats 4000000 in
set_option maxRecDepth 100000 in
theorem C_X1_put (G : eG) (M : eM) (F : eM → Prop) (a1 : Int32) (a2 : Int32) (a3 : Int32)
    (h : vp_in a2 49 ∧ (vp_in a1 16 ∧ (vp_in a1 16 ∧ (Ev (eZ G 0 68 0 0 (eFV F)) G 0 68 (2, 0, 0) kX1_put 34 [(0, .ref (G.1 23)), (1, .int a1), (2, .int a2), (3, .int a3), (4, .int 0)] [] (eU (eU (eU (eU M 24 a2.toNatClampNeg a1) 25 a1.toNatClampNeg a2) 26 a1.toNatClampNeg a3) 23 4 (((eU (eU (eU M 24 a2.toNatClampNeg a1) 25 a1.toNatClampNeg a2) 26 a1.toNatClampNeg a3) 23 4) + 1)) 0 0)))) :
    Cal G 0 68 (2, 0, 0) kX1_put [.ref (G.1 23), .int a1, .int a2, .int a3] M (eFV F) := by
  refine Cal.of (by decide +kernel) rfl (Nat.le_of_ble_eq_true rfl) ?_
  show Ev (eZ G 0 68 0 0 (eFV F)) G 0 68 (2, 0, 0) kX1_put 0 [(0, .ref (G.1 23)), (1, .int a1), (2, .int a2), (3, .int a3)] [] M 0 0
  refine r_aload_n 0 dX1_put_0 rfl rfl ?_
  refine r_getR (c := 23) (k := 5) 24 dX1_put_1 clX1 lFX1_9 (by decide) iF23 sC23 rfl ?_
  refine r_iload_n 2 dX1_put_4 rfl rfl ?_
  refine r_iload_n 1 dX1_put_5 rfl rfl ?_
  have h1 := h.1
  replace h := h.2
  refine r_iast (c := 24) (N := 49) dX1_put_6 iF24 sC24 h1 ?_
  refine r_aload_n 0 dX1_put_7 rfl rfl ?_
  refine r_getR (c := 23) (k := 6) 25 dX1_put_8 clX1 lFX1_15 (by decide) iF23 sC23 rfl ?_
  refine r_iload_n 1 dX1_put_11 rfl rfl ?_
  refine r_iload_n 2 dX1_put_12 rfl rfl ?_
  have h1 := h.1
  replace h := h.2
  refine r_iast (c := 25) (N := 16) dX1_put_13 iF25 sC25 h1 ?_
  refine r_aload_n 0 dX1_put_14 rfl rfl ?_
  refine r_getR (c := 23) (k := 7) 26 dX1_put_15 clX1 lFX1_18 (by decide) iF23 sC23 rfl ?_
  refine r_iload_n 1 dX1_put_18 rfl rfl ?_
  refine r_iload_n 3 dX1_put_19 rfl rfl ?_
  have h1 := h.1
  replace h := h.2
  refine r_iast (c := 26) (N := 16) dX1_put_20 iF26 sC26 h1 ?_
  refine r_aload_n 0 dX1_put_21 rfl rfl ?_
  refine r_dup dX1_put_22 rfl ?_
  refine r_getI (c := 23) (k := 4) dX1_put_23 clX1 lFX1_74 (by decide) iF23 sC23 rfl ?_
  refine r_iconst (v := 1) dX1_put_26 rfl ?_
  refine r_iadd dX1_put_27 ?_
  refine r_putI (c := 23) (k := 4) dX1_put_28 clX1 lFX1_74 (by decide) iF23 sC23 rfl rfl rfl ?_
  refine r_iconst (v := 0) dX1_put_31 rfl ?_
  refine r_istore (l' := [(4, .int 0), (0, .ref (G.1 23)), (1, .int a1), (2, .int a2), (3, .int a3)]) dX1_put_32 (by decide) rfl ?_
  exact Ev.sub (ks := [1, 2, 3, 4, 0]) rfl h
set_option maxHeartbeats 4000000 in
set_option maxRecDepth 100000 in
theorem B_X1_lift_91 (G : eG) (M : eM) (F : eM → Prop) (x2 : Int32) (x3 : Int32)
    (h : Ev (eZ G 0 68 0 0 (eFV F)) G 0 68 (1, 0, 0) kX1_lift 38 [(0, .ref (G.1 23)), (2, .int x2), (3, .int (x3 + 1))] [] M 0 0) :
    Ev (eZ G 0 68 0 0 (eFV F)) G 0 68 (1, 0, 0) kX1_lift 91 [(0, .ref (G.1 23)), (2, .int x2), (3, .int x3)] [] M 0 0 := by
  refine r_iinc (v := x3 + 1) (l' := [(3, .int (x3 + 1)), (0, .ref (G.1 23)), (2, .int x2)]) 2 dX1_lift_91 rfl rfl (by decide) rfl ?_
  refine r_goto (t := 38) dX1_lift_94 (by decide) ?_
  exact Ev.sub (ks := [1, 2, 0]) rfl h
set_option maxHeartbeats 4000000 in
set_option maxRecDepth 100000 in
theorem B_X1_lift_38 (G : eG) (M : eM) (F : eM → Prop) (x2 : Int32) (x3 : Int32)
    (h : ((6 ≤ x3) → F M) ∧ ((¬ 6 ≤ x3) → vp_in ((x2 * 6) + x3) 294 ∧ ((((M 29 ((x2 * 6) + x3).toNatClampNeg) < 0) → Ev (eZ G 0 68 0 0 (eFV F)) G 0 68 (1, 0, 0) kX1_lift 91 [(0, .ref (G.1 23)), (2, .int x2), (3, .int x3)] [] M 0 0) ∧ ((¬ (M 29 ((x2 * 6) + x3).toNatClampNeg) < 0) → vp_in (((M 29 ((x2 * 6) + x3).toNatClampNeg) * 6) + ((x3 + 3) - (x3 + 3) / 6 * 6)) 294 ∧ (vp_in (M 29 ((x2 * 6) + x3).toNatClampNeg) 49 ∧ (vp_in (M 29 ((x2 * 6) + x3).toNatClampNeg) 49 ∧ (Ev (eZ G 0 68 0 0 (eFV F)) G 0 68 (1, 0, 0) kX1_lift 91 [(0, .ref (G.1 23)), (2, .int x2), (3, .int x3)] [] (eU (eU M 30 (((M 29 ((x2 * 6) + x3).toNatClampNeg) * 6) + ((x3 + 3) - (x3 + 3) / 6 * 6)).toNatClampNeg (-1)) 31 (M 29 ((x2 * 6) + x3).toNatClampNeg).toNatClampNeg (((eU M 30 (((M 29 ((x2 * 6) + x3).toNatClampNeg) * 6) + ((x3 + 3) - (x3 + 3) / 6 * 6)).toNatClampNeg (-1)) 31 (M 29 ((x2 * 6) + x3).toNatClampNeg).toNatClampNeg) - 1)) 0 0))))))) :
    Ev (eZ G 0 68 0 0 (eFV F)) G 0 68 (1, 0, 0) kX1_lift 38 [(0, .ref (G.1 23)), (2, .int x2), (3, .int x3)] [] M 0 0 := by
  refine r_iload_n 2 dX1_lift_38 rfl rfl ?_
  refine r_bipush (v := 6) dX1_lift_39 rfl ?_
  refine r_icmp_ge (t := 97) dX1_lift_41 (by decide) (fun q => ?_) (fun q => ?_)
  · replace h := h.1 q
    refine r_vretV dX1_lift_97 rfl (by decide) (by decide) h
  · replace h := h.2 q
    refine r_aload_n 0 dX1_lift_44 rfl rfl ?_
    refine r_getR (c := 23) (k := 10) 29 dX1_lift_45 clX1 lFX1_27 (by decide) iF23 sC23 rfl ?_
    refine r_iload_n 1 dX1_lift_48 rfl rfl ?_
    refine r_bipush (v := 6) dX1_lift_49 rfl ?_
    refine r_imul dX1_lift_51 ?_
    refine r_iload_n 2 dX1_lift_52 rfl rfl ?_
    refine r_iadd dX1_lift_53 ?_
    have h1 := h.1
    replace h := h.2
    refine r_iald (c := 29) (N := 294) dX1_lift_54 iF29 sC29 h1 ?_
    refine r_istore (l' := [(4, .int (M 29 ((x2 * 6) + x3).toNatClampNeg)), (0, .ref (G.1 23)), (2, .int x2), (3, .int x3)]) dX1_lift_55 (by decide) rfl ?_
    refine r_iload 0 dX1_lift_57 rfl ?_
    refine r_if_lt (t := 91) dX1_lift_59 (by decide) (fun q => ?_) (fun q => ?_)
    · replace h := h.1 q
      exact Ev.sub (ks := [1, 2, 3]) rfl h
    · replace h := h.2 q
      refine r_aload_n 1 dX1_lift_62 rfl rfl ?_
      refine r_getR (c := 23) (k := 11) 30 dX1_lift_63 clX1 lFX1_30 (by decide) iF23 sC23 rfl ?_
      refine r_iload 0 dX1_lift_66 rfl ?_
      refine r_bipush (v := 6) dX1_lift_68 rfl ?_
      refine r_imul dX1_lift_70 ?_
      refine r_iload_n 3 dX1_lift_71 rfl rfl ?_
      refine r_iconst (v := 3) dX1_lift_72 rfl ?_
      refine r_iadd dX1_lift_73 ?_
      refine r_bipush (v := 6) dX1_lift_74 rfl ?_
      refine r_irem dX1_lift_76 (by decide) ?_
      refine r_iadd dX1_lift_77 ?_
      refine r_iconst (v := (-1)) dX1_lift_78 rfl ?_
      have h1 := h.1
      replace h := h.2
      refine r_iast (c := 30) (N := 294) dX1_lift_79 iF30 sC30 h1 ?_
      refine r_aload_n 1 dX1_lift_80 rfl rfl ?_
      refine r_getR (c := 23) (k := 12) 31 dX1_lift_81 clX1 lFX1_33 (by decide) iF23 sC23 rfl ?_
      refine r_iload 0 dX1_lift_84 rfl ?_
      refine r_dup2 dX1_lift_86 rfl rfl ?_
      have h1 := h.1
      replace h := h.2
      refine r_iald (c := 31) (N := 49) dX1_lift_87 iF31 sC31 h1 ?_
      refine r_iconst (v := 1) dX1_lift_88 rfl ?_
      refine r_isub dX1_lift_89 ?_
      have h1 := h.1
      replace h := h.2
      refine r_iast (c := 31) (N := 49) dX1_lift_90 iF31 sC31 h1 ?_
      exact Ev.sub (ks := [1, 2, 3]) rfl h
set_option maxHeartbeats 4000000 in
set_option maxRecDepth 100000 in
theorem C_X1_lift (G : eG) (M : eM) (F : eM → Prop) (a1 : Int32)
    (h : vp_in a1 16 ∧ (((0 ≤ (M 25 a1.toNatClampNeg)) → vp_in (M 25 a1.toNatClampNeg) 49 ∧ (vp_in a1 16 ∧ (Ev (eZ G 0 68 0 0 (eFV F)) G 0 68 (1, 0, 0) kX1_lift 38 [(0, .ref (G.1 23)), (2, .int (M 25 a1.toNatClampNeg)), (3, .int 0)] [] (eU (eU (eU M 24 (M 25 a1.toNatClampNeg).toNatClampNeg (-1)) 25 a1.toNatClampNeg (-1)) 23 4 (((eU (eU M 24 (M 25 a1.toNatClampNeg).toNatClampNeg (-1)) 25 a1.toNatClampNeg (-1)) 23 4) - 1)) 0 0))) ∧ ((¬ 0 ≤ (M 25 a1.toNatClampNeg)) → F M))) :
    Cal G 0 68 (1, 0, 0) kX1_lift [.ref (G.1 23), .int a1] M (eFV F) := by
  refine Cal.of (by decide +kernel) rfl (Nat.le_of_ble_eq_true rfl) ?_
  show Ev (eZ G 0 68 0 0 (eFV F)) G 0 68 (1, 0, 0) kX1_lift 0 [(0, .ref (G.1 23)), (1, .int a1)] [] M 0 0
  refine r_aload_n 0 dX1_lift_0 rfl rfl ?_
  refine r_getR (c := 23) (k := 6) 25 dX1_lift_1 clX1 lFX1_15 (by decide) iF23 sC23 rfl ?_
  refine r_iload_n 1 dX1_lift_4 rfl rfl ?_
  have h1 := h.1
  replace h := h.2
  refine r_iald (c := 25) (N := 16) dX1_lift_5 iF25 sC25 h1 ?_
  refine r_istore_n (l' := [(2, .int (M 25 a1.toNatClampNeg)), (0, .ref (G.1 23)), (1, .int a1)]) dX1_lift_6 rfl (by decide) rfl ?_
  refine r_iload_n 0 dX1_lift_7 rfl rfl ?_
  refine r_if_ge (t := 12) dX1_lift_8 (by decide) (fun q => ?_) (fun q => ?_)
  · replace h := h.1 q
    refine r_aload_n 1 dX1_lift_12 rfl rfl ?_
    refine r_getR (c := 23) (k := 5) 24 dX1_lift_13 clX1 lFX1_9 (by decide) iF23 sC23 rfl ?_
    refine r_iload_n 0 dX1_lift_16 rfl rfl ?_
    refine r_iconst (v := (-1)) dX1_lift_17 rfl ?_
    have h1 := h.1
    replace h := h.2
    refine r_iast (c := 24) (N := 49) dX1_lift_18 iF24 sC24 h1 ?_
    refine r_aload_n 1 dX1_lift_19 rfl rfl ?_
    refine r_getR (c := 23) (k := 6) 25 dX1_lift_20 clX1 lFX1_15 (by decide) iF23 sC23 rfl ?_
    refine r_iload_n 2 dX1_lift_23 rfl rfl ?_
    refine r_iconst (v := (-1)) dX1_lift_24 rfl ?_
    have h1 := h.1
    replace h := h.2
    refine r_iast (c := 25) (N := 16) dX1_lift_25 iF25 sC25 h1 ?_
    refine r_aload_n 1 dX1_lift_26 rfl rfl ?_
    refine r_dup dX1_lift_27 rfl ?_
    refine r_getI (c := 23) (k := 4) dX1_lift_28 clX1 lFX1_74 (by decide) iF23 sC23 rfl ?_
    refine r_iconst (v := 1) dX1_lift_31 rfl ?_
    refine r_isub dX1_lift_32 ?_
    refine r_putI (c := 23) (k := 4) dX1_lift_33 clX1 lFX1_74 (by decide) iF23 sC23 rfl rfl rfl ?_
    refine r_iconst (v := 0) dX1_lift_36 rfl ?_
    refine r_istore_n (l' := [(3, .int 0), (2, .int (M 25 a1.toNatClampNeg)), (0, .ref (G.1 23)), (1, .int a1)]) dX1_lift_37 rfl (by decide) rfl ?_
    exact Ev.sub (ks := [2, 1, 0]) rfl h
  · replace h := h.2 q
    refine r_vretV dX1_lift_11 rfl (by decide) (by decide) h
set_option maxHeartbeats 4000000 in
set_option maxRecDepth 100000 in
theorem B_X1_pointsFor_60 (G : eG) (M : eM) (F : Int32 → eM → Prop) (x1 : Int32) (x2 : Int32) (x3 : Int32)
    (h : Ev (eZ G 0 68 0 0 (eFI F)) G 0 68 (2, 0, 0) kX1_pointsFor 4 [(0, .ref (G.1 23)), (1, .int x1), (2, .int x2), (3, .int (x3 + 1))] [] M 0 0) :
    Ev (eZ G 0 68 0 0 (eFI F)) G 0 68 (2, 0, 0) kX1_pointsFor 60 [(0, .ref (G.1 23)), (1, .int x1), (2, .int x2), (3, .int x3)] [] M 0 0 := by
  refine r_iinc (v := x3 + 1) (l' := [(3, .int (x3 + 1)), (0, .ref (G.1 23)), (1, .int x1), (2, .int x2)]) 3 dX1_pointsFor_60 rfl rfl (by decide) rfl ?_
  refine r_goto (t := 4) dX1_pointsFor_63 (by decide) ?_
  exact Ev.sub (ks := [1, 2, 3, 0]) rfl h
set_option maxHeartbeats 4000000 in
set_option maxRecDepth 100000 in
theorem B_X1_pointsFor_4 (G : eG) (M : eM) (F : Int32 → eM → Prop) (x1 : Int32) (x2 : Int32) (x3 : Int32)
    (h : ((6 ≤ x3) → F x2 M) ∧ ((¬ 6 ≤ x3) → vp_in ((x1 * 6) + x3) 294 ∧ (vp_in ((x1 * 6) + x3) 294 ∧ ((((M 29 ((x1 * 6) + x3).toNatClampNeg) < 0) → Ev (eZ G 0 68 0 0 (eFI F)) G 0 68 (2, 0, 0) kX1_pointsFor 60 [(0, .ref (G.1 23)), (1, .int x1), (2, .int (x2 + (if (M 30 ((x1 * 6) + x3).toNatClampNeg) < 0 then 0 else (M 30 ((x1 * 6) + x3).toNatClampNeg)))), (3, .int x3)] [] M 0 0) ∧ ((¬ (M 29 ((x1 * 6) + x3).toNatClampNeg) < 0) → vp_in (M 29 ((x1 * 6) + x3).toNatClampNeg) 49 ∧ (((¬ (M 31 (M 29 ((x1 * 6) + x3).toNatClampNeg).toNatClampNeg) = 5) → Ev (eZ G 0 68 0 0 (eFI F)) G 0 68 (2, 0, 0) kX1_pointsFor 60 [(0, .ref (G.1 23)), (1, .int x1), (2, .int (x2 + (if (M 30 ((x1 * 6) + x3).toNatClampNeg) < 0 then 0 else (M 30 ((x1 * 6) + x3).toNatClampNeg)))), (3, .int x3)] [] M 0 0) ∧ (((M 31 (M 29 ((x1 * 6) + x3).toNatClampNeg).toNatClampNeg) = 5) → Ev (eZ G 0 68 0 0 (eFI F)) G 0 68 (2, 0, 0) kX1_pointsFor 60 [(0, .ref (G.1 23)), (1, .int x1), (2, .int ((x2 + (if (M 30 ((x1 * 6) + x3).toNatClampNeg) < 0 then 0 else (M 30 ((x1 * 6) + x3).toNatClampNeg))) + 10)), (3, .int x3)] [] M 0 0))))))) :
    Ev (eZ G 0 68 0 0 (eFI F)) G 0 68 (2, 0, 0) kX1_pointsFor 4 [(0, .ref (G.1 23)), (1, .int x1), (2, .int x2), (3, .int x3)] [] M 0 0 := by
  refine r_iload_n 3 dX1_pointsFor_4 rfl rfl ?_
  refine r_bipush (v := 6) dX1_pointsFor_5 rfl ?_
  refine r_icmp_ge (t := 66) dX1_pointsFor_7 (by decide) (fun q => ?_) (fun q => ?_)
  · replace h := h.1 q
    refine r_iload_n 2 dX1_pointsFor_66 rfl rfl ?_
    refine r_iretI dX1_pointsFor_67 rfl (by decide) (by decide) h
  · replace h := h.2 q
    refine r_iload_n 2 dX1_pointsFor_10 rfl rfl ?_
    refine r_aload_n 0 dX1_pointsFor_11 rfl rfl ?_
    refine r_getR (c := 23) (k := 11) 30 dX1_pointsFor_12 clX1 lFX1_30 (by decide) iF23 sC23 rfl ?_
    refine r_iload_n 1 dX1_pointsFor_15 rfl rfl ?_
    refine r_bipush (v := 6) dX1_pointsFor_16 rfl ?_
    refine r_imul dX1_pointsFor_18 ?_
    refine r_iload_n 3 dX1_pointsFor_19 rfl rfl ?_
    refine r_iadd dX1_pointsFor_20 ?_
    have h1 := h.1
    replace h := h.2
    refine r_iald (c := 30) (N := 294) dX1_pointsFor_21 iF30 sC30 h1 ?_
    refine r_iconst (v := 0) dX1_pointsFor_22 rfl ?_
    refine r_mmax dX1_pointsFor_23 lMX1_117 eMm_max1 eMm_i eMm_max2 (by decide) (Nat.le_of_ble_eq_true rfl) ⟨Nat.le_refl _, Nat.le_refl _⟩ ?_
    refine r_iadd dX1_pointsFor_26 ?_
    refine r_istore_n (l' := [(2, .int (x2 + (if (M 30 ((x1 * 6) + x3).toNatClampNeg) < 0 then 0 else (M 30 ((x1 * 6) + x3).toNatClampNeg)))), (0, .ref (G.1 23)), (1, .int x1), (3, .int x3)]) dX1_pointsFor_27 rfl (by decide) rfl ?_
    refine r_aload_n 1 dX1_pointsFor_28 rfl rfl ?_
    refine r_getR (c := 23) (k := 10) 29 dX1_pointsFor_29 clX1 lFX1_27 (by decide) iF23 sC23 rfl ?_
    refine r_iload_n 2 dX1_pointsFor_32 rfl rfl ?_
    refine r_bipush (v := 6) dX1_pointsFor_33 rfl ?_
    refine r_imul dX1_pointsFor_35 ?_
    refine r_iload_n 3 dX1_pointsFor_36 rfl rfl ?_
    refine r_iadd dX1_pointsFor_37 ?_
    have h1 := h.1
    replace h := h.2
    refine r_iald (c := 29) (N := 294) dX1_pointsFor_38 iF29 sC29 h1 ?_
    refine r_istore (l' := [(4, .int (M 29 ((x1 * 6) + x3).toNatClampNeg)), (2, .int (x2 + (if (M 30 ((x1 * 6) + x3).toNatClampNeg) < 0 then 0 else (M 30 ((x1 * 6) + x3).toNatClampNeg)))), (0, .ref (G.1 23)), (1, .int x1), (3, .int x3)]) dX1_pointsFor_39 (by decide) rfl ?_
    refine r_iload 0 dX1_pointsFor_41 rfl ?_
    refine r_if_lt (t := 60) dX1_pointsFor_43 (by decide) (fun q => ?_) (fun q => ?_)
    · replace h := h.1 q
      exact Ev.sub (ks := [2, 3, 1, 4]) rfl h
    · replace h := h.2 q
      refine r_aload_n 2 dX1_pointsFor_46 rfl rfl ?_
      refine r_getR (c := 23) (k := 12) 31 dX1_pointsFor_47 clX1 lFX1_33 (by decide) iF23 sC23 rfl ?_
      refine r_iload 0 dX1_pointsFor_50 rfl ?_
      have h1 := h.1
      replace h := h.2
      refine r_iald (c := 31) (N := 49) dX1_pointsFor_52 iF31 sC31 h1 ?_
      refine r_iconst (v := 5) dX1_pointsFor_53 rfl ?_
      refine r_icmp_ne (t := 60) dX1_pointsFor_54 (by decide) (fun q => ?_) (fun q => ?_)
      · replace h := h.1 q
        exact Ev.sub (ks := [2, 3, 1, 4]) rfl h
      · replace h := h.2 q
        refine r_iinc (v := (x2 + (if (M 30 ((x1 * 6) + x3).toNatClampNeg) < 0 then 0 else (M 30 ((x1 * 6) + x3).toNatClampNeg))) + 10) (l' := [(2, .int ((x2 + (if (M 30 ((x1 * 6) + x3).toNatClampNeg) < 0 then 0 else (M 30 ((x1 * 6) + x3).toNatClampNeg))) + 10)), (4, .int (M 29 ((x1 * 6) + x3).toNatClampNeg)), (0, .ref (G.1 23)), (1, .int x1), (3, .int x3)]) 1 dX1_pointsFor_57 rfl rfl (by decide) rfl ?_
        exact Ev.sub (ks := [2, 3, 0, 4]) rfl h
set_option maxHeartbeats 4000000 in
set_option maxRecDepth 100000 in
theorem C_X1_pointsFor (G : eG) (M : eM) (F : Int32 → eM → Prop) (a1 : Int32)
    (h : Ev (eZ G 0 68 0 0 (eFI F)) G 0 68 (2, 0, 0) kX1_pointsFor 4 [(0, .ref (G.1 23)), (1, .int a1), (2, .int 0), (3, .int 0)] [] M 0 0) :
    Cal G 0 68 (2, 0, 0) kX1_pointsFor [.ref (G.1 23), .int a1] M (eFI F) := by
  refine Cal.of (by decide +kernel) rfl (Nat.le_of_ble_eq_true rfl) ?_
  show Ev (eZ G 0 68 0 0 (eFI F)) G 0 68 (2, 0, 0) kX1_pointsFor 0 [(0, .ref (G.1 23)), (1, .int a1)] [] M 0 0
  refine r_iconst (v := 0) dX1_pointsFor_0 rfl ?_
  refine r_istore_n (l' := [(2, .int 0), (0, .ref (G.1 23)), (1, .int a1)]) dX1_pointsFor_1 rfl (by decide) rfl ?_
  refine r_iconst (v := 0) dX1_pointsFor_2 rfl ?_
  refine r_istore_n (l' := [(3, .int 0), (2, .int 0), (0, .ref (G.1 23)), (1, .int a1)]) dX1_pointsFor_3 rfl (by decide) rfl ?_
  exact Ev.sub (ks := [2, 3, 1, 0]) rfl h
set_option maxHeartbeats 4000000 in
set_option maxRecDepth 100000 in
theorem B_X1_richestCell_46 (G : eG) (M : eM) (F : Int32 → eM → Prop) (x1 : Int32) (x2 : Int32) (x3 : Int32) (x4 : Int32)
    (h : Ev (eZ G 0 68 0 0 (eFI F)) G 0 68 (3, 0, 0) kX1_richestCell 7 [(0, .ref (G.1 23)), (1, .int x1), (2, .int x2), (3, .int x3), (4, .int (x4 + 1))] [] M 0 0) :
    Ev (eZ G 0 68 0 0 (eFI F)) G 0 68 (3, 0, 0) kX1_richestCell 46 [(0, .ref (G.1 23)), (1, .int x1), (2, .int x2), (3, .int x3), (4, .int x4)] [] M 0 0 := by
  refine r_iinc (v := x4 + 1) (l' := [(4, .int (x4 + 1)), (0, .ref (G.1 23)), (1, .int x1), (2, .int x2), (3, .int x3)]) 4 dX1_richestCell_46 rfl rfl (by decide) rfl ?_
  refine r_goto (t := 7) dX1_richestCell_49 (by decide) ?_
  exact Ev.sub (ks := [1, 2, 3, 4, 0]) rfl h
set_option maxHeartbeats 4000000 in
set_option maxRecDepth 100000 in
theorem B_X1_richestCell_7 (G : eG) (M : eM) (F : Int32 → eM → Prop) (x1 : Int32) (x2 : Int32) (x3 : Int32) (x4 : Int32)
    (h : (((M 23 2) ≤ x4) → F x2 M) ∧ ((¬ (M 23 2) ≤ x4) → Cal G 0 68 (1, 0, 0) kX1_turnsFitting [.ref (G.1 23), .int x1, .int x4] M (eFI (fun (r1 : Int32) (M1 : eM) => ((r1 = 0) → Ev (eZ G 0 68 0 0 (eFI F)) G 0 68 (3, 0, 0) kX1_richestCell 46 [(0, .ref (G.1 23)), (1, .int x1), (2, .int x2), (3, .int x3), (4, .int x4)] [] M1 0 0) ∧ ((¬ r1 = 0) → Cal G 0 68 (2, 0, 0) kX1_pointsFor [.ref (G.1 23), .int x4] M1 (eFI (fun (r2 : Int32) (M2 : eM) => ((r2 ≤ x3) → Ev (eZ G 0 68 0 0 (eFI F)) G 0 68 (3, 0, 0) kX1_richestCell 46 [(0, .ref (G.1 23)), (1, .int x1), (2, .int x2), (3, .int x3), (4, .int x4)] [] M2 0 0) ∧ ((¬ r2 ≤ x3) → Cal G 0 68 (2, 0, 0) kX1_pointsFor [.ref (G.1 23), .int x4] M2 (eFI (fun (r3 : Int32) (M3 : eM) => Ev (eZ G 0 68 0 0 (eFI F)) G 0 68 (3, 0, 0) kX1_richestCell 46 [(0, .ref (G.1 23)), (1, .int x1), (2, .int x4), (3, .int r3), (4, .int x4)] [] M3 0 0)))))))))) :
    Ev (eZ G 0 68 0 0 (eFI F)) G 0 68 (3, 0, 0) kX1_richestCell 7 [(0, .ref (G.1 23)), (1, .int x1), (2, .int x2), (3, .int x3), (4, .int x4)] [] M 0 0 := by
  refine r_iload 4 dX1_richestCell_7 rfl ?_
  refine r_aload_n 0 dX1_richestCell_9 rfl rfl ?_
  refine r_getI (c := 23) (k := 2) dX1_richestCell_10 clX1 lFX1_65 (by decide) iF23 sC23 rfl ?_
  refine r_icmp_ge (t := 52) dX1_richestCell_13 (by decide) (fun q => ?_) (fun q => ?_)
  · replace h := h.1 q
    refine r_iload_n 2 dX1_richestCell_52 rfl rfl ?_
    refine r_iretI dX1_richestCell_53 rfl (by decide) (by decide) h
  · replace h := h.2 q
    refine r_aload_n 0 dX1_richestCell_16 rfl rfl ?_
    refine r_iload_n 1 dX1_richestCell_17 rfl rfl ?_
    refine r_iload 4 dX1_richestCell_18 rfl ?_
    refine r_callVI (b' := (1, 0, 0)) (c := 23) (S := []) [.int x1, .int x4] dX1_richestCell_20 mX1_turnsFitting lMX1_109 clX1 rfl iF23 sC23 rfl (by decide) (Nat.le_of_ble_eq_true rfl) h (fun r1 M1 h => ?_) rfl
    refine r_if_eq (t := 46) dX1_richestCell_23 (by decide) (fun q => ?_) (fun q => ?_)
    · replace h := h.1 q
      exact h
    · replace h := h.2 q
      refine r_aload_n 0 dX1_richestCell_26 rfl rfl ?_
      refine r_iload 4 dX1_richestCell_27 rfl ?_
      refine r_callVI (b' := (2, 0, 0)) (c := 23) (S := []) [.int x4] dX1_richestCell_29 mX1_pointsFor lMX1_120 clX1 rfl iF23 sC23 rfl (by decide) (Nat.le_of_ble_eq_true rfl) h (fun r2 M2 h => ?_) rfl
      refine r_iload_n 3 dX1_richestCell_32 rfl rfl ?_
      refine r_icmp_le (t := 46) dX1_richestCell_33 (by decide) (fun q => ?_) (fun q => ?_)
      · replace h := h.1 q
        exact h
      · replace h := h.2 q
        refine r_iload 4 dX1_richestCell_36 rfl ?_
        refine r_istore_n (l' := [(2, .int x4), (0, .ref (G.1 23)), (1, .int x1), (3, .int x3), (4, .int x4)]) dX1_richestCell_38 rfl (by decide) rfl ?_
        refine r_aload_n 1 dX1_richestCell_39 rfl rfl ?_
        refine r_iload 4 dX1_richestCell_40 rfl ?_
        refine r_callVI (b' := (2, 0, 0)) (c := 23) (S := []) [.int x4] dX1_richestCell_42 mX1_pointsFor lMX1_120 clX1 rfl iF23 sC23 rfl (by decide) (Nat.le_of_ble_eq_true rfl) h (fun r3 M3 h => ?_) rfl
        refine r_istore_n (l' := [(3, .int r3), (2, .int x4), (0, .ref (G.1 23)), (1, .int x1), (4, .int x4)]) dX1_richestCell_45 rfl (by decide) rfl ?_
        exact Ev.sub (ks := [2, 3, 1, 0, 4]) rfl h
set_option maxHeartbeats 4000000 in
set_option maxRecDepth 100000 in
theorem C_X1_richestCell (G : eG) (M : eM) (F : Int32 → eM → Prop) (a1 : Int32)
    (h : Ev (eZ G 0 68 0 0 (eFI F)) G 0 68 (3, 0, 0) kX1_richestCell 7 [(0, .ref (G.1 23)), (1, .int a1), (2, .int (-1)), (3, .int (-1)), (4, .int 0)] [] M 0 0) :
    Cal G 0 68 (3, 0, 0) kX1_richestCell [.ref (G.1 23), .int a1] M (eFI F) := by
  refine Cal.of (by decide +kernel) rfl (Nat.le_of_ble_eq_true rfl) ?_
  show Ev (eZ G 0 68 0 0 (eFI F)) G 0 68 (3, 0, 0) kX1_richestCell 0 [(0, .ref (G.1 23)), (1, .int a1)] [] M 0 0
  refine r_iconst (v := (-1)) dX1_richestCell_0 rfl ?_
  refine r_istore_n (l' := [(2, .int (-1)), (0, .ref (G.1 23)), (1, .int a1)]) dX1_richestCell_1 rfl (by decide) rfl ?_
  refine r_iconst (v := (-1)) dX1_richestCell_2 rfl ?_
  refine r_istore_n (l' := [(3, .int (-1)), (2, .int (-1)), (0, .ref (G.1 23)), (1, .int a1)]) dX1_richestCell_3 rfl (by decide) rfl ?_
  refine r_iconst (v := 0) dX1_richestCell_4 rfl ?_
  refine r_istore (l' := [(4, .int 0), (3, .int (-1)), (2, .int (-1)), (0, .ref (G.1 23)), (1, .int a1)]) dX1_richestCell_5 (by decide) rfl ?_
  exact Ev.sub (ks := [3, 4, 2, 1, 0]) rfl h
set_option maxHeartbeats 4000000 in
set_option maxRecDepth 100000 in
theorem B_X1_richestTile_45 (G : eG) (M : eM) (F : Int32 → eM → Prop) (x1 : Int32) (x2 : Int32) (x3 : Int32)
    (h : Ev (eZ G 0 68 0 0 (eFI F)) G 0 68 (4, 0, 0) kX1_richestTile 6 [(0, .ref (G.1 23)), (1, .int x1), (2, .int x2), (3, .int (x3 + 1))] [] M 0 0) :
    Ev (eZ G 0 68 0 0 (eFI F)) G 0 68 (4, 0, 0) kX1_richestTile 45 [(0, .ref (G.1 23)), (1, .int x1), (2, .int x2), (3, .int x3)] [] M 0 0 := by
  refine r_iinc (v := x3 + 1) (l' := [(3, .int (x3 + 1)), (0, .ref (G.1 23)), (1, .int x1), (2, .int x2)]) 3 dX1_richestTile_45 rfl rfl (by decide) rfl ?_
  refine r_goto (t := 6) dX1_richestTile_48 (by decide) ?_
  exact Ev.sub (ks := [1, 2, 3, 0]) rfl h
set_option maxHeartbeats 4000000 in
set_option maxRecDepth 100000 in
theorem B_X1_richestTile_6 (G : eG) (M : eM) (F : Int32 → eM → Prop) (x1 : Int32) (x2 : Int32) (x3 : Int32)
    (h : (((M 23 3) ≤ x3) → F x1 M) ∧ ((¬ (M 23 3) ≤ x3) → Cal G 0 68 (3, 0, 0) kX1_richestCell [.ref (G.1 23), .int x3] M (eFI (fun (r1 : Int32) (M1 : eM) => ((r1 < 0) → Ev (eZ G 0 68 0 0 (eFI F)) G 0 68 (4, 0, 0) kX1_richestTile 45 [(0, .ref (G.1 23)), (1, .int x1), (2, .int x2), (3, .int x3)] [] M1 0 0) ∧ ((¬ r1 < 0) → Cal G 0 68 (2, 0, 0) kX1_pointsFor [.ref (G.1 23), .int r1] M1 (eFI (fun (r2 : Int32) (M2 : eM) => ((r2 ≤ x2) → Ev (eZ G 0 68 0 0 (eFI F)) G 0 68 (4, 0, 0) kX1_richestTile 45 [(0, .ref (G.1 23)), (1, .int x1), (2, .int x2), (3, .int x3)] [] M2 0 0) ∧ ((¬ r2 ≤ x2) → Cal G 0 68 (2, 0, 0) kX1_pointsFor [.ref (G.1 23), .int r1] M2 (eFI (fun (r3 : Int32) (M3 : eM) => Ev (eZ G 0 68 0 0 (eFI F)) G 0 68 (4, 0, 0) kX1_richestTile 45 [(0, .ref (G.1 23)), (1, .int x3), (2, .int r3), (3, .int x3)] [] M3 0 0)))))))))) :
    Ev (eZ G 0 68 0 0 (eFI F)) G 0 68 (4, 0, 0) kX1_richestTile 6 [(0, .ref (G.1 23)), (1, .int x1), (2, .int x2), (3, .int x3)] [] M 0 0 := by
  refine r_iload_n 3 dX1_richestTile_6 rfl rfl ?_
  refine r_aload_n 0 dX1_richestTile_7 rfl rfl ?_
  refine r_getI (c := 23) (k := 3) dX1_richestTile_8 clX1 lFX1_72 (by decide) iF23 sC23 rfl ?_
  refine r_icmp_ge (t := 51) dX1_richestTile_11 (by decide) (fun q => ?_) (fun q => ?_)
  · replace h := h.1 q
    refine r_iload_n 1 dX1_richestTile_51 rfl rfl ?_
    refine r_iretI dX1_richestTile_52 rfl (by decide) (by decide) h
  · replace h := h.2 q
    refine r_aload_n 0 dX1_richestTile_14 rfl rfl ?_
    refine r_iload_n 3 dX1_richestTile_15 rfl rfl ?_
    refine r_callVI (b' := (3, 0, 0)) (c := 23) (S := []) [.int x3] dX1_richestTile_16 mX1_richestCell lMX1_123 clX1 rfl iF23 sC23 rfl (by decide) (Nat.le_of_ble_eq_true rfl) h (fun r1 M1 h => ?_) rfl
    refine r_istore (l' := [(4, .int r1), (0, .ref (G.1 23)), (1, .int x1), (2, .int x2), (3, .int x3)]) dX1_richestTile_19 (by decide) rfl ?_
    refine r_iload 0 dX1_richestTile_21 rfl ?_
    refine r_if_lt (t := 45) dX1_richestTile_23 (by decide) (fun q => ?_) (fun q => ?_)
    · replace h := h.1 q
      exact Ev.sub (ks := [1, 2, 3, 4]) rfl h
    · replace h := h.2 q
      refine r_aload_n 1 dX1_richestTile_26 rfl rfl ?_
      refine r_iload 0 dX1_richestTile_27 rfl ?_
      refine r_callVI (b' := (2, 0, 0)) (c := 23) (S := []) [.int r1] dX1_richestTile_29 mX1_pointsFor lMX1_120 clX1 rfl iF23 sC23 rfl (by decide) (Nat.le_of_ble_eq_true rfl) h (fun r2 M2 h => ?_) rfl
      refine r_iload_n 3 dX1_richestTile_32 rfl rfl ?_
      refine r_icmp_le (t := 45) dX1_richestTile_33 (by decide) (fun q => ?_) (fun q => ?_)
      · replace h := h.1 q
        exact Ev.sub (ks := [1, 2, 3, 4]) rfl h
      · replace h := h.2 q
        refine r_iload_n 4 dX1_richestTile_36 rfl rfl ?_
        refine r_istore_n (l' := [(1, .int x3), (4, .int r1), (0, .ref (G.1 23)), (2, .int x2), (3, .int x3)]) dX1_richestTile_37 rfl (by decide) rfl ?_
        refine r_aload_n 2 dX1_richestTile_38 rfl rfl ?_
        refine r_iload 1 dX1_richestTile_39 rfl ?_
        refine r_callVI (b' := (2, 0, 0)) (c := 23) (S := []) [.int r1] dX1_richestTile_41 mX1_pointsFor lMX1_120 clX1 rfl iF23 sC23 rfl (by decide) (Nat.le_of_ble_eq_true rfl) h (fun r3 M3 h => ?_) rfl
        refine r_istore_n (l' := [(2, .int r3), (1, .int x3), (4, .int r1), (0, .ref (G.1 23)), (3, .int x3)]) dX1_richestTile_44 rfl (by decide) rfl ?_
        exact Ev.sub (ks := [3, 1, 0, 4]) rfl h
set_option maxHeartbeats 4000000 in
set_option maxRecDepth 100000 in
theorem C_X1_richestTile (G : eG) (M : eM) (F : Int32 → eM → Prop) 
    (h : Ev (eZ G 0 68 0 0 (eFI F)) G 0 68 (4, 0, 0) kX1_richestTile 6 [(0, .ref (G.1 23)), (1, .int (-1)), (2, .int (-1)), (3, .int 0)] [] M 0 0) :
    Cal G 0 68 (4, 0, 0) kX1_richestTile [.ref (G.1 23)] M (eFI F) := by
  refine Cal.of (by decide +kernel) rfl (Nat.le_of_ble_eq_true rfl) ?_
  show Ev (eZ G 0 68 0 0 (eFI F)) G 0 68 (4, 0, 0) kX1_richestTile 0 [(0, .ref (G.1 23))] [] M 0 0
  refine r_iconst (v := (-1)) dX1_richestTile_0 rfl ?_
  refine r_istore_n (l' := [(1, .int (-1)), (0, .ref (G.1 23))]) dX1_richestTile_1 rfl (by decide) rfl ?_
  refine r_iconst (v := (-1)) dX1_richestTile_2 rfl ?_
  refine r_istore_n (l' := [(2, .int (-1)), (1, .int (-1)), (0, .ref (G.1 23))]) dX1_richestTile_3 rfl (by decide) rfl ?_
  refine r_iconst (v := 0) dX1_richestTile_4 rfl ?_
  refine r_istore_n (l' := [(3, .int 0), (2, .int (-1)), (1, .int (-1)), (0, .ref (G.1 23))]) dX1_richestTile_5 rfl (by decide) rfl ?_
  exact Ev.sub (ks := [3, 2, 1, 0]) rfl h
set_option maxHeartbeats 4000000 in
set_option maxRecDepth 100000 in
theorem C_X1_matchesOn (G : eG) (M : eM) (F : Int32 → eM → Prop) (a1 : Int32)
    (h : vp_in a1 49 ∧ ((((M 24 a1.toNatClampNeg) < 0) → F 0 M) ∧ ((¬ (M 24 a1.toNatClampNeg) < 0) → vp_in a1 49 ∧ (F (M 31 a1.toNatClampNeg) M)))) :
    Cal G 0 68 (1, 0, 0) kX1_matchesOn [.ref (G.1 23), .int a1] M (eFI F) := by
  refine Cal.of (by decide +kernel) rfl (Nat.le_of_ble_eq_true rfl) ?_
  show Ev (eZ G 0 68 0 0 (eFI F)) G 0 68 (1, 0, 0) kX1_matchesOn 0 [(0, .ref (G.1 23)), (1, .int a1)] [] M 0 0
  refine r_aload_n 0 dX1_matchesOn_0 rfl rfl ?_
  refine r_getR (c := 23) (k := 5) 24 dX1_matchesOn_1 clX1 lFX1_9 (by decide) iF23 sC23 rfl ?_
  refine r_iload_n 1 dX1_matchesOn_4 rfl rfl ?_
  have h1 := h.1
  replace h := h.2
  refine r_iald (c := 24) (N := 49) dX1_matchesOn_5 iF24 sC24 h1 ?_
  refine r_if_lt (t := 18) dX1_matchesOn_6 (by decide) (fun q => ?_) (fun q => ?_)
  · replace h := h.1 q
    refine r_iconst (v := 0) dX1_matchesOn_18 rfl ?_
    refine r_iretI dX1_matchesOn_19 rfl (by decide) (by decide) h
  · replace h := h.2 q
    refine r_aload_n 0 dX1_matchesOn_9 rfl rfl ?_
    refine r_getR (c := 23) (k := 12) 31 dX1_matchesOn_10 clX1 lFX1_33 (by decide) iF23 sC23 rfl ?_
    refine r_iload_n 1 dX1_matchesOn_13 rfl rfl ?_
    have h1 := h.1
    replace h := h.2
    refine r_iald (c := 31) (N := 49) dX1_matchesOn_14 iF31 sC31 h1 ?_
    refine r_goto (t := 19) dX1_matchesOn_15 (by decide) ?_
    refine r_iretI dX1_matchesOn_19 rfl (by decide) (by decide) h
set_option maxHeartbeats 4000000 in
set_option maxRecDepth 100000 in
theorem C_X1_isEncircled (G : eG) (M : eM) (F : Bool → eM → Prop) (a1 : Int32)
    (h : vp_in a1 49 ∧ (((¬ (M 31 a1.toNatClampNeg) = 6) → F false M) ∧ (((M 31 a1.toNatClampNeg) = 6) → F true M))) :
    Cal G 0 68 (1, 0, 0) kX1_isEncircled [.ref (G.1 23), .int a1] M (eFZ F) := by
  refine Cal.of (by decide +kernel) rfl (Nat.le_of_ble_eq_true rfl) ?_
  show Ev (eZ G 0 68 0 0 (eFZ F)) G 0 68 (1, 0, 0) kX1_isEncircled 0 [(0, .ref (G.1 23)), (1, .int a1)] [] M 0 0
  refine r_aload_n 0 dX1_isEncircled_0 rfl rfl ?_
  refine r_getR (c := 23) (k := 12) 31 dX1_isEncircled_1 clX1 lFX1_33 (by decide) iF23 sC23 rfl ?_
  refine r_iload_n 1 dX1_isEncircled_4 rfl rfl ?_
  have h1 := h.1
  replace h := h.2
  refine r_iald (c := 31) (N := 49) dX1_isEncircled_5 iF31 sC31 h1 ?_
  refine r_bipush (v := 6) dX1_isEncircled_6 rfl ?_
  refine r_icmp_ne (t := 15) dX1_isEncircled_8 (by decide) (fun q => ?_) (fun q => ?_)
  · replace h := h.1 q
    refine r_iconst (v := 0) dX1_isEncircled_15 rfl ?_
    refine r_iretZ0 dX1_isEncircled_16 rfl (by decide) (by decide) h
  · replace h := h.2 q
    refine r_iconst (v := 1) dX1_isEncircled_11 rfl ?_
    refine r_goto (t := 16) dX1_isEncircled_12 (by decide) ?_
    refine r_iretZ1 dX1_isEncircled_16 rfl (by decide) (by decide) h
set_option maxHeartbeats 4000000 in
set_option maxRecDepth 100000 in
theorem B_X1_countMatches_4 (G : eG) (M : eM) (F : Int32 → eM → Prop) (x1 : Int32) (x2 : Int32)
    (h : (((M 23 2) ≤ x2) → F (x1 / 2) M) ∧ ((¬ (M 23 2) ≤ x2) → Cal G 0 68 (1, 0, 0) kX1_matchesOn [.ref (G.1 23), .int x2] M (eFI (fun (r1 : Int32) (M1 : eM) => Ev (eZ G 0 68 0 0 (eFI F)) G 0 68 (2, 0, 0) kX1_countMatches 4 [(0, .ref (G.1 23)), (1, .int (x1 + r1)), (2, .int (x2 + 1))] [] M1 0 0)))) :
    Ev (eZ G 0 68 0 0 (eFI F)) G 0 68 (2, 0, 0) kX1_countMatches 4 [(0, .ref (G.1 23)), (1, .int x1), (2, .int x2)] [] M 0 0 := by
  refine r_iload_n 2 dX1_countMatches_4 rfl rfl ?_
  refine r_aload_n 0 dX1_countMatches_5 rfl rfl ?_
  refine r_getI (c := 23) (k := 2) dX1_countMatches_6 clX1 lFX1_65 (by decide) iF23 sC23 rfl ?_
  refine r_icmp_ge (t := 26) dX1_countMatches_9 (by decide) (fun q => ?_) (fun q => ?_)
  · replace h := h.1 q
    refine r_iload_n 1 dX1_countMatches_26 rfl rfl ?_
    refine r_iconst (v := 2) dX1_countMatches_27 rfl ?_
    refine r_idiv dX1_countMatches_28 (by decide) ?_
    refine r_iretI dX1_countMatches_29 rfl (by decide) (by decide) h
  · replace h := h.2 q
    refine r_iload_n 1 dX1_countMatches_12 rfl rfl ?_
    refine r_aload_n 0 dX1_countMatches_13 rfl rfl ?_
    refine r_iload_n 2 dX1_countMatches_14 rfl rfl ?_
    refine r_callVI (b' := (1, 0, 0)) (c := 23) (S := [.int x1]) [.int x2] dX1_countMatches_15 mX1_matchesOn lMX1_126 clX1 rfl iF23 sC23 rfl (by decide) (Nat.le_of_ble_eq_true rfl) h (fun r1 M1 h => ?_) rfl
    refine r_iadd dX1_countMatches_18 ?_
    refine r_istore_n (l' := [(1, .int (x1 + r1)), (0, .ref (G.1 23)), (2, .int x2)]) dX1_countMatches_19 rfl (by decide) rfl ?_
    refine r_iinc (v := x2 + 1) (l' := [(2, .int (x2 + 1)), (1, .int (x1 + r1)), (0, .ref (G.1 23))]) 2 dX1_countMatches_20 rfl rfl (by decide) rfl ?_
    refine r_goto (t := 4) dX1_countMatches_23 (by decide) ?_
    exact Ev.sub (ks := [2, 1, 0]) rfl h
set_option maxHeartbeats 4000000 in
set_option maxRecDepth 100000 in
theorem C_X1_countMatches (G : eG) (M : eM) (F : Int32 → eM → Prop) 
    (h : Ev (eZ G 0 68 0 0 (eFI F)) G 0 68 (2, 0, 0) kX1_countMatches 4 [(0, .ref (G.1 23)), (1, .int 0), (2, .int 0)] [] M 0 0) :
    Cal G 0 68 (2, 0, 0) kX1_countMatches [.ref (G.1 23)] M (eFI F) := by
  refine Cal.of (by decide +kernel) rfl (Nat.le_of_ble_eq_true rfl) ?_
  show Ev (eZ G 0 68 0 0 (eFI F)) G 0 68 (2, 0, 0) kX1_countMatches 0 [(0, .ref (G.1 23))] [] M 0 0
  refine r_iconst (v := 0) dX1_countMatches_0 rfl ?_
  refine r_istore_n (l' := [(1, .int 0), (0, .ref (G.1 23))]) dX1_countMatches_1 rfl (by decide) rfl ?_
  refine r_iconst (v := 0) dX1_countMatches_2 rfl ?_
  refine r_istore_n (l' := [(2, .int 0), (1, .int 0), (0, .ref (G.1 23))]) dX1_countMatches_3 rfl (by decide) rfl ?_
  exact Ev.sub (ks := [2, 1, 0]) rfl h
set_option maxHeartbeats 4000000 in
set_option maxRecDepth 100000 in
theorem B_X1_sumOfMatches_52 (G : eG) (M : eM) (F : Int32 → eM → Prop) (x1 : Int32) (x2 : Int32)
    (h : Ev (eZ G 0 68 0 0 (eFI F)) G 0 68 (2, 0, 0) kX1_sumOfMatches 4 [(0, .ref (G.1 23)), (1, .int x1), (2, .int (x2 + 1))] [] M 0 0) :
    Ev (eZ G 0 68 0 0 (eFI F)) G 0 68 (2, 0, 0) kX1_sumOfMatches 52 [(0, .ref (G.1 23)), (1, .int x1), (2, .int x2)] [] M 0 0 := by
  refine r_iinc (v := x2 + 1) (l' := [(2, .int (x2 + 1)), (0, .ref (G.1 23)), (1, .int x1)]) 2 dX1_sumOfMatches_52 rfl rfl (by decide) rfl ?_
  refine r_goto (t := 4) dX1_sumOfMatches_55 (by decide) ?_
  exact Ev.sub (ks := [1, 2, 0]) rfl h
set_option maxHeartbeats 4000000 in
set_option maxRecDepth 100000 in
theorem B_X1_sumOfMatches_14 (G : eG) (M : eM) (F : Int32 → eM → Prop) (x1 : Int32) (x2 : Int32) (x3 : Int32)
    (h : vp_in x2 49 ∧ ((((M 24 x2.toNatClampNeg) < 0) → Ev (eZ G 0 68 0 0 (eFI F)) G 0 68 (2, 0, 0) kX1_sumOfMatches 52 [(0, .ref (G.1 23)), (1, .int x1), (2, .int x2)] [] M 0 0) ∧ ((¬ (M 24 x2.toNatClampNeg) < 0) → ((3 ≤ x3) → Ev (eZ G 0 68 0 0 (eFI F)) G 0 68 (2, 0, 0) kX1_sumOfMatches 52 [(0, .ref (G.1 23)), (1, .int x1), (2, .int x2)] [] M 0 0) ∧ ((¬ 3 ≤ x3) → vp_in ((x2 * 6) + x3) 294 ∧ (Ev (eZ G 0 68 0 0 (eFI F)) G 0 68 (2, 0, 0) kX1_sumOfMatches 14 [(0, .ref (G.1 23)), (1, .int (x1 + (if (M 30 ((x2 * 6) + x3).toNatClampNeg) < 0 then 0 else (M 30 ((x2 * 6) + x3).toNatClampNeg)))), (2, .int x2), (3, .int (x3 + 1))] [] M 0 0))))) :
    Ev (eZ G 0 68 0 0 (eFI F)) G 0 68 (2, 0, 0) kX1_sumOfMatches 14 [(0, .ref (G.1 23)), (1, .int x1), (2, .int x2), (3, .int x3)] [] M 0 0 := by
  refine r_aload_n 0 dX1_sumOfMatches_14 rfl rfl ?_
  refine r_getR (c := 23) (k := 5) 24 dX1_sumOfMatches_15 clX1 lFX1_9 (by decide) iF23 sC23 rfl ?_
  refine r_iload_n 2 dX1_sumOfMatches_18 rfl rfl ?_
  have h1 := h.1
  replace h := h.2
  refine r_iald (c := 24) (N := 49) dX1_sumOfMatches_19 iF24 sC24 h1 ?_
  refine r_if_lt (t := 52) dX1_sumOfMatches_20 (by decide) (fun q => ?_) (fun q => ?_)
  · replace h := h.1 q
    exact Ev.sub (ks := [0, 1, 2]) rfl h
  · replace h := h.2 q
    refine r_iload_n 3 dX1_sumOfMatches_23 rfl rfl ?_
    refine r_iconst (v := 3) dX1_sumOfMatches_24 rfl ?_
    refine r_icmp_ge (t := 52) dX1_sumOfMatches_25 (by decide) (fun q => ?_) (fun q => ?_)
    · replace h := h.1 q
      exact Ev.sub (ks := [0, 1, 2]) rfl h
    · replace h := h.2 q
      refine r_iload_n 1 dX1_sumOfMatches_28 rfl rfl ?_
      refine r_aload_n 0 dX1_sumOfMatches_29 rfl rfl ?_
      refine r_getR (c := 23) (k := 11) 30 dX1_sumOfMatches_30 clX1 lFX1_30 (by decide) iF23 sC23 rfl ?_
      refine r_iload_n 2 dX1_sumOfMatches_33 rfl rfl ?_
      refine r_bipush (v := 6) dX1_sumOfMatches_34 rfl ?_
      refine r_imul dX1_sumOfMatches_36 ?_
      refine r_iload_n 3 dX1_sumOfMatches_37 rfl rfl ?_
      refine r_iadd dX1_sumOfMatches_38 ?_
      have h1 := h.1
      replace h := h.2
      refine r_iald (c := 30) (N := 294) dX1_sumOfMatches_39 iF30 sC30 h1 ?_
      refine r_iconst (v := 0) dX1_sumOfMatches_40 rfl ?_
      refine r_mmax dX1_sumOfMatches_41 lMX1_117 eMm_max1 eMm_i eMm_max2 (by decide) (Nat.le_of_ble_eq_true rfl) ⟨Nat.le_refl _, Nat.le_refl _⟩ ?_
      refine r_iadd dX1_sumOfMatches_44 ?_
      refine r_istore_n (l' := [(1, .int (x1 + (if (M 30 ((x2 * 6) + x3).toNatClampNeg) < 0 then 0 else (M 30 ((x2 * 6) + x3).toNatClampNeg)))), (0, .ref (G.1 23)), (2, .int x2), (3, .int x3)]) dX1_sumOfMatches_45 rfl (by decide) rfl ?_
      refine r_iinc (v := x3 + 1) (l' := [(3, .int (x3 + 1)), (1, .int (x1 + (if (M 30 ((x2 * 6) + x3).toNatClampNeg) < 0 then 0 else (M 30 ((x2 * 6) + x3).toNatClampNeg)))), (0, .ref (G.1 23)), (2, .int x2)]) 3 dX1_sumOfMatches_46 rfl rfl (by decide) rfl ?_
      refine r_goto (t := 14) dX1_sumOfMatches_49 (by decide) ?_
      exact Ev.sub (ks := [2, 1, 3, 0]) rfl h
set_option maxHeartbeats 4000000 in
set_option maxRecDepth 100000 in
theorem B_X1_sumOfMatches_4 (G : eG) (M : eM) (F : Int32 → eM → Prop) (x1 : Int32) (x2 : Int32)
    (h : (((M 23 2) ≤ x2) → F x1 M) ∧ ((¬ (M 23 2) ≤ x2) → Ev (eZ G 0 68 0 0 (eFI F)) G 0 68 (2, 0, 0) kX1_sumOfMatches 14 [(0, .ref (G.1 23)), (1, .int x1), (2, .int x2), (3, .int 0)] [] M 0 0)) :
    Ev (eZ G 0 68 0 0 (eFI F)) G 0 68 (2, 0, 0) kX1_sumOfMatches 4 [(0, .ref (G.1 23)), (1, .int x1), (2, .int x2)] [] M 0 0 := by
  refine r_iload_n 2 dX1_sumOfMatches_4 rfl rfl ?_
  refine r_aload_n 0 dX1_sumOfMatches_5 rfl rfl ?_
  refine r_getI (c := 23) (k := 2) dX1_sumOfMatches_6 clX1 lFX1_65 (by decide) iF23 sC23 rfl ?_
  refine r_icmp_ge (t := 58) dX1_sumOfMatches_9 (by decide) (fun q => ?_) (fun q => ?_)
  · replace h := h.1 q
    refine r_iload_n 1 dX1_sumOfMatches_58 rfl rfl ?_
    refine r_iretI dX1_sumOfMatches_59 rfl (by decide) (by decide) h
  · replace h := h.2 q
    refine r_iconst (v := 0) dX1_sumOfMatches_12 rfl ?_
    refine r_istore_n (l' := [(3, .int 0), (0, .ref (G.1 23)), (1, .int x1), (2, .int x2)]) dX1_sumOfMatches_13 rfl (by decide) rfl ?_
    exact Ev.sub (ks := [1, 2, 3, 0]) rfl h
set_option maxHeartbeats 4000000 in
set_option maxRecDepth 100000 in
theorem C_X1_sumOfMatches (G : eG) (M : eM) (F : Int32 → eM → Prop) 
    (h : Ev (eZ G 0 68 0 0 (eFI F)) G 0 68 (2, 0, 0) kX1_sumOfMatches 4 [(0, .ref (G.1 23)), (1, .int 0), (2, .int 0)] [] M 0 0) :
    Cal G 0 68 (2, 0, 0) kX1_sumOfMatches [.ref (G.1 23)] M (eFI F) := by
  refine Cal.of (by decide +kernel) rfl (Nat.le_of_ble_eq_true rfl) ?_
  show Ev (eZ G 0 68 0 0 (eFI F)) G 0 68 (2, 0, 0) kX1_sumOfMatches 0 [(0, .ref (G.1 23))] [] M 0 0
  refine r_iconst (v := 0) dX1_sumOfMatches_0 rfl ?_
  refine r_istore_n (l' := [(1, .int 0), (0, .ref (G.1 23))]) dX1_sumOfMatches_1 rfl (by decide) rfl ?_
  refine r_iconst (v := 0) dX1_sumOfMatches_2 rfl ?_
  refine r_istore_n (l' := [(2, .int 0), (1, .int 0), (0, .ref (G.1 23))]) dX1_sumOfMatches_3 rfl (by decide) rfl ?_
  exact Ev.sub (ks := [2, 1, 0]) rfl h
set_option maxHeartbeats 4000000 in
set_option maxRecDepth 100000 in
theorem B_X1_countRings_23 (G : eG) (M : eM) (F : Int32 → eM → Prop) (x1 : Int32) (x2 : Int32)
    (h : Ev (eZ G 0 68 0 0 (eFI F)) G 0 68 (2, 0, 0) kX1_countRings 4 [(0, .ref (G.1 23)), (1, .int x1), (2, .int (x2 + 1))] [] M 0 0) :
    Ev (eZ G 0 68 0 0 (eFI F)) G 0 68 (2, 0, 0) kX1_countRings 23 [(0, .ref (G.1 23)), (1, .int x1), (2, .int x2)] [] M 0 0 := by
  refine r_iinc (v := x2 + 1) (l' := [(2, .int (x2 + 1)), (0, .ref (G.1 23)), (1, .int x1)]) 2 dX1_countRings_23 rfl rfl (by decide) rfl ?_
  refine r_goto (t := 4) dX1_countRings_26 (by decide) ?_
  exact Ev.sub (ks := [1, 2, 0]) rfl h
set_option maxHeartbeats 4000000 in
set_option maxRecDepth 100000 in
theorem B_X1_countRings_4 (G : eG) (M : eM) (F : Int32 → eM → Prop) (x1 : Int32) (x2 : Int32)
    (h : (((M 23 2) ≤ x2) → F x1 M) ∧ ((¬ (M 23 2) ≤ x2) → Cal G 0 68 (1, 0, 0) kX1_isEncircled [.ref (G.1 23), .int x2] M (eFZ (fun (r1 : Bool) (M1 : eM) => ((r1 = false) → Ev (eZ G 0 68 0 0 (eFI F)) G 0 68 (2, 0, 0) kX1_countRings 23 [(0, .ref (G.1 23)), (1, .int x1), (2, .int x2)] [] M1 0 0) ∧ ((r1 = true) → Ev (eZ G 0 68 0 0 (eFI F)) G 0 68 (2, 0, 0) kX1_countRings 23 [(0, .ref (G.1 23)), (1, .int (x1 + 1)), (2, .int x2)] [] M1 0 0))))) :
    Ev (eZ G 0 68 0 0 (eFI F)) G 0 68 (2, 0, 0) kX1_countRings 4 [(0, .ref (G.1 23)), (1, .int x1), (2, .int x2)] [] M 0 0 := by
  refine r_iload_n 2 dX1_countRings_4 rfl rfl ?_
  refine r_aload_n 0 dX1_countRings_5 rfl rfl ?_
  refine r_getI (c := 23) (k := 2) dX1_countRings_6 clX1 lFX1_65 (by decide) iF23 sC23 rfl ?_
  refine r_icmp_ge (t := 29) dX1_countRings_9 (by decide) (fun q => ?_) (fun q => ?_)
  · replace h := h.1 q
    refine r_iload_n 1 dX1_countRings_29 rfl rfl ?_
    refine r_iretI dX1_countRings_30 rfl (by decide) (by decide) h
  · replace h := h.2 q
    refine r_aload_n 0 dX1_countRings_12 rfl rfl ?_
    refine r_iload_n 2 dX1_countRings_13 rfl rfl ?_
    refine r_callVZ (b' := (1, 0, 0)) (c := 23) (S := []) [.int x2] dX1_countRings_14 mX1_isEncircled lMX1_129 clX1 rfl iF23 sC23 rfl (by decide) (Nat.le_of_ble_eq_true rfl) h (fun r1 M1 h => ?_) rfl
    refine r_zif_eq (t := 23) dX1_countRings_17 (by decide) (fun q => ?_) (fun q => ?_)
    · replace h := h.1 q
      exact h
    · replace h := h.2 q
      refine r_iinc (v := x1 + 1) (l' := [(1, .int (x1 + 1)), (0, .ref (G.1 23)), (2, .int x2)]) 1 dX1_countRings_20 rfl rfl (by decide) rfl ?_
      exact Ev.sub (ks := [1, 0, 2]) rfl h
set_option maxHeartbeats 4000000 in
set_option maxRecDepth 100000 in
theorem C_X1_countRings (G : eG) (M : eM) (F : Int32 → eM → Prop) 
    (h : Ev (eZ G 0 68 0 0 (eFI F)) G 0 68 (2, 0, 0) kX1_countRings 4 [(0, .ref (G.1 23)), (1, .int 0), (2, .int 0)] [] M 0 0) :
    Cal G 0 68 (2, 0, 0) kX1_countRings [.ref (G.1 23)] M (eFI F) := by
  refine Cal.of (by decide +kernel) rfl (Nat.le_of_ble_eq_true rfl) ?_
  show Ev (eZ G 0 68 0 0 (eFI F)) G 0 68 (2, 0, 0) kX1_countRings 0 [(0, .ref (G.1 23))] [] M 0 0
  refine r_iconst (v := 0) dX1_countRings_0 rfl ?_
  refine r_istore_n (l' := [(1, .int 0), (0, .ref (G.1 23))]) dX1_countRings_1 rfl (by decide) rfl ?_
  refine r_iconst (v := 0) dX1_countRings_2 rfl ?_
  refine r_istore_n (l' := [(2, .int 0), (1, .int 0), (0, .ref (G.1 23))]) dX1_countRings_3 rfl (by decide) rfl ?_
  exact Ev.sub (ks := [2, 1, 0]) rfl h
set_option maxHeartbeats 4000000 in
set_option maxRecDepth 100000 in
theorem C_X1_countPoints (G : eG) (M : eM) (F : Int32 → eM → Prop) 
    (h : Cal G 0 68 (2, 0, 0) kX1_sumOfMatches [.ref (G.1 23)] M (eFI (fun (r1 : Int32) (M1 : eM) => Cal G 0 68 (2, 0, 0) kX1_countRings [.ref (G.1 23)] M1 (eFI (fun (r2 : Int32) (M2 : eM) => F (r1 + (10 * r2)) M2))))) :
    Cal G 0 68 (3, 0, 0) kX1_countPoints [.ref (G.1 23)] M (eFI F) := by
  refine Cal.of (by decide +kernel) rfl (Nat.le_of_ble_eq_true rfl) ?_
  show Ev (eZ G 0 68 0 0 (eFI F)) G 0 68 (3, 0, 0) kX1_countPoints 0 [(0, .ref (G.1 23))] [] M 0 0
  refine r_aload_n 0 dX1_countPoints_0 rfl rfl ?_
  refine r_callVI (b' := (2, 0, 0)) (c := 23) (S := []) [] dX1_countPoints_1 mX1_sumOfMatches lMX1_132 clX1 rfl iF23 sC23 rfl (by decide) (Nat.le_of_ble_eq_true rfl) h (fun r1 M1 h => ?_) rfl
  refine r_bipush (v := 10) dX1_countPoints_4 rfl ?_
  refine r_aload_n 0 dX1_countPoints_6 rfl rfl ?_
  refine r_callVI (b' := (2, 0, 0)) (c := 23) (S := [.int 10, .int r1]) [] dX1_countPoints_7 mX1_countRings lMX1_135 clX1 rfl iF23 sC23 rfl (by decide) (Nat.le_of_ble_eq_true rfl) h (fun r2 M2 h => ?_) rfl
  refine r_imul dX1_countPoints_10 ?_
  refine r_iadd dX1_countPoints_11 ?_
  refine r_iretI dX1_countPoints_12 rfl (by decide) (by decide) h
set_option maxHeartbeats 4000000 in
set_option maxRecDepth 100000 in
theorem B_X1_countGroups_47 (G : eG) (M : eM) (F : Int32 → eM → Prop) (x1 : Int32) (x2 : Int32)
    (h : Ev (eZ G 0 68 0 0 (eFI F)) G 0 68 (2, 0, 0) kX1_countGroups 12 [(0, .ref (G.1 23)), (1, .int x1), (2, .int (x2 + 1))] [] M 0 0) :
    Ev (eZ G 0 68 0 0 (eFI F)) G 0 68 (2, 0, 0) kX1_countGroups 47 [(0, .ref (G.1 23)), (1, .int x1), (2, .int x2)] [] M 0 0 := by
  refine r_iinc (v := x2 + 1) (l' := [(2, .int (x2 + 1)), (0, .ref (G.1 23)), (1, .int x1)]) 2 dX1_countGroups_47 rfl rfl (by decide) rfl ?_
  refine r_goto (t := 12) dX1_countGroups_50 (by decide) ?_
  exact Ev.sub (ks := [1, 2, 0]) rfl h
set_option maxHeartbeats 4000000 in
set_option maxRecDepth 100000 in
theorem B_X1_countGroups_12 (G : eG) (M : eM) (F : Int32 → eM → Prop) (x1 : Int32) (x2 : Int32)
    (h : (((M 23 2) ≤ x2) → F x1 M) ∧ ((¬ (M 23 2) ≤ x2) → vp_in x2 49 ∧ ((((M 24 x2.toNatClampNeg) < 0) → Ev (eZ G 0 68 0 0 (eFI F)) G 0 68 (2, 0, 0) kX1_countGroups 47 [(0, .ref (G.1 23)), (1, .int x1), (2, .int x2)] [] M 0 0) ∧ ((¬ (M 24 x2.toNatClampNeg) < 0) → vp_in x2 49 ∧ (((¬ (M 35 x2.toNatClampNeg) = 0) → Ev (eZ G 0 68 0 0 (eFI F)) G 0 68 (2, 0, 0) kX1_countGroups 47 [(0, .ref (G.1 23)), (1, .int x1), (2, .int x2)] [] M 0 0) ∧ (((M 35 x2.toNatClampNeg) = 0) → Cal G 0 68 (1, 0, 0) kX1_markGroup [.ref (G.1 23), .int x2, .int (x1 + 1)] M (eFV (fun (M1 : eM) => Ev (eZ G 0 68 0 0 (eFI F)) G 0 68 (2, 0, 0) kX1_countGroups 47 [(0, .ref (G.1 23)), (1, .int (x1 + 1)), (2, .int x2)] [] M1 0 0)))))))) :
    Ev (eZ G 0 68 0 0 (eFI F)) G 0 68 (2, 0, 0) kX1_countGroups 12 [(0, .ref (G.1 23)), (1, .int x1), (2, .int x2)] [] M 0 0 := by
  refine r_iload_n 2 dX1_countGroups_12 rfl rfl ?_
  refine r_aload_n 0 dX1_countGroups_13 rfl rfl ?_
  refine r_getI (c := 23) (k := 2) dX1_countGroups_14 clX1 lFX1_65 (by decide) iF23 sC23 rfl ?_
  refine r_icmp_ge (t := 53) dX1_countGroups_17 (by decide) (fun q => ?_) (fun q => ?_)
  · replace h := h.1 q
    refine r_iload_n 1 dX1_countGroups_53 rfl rfl ?_
    refine r_iretI dX1_countGroups_54 rfl (by decide) (by decide) h
  · replace h := h.2 q
    refine r_aload_n 0 dX1_countGroups_20 rfl rfl ?_
    refine r_getR (c := 23) (k := 5) 24 dX1_countGroups_21 clX1 lFX1_9 (by decide) iF23 sC23 rfl ?_
    refine r_iload_n 2 dX1_countGroups_24 rfl rfl ?_
    have h1 := h.1
    replace h := h.2
    refine r_iald (c := 24) (N := 49) dX1_countGroups_25 iF24 sC24 h1 ?_
    refine r_if_lt (t := 47) dX1_countGroups_26 (by decide) (fun q => ?_) (fun q => ?_)
    · replace h := h.1 q
      exact h
    · replace h := h.2 q
      refine r_aload_n 0 dX1_countGroups_29 rfl rfl ?_
      refine r_getR (c := 23) (k := 16) 35 dX1_countGroups_30 clX1 lFX1_45 (by decide) iF23 sC23 rfl ?_
      refine r_iload_n 2 dX1_countGroups_33 rfl rfl ?_
      have h1 := h.1
      replace h := h.2
      refine r_iald (c := 35) (N := 49) dX1_countGroups_34 iF35 sC35 h1 ?_
      refine r_if_ne (t := 47) dX1_countGroups_35 (by decide) (fun q => ?_) (fun q => ?_)
      · replace h := h.1 q
        exact h
      · replace h := h.2 q
        refine r_iinc (v := x1 + 1) (l' := [(1, .int (x1 + 1)), (0, .ref (G.1 23)), (2, .int x2)]) 1 dX1_countGroups_38 rfl rfl (by decide) rfl ?_
        refine r_aload_n 1 dX1_countGroups_41 rfl rfl ?_
        refine r_iload_n 2 dX1_countGroups_42 rfl rfl ?_
        refine r_iload_n 0 dX1_countGroups_43 rfl rfl ?_
        refine r_callVV (b' := (1, 0, 0)) (c := 23) (S := []) [.int x2, .int (x1 + 1)] dX1_countGroups_44 mX1_markGroup lMX1_138 clX1 rfl iF23 sC23 rfl (by decide) (Nat.le_of_ble_eq_true rfl) h (fun M1 h => ?_) rfl
        exact Ev.sub (ks := [1, 0, 2]) rfl h
set_option maxHeartbeats 4000000 in
set_option maxRecDepth 100000 in
theorem C_X1_countGroups (G : eG) (M : eM) (F : Int32 → eM → Prop) 
    (h : Cal G 0 68 (1, 0, 0) kJ7_fill_53178 [.ref (G.1 35), .int 0] M (eFV (fun (M1 : eM) => Ev (eZ G 0 68 0 0 (eFI F)) G 0 68 (2, 0, 0) kX1_countGroups 12 [(0, .ref (G.1 23)), (1, .int 0), (2, .int 0)] [] M1 0 0))) :
    Cal G 0 68 (2, 0, 0) kX1_countGroups [.ref (G.1 23)] M (eFI F) := by
  refine Cal.of (by decide +kernel) rfl (Nat.le_of_ble_eq_true rfl) ?_
  show Ev (eZ G 0 68 0 0 (eFI F)) G 0 68 (2, 0, 0) kX1_countGroups 0 [(0, .ref (G.1 23))] [] M 0 0
  refine r_aload_n 0 dX1_countGroups_0 rfl rfl ?_
  refine r_getR (c := 23) (k := 16) 35 dX1_countGroups_1 clX1 lFX1_45 (by decide) iF23 sC23 rfl ?_
  refine r_iconst (v := 0) dX1_countGroups_4 rfl ?_
  refine r_callSV (b' := (1, 0, 0)) (S := []) [.ref (G.1 35), .int 0] dX1_countGroups_5 mJ7_fill_53178 lMX1_77 rfl (by decide) (Nat.le_of_ble_eq_true rfl) h (fun M1 h => ?_) rfl
  refine r_iconst (v := 0) dX1_countGroups_8 rfl ?_
  refine r_istore_n (l' := [(1, .int 0), (0, .ref (G.1 23))]) dX1_countGroups_9 rfl (by decide) rfl ?_
  refine r_iconst (v := 0) dX1_countGroups_10 rfl ?_
  refine r_istore_n (l' := [(2, .int 0), (1, .int 0), (0, .ref (G.1 23))]) dX1_countGroups_11 rfl (by decide) rfl ?_
  exact Ev.sub (ks := [2, 1, 0]) rfl h
set_option maxHeartbeats 4000000 in
set_option maxRecDepth 100000 in
theorem B_X1_markGroup_116 (G : eG) (M : eM) (F : eM → Prop) (x2 : Int32) (x3 : Int32) (x4 : Int32) (x5 : Int32)
    (h : Ev (eZ G 0 68 0 0 (eFV F)) G 0 68 (1, 0, 0) kX1_markGroup 37 [(0, .ref (G.1 23)), (2, .int x2), (3, .int x3), (4, .int x4), (5, .int (x5 + 1))] [] M 0 0) :
    Ev (eZ G 0 68 0 0 (eFV F)) G 0 68 (1, 0, 0) kX1_markGroup 116 [(0, .ref (G.1 23)), (2, .int x2), (3, .int x3), (4, .int x4), (5, .int x5)] [] M 0 0 := by
  refine r_iinc (v := x5 + 1) (l' := [(5, .int (x5 + 1)), (0, .ref (G.1 23)), (2, .int x2), (3, .int x3), (4, .int x4)]) 4 dX1_markGroup_116 rfl rfl (by decide) rfl ?_
  refine r_goto (t := 37) dX1_markGroup_119 (by decide) ?_
  exact Ev.sub (ks := [1, 2, 3, 4, 0]) rfl h
set_option maxHeartbeats 4000000 in
set_option maxRecDepth 100000 in
theorem B_X1_markGroup_37 (G : eG) (M : eM) (F : eM → Prop) (x2 : Int32) (x3 : Int32) (x4 : Int32) (x5 : Int32)
    (h : ((6 ≤ x5) → Ev (eZ G 0 68 0 0 (eFV F)) G 0 68 (1, 0, 0) kX1_markGroup 19 [(0, .ref (G.1 23)), (2, .int x2), (3, .int x3), (4, .int (x4 + 1))] [] M 0 0) ∧ ((¬ 6 ≤ x5) → vp_in x4 49 ∧ (vp_in (((M 34 x4.toNatClampNeg) * 6) + x5) 294 ∧ ((((M 29 (((M 34 x4.toNatClampNeg) * 6) + x5).toNatClampNeg) < 0) → Ev (eZ G 0 68 0 0 (eFV F)) G 0 68 (1, 0, 0) kX1_markGroup 116 [(0, .ref (G.1 23)), (2, .int x2), (3, .int x3), (4, .int x4), (5, .int x5)] [] M 0 0) ∧ ((¬ (M 29 (((M 34 x4.toNatClampNeg) * 6) + x5).toNatClampNeg) < 0) → vp_in (M 29 (((M 34 x4.toNatClampNeg) * 6) + x5).toNatClampNeg) 49 ∧ ((((M 24 (M 29 (((M 34 x4.toNatClampNeg) * 6) + x5).toNatClampNeg).toNatClampNeg) < 0) → Ev (eZ G 0 68 0 0 (eFV F)) G 0 68 (1, 0, 0) kX1_markGroup 116 [(0, .ref (G.1 23)), (2, .int x2), (3, .int x3), (4, .int x4), (5, .int x5)] [] M 0 0) ∧ ((¬ (M 24 (M 29 (((M 34 x4.toNatClampNeg) * 6) + x5).toNatClampNeg).toNatClampNeg) < 0) → vp_in (M 29 (((M 34 x4.toNatClampNeg) * 6) + x5).toNatClampNeg) 49 ∧ (((¬ (M 35 (M 29 (((M 34 x4.toNatClampNeg) * 6) + x5).toNatClampNeg).toNatClampNeg) = 0) → Ev (eZ G 0 68 0 0 (eFV F)) G 0 68 (1, 0, 0) kX1_markGroup 116 [(0, .ref (G.1 23)), (2, .int x2), (3, .int x3), (4, .int x4), (5, .int x5)] [] M 0 0) ∧ (((M 35 (M 29 (((M 34 x4.toNatClampNeg) * 6) + x5).toNatClampNeg).toNatClampNeg) = 0) → (((M 23 2) ≤ x3) → Ev (eZ G 0 68 0 0 (eFV F)) G 0 68 (1, 0, 0) kX1_markGroup 116 [(0, .ref (G.1 23)), (2, .int x2), (3, .int x3), (4, .int x4), (5, .int x5)] [] M 0 0) ∧ ((¬ (M 23 2) ≤ x3) → vp_in (M 29 (((M 34 x4.toNatClampNeg) * 6) + x5).toNatClampNeg) 49 ∧ (vp_in x3 49 ∧ (Ev (eZ G 0 68 0 0 (eFV F)) G 0 68 (1, 0, 0) kX1_markGroup 116 [(0, .ref (G.1 23)), (2, .int x2), (3, .int (x3 + 1)), (4, .int x4), (5, .int x5)] [] (eU (eU M 35 (M 29 (((M 34 x4.toNatClampNeg) * 6) + x5).toNatClampNeg).toNatClampNeg x2) 34 x3.toNatClampNeg (M 29 (((M 34 x4.toNatClampNeg) * 6) + x5).toNatClampNeg)) 0 0)))))))))))) :
    Ev (eZ G 0 68 0 0 (eFV F)) G 0 68 (1, 0, 0) kX1_markGroup 37 [(0, .ref (G.1 23)), (2, .int x2), (3, .int x3), (4, .int x4), (5, .int x5)] [] M 0 0 := by
  refine r_iload 4 dX1_markGroup_37 rfl ?_
  refine r_bipush (v := 6) dX1_markGroup_39 rfl ?_
  refine r_icmp_ge (t := 122) dX1_markGroup_41 (by decide) (fun q => ?_) (fun q => ?_)
  · replace h := h.1 q
    refine r_iinc (v := x4 + 1) (l' := [(4, .int (x4 + 1)), (0, .ref (G.1 23)), (2, .int x2), (3, .int x3), (5, .int x5)]) 3 dX1_markGroup_122 rfl rfl (by decide) rfl ?_
    refine r_goto (t := 19) dX1_markGroup_125 (by decide) ?_
    exact Ev.sub (ks := [1, 2, 3, 0]) rfl h
  · replace h := h.2 q
    refine r_aload_n 0 dX1_markGroup_44 rfl rfl ?_
    refine r_getR (c := 23) (k := 10) 29 dX1_markGroup_45 clX1 lFX1_27 (by decide) iF23 sC23 rfl ?_
    refine r_aload_n 0 dX1_markGroup_48 rfl rfl ?_
    refine r_getR (c := 23) (k := 15) 34 dX1_markGroup_49 clX1 lFX1_42 (by decide) iF23 sC23 rfl ?_
    refine r_iload 3 dX1_markGroup_52 rfl ?_
    have h1 := h.1
    replace h := h.2
    refine r_iald (c := 34) (N := 49) dX1_markGroup_54 iF34 sC34 h1 ?_
    refine r_bipush (v := 6) dX1_markGroup_55 rfl ?_
    refine r_imul dX1_markGroup_57 ?_
    refine r_iload 4 dX1_markGroup_58 rfl ?_
    refine r_iadd dX1_markGroup_60 ?_
    have h1 := h.1
    replace h := h.2
    refine r_iald (c := 29) (N := 294) dX1_markGroup_61 iF29 sC29 h1 ?_
    refine r_istore (l' := [(6, .int (M 29 (((M 34 x4.toNatClampNeg) * 6) + x5).toNatClampNeg)), (0, .ref (G.1 23)), (2, .int x2), (3, .int x3), (4, .int x4), (5, .int x5)]) dX1_markGroup_62 (by decide) rfl ?_
    refine r_iload 0 dX1_markGroup_64 rfl ?_
    refine r_if_lt (t := 116) dX1_markGroup_66 (by decide) (fun q => ?_) (fun q => ?_)
    · replace h := h.1 q
      exact Ev.sub (ks := [1, 2, 3, 4, 5]) rfl h
    · replace h := h.2 q
      refine r_aload_n 1 dX1_markGroup_69 rfl rfl ?_
      refine r_getR (c := 23) (k := 5) 24 dX1_markGroup_70 clX1 lFX1_9 (by decide) iF23 sC23 rfl ?_
      refine r_iload 0 dX1_markGroup_73 rfl ?_
      have h1 := h.1
      replace h := h.2
      refine r_iald (c := 24) (N := 49) dX1_markGroup_75 iF24 sC24 h1 ?_
      refine r_if_lt (t := 116) dX1_markGroup_76 (by decide) (fun q => ?_) (fun q => ?_)
      · replace h := h.1 q
        exact Ev.sub (ks := [1, 2, 3, 4, 5]) rfl h
      · replace h := h.2 q
        refine r_aload_n 1 dX1_markGroup_79 rfl rfl ?_
        refine r_getR (c := 23) (k := 16) 35 dX1_markGroup_80 clX1 lFX1_45 (by decide) iF23 sC23 rfl ?_
        refine r_iload 0 dX1_markGroup_83 rfl ?_
        have h1 := h.1
        replace h := h.2
        refine r_iald (c := 35) (N := 49) dX1_markGroup_85 iF35 sC35 h1 ?_
        refine r_if_ne (t := 116) dX1_markGroup_86 (by decide) (fun q => ?_) (fun q => ?_)
        · replace h := h.1 q
          exact Ev.sub (ks := [1, 2, 3, 4, 5]) rfl h
        · replace h := h.2 q
          refine r_iload_n 3 dX1_markGroup_89 rfl rfl ?_
          refine r_aload_n 1 dX1_markGroup_90 rfl rfl ?_
          refine r_getI (c := 23) (k := 2) dX1_markGroup_91 clX1 lFX1_65 (by decide) iF23 sC23 rfl ?_
          refine r_icmp_ge (t := 116) dX1_markGroup_94 (by decide) (fun q => ?_) (fun q => ?_)
          · replace h := h.1 q
            exact Ev.sub (ks := [1, 2, 3, 4, 5]) rfl h
          · replace h := h.2 q
            refine r_aload_n 1 dX1_markGroup_97 rfl rfl ?_
            refine r_getR (c := 23) (k := 16) 35 dX1_markGroup_98 clX1 lFX1_45 (by decide) iF23 sC23 rfl ?_
            refine r_iload 0 dX1_markGroup_101 rfl ?_
            refine r_iload_n 2 dX1_markGroup_103 rfl rfl ?_
            have h1 := h.1
            replace h := h.2
            refine r_iast (c := 35) (N := 49) dX1_markGroup_104 iF35 sC35 h1 ?_
            refine r_aload_n 1 dX1_markGroup_105 rfl rfl ?_
            refine r_getR (c := 23) (k := 15) 34 dX1_markGroup_106 clX1 lFX1_42 (by decide) iF23 sC23 rfl ?_
            refine r_iload_n 3 dX1_markGroup_109 rfl rfl ?_
            refine r_iload 0 dX1_markGroup_110 rfl ?_
            have h1 := h.1
            replace h := h.2
            refine r_iast (c := 34) (N := 49) dX1_markGroup_112 iF34 sC34 h1 ?_
            refine r_iinc (v := x3 + 1) (l' := [(3, .int (x3 + 1)), (6, .int (M 29 (((M 34 x4.toNatClampNeg) * 6) + x5).toNatClampNeg)), (0, .ref (G.1 23)), (2, .int x2), (4, .int x4), (5, .int x5)]) 3 dX1_markGroup_113 rfl rfl (by decide) rfl ?_
            exact Ev.sub (ks := [2, 3, 0, 4, 5]) rfl h
set_option maxHeartbeats 4000000 in
set_option maxRecDepth 100000 in
theorem B_X1_markGroup_19 (G : eG) (M : eM) (F : eM → Prop) (x2 : Int32) (x3 : Int32) (x4 : Int32)
    (h : ((x3 ≤ x4) → F M) ∧ ((¬ x3 ≤ x4) → (((M 23 2) ≤ x4) → F M) ∧ ((¬ (M 23 2) ≤ x4) → Ev (eZ G 0 68 0 0 (eFV F)) G 0 68 (1, 0, 0) kX1_markGroup 37 [(0, .ref (G.1 23)), (2, .int x2), (3, .int x3), (4, .int x4), (5, .int 0)] [] M 0 0))) :
    Ev (eZ G 0 68 0 0 (eFV F)) G 0 68 (1, 0, 0) kX1_markGroup 19 [(0, .ref (G.1 23)), (2, .int x2), (3, .int x3), (4, .int x4)] [] M 0 0 := by
  refine r_iload 3 dX1_markGroup_19 rfl ?_
  refine r_iload_n 2 dX1_markGroup_21 rfl rfl ?_
  refine r_icmp_ge (t := 128) dX1_markGroup_22 (by decide) (fun q => ?_) (fun q => ?_)
  · replace h := h.1 q
    refine r_vretV dX1_markGroup_128 rfl (by decide) (by decide) h
  · replace h := h.2 q
    refine r_iload 3 dX1_markGroup_25 rfl ?_
    refine r_aload_n 0 dX1_markGroup_27 rfl rfl ?_
    refine r_getI (c := 23) (k := 2) dX1_markGroup_28 clX1 lFX1_65 (by decide) iF23 sC23 rfl ?_
    refine r_icmp_ge (t := 128) dX1_markGroup_31 (by decide) (fun q => ?_) (fun q => ?_)
    · replace h := h.1 q
      refine r_vretV dX1_markGroup_128 rfl (by decide) (by decide) h
    · replace h := h.2 q
      refine r_iconst (v := 0) dX1_markGroup_34 rfl ?_
      refine r_istore (l' := [(5, .int 0), (0, .ref (G.1 23)), (2, .int x2), (3, .int x3), (4, .int x4)]) dX1_markGroup_35 (by decide) rfl ?_
      exact Ev.sub (ks := [1, 2, 3, 4, 0]) rfl h
set_option maxHeartbeats 4000000 in
set_option maxRecDepth 100000 in
theorem C_X1_markGroup (G : eG) (M : eM) (F : eM → Prop) (a1 : Int32) (a2 : Int32)
    (h : vp_in 0 49 ∧ (vp_in a1 49 ∧ (Ev (eZ G 0 68 0 0 (eFV F)) G 0 68 (1, 0, 0) kX1_markGroup 19 [(0, .ref (G.1 23)), (2, .int a2), (3, .int 1), (4, .int 0)] [] (eU (eU M 34 (0 : Int32).toNatClampNeg a1) 35 a1.toNatClampNeg a2) 0 0))) :
    Cal G 0 68 (1, 0, 0) kX1_markGroup [.ref (G.1 23), .int a1, .int a2] M (eFV F) := by
  refine Cal.of (by decide +kernel) rfl (Nat.le_of_ble_eq_true rfl) ?_
  show Ev (eZ G 0 68 0 0 (eFV F)) G 0 68 (1, 0, 0) kX1_markGroup 0 [(0, .ref (G.1 23)), (1, .int a1), (2, .int a2)] [] M 0 0
  refine r_aload_n 0 dX1_markGroup_0 rfl rfl ?_
  refine r_getR (c := 23) (k := 15) 34 dX1_markGroup_1 clX1 lFX1_42 (by decide) iF23 sC23 rfl ?_
  refine r_iconst (v := 0) dX1_markGroup_4 rfl ?_
  refine r_iload_n 1 dX1_markGroup_5 rfl rfl ?_
  have h1 := h.1
  replace h := h.2
  refine r_iast (c := 34) (N := 49) dX1_markGroup_6 iF34 sC34 h1 ?_
  refine r_aload_n 0 dX1_markGroup_7 rfl rfl ?_
  refine r_getR (c := 23) (k := 16) 35 dX1_markGroup_8 clX1 lFX1_45 (by decide) iF23 sC23 rfl ?_
  refine r_iload_n 1 dX1_markGroup_11 rfl rfl ?_
  refine r_iload_n 2 dX1_markGroup_12 rfl rfl ?_
  have h1 := h.1
  replace h := h.2
  refine r_iast (c := 35) (N := 49) dX1_markGroup_13 iF35 sC35 h1 ?_
  refine r_iconst (v := 1) dX1_markGroup_14 rfl ?_
  refine r_istore_n (l' := [(3, .int 1), (0, .ref (G.1 23)), (1, .int a1), (2, .int a2)]) dX1_markGroup_15 rfl (by decide) rfl ?_
  refine r_iconst (v := 0) dX1_markGroup_16 rfl ?_
  refine r_istore (l' := [(4, .int 0), (3, .int 1), (0, .ref (G.1 23)), (1, .int a1), (2, .int a2)]) dX1_markGroup_17 (by decide) rfl ?_
  exact Ev.sub (ks := [2, 4, 1, 0]) rfl h
set_option maxHeartbeats 4000000 in
set_option maxRecDepth 100000 in
theorem C_X1_keep (G : eG) (M : eM) (F : eM → Prop) 
    (h : ((¬ (0 : Int32) < 0) ∧ (¬ (0 : Int32) < 0) ∧ (¬ (16 : Int32) < 0) ∧ (0 : Int32).toNatClampNeg + (16 : Int32).toNatClampNeg ≤ 16 ∧ (0 : Int32).toNatClampNeg + (16 : Int32).toNatClampNeg ≤ 16) ∧ (((¬ (0 : Int32) < 0) ∧ (¬ (0 : Int32) < 0) ∧ (¬ (16 : Int32) < 0) ∧ (0 : Int32).toNatClampNeg + (16 : Int32).toNatClampNeg ≤ 16 ∧ (0 : Int32).toNatClampNeg + (16 : Int32).toNatClampNeg ≤ 16) ∧ (F (eCp (eCp M 25 32 (0 : Int32).toNatClampNeg (0 : Int32).toNatClampNeg (16 : Int32).toNatClampNeg) 26 33 (0 : Int32).toNatClampNeg (0 : Int32).toNatClampNeg (16 : Int32).toNatClampNeg)))) :
    Cal G 0 68 (1, 0, 0) kX1_keep [.ref (G.1 23)] M (eFV F) := by
  refine Cal.of (by decide +kernel) rfl (Nat.le_of_ble_eq_true rfl) ?_
  show Ev (eZ G 0 68 0 0 (eFV F)) G 0 68 (1, 0, 0) kX1_keep 0 [(0, .ref (G.1 23))] [] M 0 0
  refine r_aload_n 0 dX1_keep_0 rfl rfl ?_
  refine r_getR (c := 23) (k := 6) 25 dX1_keep_1 clX1 lFX1_15 (by decide) iF23 sC23 rfl ?_
  refine r_iconst (v := 0) dX1_keep_4 rfl ?_
  refine r_aload_n 0 dX1_keep_5 rfl rfl ?_
  refine r_getR (c := 23) (k := 13) 32 dX1_keep_6 clX1 lFX1_36 (by decide) iF23 sC23 rfl ?_
  refine r_iconst (v := 0) dX1_keep_9 rfl ?_
  refine r_bipush (v := 16) dX1_keep_10 rfl ?_
  have h1 := h.1
  replace h := h.2
  refine r_copy (c := 25) (c1 := 32) (N := 16) (N1 := 16) dX1_keep_12 lAX1_142 eCy_n eCy_s eCy_i iF25 sC25 iF32 sC32 h1.1 h1.2.1 h1.2.2.1 h1.2.2.2.1 h1.2.2.2.2 (by decide) (Nat.le_of_ble_eq_true rfl) ?_
  refine r_aload_n 0 dX1_keep_15 rfl rfl ?_
  refine r_getR (c := 23) (k := 7) 26 dX1_keep_16 clX1 lFX1_18 (by decide) iF23 sC23 rfl ?_
  refine r_iconst (v := 0) dX1_keep_19 rfl ?_
  refine r_aload_n 0 dX1_keep_20 rfl rfl ?_
  refine r_getR (c := 23) (k := 14) 33 dX1_keep_21 clX1 lFX1_39 (by decide) iF23 sC23 rfl ?_
  refine r_iconst (v := 0) dX1_keep_24 rfl ?_
  refine r_bipush (v := 16) dX1_keep_25 rfl ?_
  have h1 := h.1
  replace h := h.2
  refine r_copy (c := 26) (c1 := 33) (N := 16) (N1 := 16) dX1_keep_27 lAX1_142 eCy_n eCy_s eCy_i iF26 sC26 iF33 sC33 h1.1 h1.2.1 h1.2.2.1 h1.2.2.2.1 h1.2.2.2.2 (by decide) (Nat.le_of_ble_eq_true rfl) ?_
  refine r_vretV dX1_keep_30 rfl (by decide) (by decide) h
set_option maxHeartbeats 4000000 in
set_option maxRecDepth 100000 in
theorem B_X1_bringBack_57 (G : eG) (M : eM) (F : eM → Prop) (x1 : Int32)
    (h : Ev (eZ G 0 68 0 0 (eFV F)) G 0 68 (3, 0, 0) kX1_bringBack 23 [(0, .ref (G.1 23)), (1, .int (x1 + 1))] [] M 0 0) :
    Ev (eZ G 0 68 0 0 (eFV F)) G 0 68 (3, 0, 0) kX1_bringBack 57 [(0, .ref (G.1 23)), (1, .int x1)] [] M 0 0 := by
  refine r_iinc (v := x1 + 1) (l' := [(1, .int (x1 + 1)), (0, .ref (G.1 23))]) 1 dX1_bringBack_57 rfl rfl (by decide) rfl ?_
  refine r_goto (t := 23) dX1_bringBack_60 (by decide) ?_
  exact Ev.sub (ks := [1, 0]) rfl h
set_option maxHeartbeats 4000000 in
set_option maxRecDepth 100000 in
theorem B_X1_bringBack_23 (G : eG) (M : eM) (F : eM → Prop) (x1 : Int32)
    (h : (((M 23 3) ≤ x1) → F M) ∧ ((¬ (M 23 3) ≤ x1) → vp_in x1 16 ∧ ((((M 32 x1.toNatClampNeg) < 0) → Ev (eZ G 0 68 0 0 (eFV F)) G 0 68 (3, 0, 0) kX1_bringBack 57 [(0, .ref (G.1 23)), (1, .int x1)] [] M 0 0) ∧ ((¬ (M 32 x1.toNatClampNeg) < 0) → vp_in x1 16 ∧ (vp_in x1 16 ∧ (Cal G 0 68 (2, 0, 0) kX1_put [.ref (G.1 23), .int x1, .int (M 32 x1.toNatClampNeg), .int (M 33 x1.toNatClampNeg)] M (eFV (fun (M1 : eM) => Ev (eZ G 0 68 0 0 (eFV F)) G 0 68 (3, 0, 0) kX1_bringBack 57 [(0, .ref (G.1 23)), (1, .int x1)] [] M1 0 0)))))))) :
    Ev (eZ G 0 68 0 0 (eFV F)) G 0 68 (3, 0, 0) kX1_bringBack 23 [(0, .ref (G.1 23)), (1, .int x1)] [] M 0 0 := by
  refine r_iload_n 1 dX1_bringBack_23 rfl rfl ?_
  refine r_aload_n 0 dX1_bringBack_24 rfl rfl ?_
  refine r_getI (c := 23) (k := 3) dX1_bringBack_25 clX1 lFX1_72 (by decide) iF23 sC23 rfl ?_
  refine r_icmp_ge (t := 63) dX1_bringBack_28 (by decide) (fun q => ?_) (fun q => ?_)
  · replace h := h.1 q
    refine r_vretV dX1_bringBack_63 rfl (by decide) (by decide) h
  · replace h := h.2 q
    refine r_aload_n 0 dX1_bringBack_31 rfl rfl ?_
    refine r_getR (c := 23) (k := 13) 32 dX1_bringBack_32 clX1 lFX1_36 (by decide) iF23 sC23 rfl ?_
    refine r_iload_n 1 dX1_bringBack_35 rfl rfl ?_
    have h1 := h.1
    replace h := h.2
    refine r_iald (c := 32) (N := 16) dX1_bringBack_36 iF32 sC32 h1 ?_
    refine r_if_lt (t := 57) dX1_bringBack_37 (by decide) (fun q => ?_) (fun q => ?_)
    · replace h := h.1 q
      exact h
    · replace h := h.2 q
      refine r_aload_n 0 dX1_bringBack_40 rfl rfl ?_
      refine r_iload_n 1 dX1_bringBack_41 rfl rfl ?_
      refine r_aload_n 0 dX1_bringBack_42 rfl rfl ?_
      refine r_getR (c := 23) (k := 13) 32 dX1_bringBack_43 clX1 lFX1_36 (by decide) iF23 sC23 rfl ?_
      refine r_iload_n 1 dX1_bringBack_46 rfl rfl ?_
      have h1 := h.1
      replace h := h.2
      refine r_iald (c := 32) (N := 16) dX1_bringBack_47 iF32 sC32 h1 ?_
      refine r_aload_n 0 dX1_bringBack_48 rfl rfl ?_
      refine r_getR (c := 23) (k := 14) 33 dX1_bringBack_49 clX1 lFX1_39 (by decide) iF23 sC23 rfl ?_
      refine r_iload_n 1 dX1_bringBack_52 rfl rfl ?_
      have h1 := h.1
      replace h := h.2
      refine r_iald (c := 33) (N := 16) dX1_bringBack_53 iF33 sC33 h1 ?_
      refine r_callVV (b' := (2, 0, 0)) (c := 23) (S := []) [.int x1, .int (M 32 x1.toNatClampNeg), .int (M 33 x1.toNatClampNeg)] dX1_bringBack_54 mX1_put lMX1_151 clX1 rfl iF23 sC23 rfl (by decide) (Nat.le_of_ble_eq_true rfl) h (fun M1 h => ?_) rfl
      exact h
set_option maxHeartbeats 4000000 in
set_option maxRecDepth 100000 in
theorem B_X1_bringBack_2 (G : eG) (M : eM) (F : eM → Prop) (x1 : Int32)
    (h : (((M 23 3) ≤ x1) → Ev (eZ G 0 68 0 0 (eFV F)) G 0 68 (3, 0, 0) kX1_bringBack 23 [(0, .ref (G.1 23)), (1, .int 0)] [] M 0 0) ∧ ((¬ (M 23 3) ≤ x1) → Cal G 0 68 (1, 0, 0) kX1_lift [.ref (G.1 23), .int x1] M (eFV (fun (M1 : eM) => Ev (eZ G 0 68 0 0 (eFV F)) G 0 68 (3, 0, 0) kX1_bringBack 2 [(0, .ref (G.1 23)), (1, .int (x1 + 1))] [] M1 0 0)))) :
    Ev (eZ G 0 68 0 0 (eFV F)) G 0 68 (3, 0, 0) kX1_bringBack 2 [(0, .ref (G.1 23)), (1, .int x1)] [] M 0 0 := by
  refine r_iload_n 1 dX1_bringBack_2 rfl rfl ?_
  refine r_aload_n 0 dX1_bringBack_3 rfl rfl ?_
  refine r_getI (c := 23) (k := 3) dX1_bringBack_4 clX1 lFX1_72 (by decide) iF23 sC23 rfl ?_
  refine r_icmp_ge (t := 21) dX1_bringBack_7 (by decide) (fun q => ?_) (fun q => ?_)
  · replace h := h.1 q
    refine r_iconst (v := 0) dX1_bringBack_21 rfl ?_
    refine r_istore_n (l' := [(1, .int 0), (0, .ref (G.1 23))]) dX1_bringBack_22 rfl (by decide) rfl ?_
    exact Ev.sub (ks := [1, 0]) rfl h
  · replace h := h.2 q
    refine r_aload_n 0 dX1_bringBack_10 rfl rfl ?_
    refine r_iload_n 1 dX1_bringBack_11 rfl rfl ?_
    refine r_callVV (b' := (1, 0, 0)) (c := 23) (S := []) [.int x1] dX1_bringBack_12 mX1_lift lMX1_148 clX1 rfl iF23 sC23 rfl (by decide) (Nat.le_of_ble_eq_true rfl) h (fun M1 h => ?_) rfl
    refine r_iinc (v := x1 + 1) (l' := [(1, .int (x1 + 1)), (0, .ref (G.1 23))]) 1 dX1_bringBack_15 rfl rfl (by decide) rfl ?_
    refine r_goto (t := 2) dX1_bringBack_18 (by decide) ?_
    exact Ev.sub (ks := [1, 0]) rfl h
set_option maxHeartbeats 4000000 in
set_option maxRecDepth 100000 in
theorem C_X1_bringBack (G : eG) (M : eM) (F : eM → Prop) 
    (h : Ev (eZ G 0 68 0 0 (eFV F)) G 0 68 (3, 0, 0) kX1_bringBack 2 [(0, .ref (G.1 23)), (1, .int 0)] [] M 0 0) :
    Cal G 0 68 (3, 0, 0) kX1_bringBack [.ref (G.1 23)] M (eFV F) := by
  refine Cal.of (by decide +kernel) rfl (Nat.le_of_ble_eq_true rfl) ?_
  show Ev (eZ G 0 68 0 0 (eFV F)) G 0 68 (3, 0, 0) kX1_bringBack 0 [(0, .ref (G.1 23))] [] M 0 0
  refine r_iconst (v := 0) dX1_bringBack_0 rfl ?_
  refine r_istore_n (l' := [(1, .int 0), (0, .ref (G.1 23))]) dX1_bringBack_1 rfl (by decide) rfl ?_
  exact Ev.sub (ks := [1, 0]) rfl h

