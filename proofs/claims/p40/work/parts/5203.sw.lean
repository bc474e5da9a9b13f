set_option maxHeartbeats 4000000 in
set_option maxRecDepth 100000 in
theorem B_X2_carriesOut_48 (G : eG) {i : Int32} (ho : vp_in i 16) (M : eM) (F : Bool → eM → Prop) 
    (h : (1 ≤ (M (52 + i.toNatClampNeg) 0) ∧ (M (52 + i.toNatClampNeg) 0) ≤ 44) ∧ (vp_in ((M (52 + i.toNatClampNeg) 0) - 1) 44 ∧ ((((eSw ((M (52 + i.toNatClampNeg) 0) - 1).toNatClampNeg : Int32).toInt < 19 ∨ 21 < (eSw ((M (52 + i.toNatClampNeg) 0) - 1).toNatClampNeg : Int32).toInt) → F false M) ∧ ((eSw ((M (52 + i.toNatClampNeg) 0) - 1).toNatClampNeg : Int32) = 19 → Cal G 0 68 (5, 0, 0) kX2_puts [.ref (G.1 16), .ref (G.1 (52 + i.toNatClampNeg))] M (eFZ (fun (r1 : Bool) (M1 : eM) => F r1 M1))) ∧ ((eSw ((M (52 + i.toNatClampNeg) 0) - 1).toNatClampNeg : Int32) = 20 → Cal G 0 68 (3, 0, 0) kX2_takes [.ref (G.1 16), .int (M (52 + i.toNatClampNeg) 1)] M (eFZ (fun (r2 : Bool) (M2 : eM) => F r2 M2))) ∧ ((eSw ((M (52 + i.toNatClampNeg) 0) - 1).toNatClampNeg : Int32) = 21 → Cal G 0 68 (3, 0, 0) kX2_fitsIn [.ref (G.1 16), .int (M (52 + i.toNatClampNeg) 1)] M (eFZ (fun (r3 : Bool) (M3 : eM) => F r3 M3)))))) :
    Ev (eZ G 0 68 0 0 (eFZ F)) G 0 68 (6, 0, 0) kX2_carriesOut 48 [(0, .ref (G.1 16)), (1, .ref (G.1 (52 + i.toNatClampNeg)))] [] M 0 0 := by
  refine r_gets (w := .ref (G.1 1306)) dX2_carriesOut_48 lFX2_82 (fun h => h.2.2.2.2.2.2.2.2.2.2.1.1) ?_
  refine r_aload_n 1 dX2_carriesOut_51 rfl rfl ?_
  refine r_getK (c := (52 + i.toNatClampNeg)) (k := 0) dX2_carriesOut_52 clX6 lFX2_87 (by decide) (eOrdIn_52 ho) (eOrdSh_52 ho) rfl ?_
  have hx := h.1
  replace h := h.2
  refine r_ordinal (b' := (1, 0, 0)) (K' := kJx29ce0_ordinal_8abf5) (S := [.ref (G.1 1306)]) dX2_carriesOut_55 hx rfl eOr_w rfl lOX2_91 eOr_s eOr_sel eOr_i eOr_n (by decide) (Nat.le_of_ble_eq_true rfl) (C_ordinal hx (fun r M' => (M (52 + i.toNatClampNeg) 0) - 1 = r ∧ M = M') ⟨rfl, rfl⟩) (fun r M' q => ?_)
  obtain ⟨rfl, rfl⟩ := q
  have h1 := h.1
  replace h := h.2
  refine r_tald (tc := 1306) (f := eSw) dX2_carriesOut_58 (fun h => h.2.2.2.2.2.2.2.2.2.2.1) h1 ?_
  by_cases q : (eSw ((M (52 + i.toNatClampNeg) 0) - 1).toNatClampNeg : Int32).toInt < 19 ∨ 21 < (eSw ((M (52 + i.toNatClampNeg) 0) - 1).toNatClampNeg : Int32).toInt
  · replace h := h.1 q
    refine r_tableOut (tg := 108) dX2_carriesOut_59 q (by decide) ?_
    refine r_iconst (v := 0) dX2_carriesOut_108 rfl ?_
    refine r_iretZ0 dX2_carriesOut_109 rfl (by decide) (by decide) h
  · replace h := h.2
    refine eTabCases (N := 3) q (by decide) (fun i9 hi hx => ?_)
    match i9, hi, hx with
    | 0, hi, hx =>
      have q3 : (eSw ((M (52 + i.toNatClampNeg) 0) - 1).toNatClampNeg : Int32) = 19 := eToI (hx.trans (by decide))
      replace h := h.1 q3
      refine r_tableAt (tg := 84) dX2_carriesOut_59 q3 (by decide) (by decide) rfl (by decide) ?_
      refine r_aload_n 0 dX2_carriesOut_84 rfl rfl ?_
      refine r_aload_n 1 dX2_carriesOut_85 rfl rfl ?_
      refine r_callVZ (b' := (5, 0, 0)) (c := 16) (S := []) [.ref (G.1 (52 + i.toNatClampNeg))] dX2_carriesOut_86 mX2_puts lMX2_96 clX2 rfl iF16 sC16 rfl (by decide) (Nat.le_of_ble_eq_true rfl) h (fun r1 M1 h => ?_) rfl
      refine r_iretZ dX2_carriesOut_89 rfl (by decide) (by decide) h
    | 1, hi, hx =>
      have q3 : (eSw ((M (52 + i.toNatClampNeg) 0) - 1).toNatClampNeg : Int32) = 20 := eToI (hx.trans (by decide))
      replace h := h.2.1 q3
      refine r_tableAt (tg := 90) dX2_carriesOut_59 q3 (by decide) (by decide) rfl (by decide) ?_
      refine r_aload_n 0 dX2_carriesOut_90 rfl rfl ?_
      refine r_aload_n 1 dX2_carriesOut_91 rfl rfl ?_
      refine r_getI (c := (52 + i.toNatClampNeg)) (k := 1) dX2_carriesOut_92 clX6 lFX2_59 (by decide) (eOrdIn_52 ho) (eOrdSh_52 ho) rfl ?_
      refine r_callVZ (b' := (3, 0, 0)) (c := 16) (S := []) [.int (M (52 + i.toNatClampNeg) 1)] dX2_carriesOut_95 mX2_takes lMX2_99 clX2 rfl iF16 sC16 rfl (by decide) (Nat.le_of_ble_eq_true rfl) h (fun r2 M2 h => ?_) rfl
      refine r_iretZ dX2_carriesOut_98 rfl (by decide) (by decide) h
    | 2, hi, hx =>
      have q3 : (eSw ((M (52 + i.toNatClampNeg) 0) - 1).toNatClampNeg : Int32) = 21 := eToI (hx.trans (by decide))
      replace h := h.2.2 q3
      refine r_tableAt (tg := 99) dX2_carriesOut_59 q3 (by decide) (by decide) rfl (by decide) ?_
      refine r_aload_n 0 dX2_carriesOut_99 rfl rfl ?_
      refine r_aload_n 1 dX2_carriesOut_100 rfl rfl ?_
      refine r_getI (c := (52 + i.toNatClampNeg)) (k := 1) dX2_carriesOut_101 clX6 lFX2_59 (by decide) (eOrdIn_52 ho) (eOrdSh_52 ho) rfl ?_
      refine r_callVZ (b' := (3, 0, 0)) (c := 16) (S := []) [.int (M (52 + i.toNatClampNeg) 1)] dX2_carriesOut_104 mX2_fitsIn lMX2_102 clX2 rfl iF16 sC16 rfl (by decide) (Nat.le_of_ble_eq_true rfl) h (fun r3 M3 h => ?_) rfl
      refine r_iretZ dX2_carriesOut_107 rfl (by decide) (by decide) h
    | i + 3, hi, hx => exact absurd hi (by omega)
set_option maxHeartbeats 4000000 in
set_option maxRecDepth 100000 in
theorem B_X2_reckon_7 (G : eG) (M : eM) (F : eM → Prop) (x2 : Int32) (x3 : Int32)
    (h : ((x2 ≤ x3) → F M) ∧ ((¬ x2 ≤ x3) → Cal G 0 68 (1, 0, 0) kX7_step [.ref (G.1 21), .int x3] M (eFK G (fun (r1 : Int32) (M1 : eM) => (1 ≤ r1 ∧ r1 ≤ 44) ∧ (vp_in (r1 - 1) 44 ∧ ((((eSw (r1 - 1).toNatClampNeg : Int32).toInt < 1 ∨ 23 < (eSw (r1 - 1).toNatClampNeg : Int32).toInt) → Ev (eZ G 0 68 0 0 (eFV F)) G 0 68 (4, 0, 0) kX2_reckon 353 [(0, .ref (G.1 16)), (2, .int x2), (3, .int x3), (4, eV G 1 r1)] [] M1 0 0) ∧ ((eSw (r1 - 1).toNatClampNeg : Int32) = 1 → Ev (eZ G 0 68 0 0 (eFV F)) G 0 68 (4, 0, 0) kX2_reckon 334 [(0, .ref (G.1 16)), (2, .int x2), (3, .int x3)] [] M1 0 0) ∧ ((eSw (r1 - 1).toNatClampNeg : Int32) = 2 → Ev (eZ G 0 68 0 0 (eFV F)) G 0 68 (4, 0, 0) kX2_reckon 353 [(0, .ref (G.1 16)), (2, .int x2), (3, .int x3), (4, eV G 1 r1)] [] M1 0 0) ∧ ((eSw (r1 - 1).toNatClampNeg : Int32) = 3 → Ev (eZ G 0 68 0 0 (eFV F)) G 0 68 (4, 0, 0) kX2_reckon 262 [(0, .ref (G.1 16)), (2, .int x2), (3, .int x3)] [] M1 0 0) ∧ ((eSw (r1 - 1).toNatClampNeg : Int32) = 4 → Ev (eZ G 0 68 0 0 (eFV F)) G 0 68 (4, 0, 0) kX2_reckon 292 [(0, .ref (G.1 16)), (2, .int x2), (3, .int x3)] [] M1 0 0) ∧ ((eSw (r1 - 1).toNatClampNeg : Int32) = 5 → Ev (eZ G 0 68 0 0 (eFV F)) G 0 68 (4, 0, 0) kX2_reckon 136 [(0, .ref (G.1 16)), (2, .int x2), (3, .int x3)] [] M1 0 0) ∧ ((eSw (r1 - 1).toNatClampNeg : Int32) = 6 → Ev (eZ G 0 68 0 0 (eFV F)) G 0 68 (4, 0, 0) kX2_reckon 151 [(0, .ref (G.1 16)), (2, .int x2), (3, .int x3)] [] M1 0 0) ∧ ((eSw (r1 - 1).toNatClampNeg : Int32) = 7 → Ev (eZ G 0 68 0 0 (eFV F)) G 0 68 (4, 0, 0) kX2_reckon 162 [(0, .ref (G.1 16)), (2, .int x2), (3, .int x3)] [] M1 0 0) ∧ ((eSw (r1 - 1).toNatClampNeg : Int32) = 8 → Ev (eZ G 0 68 0 0 (eFV F)) G 0 68 (4, 0, 0) kX2_reckon 176 [(0, .ref (G.1 16)), (2, .int x2), (3, .int x3)] [] M1 0 0) ∧ ((eSw (r1 - 1).toNatClampNeg : Int32) = 9 → Ev (eZ G 0 68 0 0 (eFV F)) G 0 68 (4, 0, 0) kX2_reckon 190 [(0, .ref (G.1 16)), (2, .int x2), (3, .int x3)] [] M1 0 0) ∧ ((eSw (r1 - 1).toNatClampNeg : Int32) = 10 → Ev (eZ G 0 68 0 0 (eFV F)) G 0 68 (4, 0, 0) kX2_reckon 204 [(0, .ref (G.1 16)), (2, .int x2), (3, .int x3)] [] M1 0 0) ∧ ((eSw (r1 - 1).toNatClampNeg : Int32) = 11 → Ev (eZ G 0 68 0 0 (eFV F)) G 0 68 (4, 0, 0) kX2_reckon 218 [(0, .ref (G.1 16)), (2, .int x2), (3, .int x3)] [] M1 0 0) ∧ ((eSw (r1 - 1).toNatClampNeg : Int32) = 12 → Ev (eZ G 0 68 0 0 (eFV F)) G 0 68 (4, 0, 0) kX2_reckon 240 [(0, .ref (G.1 16)), (2, .int x2), (3, .int x3)] [] M1 0 0) ∧ ((eSw (r1 - 1).toNatClampNeg : Int32) = 13 → Ev (eZ G 0 68 0 0 (eFV F)) G 0 68 (4, 0, 0) kX2_reckon 353 [(0, .ref (G.1 16)), (2, .int x2), (3, .int x3), (4, eV G 1 r1)] [] M1 0 0) ∧ ((eSw (r1 - 1).toNatClampNeg : Int32) = 14 → Ev (eZ G 0 68 0 0 (eFV F)) G 0 68 (4, 0, 0) kX2_reckon 353 [(0, .ref (G.1 16)), (2, .int x2), (3, .int x3), (4, eV G 1 r1)] [] M1 0 0) ∧ ((eSw (r1 - 1).toNatClampNeg : Int32) = 15 → Ev (eZ G 0 68 0 0 (eFV F)) G 0 68 (4, 0, 0) kX2_reckon 353 [(0, .ref (G.1 16)), (2, .int x2), (3, .int x3), (4, eV G 1 r1)] [] M1 0 0) ∧ ((eSw (r1 - 1).toNatClampNeg : Int32) = 16 → Ev (eZ G 0 68 0 0 (eFV F)) G 0 68 (4, 0, 0) kX2_reckon 353 [(0, .ref (G.1 16)), (2, .int x2), (3, .int x3), (4, eV G 1 r1)] [] M1 0 0) ∧ ((eSw (r1 - 1).toNatClampNeg : Int32) = 17 → Ev (eZ G 0 68 0 0 (eFV F)) G 0 68 (4, 0, 0) kX2_reckon 353 [(0, .ref (G.1 16)), (2, .int x2), (3, .int x3), (4, eV G 1 r1)] [] M1 0 0) ∧ ((eSw (r1 - 1).toNatClampNeg : Int32) = 18 → Ev (eZ G 0 68 0 0 (eFV F)) G 0 68 (4, 0, 0) kX2_reckon 353 [(0, .ref (G.1 16)), (2, .int x2), (3, .int x3), (4, eV G 1 r1)] [] M1 0 0) ∧ ((eSw (r1 - 1).toNatClampNeg : Int32) = 19 → Ev (eZ G 0 68 0 0 (eFV F)) G 0 68 (4, 0, 0) kX2_reckon 353 [(0, .ref (G.1 16)), (2, .int x2), (3, .int x3), (4, eV G 1 r1)] [] M1 0 0) ∧ ((eSw (r1 - 1).toNatClampNeg : Int32) = 20 → Ev (eZ G 0 68 0 0 (eFV F)) G 0 68 (4, 0, 0) kX2_reckon 353 [(0, .ref (G.1 16)), (2, .int x2), (3, .int x3), (4, eV G 1 r1)] [] M1 0 0) ∧ ((eSw (r1 - 1).toNatClampNeg : Int32) = 21 → Ev (eZ G 0 68 0 0 (eFV F)) G 0 68 (4, 0, 0) kX2_reckon 353 [(0, .ref (G.1 16)), (2, .int x2), (3, .int x3), (4, eV G 1 r1)] [] M1 0 0) ∧ ((eSw (r1 - 1).toNatClampNeg : Int32) = 22 → Ev (eZ G 0 68 0 0 (eFV F)) G 0 68 (4, 0, 0) kX2_reckon 353 [(0, .ref (G.1 16)), (2, .int x2), (3, .int x3), (4, eV G 1 r1)] [] M1 0 0) ∧ ((eSw (r1 - 1).toNatClampNeg : Int32) = 23 → Ev (eZ G 0 68 0 0 (eFV F)) G 0 68 (4, 0, 0) kX2_reckon 322 [(0, .ref (G.1 16)), (2, .int x2), (3, .int x3)] [] M1 0 0))))))) :
    Ev (eZ G 0 68 0 0 (eFV F)) G 0 68 (4, 0, 0) kX2_reckon 7 [(0, .ref (G.1 16)), (2, .int x2), (3, .int x3)] [] M 0 0 := by
  refine r_iload_n 2 dX2_reckon_7 rfl rfl ?_
  refine r_iload_n 1 dX2_reckon_8 rfl rfl ?_
  refine r_icmp_ge (t := 380) dX2_reckon_9 (by decide) (fun q => ?_) (fun q => ?_)
  · replace h := h.1 q
    refine r_vretV dX2_reckon_380 rfl (by decide) (by decide) h
  · replace h := h.2 q
    refine r_aload_n 0 dX2_reckon_12 rfl rfl ?_
    refine r_getR (c := 16) (k := 1) 21 dX2_reckon_13 clX2 lFX2_12 (by decide) iF16 sC16 rfl ?_
    refine r_iload_n 2 dX2_reckon_16 rfl rfl ?_
    refine r_callVK (b' := (1, 0, 0)) (c := 21) (S := []) [.int x3] dX2_reckon_17 mX7_step lMX2_146 clX7 rfl iF21 sC21 rfl (by decide) (Nat.le_of_ble_eq_true rfl) h (fun r1 M1 h => ?_) rfl
    refine r_kstore (l' := [(4, eV G 1 r1), (0, .ref (G.1 16)), (2, .int x2), (3, .int x3)]) dX2_reckon_20 (by decide) rfl ?_
    refine r_gets (w := .ref (G.1 1306)) dX2_reckon_22 lFX2_82 (fun h => h.2.2.2.2.2.2.2.2.2.2.1.1) ?_
    refine r_kload 0 dX2_reckon_25 rfl ?_
    have hx := h.1
    replace h := h.2
    refine r_ordinal (b' := (1, 0, 0)) (K' := kJx29ce0_ordinal_8abf5) (S := [.ref (G.1 1306)]) dX2_reckon_27 hx rfl eOr_w rfl lOX2_91 eOr_s eOr_sel eOr_i eOr_n (by decide) (Nat.le_of_ble_eq_true rfl) (C_ordinal hx (fun r M' => r1 - 1 = r ∧ M1 = M') ⟨rfl, rfl⟩) (fun r M' q => ?_)
    obtain ⟨rfl, rfl⟩ := q
    have h1 := h.1
    replace h := h.2
    refine r_tald (tc := 1306) (f := eSw) dX2_reckon_30 (fun h => h.2.2.2.2.2.2.2.2.2.2.1) h1 ?_
    by_cases q : (eSw (r1 - 1).toNatClampNeg : Int32).toInt < 1 ∨ 23 < (eSw (r1 - 1).toNatClampNeg : Int32).toInt
    · replace h := h.1 q
      refine r_tableOut (tg := 353) dX2_reckon_31 q (by decide) ?_
      exact Ev.sub (ks := [1, 2, 3, 0]) rfl h
    · replace h := h.2
      refine eTabCases (N := 23) q (by decide) (fun i9 hi hx => ?_)
      match i9, hi, hx with
      | 0, hi, hx =>
        have q3 : (eSw (r1 - 1).toNatClampNeg : Int32) = 1 := eToI (hx.trans (by decide))
        replace h := h.1 q3
        refine r_tableAt (tg := 334) dX2_reckon_31 q3 (by decide) (by decide) rfl (by decide) ?_
        exact Ev.sub (ks := [1, 2, 3]) rfl h
      | 1, hi, hx =>
        have q3 : (eSw (r1 - 1).toNatClampNeg : Int32) = 2 := eToI (hx.trans (by decide))
        replace h := h.2.1 q3
        refine r_tableAt (tg := 353) dX2_reckon_31 q3 (by decide) (by decide) rfl (by decide) ?_
        exact Ev.sub (ks := [1, 2, 3, 0]) rfl h
      | 2, hi, hx =>
        have q3 : (eSw (r1 - 1).toNatClampNeg : Int32) = 3 := eToI (hx.trans (by decide))
        replace h := h.2.2.1 q3
        refine r_tableAt (tg := 262) dX2_reckon_31 q3 (by decide) (by decide) rfl (by decide) ?_
        exact Ev.sub (ks := [1, 2, 3]) rfl h
      | 3, hi, hx =>
        have q3 : (eSw (r1 - 1).toNatClampNeg : Int32) = 4 := eToI (hx.trans (by decide))
        replace h := h.2.2.2.1 q3
        refine r_tableAt (tg := 292) dX2_reckon_31 q3 (by decide) (by decide) rfl (by decide) ?_
        exact Ev.sub (ks := [1, 2, 3]) rfl h
      | 4, hi, hx =>
        have q3 : (eSw (r1 - 1).toNatClampNeg : Int32) = 5 := eToI (hx.trans (by decide))
        replace h := h.2.2.2.2.1 q3
        refine r_tableAt (tg := 136) dX2_reckon_31 q3 (by decide) (by decide) rfl (by decide) ?_
        exact Ev.sub (ks := [1, 2, 3]) rfl h
      | 5, hi, hx =>
        have q3 : (eSw (r1 - 1).toNatClampNeg : Int32) = 6 := eToI (hx.trans (by decide))
        replace h := h.2.2.2.2.2.1 q3
        refine r_tableAt (tg := 151) dX2_reckon_31 q3 (by decide) (by decide) rfl (by decide) ?_
        exact Ev.sub (ks := [1, 2, 3]) rfl h
      | 6, hi, hx =>
        have q3 : (eSw (r1 - 1).toNatClampNeg : Int32) = 7 := eToI (hx.trans (by decide))
        replace h := h.2.2.2.2.2.2.1 q3
        refine r_tableAt (tg := 162) dX2_reckon_31 q3 (by decide) (by decide) rfl (by decide) ?_
        exact Ev.sub (ks := [1, 2, 3]) rfl h
      | 7, hi, hx =>
        have q3 : (eSw (r1 - 1).toNatClampNeg : Int32) = 8 := eToI (hx.trans (by decide))
        replace h := h.2.2.2.2.2.2.2.1 q3
        refine r_tableAt (tg := 176) dX2_reckon_31 q3 (by decide) (by decide) rfl (by decide) ?_
        exact Ev.sub (ks := [1, 2, 3]) rfl h
      | 8, hi, hx =>
        have q3 : (eSw (r1 - 1).toNatClampNeg : Int32) = 9 := eToI (hx.trans (by decide))
        replace h := h.2.2.2.2.2.2.2.2.1 q3
        refine r_tableAt (tg := 190) dX2_reckon_31 q3 (by decide) (by decide) rfl (by decide) ?_
        exact Ev.sub (ks := [1, 2, 3]) rfl h
      | 9, hi, hx =>
        have q3 : (eSw (r1 - 1).toNatClampNeg : Int32) = 10 := eToI (hx.trans (by decide))
        replace h := h.2.2.2.2.2.2.2.2.2.1 q3
        refine r_tableAt (tg := 204) dX2_reckon_31 q3 (by decide) (by decide) rfl (by decide) ?_
        exact Ev.sub (ks := [1, 2, 3]) rfl h
      | 10, hi, hx =>
        have q3 : (eSw (r1 - 1).toNatClampNeg : Int32) = 11 := eToI (hx.trans (by decide))
        replace h := h.2.2.2.2.2.2.2.2.2.2.1 q3
        refine r_tableAt (tg := 218) dX2_reckon_31 q3 (by decide) (by decide) rfl (by decide) ?_
        exact Ev.sub (ks := [1, 2, 3]) rfl h
      | 11, hi, hx =>
        have q3 : (eSw (r1 - 1).toNatClampNeg : Int32) = 12 := eToI (hx.trans (by decide))
        replace h := h.2.2.2.2.2.2.2.2.2.2.2.1 q3
        refine r_tableAt (tg := 240) dX2_reckon_31 q3 (by decide) (by decide) rfl (by decide) ?_
        exact Ev.sub (ks := [1, 2, 3]) rfl h
      | 12, hi, hx =>
        have q3 : (eSw (r1 - 1).toNatClampNeg : Int32) = 13 := eToI (hx.trans (by decide))
        replace h := h.2.2.2.2.2.2.2.2.2.2.2.2.1 q3
        refine r_tableAt (tg := 353) dX2_reckon_31 q3 (by decide) (by decide) rfl (by decide) ?_
        exact Ev.sub (ks := [1, 2, 3, 0]) rfl h
      | 13, hi, hx =>
        have q3 : (eSw (r1 - 1).toNatClampNeg : Int32) = 14 := eToI (hx.trans (by decide))
        replace h := h.2.2.2.2.2.2.2.2.2.2.2.2.2.1 q3
        refine r_tableAt (tg := 353) dX2_reckon_31 q3 (by decide) (by decide) rfl (by decide) ?_
        exact Ev.sub (ks := [1, 2, 3, 0]) rfl h
      | 14, hi, hx =>
        have q3 : (eSw (r1 - 1).toNatClampNeg : Int32) = 15 := eToI (hx.trans (by decide))
        replace h := h.2.2.2.2.2.2.2.2.2.2.2.2.2.2.1 q3
        refine r_tableAt (tg := 353) dX2_reckon_31 q3 (by decide) (by decide) rfl (by decide) ?_
        exact Ev.sub (ks := [1, 2, 3, 0]) rfl h
      | 15, hi, hx =>
        have q3 : (eSw (r1 - 1).toNatClampNeg : Int32) = 16 := eToI (hx.trans (by decide))
        replace h := h.2.2.2.2.2.2.2.2.2.2.2.2.2.2.2.1 q3
        refine r_tableAt (tg := 353) dX2_reckon_31 q3 (by decide) (by decide) rfl (by decide) ?_
        exact Ev.sub (ks := [1, 2, 3, 0]) rfl h
      | 16, hi, hx =>
        have q3 : (eSw (r1 - 1).toNatClampNeg : Int32) = 17 := eToI (hx.trans (by decide))
        replace h := h.2.2.2.2.2.2.2.2.2.2.2.2.2.2.2.2.1 q3
        refine r_tableAt (tg := 353) dX2_reckon_31 q3 (by decide) (by decide) rfl (by decide) ?_
        exact Ev.sub (ks := [1, 2, 3, 0]) rfl h
      | 17, hi, hx =>
        have q3 : (eSw (r1 - 1).toNatClampNeg : Int32) = 18 := eToI (hx.trans (by decide))
        replace h := h.2.2.2.2.2.2.2.2.2.2.2.2.2.2.2.2.2.1 q3
        refine r_tableAt (tg := 353) dX2_reckon_31 q3 (by decide) (by decide) rfl (by decide) ?_
        exact Ev.sub (ks := [1, 2, 3, 0]) rfl h
      | 18, hi, hx =>
        have q3 : (eSw (r1 - 1).toNatClampNeg : Int32) = 19 := eToI (hx.trans (by decide))
        replace h := h.2.2.2.2.2.2.2.2.2.2.2.2.2.2.2.2.2.2.1 q3
        refine r_tableAt (tg := 353) dX2_reckon_31 q3 (by decide) (by decide) rfl (by decide) ?_
        exact Ev.sub (ks := [1, 2, 3, 0]) rfl h
      | 19, hi, hx =>
        have q3 : (eSw (r1 - 1).toNatClampNeg : Int32) = 20 := eToI (hx.trans (by decide))
        replace h := h.2.2.2.2.2.2.2.2.2.2.2.2.2.2.2.2.2.2.2.1 q3
        refine r_tableAt (tg := 353) dX2_reckon_31 q3 (by decide) (by decide) rfl (by decide) ?_
        exact Ev.sub (ks := [1, 2, 3, 0]) rfl h
      | 20, hi, hx =>
        have q3 : (eSw (r1 - 1).toNatClampNeg : Int32) = 21 := eToI (hx.trans (by decide))
        replace h := h.2.2.2.2.2.2.2.2.2.2.2.2.2.2.2.2.2.2.2.2.1 q3
        refine r_tableAt (tg := 353) dX2_reckon_31 q3 (by decide) (by decide) rfl (by decide) ?_
        exact Ev.sub (ks := [1, 2, 3, 0]) rfl h
      | 21, hi, hx =>
        have q3 : (eSw (r1 - 1).toNatClampNeg : Int32) = 22 := eToI (hx.trans (by decide))
        replace h := h.2.2.2.2.2.2.2.2.2.2.2.2.2.2.2.2.2.2.2.2.2.1 q3
        refine r_tableAt (tg := 353) dX2_reckon_31 q3 (by decide) (by decide) rfl (by decide) ?_
        exact Ev.sub (ks := [1, 2, 3, 0]) rfl h
      | 22, hi, hx =>
        have q3 : (eSw (r1 - 1).toNatClampNeg : Int32) = 23 := eToI (hx.trans (by decide))
        replace h := h.2.2.2.2.2.2.2.2.2.2.2.2.2.2.2.2.2.2.2.2.2.2 q3
        refine r_tableAt (tg := 322) dX2_reckon_31 q3 (by decide) (by decide) rfl (by decide) ?_
        exact Ev.sub (ks := [1, 2, 3]) rfl h
      | i + 23, hi, hx => exact absurd hi (by omega)
set_option maxHeartbeats 4000000 in
set_option maxRecDepth 100000 in
theorem C_X2_combined (G : eG) (M : eM) (F : Int32 → eM → Prop) (a1 : Int32) (a2 : Int32) (a3 : Int32)
    (h : (1 ≤ a1 ∧ a1 ≤ 44) ∧ (vp_in (a1 - 1) 44 ∧ ((((eSw (a1 - 1).toNatClampNeg : Int32).toInt < 13 ∨ 26 < (eSw (a1 - 1).toNatClampNeg : Int32).toInt) → Ev (eZ G 0 68 0 0 (eFI F)) G 0 68 (3, 0, 0) kX2_combined 116 [(0, eV G 1 a1), (1, .int a2), (2, .int a3)] [] M 0 0) ∧ ((eSw (a1 - 1).toNatClampNeg : Int32) = 13 → F (a2 - a3) M) ∧ ((eSw (a1 - 1).toNatClampNeg : Int32) = 14 → Ev (eZ G 0 68 0 0 (eFI F)) G 0 68 (3, 0, 0) kX2_combined 116 [(0, eV G 1 a1), (1, .int a2), (2, .int a3)] [] M 0 0) ∧ ((eSw (a1 - 1).toNatClampNeg : Int32) = 15 → F (if a3 < a2 then a3 else a2) M) ∧ ((eSw (a1 - 1).toNatClampNeg : Int32) = 16 → F (if a2 < a3 then a3 else a2) M) ∧ ((eSw (a1 - 1).toNatClampNeg : Int32) = 17 → Ev (eZ G 0 68 0 0 (eFI F)) G 0 68 (3, 0, 0) kX2_combined 116 [(0, eV G 1 a1), (1, .int a2), (2, .int a3)] [] M 0 0) ∧ ((eSw (a1 - 1).toNatClampNeg : Int32) = 18 → Ev (eZ G 0 68 0 0 (eFI F)) G 0 68 (3, 0, 0) kX2_combined 116 [(0, eV G 1 a1), (1, .int a2), (2, .int a3)] [] M 0 0) ∧ ((eSw (a1 - 1).toNatClampNeg : Int32) = 19 → Ev (eZ G 0 68 0 0 (eFI F)) G 0 68 (3, 0, 0) kX2_combined 116 [(0, eV G 1 a1), (1, .int a2), (2, .int a3)] [] M 0 0) ∧ ((eSw (a1 - 1).toNatClampNeg : Int32) = 20 → Ev (eZ G 0 68 0 0 (eFI F)) G 0 68 (3, 0, 0) kX2_combined 116 [(0, eV G 1 a1), (1, .int a2), (2, .int a3)] [] M 0 0) ∧ ((eSw (a1 - 1).toNatClampNeg : Int32) = 21 → Ev (eZ G 0 68 0 0 (eFI F)) G 0 68 (3, 0, 0) kX2_combined 116 [(0, eV G 1 a1), (1, .int a2), (2, .int a3)] [] M 0 0) ∧ ((eSw (a1 - 1).toNatClampNeg : Int32) = 22 → Ev (eZ G 0 68 0 0 (eFI F)) G 0 68 (3, 0, 0) kX2_combined 116 [(0, eV G 1 a1), (1, .int a2), (2, .int a3)] [] M 0 0) ∧ ((eSw (a1 - 1).toNatClampNeg : Int32) = 23 → Ev (eZ G 0 68 0 0 (eFI F)) G 0 68 (3, 0, 0) kX2_combined 116 [(0, eV G 1 a1), (1, .int a2), (2, .int a3)] [] M 0 0) ∧ ((eSw (a1 - 1).toNatClampNeg : Int32) = 24 → F (a2 + a3) M) ∧ ((eSw (a1 - 1).toNatClampNeg : Int32) = 25 → F (a2 * a3) M) ∧ ((eSw (a1 - 1).toNatClampNeg : Int32) = 26 → Ev (eZ G 0 68 0 0 (eFI F)) G 0 68 (3, 0, 0) kX2_combined 92 [(1, .int a2), (2, .int a3)] [] M 0 0)))) :
    Cal G 0 68 (3, 0, 0) kX2_combined [eV G 1 a1, .int a2, .int a3] M (eFI F) := by
  refine Cal.ofK [(0, eV G 1 a1), (1, .int a2), (2, .int a3)] (by decide +kernel) rfl (by rw [lg_len _ (by simp [eV_cat, eCatI, eCatR])]; exact Nat.le_of_ble_eq_true rfl) (by simp [lv_args, eV_cat, eCatI, eCatR]) ?_
  show Ev (eZ G 0 68 0 0 (eFI F)) G 0 68 (3, 0, 0) kX2_combined 0 [(0, eV G 1 a1), (1, .int a2), (2, .int a3)] [] M 0 0
  refine r_gets (w := .ref (G.1 1306)) dX2_combined_0 lFX2_82 (fun h => h.2.2.2.2.2.2.2.2.2.2.1.1) ?_
  refine r_kload_n 0 dX2_combined_3 rfl rfl ?_
  have hx := h.1
  replace h := h.2
  refine r_ordinal (b' := (1, 0, 0)) (K' := kJx29ce0_ordinal_8abf5) (S := [.ref (G.1 1306)]) dX2_combined_4 hx rfl eOr_w rfl lOX2_91 eOr_s eOr_sel eOr_i eOr_n (by decide) (Nat.le_of_ble_eq_true rfl) (C_ordinal hx (fun r M' => a1 - 1 = r ∧ M = M') ⟨rfl, rfl⟩) (fun r M' q => ?_)
  obtain ⟨rfl, rfl⟩ := q
  have h1 := h.1
  replace h := h.2
  refine r_tald (tc := 1306) (f := eSw) dX2_combined_7 (fun h => h.2.2.2.2.2.2.2.2.2.2.1) h1 ?_
  by_cases q : (eSw (a1 - 1).toNatClampNeg : Int32).toInt < 13 ∨ 26 < (eSw (a1 - 1).toNatClampNeg : Int32).toInt
  · replace h := h.1 q
    refine r_tableOut (tg := 116) dX2_combined_8 q (by decide) ?_
    exact h
  · replace h := h.2
    refine eTabCases (N := 14) q (by decide) (fun i9 hi hx => ?_)
    match i9, hi, hx with
    | 0, hi, hx =>
      have q3 : (eSw (a1 - 1).toNatClampNeg : Int32) = 13 := eToI (hx.trans (by decide))
      replace h := h.1 q3
      refine r_tableAt (tg := 84) dX2_combined_8 q3 (by decide) (by decide) rfl (by decide) ?_
      refine r_iload_n 1 dX2_combined_84 rfl rfl ?_
      refine r_iload_n 2 dX2_combined_85 rfl rfl ?_
      refine r_isub dX2_combined_86 ?_
      refine r_iretI dX2_combined_87 rfl (by decide) (by decide) h
    | 1, hi, hx =>
      have q3 : (eSw (a1 - 1).toNatClampNeg : Int32) = 14 := eToI (hx.trans (by decide))
      replace h := h.2.1 q3
      refine r_tableAt (tg := 116) dX2_combined_8 q3 (by decide) (by decide) rfl (by decide) ?_
      exact h
    | 2, hi, hx =>
      have q3 : (eSw (a1 - 1).toNatClampNeg : Int32) = 15 := eToI (hx.trans (by decide))
      replace h := h.2.2.1 q3
      refine r_tableAt (tg := 104) dX2_combined_8 q3 (by decide) (by decide) rfl (by decide) ?_
      refine r_iload_n 1 dX2_combined_104 rfl rfl ?_
      refine r_iload_n 2 dX2_combined_105 rfl rfl ?_
      refine r_mmin dX2_combined_106 lMX2_175 eMm_min1 eMm_i eMm_min2 (by decide) (Nat.le_of_ble_eq_true rfl) ⟨Nat.le_refl _, Nat.le_refl _⟩ ?_
      refine r_iretI dX2_combined_109 rfl (by decide) (by decide) h
    | 3, hi, hx =>
      have q3 : (eSw (a1 - 1).toNatClampNeg : Int32) = 16 := eToI (hx.trans (by decide))
      replace h := h.2.2.2.1 q3
      refine r_tableAt (tg := 110) dX2_combined_8 q3 (by decide) (by decide) rfl (by decide) ?_
      refine r_iload_n 1 dX2_combined_110 rfl rfl ?_
      refine r_iload_n 2 dX2_combined_111 rfl rfl ?_
      refine r_mmax dX2_combined_112 lMX2_180 eMm_max1 eMm_i eMm_max2 (by decide) (Nat.le_of_ble_eq_true rfl) ⟨Nat.le_refl _, Nat.le_refl _⟩ ?_
      refine r_iretI dX2_combined_115 rfl (by decide) (by decide) h
    | 4, hi, hx =>
      have q3 : (eSw (a1 - 1).toNatClampNeg : Int32) = 17 := eToI (hx.trans (by decide))
      replace h := h.2.2.2.2.1 q3
      refine r_tableAt (tg := 116) dX2_combined_8 q3 (by decide) (by decide) rfl (by decide) ?_
      exact h
    | 5, hi, hx =>
      have q3 : (eSw (a1 - 1).toNatClampNeg : Int32) = 18 := eToI (hx.trans (by decide))
      replace h := h.2.2.2.2.2.1 q3
      refine r_tableAt (tg := 116) dX2_combined_8 q3 (by decide) (by decide) rfl (by decide) ?_
      exact h
    | 6, hi, hx =>
      have q3 : (eSw (a1 - 1).toNatClampNeg : Int32) = 19 := eToI (hx.trans (by decide))
      replace h := h.2.2.2.2.2.2.1 q3
      refine r_tableAt (tg := 116) dX2_combined_8 q3 (by decide) (by decide) rfl (by decide) ?_
      exact h
    | 7, hi, hx =>
      have q3 : (eSw (a1 - 1).toNatClampNeg : Int32) = 20 := eToI (hx.trans (by decide))
      replace h := h.2.2.2.2.2.2.2.1 q3
      refine r_tableAt (tg := 116) dX2_combined_8 q3 (by decide) (by decide) rfl (by decide) ?_
      exact h
    | 8, hi, hx =>
      have q3 : (eSw (a1 - 1).toNatClampNeg : Int32) = 21 := eToI (hx.trans (by decide))
      replace h := h.2.2.2.2.2.2.2.2.1 q3
      refine r_tableAt (tg := 116) dX2_combined_8 q3 (by decide) (by decide) rfl (by decide) ?_
      exact h
    | 9, hi, hx =>
      have q3 : (eSw (a1 - 1).toNatClampNeg : Int32) = 22 := eToI (hx.trans (by decide))
      replace h := h.2.2.2.2.2.2.2.2.2.1 q3
      refine r_tableAt (tg := 116) dX2_combined_8 q3 (by decide) (by decide) rfl (by decide) ?_
      exact h
    | 10, hi, hx =>
      have q3 : (eSw (a1 - 1).toNatClampNeg : Int32) = 23 := eToI (hx.trans (by decide))
      replace h := h.2.2.2.2.2.2.2.2.2.2.1 q3
      refine r_tableAt (tg := 116) dX2_combined_8 q3 (by decide) (by decide) rfl (by decide) ?_
      exact h
    | 11, hi, hx =>
      have q3 : (eSw (a1 - 1).toNatClampNeg : Int32) = 24 := eToI (hx.trans (by decide))
      replace h := h.2.2.2.2.2.2.2.2.2.2.2.1 q3
      refine r_tableAt (tg := 80) dX2_combined_8 q3 (by decide) (by decide) rfl (by decide) ?_
      refine r_iload_n 1 dX2_combined_80 rfl rfl ?_
      refine r_iload_n 2 dX2_combined_81 rfl rfl ?_
      refine r_iadd dX2_combined_82 ?_
      refine r_iretI dX2_combined_83 rfl (by decide) (by decide) h
    | 12, hi, hx =>
      have q3 : (eSw (a1 - 1).toNatClampNeg : Int32) = 25 := eToI (hx.trans (by decide))
      replace h := h.2.2.2.2.2.2.2.2.2.2.2.2.1 q3
      refine r_tableAt (tg := 88) dX2_combined_8 q3 (by decide) (by decide) rfl (by decide) ?_
      refine r_iload_n 1 dX2_combined_88 rfl rfl ?_
      refine r_iload_n 2 dX2_combined_89 rfl rfl ?_
      refine r_imul dX2_combined_90 ?_
      refine r_iretI dX2_combined_91 rfl (by decide) (by decide) h
    | 13, hi, hx =>
      have q3 : (eSw (a1 - 1).toNatClampNeg : Int32) = 26 := eToI (hx.trans (by decide))
      replace h := h.2.2.2.2.2.2.2.2.2.2.2.2.2 q3
      refine r_tableAt (tg := 92) dX2_combined_8 q3 (by decide) (by decide) rfl (by decide) ?_
      exact Ev.sub (ks := [1, 2]) rfl h
    | i + 14, hi, hx => exact absurd hi (by omega)
set_option maxHeartbeats 4000000 in
set_option maxRecDepth 100000 in
theorem C_X2_holdsBetween (G : eG) (M : eM) (F : Bool → eM → Prop) (a1 : Int32) (a2 : Int32) (a3 : Int32)
    (h : (1 ≤ a1 ∧ a1 ≤ 44) ∧ (vp_in (a1 - 1) 44 ∧ ((((eSw (a1 - 1).toNatClampNeg : Int32).toInt < 27 ∨ 33 < (eSw (a1 - 1).toNatClampNeg : Int32).toInt) → F false M) ∧ ((eSw (a1 - 1).toNatClampNeg : Int32) = 27 → Ev (eZ G 0 68 0 0 (eFZ F)) G 0 68 (2, 0, 0) kX2_holdsBetween 52 [(1, .int a2), (2, .int a3)] [] M 0 0) ∧ ((eSw (a1 - 1).toNatClampNeg : Int32) = 28 → Ev (eZ G 0 68 0 0 (eFZ F)) G 0 68 (2, 0, 0) kX2_holdsBetween 63 [(1, .int a2), (2, .int a3)] [] M 0 0) ∧ ((eSw (a1 - 1).toNatClampNeg : Int32) = 29 → Ev (eZ G 0 68 0 0 (eFZ F)) G 0 68 (2, 0, 0) kX2_holdsBetween 74 [(1, .int a2), (2, .int a3)] [] M 0 0) ∧ ((eSw (a1 - 1).toNatClampNeg : Int32) = 30 → Ev (eZ G 0 68 0 0 (eFZ F)) G 0 68 (2, 0, 0) kX2_holdsBetween 85 [(1, .int a2), (2, .int a3)] [] M 0 0) ∧ ((eSw (a1 - 1).toNatClampNeg : Int32) = 31 → Ev (eZ G 0 68 0 0 (eFZ F)) G 0 68 (2, 0, 0) kX2_holdsBetween 96 [(1, .int a2), (2, .int a3)] [] M 0 0) ∧ ((eSw (a1 - 1).toNatClampNeg : Int32) = 32 → Ev (eZ G 0 68 0 0 (eFZ F)) G 0 68 (2, 0, 0) kX2_holdsBetween 107 [(1, .int a2), (2, .int a3)] [] M 0 0) ∧ ((eSw (a1 - 1).toNatClampNeg : Int32) = 33 → Ev (eZ G 0 68 0 0 (eFZ F)) G 0 68 (2, 0, 0) kX2_holdsBetween 121 [(1, .int a2), (2, .int a3)] [] M 0 0)))) :
    Cal G 0 68 (2, 0, 0) kX2_holdsBetween [eV G 1 a1, .int a2, .int a3] M (eFZ F) := by
  refine Cal.ofK [(0, eV G 1 a1), (1, .int a2), (2, .int a3)] (by decide +kernel) rfl (by rw [lg_len _ (by simp [eV_cat, eCatI, eCatR])]; exact Nat.le_of_ble_eq_true rfl) (by simp [lv_args, eV_cat, eCatI, eCatR]) ?_
  show Ev (eZ G 0 68 0 0 (eFZ F)) G 0 68 (2, 0, 0) kX2_holdsBetween 0 [(0, eV G 1 a1), (1, .int a2), (2, .int a3)] [] M 0 0
  refine r_gets (w := .ref (G.1 1306)) dX2_holdsBetween_0 lFX2_82 (fun h => h.2.2.2.2.2.2.2.2.2.2.1.1) ?_
  refine r_kload_n 0 dX2_holdsBetween_3 rfl rfl ?_
  have hx := h.1
  replace h := h.2
  refine r_ordinal (b' := (1, 0, 0)) (K' := kJx29ce0_ordinal_8abf5) (S := [.ref (G.1 1306)]) dX2_holdsBetween_4 hx rfl eOr_w rfl lOX2_91 eOr_s eOr_sel eOr_i eOr_n (by decide) (Nat.le_of_ble_eq_true rfl) (C_ordinal hx (fun r M' => a1 - 1 = r ∧ M = M') ⟨rfl, rfl⟩) (fun r M' q => ?_)
  obtain ⟨rfl, rfl⟩ := q
  have h1 := h.1
  replace h := h.2
  refine r_tald (tc := 1306) (f := eSw) dX2_holdsBetween_7 (fun h => h.2.2.2.2.2.2.2.2.2.2.1) h1 ?_
  by_cases q : (eSw (a1 - 1).toNatClampNeg : Int32).toInt < 27 ∨ 33 < (eSw (a1 - 1).toNatClampNeg : Int32).toInt
  · replace h := h.1 q
    refine r_tableOut (tg := 135) dX2_holdsBetween_8 q (by decide) ?_
    refine r_iconst (v := 0) dX2_holdsBetween_135 rfl ?_
    refine r_iretZ0 dX2_holdsBetween_136 rfl (by decide) (by decide) h
  · replace h := h.2
    refine eTabCases (N := 7) q (by decide) (fun i9 hi hx => ?_)
    match i9, hi, hx with
    | 0, hi, hx =>
      have q3 : (eSw (a1 - 1).toNatClampNeg : Int32) = 27 := eToI (hx.trans (by decide))
      replace h := h.1 q3
      refine r_tableAt (tg := 52) dX2_holdsBetween_8 q3 (by decide) (by decide) rfl (by decide) ?_
      exact Ev.sub (ks := [1, 2]) rfl h
    | 1, hi, hx =>
      have q3 : (eSw (a1 - 1).toNatClampNeg : Int32) = 28 := eToI (hx.trans (by decide))
      replace h := h.2.1 q3
      refine r_tableAt (tg := 63) dX2_holdsBetween_8 q3 (by decide) (by decide) rfl (by decide) ?_
      exact Ev.sub (ks := [1, 2]) rfl h
    | 2, hi, hx =>
      have q3 : (eSw (a1 - 1).toNatClampNeg : Int32) = 29 := eToI (hx.trans (by decide))
      replace h := h.2.2.1 q3
      refine r_tableAt (tg := 74) dX2_holdsBetween_8 q3 (by decide) (by decide) rfl (by decide) ?_
      exact Ev.sub (ks := [1, 2]) rfl h
    | 3, hi, hx =>
      have q3 : (eSw (a1 - 1).toNatClampNeg : Int32) = 30 := eToI (hx.trans (by decide))
      replace h := h.2.2.2.1 q3
      refine r_tableAt (tg := 85) dX2_holdsBetween_8 q3 (by decide) (by decide) rfl (by decide) ?_
      exact Ev.sub (ks := [1, 2]) rfl h
    | 4, hi, hx =>
      have q3 : (eSw (a1 - 1).toNatClampNeg : Int32) = 31 := eToI (hx.trans (by decide))
      replace h := h.2.2.2.2.1 q3
      refine r_tableAt (tg := 96) dX2_holdsBetween_8 q3 (by decide) (by decide) rfl (by decide) ?_
      exact Ev.sub (ks := [1, 2]) rfl h
    | 5, hi, hx =>
      have q3 : (eSw (a1 - 1).toNatClampNeg : Int32) = 32 := eToI (hx.trans (by decide))
      replace h := h.2.2.2.2.2.1 q3
      refine r_tableAt (tg := 107) dX2_holdsBetween_8 q3 (by decide) (by decide) rfl (by decide) ?_
      exact Ev.sub (ks := [1, 2]) rfl h
    | 6, hi, hx =>
      have q3 : (eSw (a1 - 1).toNatClampNeg : Int32) = 33 := eToI (hx.trans (by decide))
      replace h := h.2.2.2.2.2.2 q3
      refine r_tableAt (tg := 121) dX2_holdsBetween_8 q3 (by decide) (by decide) rfl (by decide) ?_
      exact Ev.sub (ks := [1, 2]) rfl h
    | i + 7, hi, hx => exact absurd hi (by omega)
set_option maxHeartbeats 4000000 in
set_option maxRecDepth 100000 in
theorem C_X5_errorAtToken (G : eG) (M : eM) (F : Int32 → eM → Prop) 
    (h : Cal G 0 68 (1, 0, 0) kX9_kindOf [.ref (G.1 3), .int (M 14 6)] M (eFK G (fun (r1 : Int32) (M1 : eM) => (1 ≤ r1 ∧ r1 ≤ 44) ∧ (vp_in (r1 - 1) 44 ∧ ((((eSw (r1 - 1).toNatClampNeg : Int32).toInt < 5 ∨ 22 < (eSw (r1 - 1).toNatClampNeg : Int32).toInt) → F 0 M1) ∧ ((eSw (r1 - 1).toNatClampNeg : Int32) = 5 → Ev (eZ G 0 68 0 0 (eFI F)) G 0 68 (5, 0, 0) kX5_errorAtToken 154 [(0, .ref (G.1 14))] [] M1 0 0) ∧ ((eSw (r1 - 1).toNatClampNeg : Int32) = 6 → F 0 M1) ∧ ((eSw (r1 - 1).toNatClampNeg : Int32) = 7 → F 0 M1) ∧ ((eSw (r1 - 1).toNatClampNeg : Int32) = 8 → F 0 M1) ∧ ((eSw (r1 - 1).toNatClampNeg : Int32) = 9 → F 0 M1) ∧ ((eSw (r1 - 1).toNatClampNeg : Int32) = 10 → F 0 M1) ∧ ((eSw (r1 - 1).toNatClampNeg : Int32) = 11 → F 0 M1) ∧ ((eSw (r1 - 1).toNatClampNeg : Int32) = 12 → F 0 M1) ∧ ((eSw (r1 - 1).toNatClampNeg : Int32) = 13 → F 0 M1) ∧ ((eSw (r1 - 1).toNatClampNeg : Int32) = 14 → F 0 M1) ∧ ((eSw (r1 - 1).toNatClampNeg : Int32) = 15 → F 0 M1) ∧ ((eSw (r1 - 1).toNatClampNeg : Int32) = 16 → F 0 M1) ∧ ((eSw (r1 - 1).toNatClampNeg : Int32) = 17 → Ev (eZ G 0 68 0 0 (eFI F)) G 0 68 (5, 0, 0) kX5_errorAtToken 108 [(0, .ref (G.1 14)), (1, eV G 1 r1)] [] M1 0 0) ∧ ((eSw (r1 - 1).toNatClampNeg : Int32) = 18 → Ev (eZ G 0 68 0 0 (eFI F)) G 0 68 (5, 0, 0) kX5_errorAtToken 108 [(0, .ref (G.1 14)), (1, eV G 1 r1)] [] M1 0 0) ∧ ((eSw (r1 - 1).toNatClampNeg : Int32) = 19 → Ev (eZ G 0 68 0 0 (eFI F)) G 0 68 (5, 0, 0) kX5_errorAtToken 115 [(0, .ref (G.1 14)), (1, eV G 1 r1)] [] M1 0 0) ∧ ((eSw (r1 - 1).toNatClampNeg : Int32) = 20 → Ev (eZ G 0 68 0 0 (eFI F)) G 0 68 (5, 0, 0) kX5_errorAtToken 115 [(0, .ref (G.1 14)), (1, eV G 1 r1)] [] M1 0 0) ∧ ((eSw (r1 - 1).toNatClampNeg : Int32) = 21 → Ev (eZ G 0 68 0 0 (eFI F)) G 0 68 (5, 0, 0) kX5_errorAtToken 115 [(0, .ref (G.1 14)), (1, eV G 1 r1)] [] M1 0 0) ∧ ((eSw (r1 - 1).toNatClampNeg : Int32) = 22 → Ev (eZ G 0 68 0 0 (eFI F)) G 0 68 (5, 0, 0) kX5_errorAtToken 145 [(0, .ref (G.1 14))] [] M1 0 0)))))) :
    Cal G 0 68 (5, 0, 0) kX5_errorAtToken [.ref (G.1 14)] M (eFI F) := by
  refine Cal.of (by decide +kernel) rfl (Nat.le_of_ble_eq_true rfl) ?_
  show Ev (eZ G 0 68 0 0 (eFI F)) G 0 68 (5, 0, 0) kX5_errorAtToken 0 [(0, .ref (G.1 14))] [] M 0 0
  refine r_aload_n 0 dX5_errorAtToken_0 rfl rfl ?_
  refine r_getR (c := 14) (k := 0) 3 dX5_errorAtToken_1 clX5 lFX5_24 (by decide) iF14 sC14 rfl ?_
  refine r_aload_n 0 dX5_errorAtToken_4 rfl rfl ?_
  refine r_getI (c := 14) (k := 6) dX5_errorAtToken_5 clX5 lFX5_39 (by decide) iF14 sC14 rfl ?_
  refine r_callVK (b' := (1, 0, 0)) (c := 3) (S := []) [.int (M 14 6)] dX5_errorAtToken_8 mX9_kindOf lMX5_57 clX9 rfl iF3 sC3 rfl (by decide) (Nat.le_of_ble_eq_true rfl) h (fun r1 M1 h => ?_) rfl
  refine r_kstore_n (l' := [(1, eV G 1 r1), (0, .ref (G.1 14))]) dX5_errorAtToken_11 rfl (by decide) rfl ?_
  refine r_gets (w := .ref (G.1 1306)) dX5_errorAtToken_12 lFX5_61 (fun h => h.2.2.2.2.2.2.2.2.2.2.1.1) ?_
  refine r_kload_n 0 dX5_errorAtToken_15 rfl rfl ?_
  have hx := h.1
  replace h := h.2
  refine r_ordinal (b' := (1, 0, 0)) (K' := kJx29ce0_ordinal_8abf5) (S := [.ref (G.1 1306)]) dX5_errorAtToken_16 hx rfl eOr_w rfl lOX5_66 eOr_s eOr_sel eOr_i eOr_n (by decide) (Nat.le_of_ble_eq_true rfl) (C_ordinal hx (fun r M' => r1 - 1 = r ∧ M1 = M') ⟨rfl, rfl⟩) (fun r M' q => ?_)
  obtain ⟨rfl, rfl⟩ := q
  have h1 := h.1
  replace h := h.2
  refine r_tald (tc := 1306) (f := eSw) dX5_errorAtToken_19 (fun h => h.2.2.2.2.2.2.2.2.2.2.1) h1 ?_
  by_cases q : (eSw (r1 - 1).toNatClampNeg : Int32).toInt < 5 ∨ 22 < (eSw (r1 - 1).toNatClampNeg : Int32).toInt
  · replace h := h.1 q
    refine r_tableOut (tg := 170) dX5_errorAtToken_20 q (by decide) ?_
    refine r_iconst (v := 0) dX5_errorAtToken_170 rfl ?_
    refine r_iretI dX5_errorAtToken_171 rfl (by decide) (by decide) h
  · replace h := h.2
    refine eTabCases (N := 18) q (by decide) (fun i9 hi hx => ?_)
    match i9, hi, hx with
    | 0, hi, hx =>
      have q3 : (eSw (r1 - 1).toNatClampNeg : Int32) = 5 := eToI (hx.trans (by decide))
      replace h := h.1 q3
      refine r_tableAt (tg := 154) dX5_errorAtToken_20 q3 (by decide) (by decide) rfl (by decide) ?_
      exact Ev.sub (ks := [1]) rfl h
    | 1, hi, hx =>
      have q3 : (eSw (r1 - 1).toNatClampNeg : Int32) = 6 := eToI (hx.trans (by decide))
      replace h := h.2.1 q3
      refine r_tableAt (tg := 170) dX5_errorAtToken_20 q3 (by decide) (by decide) rfl (by decide) ?_
      refine r_iconst (v := 0) dX5_errorAtToken_170 rfl ?_
      refine r_iretI dX5_errorAtToken_171 rfl (by decide) (by decide) h
    | 2, hi, hx =>
      have q3 : (eSw (r1 - 1).toNatClampNeg : Int32) = 7 := eToI (hx.trans (by decide))
      replace h := h.2.2.1 q3
      refine r_tableAt (tg := 170) dX5_errorAtToken_20 q3 (by decide) (by decide) rfl (by decide) ?_
      refine r_iconst (v := 0) dX5_errorAtToken_170 rfl ?_
      refine r_iretI dX5_errorAtToken_171 rfl (by decide) (by decide) h
    | 3, hi, hx =>
      have q3 : (eSw (r1 - 1).toNatClampNeg : Int32) = 8 := eToI (hx.trans (by decide))
      replace h := h.2.2.2.1 q3
      refine r_tableAt (tg := 170) dX5_errorAtToken_20 q3 (by decide) (by decide) rfl (by decide) ?_
      refine r_iconst (v := 0) dX5_errorAtToken_170 rfl ?_
      refine r_iretI dX5_errorAtToken_171 rfl (by decide) (by decide) h
    | 4, hi, hx =>
      have q3 : (eSw (r1 - 1).toNatClampNeg : Int32) = 9 := eToI (hx.trans (by decide))
      replace h := h.2.2.2.2.1 q3
      refine r_tableAt (tg := 170) dX5_errorAtToken_20 q3 (by decide) (by decide) rfl (by decide) ?_
      refine r_iconst (v := 0) dX5_errorAtToken_170 rfl ?_
      refine r_iretI dX5_errorAtToken_171 rfl (by decide) (by decide) h
    | 5, hi, hx =>
      have q3 : (eSw (r1 - 1).toNatClampNeg : Int32) = 10 := eToI (hx.trans (by decide))
      replace h := h.2.2.2.2.2.1 q3
      refine r_tableAt (tg := 170) dX5_errorAtToken_20 q3 (by decide) (by decide) rfl (by decide) ?_
      refine r_iconst (v := 0) dX5_errorAtToken_170 rfl ?_
      refine r_iretI dX5_errorAtToken_171 rfl (by decide) (by decide) h
    | 6, hi, hx =>
      have q3 : (eSw (r1 - 1).toNatClampNeg : Int32) = 11 := eToI (hx.trans (by decide))
      replace h := h.2.2.2.2.2.2.1 q3
      refine r_tableAt (tg := 170) dX5_errorAtToken_20 q3 (by decide) (by decide) rfl (by decide) ?_
      refine r_iconst (v := 0) dX5_errorAtToken_170 rfl ?_
      refine r_iretI dX5_errorAtToken_171 rfl (by decide) (by decide) h
    | 7, hi, hx =>
      have q3 : (eSw (r1 - 1).toNatClampNeg : Int32) = 12 := eToI (hx.trans (by decide))
      replace h := h.2.2.2.2.2.2.2.1 q3
      refine r_tableAt (tg := 170) dX5_errorAtToken_20 q3 (by decide) (by decide) rfl (by decide) ?_
      refine r_iconst (v := 0) dX5_errorAtToken_170 rfl ?_
      refine r_iretI dX5_errorAtToken_171 rfl (by decide) (by decide) h
    | 8, hi, hx =>
      have q3 : (eSw (r1 - 1).toNatClampNeg : Int32) = 13 := eToI (hx.trans (by decide))
      replace h := h.2.2.2.2.2.2.2.2.1 q3
      refine r_tableAt (tg := 170) dX5_errorAtToken_20 q3 (by decide) (by decide) rfl (by decide) ?_
      refine r_iconst (v := 0) dX5_errorAtToken_170 rfl ?_
      refine r_iretI dX5_errorAtToken_171 rfl (by decide) (by decide) h
    | 9, hi, hx =>
      have q3 : (eSw (r1 - 1).toNatClampNeg : Int32) = 14 := eToI (hx.trans (by decide))
      replace h := h.2.2.2.2.2.2.2.2.2.1 q3
      refine r_tableAt (tg := 170) dX5_errorAtToken_20 q3 (by decide) (by decide) rfl (by decide) ?_
      refine r_iconst (v := 0) dX5_errorAtToken_170 rfl ?_
      refine r_iretI dX5_errorAtToken_171 rfl (by decide) (by decide) h
    | 10, hi, hx =>
      have q3 : (eSw (r1 - 1).toNatClampNeg : Int32) = 15 := eToI (hx.trans (by decide))
      replace h := h.2.2.2.2.2.2.2.2.2.2.1 q3
      refine r_tableAt (tg := 170) dX5_errorAtToken_20 q3 (by decide) (by decide) rfl (by decide) ?_
      refine r_iconst (v := 0) dX5_errorAtToken_170 rfl ?_
      refine r_iretI dX5_errorAtToken_171 rfl (by decide) (by decide) h
    | 11, hi, hx =>
      have q3 : (eSw (r1 - 1).toNatClampNeg : Int32) = 16 := eToI (hx.trans (by decide))
      replace h := h.2.2.2.2.2.2.2.2.2.2.2.1 q3
      refine r_tableAt (tg := 170) dX5_errorAtToken_20 q3 (by decide) (by decide) rfl (by decide) ?_
      refine r_iconst (v := 0) dX5_errorAtToken_170 rfl ?_
      refine r_iretI dX5_errorAtToken_171 rfl (by decide) (by decide) h
    | 12, hi, hx =>
      have q3 : (eSw (r1 - 1).toNatClampNeg : Int32) = 17 := eToI (hx.trans (by decide))
      replace h := h.2.2.2.2.2.2.2.2.2.2.2.2.1 q3
      refine r_tableAt (tg := 108) dX5_errorAtToken_20 q3 (by decide) (by decide) rfl (by decide) ?_
      exact Ev.sub (ks := [1, 0]) rfl h
    | 13, hi, hx =>
      have q3 : (eSw (r1 - 1).toNatClampNeg : Int32) = 18 := eToI (hx.trans (by decide))
      replace h := h.2.2.2.2.2.2.2.2.2.2.2.2.2.1 q3
      refine r_tableAt (tg := 108) dX5_errorAtToken_20 q3 (by decide) (by decide) rfl (by decide) ?_
      exact Ev.sub (ks := [1, 0]) rfl h
    | 14, hi, hx =>
      have q3 : (eSw (r1 - 1).toNatClampNeg : Int32) = 19 := eToI (hx.trans (by decide))
      replace h := h.2.2.2.2.2.2.2.2.2.2.2.2.2.2.1 q3
      refine r_tableAt (tg := 115) dX5_errorAtToken_20 q3 (by decide) (by decide) rfl (by decide) ?_
      exact Ev.sub (ks := [1, 0]) rfl h
    | 15, hi, hx =>
      have q3 : (eSw (r1 - 1).toNatClampNeg : Int32) = 20 := eToI (hx.trans (by decide))
      replace h := h.2.2.2.2.2.2.2.2.2.2.2.2.2.2.2.1 q3
      refine r_tableAt (tg := 115) dX5_errorAtToken_20 q3 (by decide) (by decide) rfl (by decide) ?_
      exact Ev.sub (ks := [1, 0]) rfl h
    | 16, hi, hx =>
      have q3 : (eSw (r1 - 1).toNatClampNeg : Int32) = 21 := eToI (hx.trans (by decide))
      replace h := h.2.2.2.2.2.2.2.2.2.2.2.2.2.2.2.2.1 q3
      refine r_tableAt (tg := 115) dX5_errorAtToken_20 q3 (by decide) (by decide) rfl (by decide) ?_
      exact Ev.sub (ks := [1, 0]) rfl h
    | 17, hi, hx =>
      have q3 : (eSw (r1 - 1).toNatClampNeg : Int32) = 22 := eToI (hx.trans (by decide))
      replace h := h.2.2.2.2.2.2.2.2.2.2.2.2.2.2.2.2.2 q3
      refine r_tableAt (tg := 145) dX5_errorAtToken_20 q3 (by decide) (by decide) rfl (by decide) ?_
      exact Ev.sub (ks := [1]) rfl h
    | i + 18, hi, hx => exact absurd hi (by omega)

