/-! ===== constructors ===== -/
theorem xa_int : Cond.arrayClass .int ∈ lw_tbl := tb1 _ (List.mem_of_getElem? (i := 87) rfl)
theorem xa_byte : Cond.arrayClass .byte ∈ lw_tbl := tb1 _ (List.mem_of_getElem? (i := 58) rfl)
theorem xa_boolean : Cond.arrayClass .boolean ∈ lw_tbl := tb7 _ (List.mem_of_getElem? (i := 220) rfl)
theorem xo_in : Cond.instanceMethod Lib.objectInit ∈ lw_tbl := tb1 _ (List.mem_of_getElem? (i := 41) rfl)
theorem xo_co : Cond.code Lib.objectInit ⟨#[0xb1]⟩ 1 none ∈ lw_tbl := tb1 _ (List.mem_of_getElem? (i := 42) rfl)
theorem xd_X1 : ∀ j, j < 17 → defaultValue (tyX1 j) = vp_V [.int 0, .int 0, .int 0, .int 0, .int 0, .null, .null, .null, .null, .null, .null, .null, .null, .null, .null, .null, .null] j := by
  intro j hj
  match j, hj with
  | 0, _ => rfl
  | 1, _ => rfl
  | 2, _ => rfl
  | 3, _ => rfl
  | 4, _ => rfl
  | 5, _ => rfl
  | 6, _ => rfl
  | 7, _ => rfl
  | 8, _ => rfl
  | 9, _ => rfl
  | 10, _ => rfl
  | 11, _ => rfl
  | 12, _ => rfl
  | 13, _ => rfl
  | 14, _ => rfl
  | 15, _ => rfl
  | 16, _ => rfl
  | j + 17, hj => exact absurd hj (by omega)
theorem xd_X2 : ∀ j, j < 6 → defaultValue (tyX2 j) = vp_V [.null, .null, .null, .int 0, .int 0, .int 0] j := by
  intro j hj
  match j, hj with
  | 0, _ => rfl
  | 1, _ => rfl
  | 2, _ => rfl
  | 3, _ => rfl
  | 4, _ => rfl
  | 5, _ => rfl
  | j + 6, hj => exact absurd hj (by omega)
theorem xd_X3 : ∀ j, j < 4 → defaultValue (tyX3 j) = vp_V [.null, .null, .null, .int 0] j := by
  intro j hj
  match j, hj with
  | 0, _ => rfl
  | 1, _ => rfl
  | 2, _ => rfl
  | 3, _ => rfl
  | j + 4, hj => exact absurd hj (by omega)
theorem xd_X5 : ∀ j, j < 7 → defaultValue (tyX5 j) = vp_V [.null, .null, .null, .int 0, .int 0, .null, .int 0] j := by
  intro j hj
  match j, hj with
  | 0, _ => rfl
  | 1, _ => rfl
  | 2, _ => rfl
  | 3, _ => rfl
  | 4, _ => rfl
  | 5, _ => rfl
  | 6, _ => rfl
  | j + 7, hj => exact absurd hj (by omega)
theorem xd_X6 : ∀ j, j < 5 → defaultValue (tyX6 j) = vp_V [.null, .int 0, .int 0, .int 0, .int 0] j := by
  intro j hj
  match j, hj with
  | 0, _ => rfl
  | 1, _ => rfl
  | 2, _ => rfl
  | 3, _ => rfl
  | 4, _ => rfl
  | j + 5, hj => exact absurd hj (by omega)
theorem xd_X7 : ∀ j, j < 10 → defaultValue (tyX7 j) = vp_V [.int 0, .int 0, .int 0, .null, .int 0, .null, .int 0, .null, .null, .int 0] j := by
  intro j hj
  match j, hj with
  | 0, _ => rfl
  | 1, _ => rfl
  | 2, _ => rfl
  | 3, _ => rfl
  | 4, _ => rfl
  | 5, _ => rfl
  | 6, _ => rfl
  | 7, _ => rfl
  | 8, _ => rfl
  | 9, _ => rfl
  | j + 10, hj => exact absurd hj (by omega)
theorem xd_X8 : ∀ j, j < 2 → defaultValue (tyX8 j) = vp_V [.null, .int 0] j := by
  intro j hj
  match j, hj with
  | 0, _ => rfl
  | 1, _ => rfl
  | j + 2, hj => exact absurd hj (by omega)
theorem xd_X9 : ∀ j, j < 6 → defaultValue (tyX9 j) = vp_V [.null, .null, .null, .null, .null, .int 0] j := by
  intro j hj
  match j, hj with
  | 0, _ => rfl
  | 1, _ => rfl
  | 2, _ => rfl
  | 3, _ => rfl
  | 4, _ => rfl
  | 5, _ => rfl
  | j + 6, hj => exact absurd hj (by omega)
theorem xd_X10 : ∀ j, j < 8 → defaultValue (tyX10 j) = vp_V [.null, .null, .null, .null, .null, .null, .null, .int 0] j := by
  intro j hj
  match j, hj with
  | 0, _ => rfl
  | 1, _ => rfl
  | 2, _ => rfl
  | 3, _ => rfl
  | 4, _ => rfl
  | 5, _ => rfl
  | 6, _ => rfl
  | 7, _ => rfl
  | j + 8, hj => exact absurd hj (by omega)
theorem xd_X11 : ∀ j, j < 1 → defaultValue (tyX11 j) = vp_V [.int 0] j := by
  intro j hj
  match j, hj with
  | 0, _ => rfl
  | j + 1, hj => exact absurd hj (by omega)
theorem xd_X12 : ∀ j, j < 5 → defaultValue (tyX12 j) = vp_V [.int 0, .int 0, .null, .int 0, .null] j := by
  intro j hj
  match j, hj with
  | 0, _ => rfl
  | 1, _ => rfl
  | 2, _ => rfl
  | 3, _ => rfl
  | 4, _ => rfl
  | j + 5, hj => exact absurd hj (by omega)
theorem xd_X13 : ∀ j, j < 4 → defaultValue (tyX13 j) = vp_V [.int 0, .int 0, .null, .null] j := by
  intro j hj
  match j, hj with
  | 0, _ => rfl
  | 1, _ => rfl
  | 2, _ => rfl
  | 3, _ => rfl
  | j + 4, hj => exact absurd hj (by omega)
theorem xd_X14 : ∀ j, j < 4 → defaultValue (tyX14 j) = vp_V [.int 0, .int 0, .null, .null] j := by
  intro j hj
  match j, hj with
  | 0, _ => rfl
  | 1, _ => rfl
  | 2, _ => rfl
  | 3, _ => rfl
  | j + 4, hj => exact absurd hj (by omega)
theorem xd_J0 : ∀ j, j < 4 → defaultValue (tyJ0 j) = vp_V [.null, .int 0, .int 0, .int 0] j := by
  intro j hj
  match j, hj with
  | 0, _ => rfl
  | 1, _ => rfl
  | 2, _ => rfl
  | 3, _ => rfl
  | j + 4, hj => exact absurd hj (by omega)
theorem xd_J4 : ∀ j, j < 4 → defaultValue (tyJ4 j) = vp_V [.null, .int 0, .int 0, .int 0] j := by
  intro j hj
  match j, hj with
  | 0, _ => rfl
  | 1, _ => rfl
  | 2, _ => rfl
  | 3, _ => rfl
  | j + 4, hj => exact absurd hj (by omega)
theorem miX8_init : eMI kX8_init 0 := ⟨tb1 _ (List.mem_of_getElem? (i := 47) rfl), tb1 _ (List.mem_of_getElem? (i := 46) rfl), tb1 _ (List.mem_of_getElem? (i := 2) rfl), by decide +kernel, rfl, rfl⟩
theorem miX9_init : eMI kX9_init 1 := ⟨tb1 _ (List.mem_of_getElem? (i := 63) rfl), tb1 _ (List.mem_of_getElem? (i := 62) rfl), tb1 _ (List.mem_of_getElem? (i := 3) rfl), by decide +kernel, rfl, rfl⟩
theorem miX7_init : eMI kX7_init 0 := ⟨tb1 _ (List.mem_of_getElem? (i := 92) rfl), tb1 _ (List.mem_of_getElem? (i := 91) rfl), tb1 _ (List.mem_of_getElem? (i := 4) rfl), by decide +kernel, rfl, rfl⟩
theorem miX6_init : eMI kX6_init 0 := ⟨tb1 _ (List.mem_of_getElem? (i := 100) rfl), tb1 _ (List.mem_of_getElem? (i := 99) rfl), tb1 _ (List.mem_of_getElem? (i := 5) rfl), by decide +kernel, rfl, rfl⟩
theorem miX3_init : eMI kX3_init 2 := ⟨tb1 _ (List.mem_of_getElem? (i := 169) rfl), tb1 _ (List.mem_of_getElem? (i := 168) rfl), tb1 _ (List.mem_of_getElem? (i := 8) rfl), by decide +kernel, rfl, rfl⟩
theorem miX5_init : eMI kX5_init 2 := ⟨tb1 _ (List.mem_of_getElem? (i := 190) rfl), tb1 _ (List.mem_of_getElem? (i := 189) rfl), tb1 _ (List.mem_of_getElem? (i := 9) rfl), by decide +kernel, rfl, rfl⟩
theorem miX1_init : eMI kX1_init 0 := ⟨tb1 _ (List.mem_of_getElem? (i := 220) rfl), tb1 _ (List.mem_of_getElem? (i := 219) rfl), tb1 _ (List.mem_of_getElem? (i := 10) rfl), by decide +kernel, rfl, rfl⟩
theorem miX2_init : eMI kX2_init 1 := ⟨tb2 _ (List.mem_of_getElem? (i := 50) rfl), tb2 _ (List.mem_of_getElem? (i := 49) rfl), tb1 _ (List.mem_of_getElem? (i := 11) rfl), by decide +kernel, rfl, rfl⟩
theorem miX10_init : eMI kX10_init 0 := ⟨tb1 _ (List.mem_of_getElem? (i := 39) rfl), tb1 _ (List.mem_of_getElem? (i := 38) rfl), tb1 _ (List.mem_of_getElem? (i := 1) rfl), by decide +kernel, rfl, rfl⟩
set_option maxHeartbeats 4000000 in
set_option maxRecDepth 100000 in
theorem I_X8_init (G : eG) (a : Nat) : xCal G xN0 (1, 1, 2000) kX8_init [.ref a] [(a, .inr (6, [.null, .int 0]))] (fun v w' => v = none ∧ ∃ q1 : Nat, w' = [(a, .inr (6, [.ref q1, .int 0])), (q1, .inl (G.2.2.2 1, (2000, .inl (fun _ => 0))))]) := by
  refine xCal.of (by decide +kernel) rfl (Nat.le_of_ble_eq_true rfl) ?_
  show Ex _ _ _ _ _ _ [(0, .ref a)] _ _ _ _
  refine x_aload_n 0 dX8_init_0 rfl rfl ?_
  refine x_objInit dX8_init_1 (tb1 _ (List.mem_of_getElem? (i := 48) rfl)) xo_in xo_co ⟨Nat.le_of_ble_eq_true rfl, Nat.le_of_ble_eq_true rfl⟩ (Nat.le_of_ble_eq_true rfl) ?_
  refine x_aload_n 0 dX8_init_4 rfl rfl ?_
  refine x_sipush (v := 2000) dX8_init_5 rfl ?_
  refine x_newb (N := 2000) dX8_init_8 xa_byte (by decide) (by decide) (by decide) ⟨Nat.le_of_ble_eq_true rfl, Nat.le_of_ble_eq_true rfl⟩ (fun q1 => ?_)
  refine Ex.ww (w' := [(a, .inr (6, [.null, .int 0])), (q1, .inl (G.2.2.2 1, (2000, .inl (fun _ => 0))))]) rfl ?_
  refine x_putF (fun _ _ _ _ h => h.1) (q0 := 0) (k := 0) (ft := tyX8 0) dX8_init_10 clX8 lFX8_9 (by decide) rfl (Nat.le_of_ble_eq_true rfl) rfl rfl (clX8.2.2.1 0 (by decide)) rfl rfl ?_
  refine Ex.ww (w' := [(a, .inr (6, [.ref q1, .int 0])), (q1, .inl (G.2.2.2 1, (2000, .inl (fun _ => 0))))]) rfl ?_
  refine x_vret dX8_init_13 rfl (Nat.le_of_ble_eq_true rfl) (Nat.le_of_ble_eq_true rfl) ?_
  exact ⟨rfl, q1, rfl⟩
set_option maxHeartbeats 4000000 in
set_option maxRecDepth 100000 in
theorem I_X9_init (G : eG) (a : Nat) (tp : Nat) : xCal G xN0 (1, 4, 1604) kX9_init [.ref a, .ref tp] [(a, .inr (7, [.null, .null, .null, .null, .null, .int 0]))] (fun v w' => v = none ∧ ∃ q1 q2 q3 q4 : Nat, w' = [(a, .inr (7, [.ref tp, .ref q1, .ref q2, .ref q3, .ref q4, .int 0])), (q1, .inl (G.2.2.2 3, (401, .inr (.inr (.inr (.inr (fun _ => none))))))), (q2, .inl (G.2.2.2 0, (401, .inl (fun _ => 0)))), (q3, .inl (G.2.2.2 0, (401, .inl (fun _ => 0)))), (q4, .inl (G.2.2.2 0, (401, .inl (fun _ => 0))))]) := by
  refine xCal.of (by decide +kernel) rfl (Nat.le_of_ble_eq_true rfl) ?_
  show Ex _ _ _ _ _ _ [(0, .ref a), (1, .ref tp)] _ _ _ _
  refine x_aload_n 0 dX9_init_0 rfl rfl ?_
  refine x_objInit dX9_init_1 (tb1 _ (List.mem_of_getElem? (i := 64) rfl)) xo_in xo_co ⟨Nat.le_of_ble_eq_true rfl, Nat.le_of_ble_eq_true rfl⟩ (Nat.le_of_ble_eq_true rfl) ?_
  refine x_aload_n 0 dX9_init_4 rfl rfl ?_
  refine x_sipush (v := 401) dX9_init_5 rfl ?_
  refine x_newq (t := 3) (N := 401) dX9_init_8 (tb1 _ (List.mem_of_getElem? (i := 65) rfl)) (fun _ _ _ _ h => h.2.1) rfl (by decide) (by decide) (by decide) ⟨Nat.le_of_ble_eq_true rfl, Nat.le_of_ble_eq_true rfl⟩ (fun q1 => ?_)
  refine Ex.ww (w' := [(a, .inr (7, [.null, .null, .null, .null, .null, .int 0])), (q1, .inl (G.2.2.2 3, (401, .inr (.inr (.inr (.inr (fun _ => none)))))))]) rfl ?_
  refine x_putF (fun _ _ _ _ h => h.1) (q0 := 0) (k := 1) (ft := tyX9 1) dX9_init_11 clX9 lFX9_11 (by decide) rfl (Nat.le_of_ble_eq_true rfl) rfl rfl (clX9.2.2.1 1 (by decide)) rfl rfl ?_
  refine Ex.ww (w' := [(a, .inr (7, [.null, .ref q1, .null, .null, .null, .int 0])), (q1, .inl (G.2.2.2 3, (401, .inr (.inr (.inr (.inr (fun _ => none)))))))]) rfl ?_
  refine x_aload_n 0 dX9_init_14 rfl rfl ?_
  refine x_sipush (v := 401) dX9_init_15 rfl ?_
  refine x_newi (N := 401) dX9_init_18 xa_int (by decide) (by decide) (by decide) ⟨Nat.le_of_ble_eq_true rfl, Nat.le_of_ble_eq_true rfl⟩ (fun q2 => ?_)
  refine Ex.ww (w' := [(a, .inr (7, [.null, .ref q1, .null, .null, .null, .int 0])), (q1, .inl (G.2.2.2 3, (401, .inr (.inr (.inr (.inr (fun _ => none))))))), (q2, .inl (G.2.2.2 0, (401, .inl (fun _ => 0))))]) rfl ?_
  refine x_putF (fun _ _ _ _ h => h.1) (q0 := 0) (k := 2) (ft := tyX9 2) dX9_init_20 clX9 lFX9_17 (by decide) rfl (Nat.le_of_ble_eq_true rfl) rfl rfl (clX9.2.2.1 2 (by decide)) rfl rfl ?_
  refine Ex.ww (w' := [(a, .inr (7, [.null, .ref q1, .ref q2, .null, .null, .int 0])), (q1, .inl (G.2.2.2 3, (401, .inr (.inr (.inr (.inr (fun _ => none))))))), (q2, .inl (G.2.2.2 0, (401, .inl (fun _ => 0))))]) rfl ?_
  refine x_aload_n 0 dX9_init_23 rfl rfl ?_
  refine x_sipush (v := 401) dX9_init_24 rfl ?_
  refine x_newi (N := 401) dX9_init_27 xa_int (by decide) (by decide) (by decide) ⟨Nat.le_of_ble_eq_true rfl, Nat.le_of_ble_eq_true rfl⟩ (fun q3 => ?_)
  refine Ex.ww (w' := [(a, .inr (7, [.null, .ref q1, .ref q2, .null, .null, .int 0])), (q1, .inl (G.2.2.2 3, (401, .inr (.inr (.inr (.inr (fun _ => none))))))), (q2, .inl (G.2.2.2 0, (401, .inl (fun _ => 0)))), (q3, .inl (G.2.2.2 0, (401, .inl (fun _ => 0))))]) rfl ?_
  refine x_putF (fun _ _ _ _ h => h.1) (q0 := 0) (k := 3) (ft := tyX9 3) dX9_init_29 clX9 lFX9_21 (by decide) rfl (Nat.le_of_ble_eq_true rfl) rfl rfl (clX9.2.2.1 3 (by decide)) rfl rfl ?_
  refine Ex.ww (w' := [(a, .inr (7, [.null, .ref q1, .ref q2, .ref q3, .null, .int 0])), (q1, .inl (G.2.2.2 3, (401, .inr (.inr (.inr (.inr (fun _ => none))))))), (q2, .inl (G.2.2.2 0, (401, .inl (fun _ => 0)))), (q3, .inl (G.2.2.2 0, (401, .inl (fun _ => 0))))]) rfl ?_
  refine x_aload_n 0 dX9_init_32 rfl rfl ?_
  refine x_sipush (v := 401) dX9_init_33 rfl ?_
  refine x_newi (N := 401) dX9_init_36 xa_int (by decide) (by decide) (by decide) ⟨Nat.le_of_ble_eq_true rfl, Nat.le_of_ble_eq_true rfl⟩ (fun q4 => ?_)
  refine Ex.ww (w' := [(a, .inr (7, [.null, .ref q1, .ref q2, .ref q3, .null, .int 0])), (q1, .inl (G.2.2.2 3, (401, .inr (.inr (.inr (.inr (fun _ => none))))))), (q2, .inl (G.2.2.2 0, (401, .inl (fun _ => 0)))), (q3, .inl (G.2.2.2 0, (401, .inl (fun _ => 0)))), (q4, .inl (G.2.2.2 0, (401, .inl (fun _ => 0))))]) rfl ?_
  refine x_putF (fun _ _ _ _ h => h.1) (q0 := 0) (k := 4) (ft := tyX9 4) dX9_init_38 clX9 lFX9_24 (by decide) rfl (Nat.le_of_ble_eq_true rfl) rfl rfl (clX9.2.2.1 4 (by decide)) rfl rfl ?_
  refine Ex.ww (w' := [(a, .inr (7, [.null, .ref q1, .ref q2, .ref q3, .ref q4, .int 0])), (q1, .inl (G.2.2.2 3, (401, .inr (.inr (.inr (.inr (fun _ => none))))))), (q2, .inl (G.2.2.2 0, (401, .inl (fun _ => 0)))), (q3, .inl (G.2.2.2 0, (401, .inl (fun _ => 0)))), (q4, .inl (G.2.2.2 0, (401, .inl (fun _ => 0))))]) rfl ?_
  refine x_aload_n 0 dX9_init_41 rfl rfl ?_
  refine x_aload_n 1 dX9_init_42 rfl rfl ?_
  refine x_putF (fun _ _ _ _ h => h.1) (q0 := 0) (k := 0) (ft := tyX9 0) dX9_init_43 clX9 lFX9_27 (by decide) rfl (Nat.le_of_ble_eq_true rfl) rfl rfl (clX9.2.2.1 0 (by decide)) rfl rfl ?_
  refine Ex.ww (w' := [(a, .inr (7, [.ref tp, .ref q1, .ref q2, .ref q3, .ref q4, .int 0])), (q1, .inl (G.2.2.2 3, (401, .inr (.inr (.inr (.inr (fun _ => none))))))), (q2, .inl (G.2.2.2 0, (401, .inl (fun _ => 0)))), (q3, .inl (G.2.2.2 0, (401, .inl (fun _ => 0)))), (q4, .inl (G.2.2.2 0, (401, .inl (fun _ => 0))))]) rfl ?_
  refine x_vret dX9_init_46 rfl (Nat.le_of_ble_eq_true rfl) (Nat.le_of_ble_eq_true rfl) ?_
  exact ⟨rfl, q1, q2, q3, q4, rfl⟩
set_option maxHeartbeats 4000000 in
set_option maxRecDepth 100000 in
theorem I_X6_init (G : eG) (a : Nat) : xCal G xN0 (1, 0, 0) kX6_init [.ref a] [(a, .inr (4, [.null, .int 0, .int 0, .int 0, .int 0]))] (fun v w' => v = none ∧ w' = [(a, .inr (4, [eV G 1 42, .int 0, .int 0, .int 0, .int 0]))]) := by
  refine xCal.of (by decide +kernel) rfl (Nat.le_of_ble_eq_true rfl) ?_
  show Ex _ _ _ _ _ _ [(0, .ref a)] _ _ _ _
  refine x_aload_n 0 dX6_init_0 rfl rfl ?_
  refine x_objInit dX6_init_1 (tb1 _ (List.mem_of_getElem? (i := 101) rfl)) xo_in xo_co ⟨Nat.le_of_ble_eq_true rfl, Nat.le_of_ble_eq_true rfl⟩ (Nat.le_of_ble_eq_true rfl) ?_
  refine x_aload_n 0 dX6_init_4 rfl rfl ?_
  refine x_getsK (v0 := 42) 41 dX6_init_5 lFX6_7 (by decide) rfl rfl ?_
  refine x_put (q0 := 0) (k := 0) (ft := .object "RingDomino$Kind") dX6_init_8 clX6 lFX6_13 (by decide) rfl (Nat.le_of_ble_eq_true rfl) rfl (clX6.2.2.1 0 (by decide)) (eKr_fits G _ _).1 (eKr_fits G _ _).2 ?_
  refine Ex.ww (w' := [(a, .inr (4, [eV G 1 42, .int 0, .int 0, .int 0, .int 0]))]) rfl ?_
  refine x_vret dX6_init_11 rfl (Nat.le_of_ble_eq_true rfl) (Nat.le_of_ble_eq_true rfl) ?_
  exact ⟨rfl, rfl⟩
set_option maxHeartbeats 4000000 in
set_option maxRecDepth 100000 in
theorem I_X3_init (G : eG) (a : Nat) (tk : Nat) (pr : Nat) : xCal G xN0 (1, 0, 0) kX3_init [.ref a, .ref tk, .ref pr] [(a, .inr (2, [.null, .null, .null, .int 0]))] (fun v w' => v = none ∧ w' = [(a, .inr (2, [.ref tk, .ref pr, eV G 1 42, .int 0]))]) := by
  refine xCal.of (by decide +kernel) rfl (Nat.le_of_ble_eq_true rfl) ?_
  show Ex _ _ _ _ _ _ [(0, .ref a), (1, .ref tk), (2, .ref pr)] _ _ _ _
  refine x_aload_n 0 dX3_init_0 rfl rfl ?_
  refine x_objInit dX3_init_1 (tb1 _ (List.mem_of_getElem? (i := 170) rfl)) xo_in xo_co ⟨Nat.le_of_ble_eq_true rfl, Nat.le_of_ble_eq_true rfl⟩ (Nat.le_of_ble_eq_true rfl) ?_
  refine x_aload_n 0 dX3_init_4 rfl rfl ?_
  refine x_getsK (v0 := 42) 41 dX3_init_5 lFX3_9 (by decide) rfl rfl ?_
  refine x_put (q0 := 0) (k := 2) (ft := .object "RingDomino$Kind") dX3_init_8 clX3 lFX3_15 (by decide) rfl (Nat.le_of_ble_eq_true rfl) rfl (clX3.2.2.1 2 (by decide)) (eKr_fits G _ _).1 (eKr_fits G _ _).2 ?_
  refine Ex.ww (w' := [(a, .inr (2, [.null, .null, eV G 1 42, .int 0]))]) rfl ?_
  refine x_aload_n 0 dX3_init_11 rfl rfl ?_
  refine x_aload_n 1 dX3_init_12 rfl rfl ?_
  refine x_putF (fun _ _ _ _ h => h.1) (q0 := 0) (k := 0) (ft := tyX3 0) dX3_init_13 clX3 lFX3_20 (by decide) rfl (Nat.le_of_ble_eq_true rfl) rfl rfl (clX3.2.2.1 0 (by decide)) rfl rfl ?_
  refine Ex.ww (w' := [(a, .inr (2, [.ref tk, .null, eV G 1 42, .int 0]))]) rfl ?_
  refine x_aload_n 0 dX3_init_16 rfl rfl ?_
  refine x_aload_n 2 dX3_init_17 rfl rfl ?_
  refine x_putF (fun _ _ _ _ h => h.1) (q0 := 0) (k := 1) (ft := tyX3 1) dX3_init_18 clX3 lFX3_24 (by decide) rfl (Nat.le_of_ble_eq_true rfl) rfl rfl (clX3.2.2.1 1 (by decide)) rfl rfl ?_
  refine Ex.ww (w' := [(a, .inr (2, [.ref tk, .ref pr, eV G 1 42, .int 0]))]) rfl ?_
  refine x_vret dX3_init_21 rfl (Nat.le_of_ble_eq_true rfl) (Nat.le_of_ble_eq_true rfl) ?_
  exact ⟨rfl, rfl⟩
set_option maxHeartbeats 4000000 in
set_option maxRecDepth 100000 in
theorem I_X5_init (G : eG) (a : Nat) (tk : Nat) (pr : Nat) : xCal G xN0 (1, 1, 16) kX5_init [.ref a, .ref tk, .ref pr] [(a, .inr (3, [.null, .null, .null, .int 0, .int 0, .null, .int 0]))] (fun v w' => v = none ∧ ∃ q1 : Nat, w' = [(a, .inr (3, [.ref tk, .ref pr, .ref q1, .int 0, .int 0, eV G 1 42, .int 0])), (q1, .inl (G.2.2.2 0, (16, .inl (fun _ => 0))))]) := by
  refine xCal.of (by decide +kernel) rfl (Nat.le_of_ble_eq_true rfl) ?_
  show Ex _ _ _ _ _ _ [(0, .ref a), (1, .ref tk), (2, .ref pr)] _ _ _ _
  refine x_aload_n 0 dX5_init_0 rfl rfl ?_
  refine x_objInit dX5_init_1 (tb1 _ (List.mem_of_getElem? (i := 191) rfl)) xo_in xo_co ⟨Nat.le_of_ble_eq_true rfl, Nat.le_of_ble_eq_true rfl⟩ (Nat.le_of_ble_eq_true rfl) ?_
  refine x_aload_n 0 dX5_init_4 rfl rfl ?_
  refine x_bipush (v := 16) dX5_init_5 rfl ?_
  refine x_newi (N := 16) dX5_init_7 xa_int (by decide) (by decide) (by decide) ⟨Nat.le_of_ble_eq_true rfl, Nat.le_of_ble_eq_true rfl⟩ (fun q1 => ?_)
  refine Ex.ww (w' := [(a, .inr (3, [.null, .null, .null, .int 0, .int 0, .null, .int 0])), (q1, .inl (G.2.2.2 0, (16, .inl (fun _ => 0))))]) rfl ?_
  refine x_putF (fun _ _ _ _ h => h.1) (q0 := 0) (k := 2) (ft := tyX5 2) dX5_init_9 clX5 lFX5_9 (by decide) rfl (Nat.le_of_ble_eq_true rfl) rfl rfl (clX5.2.2.1 2 (by decide)) rfl rfl ?_
  refine Ex.ww (w' := [(a, .inr (3, [.null, .null, .ref q1, .int 0, .int 0, .null, .int 0])), (q1, .inl (G.2.2.2 0, (16, .inl (fun _ => 0))))]) rfl ?_
  refine x_aload_n 0 dX5_init_12 rfl rfl ?_
  refine x_getsK (v0 := 42) 41 dX5_init_13 lFX5_15 (by decide) rfl rfl ?_
  refine x_put (q0 := 0) (k := 5) (ft := .object "RingDomino$Kind") dX5_init_16 clX5 lFX5_21 (by decide) rfl (Nat.le_of_ble_eq_true rfl) rfl (clX5.2.2.1 5 (by decide)) (eKr_fits G _ _).1 (eKr_fits G _ _).2 ?_
  refine Ex.ww (w' := [(a, .inr (3, [.null, .null, .ref q1, .int 0, .int 0, eV G 1 42, .int 0])), (q1, .inl (G.2.2.2 0, (16, .inl (fun _ => 0))))]) rfl ?_
  refine x_aload_n 0 dX5_init_19 rfl rfl ?_
  refine x_aload_n 1 dX5_init_20 rfl rfl ?_
  refine x_putF (fun _ _ _ _ h => h.1) (q0 := 0) (k := 0) (ft := tyX5 0) dX5_init_21 clX5 lFX5_24 (by decide) rfl (Nat.le_of_ble_eq_true rfl) rfl rfl (clX5.2.2.1 0 (by decide)) rfl rfl ?_
  refine Ex.ww (w' := [(a, .inr (3, [.ref tk, .null, .ref q1, .int 0, .int 0, eV G 1 42, .int 0])), (q1, .inl (G.2.2.2 0, (16, .inl (fun _ => 0))))]) rfl ?_
  refine x_aload_n 0 dX5_init_24 rfl rfl ?_
  refine x_aload_n 2 dX5_init_25 rfl rfl ?_
  refine x_putF (fun _ _ _ _ h => h.1) (q0 := 0) (k := 1) (ft := tyX5 1) dX5_init_26 clX5 lFX5_28 (by decide) rfl (Nat.le_of_ble_eq_true rfl) rfl rfl (clX5.2.2.1 1 (by decide)) rfl rfl ?_
  refine Ex.ww (w' := [(a, .inr (3, [.ref tk, .ref pr, .ref q1, .int 0, .int 0, eV G 1 42, .int 0])), (q1, .inl (G.2.2.2 0, (16, .inl (fun _ => 0))))]) rfl ?_
  refine x_vret dX5_init_29 rfl (Nat.le_of_ble_eq_true rfl) (Nat.le_of_ble_eq_true rfl) ?_
  exact ⟨rfl, q1, rfl⟩
set_option maxHeartbeats 4000000 in
set_option maxRecDepth 100000 in
theorem I_X1_init (G : eG) (a : Nat) : xCal G xN0 (1, 12, 1856) kX1_init [.ref a] [(a, .inr (0, [.int 0, .int 0, .int 0, .int 0, .int 0, .null, .null, .null, .null, .null, .null, .null, .null, .null, .null, .null, .null]))] (fun v w' => v = none ∧ ∃ q1 q2 q3 q4 q5 q6 q7 q8 q9 q10 q11 q12 : Nat, w' = [(a, .inr (0, [.int 0, .int 0, .int 0, .int 0, .int 0, .ref q1, .ref q2, .ref q3, .ref q4, .ref q5, .ref q6, .ref q7, .ref q8, .ref q9, .ref q10, .ref q11, .ref q12])), (q1, .inl (G.2.2.2 0, (49, .inl (fun _ => 0)))), (q2, .inl (G.2.2.2 0, (16, .inl (fun _ => 0)))), (q3, .inl (G.2.2.2 0, (16, .inl (fun _ => 0)))), (q4, .inl (G.2.2.2 0, (48, .inl (fun _ => 0)))), (q5, .inl (G.2.2.2 0, (960, .inl (fun _ => 0)))), (q6, .inl (G.2.2.2 0, (294, .inl (fun _ => 0)))), (q7, .inl (G.2.2.2 0, (294, .inl (fun _ => 0)))), (q8, .inl (G.2.2.2 0, (49, .inl (fun _ => 0)))), (q9, .inl (G.2.2.2 0, (16, .inl (fun _ => 0)))), (q10, .inl (G.2.2.2 0, (16, .inl (fun _ => 0)))), (q11, .inl (G.2.2.2 0, (49, .inl (fun _ => 0)))), (q12, .inl (G.2.2.2 0, (49, .inl (fun _ => 0))))]) := by
  refine xCal.of (by decide +kernel) rfl (Nat.le_of_ble_eq_true rfl) ?_
  show Ex _ _ _ _ _ _ [(0, .ref a)] _ _ _ _
  refine x_aload_n 0 dX1_init_0 rfl rfl ?_
  refine x_objInit dX1_init_1 (tb1 _ (List.mem_of_getElem? (i := 221) rfl)) xo_in xo_co ⟨Nat.le_of_ble_eq_true rfl, Nat.le_of_ble_eq_true rfl⟩ (Nat.le_of_ble_eq_true rfl) ?_
  refine x_aload_n 0 dX1_init_4 rfl rfl ?_
  refine x_bipush (v := 49) dX1_init_5 rfl ?_
  refine x_newi (N := 49) dX1_init_7 xa_int (by decide) (by decide) (by decide) ⟨Nat.le_of_ble_eq_true rfl, Nat.le_of_ble_eq_true rfl⟩ (fun q1 => ?_)
  refine Ex.ww (w' := [(a, .inr (0, [.int 0, .int 0, .int 0, .int 0, .int 0, .null, .null, .null, .null, .null, .null, .null, .null, .null, .null, .null, .null])), (q1, .inl (G.2.2.2 0, (49, .inl (fun _ => 0))))]) rfl ?_
  refine x_putF (fun _ _ _ _ h => h.1) (q0 := 0) (k := 5) (ft := tyX1 5) dX1_init_9 clX1 lFX1_9 (by decide) rfl (Nat.le_of_ble_eq_true rfl) rfl rfl (clX1.2.2.1 5 (by decide)) rfl rfl ?_
  refine Ex.ww (w' := [(a, .inr (0, [.int 0, .int 0, .int 0, .int 0, .int 0, .ref q1, .null, .null, .null, .null, .null, .null, .null, .null, .null, .null, .null])), (q1, .inl (G.2.2.2 0, (49, .inl (fun _ => 0))))]) rfl ?_
  refine x_aload_n 0 dX1_init_12 rfl rfl ?_
  refine x_bipush (v := 16) dX1_init_13 rfl ?_
  refine x_newi (N := 16) dX1_init_15 xa_int (by decide) (by decide) (by decide) ⟨Nat.le_of_ble_eq_true rfl, Nat.le_of_ble_eq_true rfl⟩ (fun q2 => ?_)
  refine Ex.ww (w' := [(a, .inr (0, [.int 0, .int 0, .int 0, .int 0, .int 0, .ref q1, .null, .null, .null, .null, .null, .null, .null, .null, .null, .null, .null])), (q1, .inl (G.2.2.2 0, (49, .inl (fun _ => 0)))), (q2, .inl (G.2.2.2 0, (16, .inl (fun _ => 0))))]) rfl ?_
  refine x_putF (fun _ _ _ _ h => h.1) (q0 := 0) (k := 6) (ft := tyX1 6) dX1_init_17 clX1 lFX1_15 (by decide) rfl (Nat.le_of_ble_eq_true rfl) rfl rfl (clX1.2.2.1 6 (by decide)) rfl rfl ?_
  refine Ex.ww (w' := [(a, .inr (0, [.int 0, .int 0, .int 0, .int 0, .int 0, .ref q1, .ref q2, .null, .null, .null, .null, .null, .null, .null, .null, .null, .null])), (q1, .inl (G.2.2.2 0, (49, .inl (fun _ => 0)))), (q2, .inl (G.2.2.2 0, (16, .inl (fun _ => 0))))]) rfl ?_
  refine x_aload_n 0 dX1_init_20 rfl rfl ?_
  refine x_bipush (v := 16) dX1_init_21 rfl ?_
  refine x_newi (N := 16) dX1_init_23 xa_int (by decide) (by decide) (by decide) ⟨Nat.le_of_ble_eq_true rfl, Nat.le_of_ble_eq_true rfl⟩ (fun q3 => ?_)
  refine Ex.ww (w' := [(a, .inr (0, [.int 0, .int 0, .int 0, .int 0, .int 0, .ref q1, .ref q2, .null, .null, .null, .null, .null, .null, .null, .null, .null, .null])), (q1, .inl (G.2.2.2 0, (49, .inl (fun _ => 0)))), (q2, .inl (G.2.2.2 0, (16, .inl (fun _ => 0)))), (q3, .inl (G.2.2.2 0, (16, .inl (fun _ => 0))))]) rfl ?_
  refine x_putF (fun _ _ _ _ h => h.1) (q0 := 0) (k := 7) (ft := tyX1 7) dX1_init_25 clX1 lFX1_18 (by decide) rfl (Nat.le_of_ble_eq_true rfl) rfl rfl (clX1.2.2.1 7 (by decide)) rfl rfl ?_
  refine Ex.ww (w' := [(a, .inr (0, [.int 0, .int 0, .int 0, .int 0, .int 0, .ref q1, .ref q2, .ref q3, .null, .null, .null, .null, .null, .null, .null, .null, .null])), (q1, .inl (G.2.2.2 0, (49, .inl (fun _ => 0)))), (q2, .inl (G.2.2.2 0, (16, .inl (fun _ => 0)))), (q3, .inl (G.2.2.2 0, (16, .inl (fun _ => 0))))]) rfl ?_
  refine x_aload_n 0 dX1_init_28 rfl rfl ?_
  refine x_bipush (v := 48) dX1_init_29 rfl ?_
  refine x_newi (N := 48) dX1_init_31 xa_int (by decide) (by decide) (by decide) ⟨Nat.le_of_ble_eq_true rfl, Nat.le_of_ble_eq_true rfl⟩ (fun q4 => ?_)
  refine Ex.ww (w' := [(a, .inr (0, [.int 0, .int 0, .int 0, .int 0, .int 0, .ref q1, .ref q2, .ref q3, .null, .null, .null, .null, .null, .null, .null, .null, .null])), (q1, .inl (G.2.2.2 0, (49, .inl (fun _ => 0)))), (q2, .inl (G.2.2.2 0, (16, .inl (fun _ => 0)))), (q3, .inl (G.2.2.2 0, (16, .inl (fun _ => 0)))), (q4, .inl (G.2.2.2 0, (48, .inl (fun _ => 0))))]) rfl ?_
  refine x_putF (fun _ _ _ _ h => h.1) (q0 := 0) (k := 8) (ft := tyX1 8) dX1_init_33 clX1 lFX1_21 (by decide) rfl (Nat.le_of_ble_eq_true rfl) rfl rfl (clX1.2.2.1 8 (by decide)) rfl rfl ?_
  refine Ex.ww (w' := [(a, .inr (0, [.int 0, .int 0, .int 0, .int 0, .int 0, .ref q1, .ref q2, .ref q3, .ref q4, .null, .null, .null, .null, .null, .null, .null, .null])), (q1, .inl (G.2.2.2 0, (49, .inl (fun _ => 0)))), (q2, .inl (G.2.2.2 0, (16, .inl (fun _ => 0)))), (q3, .inl (G.2.2.2 0, (16, .inl (fun _ => 0)))), (q4, .inl (G.2.2.2 0, (48, .inl (fun _ => 0))))]) rfl ?_
  refine x_aload_n 0 dX1_init_36 rfl rfl ?_
  refine x_sipush (v := 960) dX1_init_37 rfl ?_
  refine x_newi (N := 960) dX1_init_40 xa_int (by decide) (by decide) (by decide) ⟨Nat.le_of_ble_eq_true rfl, Nat.le_of_ble_eq_true rfl⟩ (fun q5 => ?_)
  refine Ex.ww (w' := [(a, .inr (0, [.int 0, .int 0, .int 0, .int 0, .int 0, .ref q1, .ref q2, .ref q3, .ref q4, .null, .null, .null, .null, .null, .null, .null, .null])), (q1, .inl (G.2.2.2 0, (49, .inl (fun _ => 0)))), (q2, .inl (G.2.2.2 0, (16, .inl (fun _ => 0)))), (q3, .inl (G.2.2.2 0, (16, .inl (fun _ => 0)))), (q4, .inl (G.2.2.2 0, (48, .inl (fun _ => 0)))), (q5, .inl (G.2.2.2 0, (960, .inl (fun _ => 0))))]) rfl ?_
  refine x_putF (fun _ _ _ _ h => h.1) (q0 := 0) (k := 9) (ft := tyX1 9) dX1_init_42 clX1 lFX1_24 (by decide) rfl (Nat.le_of_ble_eq_true rfl) rfl rfl (clX1.2.2.1 9 (by decide)) rfl rfl ?_
  refine Ex.ww (w' := [(a, .inr (0, [.int 0, .int 0, .int 0, .int 0, .int 0, .ref q1, .ref q2, .ref q3, .ref q4, .ref q5, .null, .null, .null, .null, .null, .null, .null])), (q1, .inl (G.2.2.2 0, (49, .inl (fun _ => 0)))), (q2, .inl (G.2.2.2 0, (16, .inl (fun _ => 0)))), (q3, .inl (G.2.2.2 0, (16, .inl (fun _ => 0)))), (q4, .inl (G.2.2.2 0, (48, .inl (fun _ => 0)))), (q5, .inl (G.2.2.2 0, (960, .inl (fun _ => 0))))]) rfl ?_
  refine x_aload_n 0 dX1_init_45 rfl rfl ?_
  refine x_sipush (v := 294) dX1_init_46 rfl ?_
  refine x_newi (N := 294) dX1_init_49 xa_int (by decide) (by decide) (by decide) ⟨Nat.le_of_ble_eq_true rfl, Nat.le_of_ble_eq_true rfl⟩ (fun q6 => ?_)
  refine Ex.ww (w' := [(a, .inr (0, [.int 0, .int 0, .int 0, .int 0, .int 0, .ref q1, .ref q2, .ref q3, .ref q4, .ref q5, .null, .null, .null, .null, .null, .null, .null])), (q1, .inl (G.2.2.2 0, (49, .inl (fun _ => 0)))), (q2, .inl (G.2.2.2 0, (16, .inl (fun _ => 0)))), (q3, .inl (G.2.2.2 0, (16, .inl (fun _ => 0)))), (q4, .inl (G.2.2.2 0, (48, .inl (fun _ => 0)))), (q5, .inl (G.2.2.2 0, (960, .inl (fun _ => 0)))), (q6, .inl (G.2.2.2 0, (294, .inl (fun _ => 0))))]) rfl ?_
  refine x_putF (fun _ _ _ _ h => h.1) (q0 := 0) (k := 10) (ft := tyX1 10) dX1_init_51 clX1 lFX1_27 (by decide) rfl (Nat.le_of_ble_eq_true rfl) rfl rfl (clX1.2.2.1 10 (by decide)) rfl rfl ?_
  refine Ex.ww (w' := [(a, .inr (0, [.int 0, .int 0, .int 0, .int 0, .int 0, .ref q1, .ref q2, .ref q3, .ref q4, .ref q5, .ref q6, .null, .null, .null, .null, .null, .null])), (q1, .inl (G.2.2.2 0, (49, .inl (fun _ => 0)))), (q2, .inl (G.2.2.2 0, (16, .inl (fun _ => 0)))), (q3, .inl (G.2.2.2 0, (16, .inl (fun _ => 0)))), (q4, .inl (G.2.2.2 0, (48, .inl (fun _ => 0)))), (q5, .inl (G.2.2.2 0, (960, .inl (fun _ => 0)))), (q6, .inl (G.2.2.2 0, (294, .inl (fun _ => 0))))]) rfl ?_
  refine x_aload_n 0 dX1_init_54 rfl rfl ?_
  refine x_sipush (v := 294) dX1_init_55 rfl ?_
  refine x_newi (N := 294) dX1_init_58 xa_int (by decide) (by decide) (by decide) ⟨Nat.le_of_ble_eq_true rfl, Nat.le_of_ble_eq_true rfl⟩ (fun q7 => ?_)
  refine Ex.ww (w' := [(a, .inr (0, [.int 0, .int 0, .int 0, .int 0, .int 0, .ref q1, .ref q2, .ref q3, .ref q4, .ref q5, .ref q6, .null, .null, .null, .null, .null, .null])), (q1, .inl (G.2.2.2 0, (49, .inl (fun _ => 0)))), (q2, .inl (G.2.2.2 0, (16, .inl (fun _ => 0)))), (q3, .inl (G.2.2.2 0, (16, .inl (fun _ => 0)))), (q4, .inl (G.2.2.2 0, (48, .inl (fun _ => 0)))), (q5, .inl (G.2.2.2 0, (960, .inl (fun _ => 0)))), (q6, .inl (G.2.2.2 0, (294, .inl (fun _ => 0)))), (q7, .inl (G.2.2.2 0, (294, .inl (fun _ => 0))))]) rfl ?_
  refine x_putF (fun _ _ _ _ h => h.1) (q0 := 0) (k := 11) (ft := tyX1 11) dX1_init_60 clX1 lFX1_30 (by decide) rfl (Nat.le_of_ble_eq_true rfl) rfl rfl (clX1.2.2.1 11 (by decide)) rfl rfl ?_
  refine Ex.ww (w' := [(a, .inr (0, [.int 0, .int 0, .int 0, .int 0, .int 0, .ref q1, .ref q2, .ref q3, .ref q4, .ref q5, .ref q6, .ref q7, .null, .null, .null, .null, .null])), (q1, .inl (G.2.2.2 0, (49, .inl (fun _ => 0)))), (q2, .inl (G.2.2.2 0, (16, .inl (fun _ => 0)))), (q3, .inl (G.2.2.2 0, (16, .inl (fun _ => 0)))), (q4, .inl (G.2.2.2 0, (48, .inl (fun _ => 0)))), (q5, .inl (G.2.2.2 0, (960, .inl (fun _ => 0)))), (q6, .inl (G.2.2.2 0, (294, .inl (fun _ => 0)))), (q7, .inl (G.2.2.2 0, (294, .inl (fun _ => 0))))]) rfl ?_
  refine x_aload_n 0 dX1_init_63 rfl rfl ?_
  refine x_bipush (v := 49) dX1_init_64 rfl ?_
  refine x_newi (N := 49) dX1_init_66 xa_int (by decide) (by decide) (by decide) ⟨Nat.le_of_ble_eq_true rfl, Nat.le_of_ble_eq_true rfl⟩ (fun q8 => ?_)
  refine Ex.ww (w' := [(a, .inr (0, [.int 0, .int 0, .int 0, .int 0, .int 0, .ref q1, .ref q2, .ref q3, .ref q4, .ref q5, .ref q6, .ref q7, .null, .null, .null, .null, .null])), (q1, .inl (G.2.2.2 0, (49, .inl (fun _ => 0)))), (q2, .inl (G.2.2.2 0, (16, .inl (fun _ => 0)))), (q3, .inl (G.2.2.2 0, (16, .inl (fun _ => 0)))), (q4, .inl (G.2.2.2 0, (48, .inl (fun _ => 0)))), (q5, .inl (G.2.2.2 0, (960, .inl (fun _ => 0)))), (q6, .inl (G.2.2.2 0, (294, .inl (fun _ => 0)))), (q7, .inl (G.2.2.2 0, (294, .inl (fun _ => 0)))), (q8, .inl (G.2.2.2 0, (49, .inl (fun _ => 0))))]) rfl ?_
  refine x_putF (fun _ _ _ _ h => h.1) (q0 := 0) (k := 12) (ft := tyX1 12) dX1_init_68 clX1 lFX1_33 (by decide) rfl (Nat.le_of_ble_eq_true rfl) rfl rfl (clX1.2.2.1 12 (by decide)) rfl rfl ?_
  refine Ex.ww (w' := [(a, .inr (0, [.int 0, .int 0, .int 0, .int 0, .int 0, .ref q1, .ref q2, .ref q3, .ref q4, .ref q5, .ref q6, .ref q7, .ref q8, .null, .null, .null, .null])), (q1, .inl (G.2.2.2 0, (49, .inl (fun _ => 0)))), (q2, .inl (G.2.2.2 0, (16, .inl (fun _ => 0)))), (q3, .inl (G.2.2.2 0, (16, .inl (fun _ => 0)))), (q4, .inl (G.2.2.2 0, (48, .inl (fun _ => 0)))), (q5, .inl (G.2.2.2 0, (960, .inl (fun _ => 0)))), (q6, .inl (G.2.2.2 0, (294, .inl (fun _ => 0)))), (q7, .inl (G.2.2.2 0, (294, .inl (fun _ => 0)))), (q8, .inl (G.2.2.2 0, (49, .inl (fun _ => 0))))]) rfl ?_
  refine x_aload_n 0 dX1_init_71 rfl rfl ?_
  refine x_bipush (v := 16) dX1_init_72 rfl ?_
  refine x_newi (N := 16) dX1_init_74 xa_int (by decide) (by decide) (by decide) ⟨Nat.le_of_ble_eq_true rfl, Nat.le_of_ble_eq_true rfl⟩ (fun q9 => ?_)
  refine Ex.ww (w' := [(a, .inr (0, [.int 0, .int 0, .int 0, .int 0, .int 0, .ref q1, .ref q2, .ref q3, .ref q4, .ref q5, .ref q6, .ref q7, .ref q8, .null, .null, .null, .null])), (q1, .inl (G.2.2.2 0, (49, .inl (fun _ => 0)))), (q2, .inl (G.2.2.2 0, (16, .inl (fun _ => 0)))), (q3, .inl (G.2.2.2 0, (16, .inl (fun _ => 0)))), (q4, .inl (G.2.2.2 0, (48, .inl (fun _ => 0)))), (q5, .inl (G.2.2.2 0, (960, .inl (fun _ => 0)))), (q6, .inl (G.2.2.2 0, (294, .inl (fun _ => 0)))), (q7, .inl (G.2.2.2 0, (294, .inl (fun _ => 0)))), (q8, .inl (G.2.2.2 0, (49, .inl (fun _ => 0)))), (q9, .inl (G.2.2.2 0, (16, .inl (fun _ => 0))))]) rfl ?_
  refine x_putF (fun _ _ _ _ h => h.1) (q0 := 0) (k := 13) (ft := tyX1 13) dX1_init_76 clX1 lFX1_36 (by decide) rfl (Nat.le_of_ble_eq_true rfl) rfl rfl (clX1.2.2.1 13 (by decide)) rfl rfl ?_
  refine Ex.ww (w' := [(a, .inr (0, [.int 0, .int 0, .int 0, .int 0, .int 0, .ref q1, .ref q2, .ref q3, .ref q4, .ref q5, .ref q6, .ref q7, .ref q8, .ref q9, .null, .null, .null])), (q1, .inl (G.2.2.2 0, (49, .inl (fun _ => 0)))), (q2, .inl (G.2.2.2 0, (16, .inl (fun _ => 0)))), (q3, .inl (G.2.2.2 0, (16, .inl (fun _ => 0)))), (q4, .inl (G.2.2.2 0, (48, .inl (fun _ => 0)))), (q5, .inl (G.2.2.2 0, (960, .inl (fun _ => 0)))), (q6, .inl (G.2.2.2 0, (294, .inl (fun _ => 0)))), (q7, .inl (G.2.2.2 0, (294, .inl (fun _ => 0)))), (q8, .inl (G.2.2.2 0, (49, .inl (fun _ => 0)))), (q9, .inl (G.2.2.2 0, (16, .inl (fun _ => 0))))]) rfl ?_
  refine x_aload_n 0 dX1_init_79 rfl rfl ?_
  refine x_bipush (v := 16) dX1_init_80 rfl ?_
  refine x_newi (N := 16) dX1_init_82 xa_int (by decide) (by decide) (by decide) ⟨Nat.le_of_ble_eq_true rfl, Nat.le_of_ble_eq_true rfl⟩ (fun q10 => ?_)
  refine Ex.ww (w' := [(a, .inr (0, [.int 0, .int 0, .int 0, .int 0, .int 0, .ref q1, .ref q2, .ref q3, .ref q4, .ref q5, .ref q6, .ref q7, .ref q8, .ref q9, .null, .null, .null])), (q1, .inl (G.2.2.2 0, (49, .inl (fun _ => 0)))), (q2, .inl (G.2.2.2 0, (16, .inl (fun _ => 0)))), (q3, .inl (G.2.2.2 0, (16, .inl (fun _ => 0)))), (q4, .inl (G.2.2.2 0, (48, .inl (fun _ => 0)))), (q5, .inl (G.2.2.2 0, (960, .inl (fun _ => 0)))), (q6, .inl (G.2.2.2 0, (294, .inl (fun _ => 0)))), (q7, .inl (G.2.2.2 0, (294, .inl (fun _ => 0)))), (q8, .inl (G.2.2.2 0, (49, .inl (fun _ => 0)))), (q9, .inl (G.2.2.2 0, (16, .inl (fun _ => 0)))), (q10, .inl (G.2.2.2 0, (16, .inl (fun _ => 0))))]) rfl ?_
  refine x_putF (fun _ _ _ _ h => h.1) (q0 := 0) (k := 14) (ft := tyX1 14) dX1_init_84 clX1 lFX1_39 (by decide) rfl (Nat.le_of_ble_eq_true rfl) rfl rfl (clX1.2.2.1 14 (by decide)) rfl rfl ?_
  refine Ex.ww (w' := [(a, .inr (0, [.int 0, .int 0, .int 0, .int 0, .int 0, .ref q1, .ref q2, .ref q3, .ref q4, .ref q5, .ref q6, .ref q7, .ref q8, .ref q9, .ref q10, .null, .null])), (q1, .inl (G.2.2.2 0, (49, .inl (fun _ => 0)))), (q2, .inl (G.2.2.2 0, (16, .inl (fun _ => 0)))), (q3, .inl (G.2.2.2 0, (16, .inl (fun _ => 0)))), (q4, .inl (G.2.2.2 0, (48, .inl (fun _ => 0)))), (q5, .inl (G.2.2.2 0, (960, .inl (fun _ => 0)))), (q6, .inl (G.2.2.2 0, (294, .inl (fun _ => 0)))), (q7, .inl (G.2.2.2 0, (294, .inl (fun _ => 0)))), (q8, .inl (G.2.2.2 0, (49, .inl (fun _ => 0)))), (q9, .inl (G.2.2.2 0, (16, .inl (fun _ => 0)))), (q10, .inl (G.2.2.2 0, (16, .inl (fun _ => 0))))]) rfl ?_
  refine x_aload_n 0 dX1_init_87 rfl rfl ?_
  refine x_bipush (v := 49) dX1_init_88 rfl ?_
  refine x_newi (N := 49) dX1_init_90 xa_int (by decide) (by decide) (by decide) ⟨Nat.le_of_ble_eq_true rfl, Nat.le_of_ble_eq_true rfl⟩ (fun q11 => ?_)
  refine Ex.ww (w' := [(a, .inr (0, [.int 0, .int 0, .int 0, .int 0, .int 0, .ref q1, .ref q2, .ref q3, .ref q4, .ref q5, .ref q6, .ref q7, .ref q8, .ref q9, .ref q10, .null, .null])), (q1, .inl (G.2.2.2 0, (49, .inl (fun _ => 0)))), (q2, .inl (G.2.2.2 0, (16, .inl (fun _ => 0)))), (q3, .inl (G.2.2.2 0, (16, .inl (fun _ => 0)))), (q4, .inl (G.2.2.2 0, (48, .inl (fun _ => 0)))), (q5, .inl (G.2.2.2 0, (960, .inl (fun _ => 0)))), (q6, .inl (G.2.2.2 0, (294, .inl (fun _ => 0)))), (q7, .inl (G.2.2.2 0, (294, .inl (fun _ => 0)))), (q8, .inl (G.2.2.2 0, (49, .inl (fun _ => 0)))), (q9, .inl (G.2.2.2 0, (16, .inl (fun _ => 0)))), (q10, .inl (G.2.2.2 0, (16, .inl (fun _ => 0)))), (q11, .inl (G.2.2.2 0, (49, .inl (fun _ => 0))))]) rfl ?_
  refine x_putF (fun _ _ _ _ h => h.1) (q0 := 0) (k := 15) (ft := tyX1 15) dX1_init_92 clX1 lFX1_42 (by decide) rfl (Nat.le_of_ble_eq_true rfl) rfl rfl (clX1.2.2.1 15 (by decide)) rfl rfl ?_
  refine Ex.ww (w' := [(a, .inr (0, [.int 0, .int 0, .int 0, .int 0, .int 0, .ref q1, .ref q2, .ref q3, .ref q4, .ref q5, .ref q6, .ref q7, .ref q8, .ref q9, .ref q10, .ref q11, .null])), (q1, .inl (G.2.2.2 0, (49, .inl (fun _ => 0)))), (q2, .inl (G.2.2.2 0, (16, .inl (fun _ => 0)))), (q3, .inl (G.2.2.2 0, (16, .inl (fun _ => 0)))), (q4, .inl (G.2.2.2 0, (48, .inl (fun _ => 0)))), (q5, .inl (G.2.2.2 0, (960, .inl (fun _ => 0)))), (q6, .inl (G.2.2.2 0, (294, .inl (fun _ => 0)))), (q7, .inl (G.2.2.2 0, (294, .inl (fun _ => 0)))), (q8, .inl (G.2.2.2 0, (49, .inl (fun _ => 0)))), (q9, .inl (G.2.2.2 0, (16, .inl (fun _ => 0)))), (q10, .inl (G.2.2.2 0, (16, .inl (fun _ => 0)))), (q11, .inl (G.2.2.2 0, (49, .inl (fun _ => 0))))]) rfl ?_
  refine x_aload_n 0 dX1_init_95 rfl rfl ?_
  refine x_bipush (v := 49) dX1_init_96 rfl ?_
  refine x_newi (N := 49) dX1_init_98 xa_int (by decide) (by decide) (by decide) ⟨Nat.le_of_ble_eq_true rfl, Nat.le_of_ble_eq_true rfl⟩ (fun q12 => ?_)
  refine Ex.ww (w' := [(a, .inr (0, [.int 0, .int 0, .int 0, .int 0, .int 0, .ref q1, .ref q2, .ref q3, .ref q4, .ref q5, .ref q6, .ref q7, .ref q8, .ref q9, .ref q10, .ref q11, .null])), (q1, .inl (G.2.2.2 0, (49, .inl (fun _ => 0)))), (q2, .inl (G.2.2.2 0, (16, .inl (fun _ => 0)))), (q3, .inl (G.2.2.2 0, (16, .inl (fun _ => 0)))), (q4, .inl (G.2.2.2 0, (48, .inl (fun _ => 0)))), (q5, .inl (G.2.2.2 0, (960, .inl (fun _ => 0)))), (q6, .inl (G.2.2.2 0, (294, .inl (fun _ => 0)))), (q7, .inl (G.2.2.2 0, (294, .inl (fun _ => 0)))), (q8, .inl (G.2.2.2 0, (49, .inl (fun _ => 0)))), (q9, .inl (G.2.2.2 0, (16, .inl (fun _ => 0)))), (q10, .inl (G.2.2.2 0, (16, .inl (fun _ => 0)))), (q11, .inl (G.2.2.2 0, (49, .inl (fun _ => 0)))), (q12, .inl (G.2.2.2 0, (49, .inl (fun _ => 0))))]) rfl ?_
  refine x_putF (fun _ _ _ _ h => h.1) (q0 := 0) (k := 16) (ft := tyX1 16) dX1_init_100 clX1 lFX1_45 (by decide) rfl (Nat.le_of_ble_eq_true rfl) rfl rfl (clX1.2.2.1 16 (by decide)) rfl rfl ?_
  refine Ex.ww (w' := [(a, .inr (0, [.int 0, .int 0, .int 0, .int 0, .int 0, .ref q1, .ref q2, .ref q3, .ref q4, .ref q5, .ref q6, .ref q7, .ref q8, .ref q9, .ref q10, .ref q11, .ref q12])), (q1, .inl (G.2.2.2 0, (49, .inl (fun _ => 0)))), (q2, .inl (G.2.2.2 0, (16, .inl (fun _ => 0)))), (q3, .inl (G.2.2.2 0, (16, .inl (fun _ => 0)))), (q4, .inl (G.2.2.2 0, (48, .inl (fun _ => 0)))), (q5, .inl (G.2.2.2 0, (960, .inl (fun _ => 0)))), (q6, .inl (G.2.2.2 0, (294, .inl (fun _ => 0)))), (q7, .inl (G.2.2.2 0, (294, .inl (fun _ => 0)))), (q8, .inl (G.2.2.2 0, (49, .inl (fun _ => 0)))), (q9, .inl (G.2.2.2 0, (16, .inl (fun _ => 0)))), (q10, .inl (G.2.2.2 0, (16, .inl (fun _ => 0)))), (q11, .inl (G.2.2.2 0, (49, .inl (fun _ => 0)))), (q12, .inl (G.2.2.2 0, (49, .inl (fun _ => 0))))]) rfl ?_
  refine x_vret dX1_init_103 rfl (Nat.le_of_ble_eq_true rfl) (Nat.le_of_ble_eq_true rfl) ?_
  exact ⟨rfl, q1, q2, q3, q4, q5, q6, q7, q8, q9, q10, q11, q12, rfl⟩
abbrev xOrd (G : eG) (ad : Nat → Nat) (i : Nat) : va_W := (List.range i).map (fun j => (ad j, .inr (4, [eV G 1 42, .int 0, .int 0, .int 0, .int 0])))
theorem xOrd_succ (G : eG) (ad : Nat → Nat) (i q : Nat) : xOrd G (fun j => if j = i then q else ad j) (i + 1) = xOrd G ad i ++ [(q, .inr (4, [eV G 1 42, .int 0, .int 0, .int 0, .int 0]))] := by
  unfold xOrd
  rw [List.range_succ, List.map_append]
  congr 1
  · refine List.map_congr_left (fun j hj => ?_)
    have := List.mem_range.mp hj
    show ((if j = i then q else ad j : Nat), (_ : va_E)) = _
    rw [if_neg (by omega)]
  · simp
theorem va_up_lt (ad : Nat → Nat) (i q : Nat) : va_up (fun j => if j < i then some (ad j) else none) i (some q) = fun j => if j < i + 1 then some (if j = i then q else ad j) else none := by
  funext j
  unfold va_up
  by_cases h : j = i
  · subst h; simp
  · rw [if_neg h]
    show (if j < i then some (ad j) else none) = _
    by_cases h2 : j < i
    · rw [if_pos h2, if_pos (by omega), if_neg h]
    · rw [if_neg h2, if_neg (by omega)]
set_option maxHeartbeats 4000000 in
set_option maxRecDepth 100000 in
theorem L_X7_init (G : eG) (a tn od st op : Nat) : ∀ (n i : Nat) (ad : Nat → Nat), i + n = 16 → Ex (fun s meth _ _ => meth.name = (kY kX7_init).name ∧ xN0 s) (xZ G 20 944 (fun v w' => v = none ∧ ∃ (tn od st op : Nat) (ad : Nat → Nat), w' = [(a, .inr (5, [.int 5, .int 5, .int 0, .ref tn, .int 0, .ref od, .int 0, .ref st, .ref op, .int 0])), (tn, .inl (G.2.2.2 0, (48, .inl (fun _ => 0)))), (od, .inl (G.2.2.2 4, (16, .inr (.inr (.inr (.inr (fun j => if j < 16 then some (ad j) else none))))))), (st, .inl (G.2.2.2 3, (400, .inr (.inr (.inr (.inr (fun _ => none))))))), (op, .inl (G.2.2.2 0, (400, .inl (fun _ => 0))))] ++ xOrd G ad 16)) G (eR (2, 20, 944)) kX7_init 52 [(1, .int (nI i)), (0, .ref a)] [] ([(a, .inr (5, [.int 5, .int 5, .int 0, .ref tn, .int 0, .ref od, .int 0, .ref st, .ref op, .int 0])), (tn, .inl (G.2.2.2 0, (48, .inl (fun _ => 0)))), (od, .inl (G.2.2.2 4, (16, .inr (.inr (.inr (.inr (fun j => if j < i then some (ad j) else none))))))), (st, .inl (G.2.2.2 3, (400, .inr (.inr (.inr (.inr (fun _ => none))))))), (op, .inl (G.2.2.2 0, (400, .inl (fun _ => 0))))] ++ xOrd G ad i) (4 + i) (864 + 5 * i)
  | 0, i, ad, hi => by
    have hi' : i = 16 := hi
    subst hi'
    refine x_iload_n 0 dX7_init_52 rfl rfl ?_
    refine x_aload_n 1 dX7_init_53 rfl rfl ?_
    refine x_get (q0 := 0) (k := 5) (v := .ref od) dX7_init_54 clX7 lFX7_24 (by decide) rfl rfl ?_
    refine x_alenq (q0 := 2) (t := 4) (v := 16) dX7_init_57 rfl rfl rfl ?_
    refine x_icmp_ge (t := 80) dX7_init_58 (by decide) (fun _ => ?_) (fun q => absurd (Int32.le_refl _) q)
    exact x_vret dX7_init_80 rfl (Nat.le_of_ble_eq_true rfl) (Nat.le_of_ble_eq_true rfl) ⟨rfl, tn, od, st, op, ad, rfl⟩
  | n + 1, i, ad, hi => by
    refine x_iload_n 0 dX7_init_52 rfl rfl ?_
    refine x_aload_n 1 dX7_init_53 rfl rfl ?_
    refine x_get (q0 := 0) (k := 5) (v := .ref od) dX7_init_54 clX7 lFX7_24 (by decide) rfl rfl ?_
    refine x_alenq (q0 := 2) (t := 4) (v := 16) dX7_init_57 rfl rfl rfl ?_
    refine x_icmp_ge (t := 80) dX7_init_58 (by decide) (fun q => absurd q (nI_ge (b := 16) (by omega) (by decide))) (fun _ => ?_)
    refine x_aload_n 1 dX7_init_61 rfl rfl ?_
    refine x_get (q0 := 0) (k := 5) (v := .ref od) dX7_init_62 clX7 lFX7_24 (by decide) rfl rfl ?_
    refine x_iload_n 0 dX7_init_65 rfl rfl ?_
    refine x_new dX7_init_66 clX6 (tb1 _ (List.mem_of_getElem? (i := 94) rfl)) (tb1 _ (List.mem_of_getElem? (i := 97) rfl)) (tb1 _ (List.mem_of_getElem? (i := 5) rfl)) xd_X6 ⟨by show 4 + i + 1 ≤ 20; omega, by show 864 + 5 * i + 5 ≤ 944; omega⟩ (fun q => ?_)
    refine x_dup dX7_init_69 rfl ?_
    refine Ex.ww (w' := ([(a, .inr (5, [.int 5, .int 5, .int 0, .ref tn, .int 0, .ref od, .int 0, .ref st, .ref op, .int 0])), (tn, .inl (G.2.2.2 0, (48, .inl (fun _ => 0)))), (od, .inl (G.2.2.2 4, (16, .inr (.inr (.inr (.inr (fun j => if j < i then some (ad j) else none))))))), (st, .inl (G.2.2.2 3, (400, .inr (.inr (.inr (.inr (fun _ => none))))))), (op, .inl (G.2.2.2 0, (400, .inl (fun _ => 0))))] ++ xOrd G ad i) ++ ([(q, .inr (4, [.null, .int 0, .int 0, .int 0, .int 0]))] ++ [])) (by simp only [List.append_nil]) ?_
    refine x_callIN (K := kX7_init) (R := eR (2, 20, 944)) (ca := 4 + i + 1) (sl := 864 + 5 * i + 5) (w := ([(a, .inr (5, [.int 5, .int 5, .int 0, .ref tn, .int 0, .ref od, .int 0, .ref st, .ref op, .int 0])), (tn, .inl (G.2.2.2 0, (48, .inl (fun _ => 0)))), (od, .inl (G.2.2.2 4, (16, .inr (.inr (.inr (.inr (fun j => if j < i then some (ad j) else none))))))), (st, .inl (G.2.2.2 3, (400, .inr (.inr (.inr (.inr (fun _ => none))))))), (op, .inl (G.2.2.2 0, (400, .inl (fun _ => 0))))] ++ xOrd G ad i) ++ ([(q, .inr (4, [.null, .int 0, .int 0, .int 0, .int 0]))] ++ [])) xN0_m xX0 (b' := (1, 0, 0)) (As := []) (S := [.ref q, .int (nI i), .ref od]) dX7_init_70 miX6_init lMX7_37 rfl (by exact ⟨⟨Nat.le_of_ble_eq_true rfl, Nat.le_of_ble_eq_true rfl⟩, ⟨by show 4 + i + 1 + 0 ≤ 20; omega, by show 864 + 5 * i + 5 + 0 ≤ 944; omega⟩⟩) (Nat.le_of_ble_eq_true rfl) ((I_X6_init G q).list ([(a, .inr (5, [.int 5, .int 5, .int 0, .ref tn, .int 0, .ref od, .int 0, .ref st, .ref op, .int 0])), (tn, .inl (G.2.2.2 0, (48, .inl (fun _ => 0)))), (od, .inl (G.2.2.2 4, (16, .inr (.inr (.inr (.inr (fun j => if j < i then some (ad j) else none))))))), (st, .inl (G.2.2.2 3, (400, .inr (.inr (.inr (.inr (fun _ => none))))))), (op, .inl (G.2.2.2 0, (400, .inl (fun _ => 0))))] ++ xOrd G ad i) []) (fun v w' h => ?_) rfl
    obtain ⟨w1, ⟨rfl, rfl⟩, rfl⟩ := h
    have hlen : (([(a, .inr (5, [.int 5, .int 5, .int 0, .ref tn, .int 0, .ref od, .int 0, .ref st, .ref op, .int 0])), (tn, .inl (G.2.2.2 0, (48, .inl (fun _ => 0)))), (od, .inl (G.2.2.2 4, (16, .inr (.inr (.inr (.inr (fun j => if j < i then some (ad j) else none))))))), (st, .inl (G.2.2.2 3, (400, .inr (.inr (.inr (.inr (fun _ => none))))))), (op, .inl (G.2.2.2 0, (400, .inl (fun _ => 0))))] : va_W) ++ xOrd G ad i).length = 5 + i := by
      rw [List.length_append]
      unfold xOrd
      rw [List.length_map, List.length_range]
      rfl
    refine x_astq (q0 := 2) (qk := 5 + i) (t := 4) (ci := 4) (r := (RX6, TX6, 5)) dX7_init_73 rfl rfl (by rw [List.getElem?_append_right (by omega), hlen, Nat.sub_self]; rfl) rfl (vp_in_nI (by omega) (by decide)) ?_
    rw [nI_clamp (show i < 2 ^ 31 by omega), va_up_lt]
    refine x_iinc (v := nI (i + 1)) (l' := [(1, .int (nI (i + 1))), (0, .ref a)]) 0 dX7_init_74 rfl (by rw [nI_succ]; rfl) (by decide) rfl ?_
    refine x_goto (t := 52) dX7_init_77 (by decide) ?_
    have go := L_X7_init G a tn od st op n (i + 1) (fun j => if j = i then q else ad j) (by omega)
    refine Ex.wide (by show 4 + i + 1 + 0 ≤ 4 + (i + 1); omega) (by show 864 + 5 * i + 5 + 0 ≤ 864 + 5 * (i + 1); omega) (Ex.ww ?_ go)
    rw [xOrd_succ]
    rfl
set_option maxHeartbeats 4000000 in
set_option maxRecDepth 100000 in
theorem I_X7_init (G : eG) (a : Nat) : xCal G xN0 (2, 20, 944) kX7_init [.ref a] [(a, .inr (5, [.int 0, .int 0, .int 0, .null, .int 0, .null, .int 0, .null, .null, .int 0]))] (fun v w' => v = none ∧ ∃ (tn od st op : Nat) (ad : Nat → Nat), w' = [(a, .inr (5, [.int 5, .int 5, .int 0, .ref tn, .int 0, .ref od, .int 0, .ref st, .ref op, .int 0])), (tn, .inl (G.2.2.2 0, (48, .inl (fun _ => 0)))), (od, .inl (G.2.2.2 4, (16, .inr (.inr (.inr (.inr (fun j => if j < 16 then some (ad j) else none))))))), (st, .inl (G.2.2.2 3, (400, .inr (.inr (.inr (.inr (fun _ => none))))))), (op, .inl (G.2.2.2 0, (400, .inl (fun _ => 0))))] ++ xOrd G ad 16) := by
  refine xCal.of (by decide +kernel) rfl (Nat.le_of_ble_eq_true rfl) ?_
  show Ex _ _ _ _ _ _ [(0, .ref a)] _ _ _ _
  refine x_aload_n 0 dX7_init_0 rfl rfl ?_
  refine x_objInit dX7_init_1 (tb1 _ (List.mem_of_getElem? (i := 93) rfl)) xo_in xo_co ⟨Nat.le_of_ble_eq_true rfl, Nat.le_of_ble_eq_true rfl⟩ (Nat.le_of_ble_eq_true rfl) ?_
  refine x_aload_n 0 dX7_init_4 rfl rfl ?_
  refine x_iconst (v := 5) dX7_init_5 rfl ?_
  refine x_put (q0 := 0) (k := 0) (ft := tyX7 0) dX7_init_6 clX7 lFX7_11 (by decide) rfl (Nat.le_of_ble_eq_true rfl) rfl (clX7.2.2.1 0 (by decide)) rfl rfl ?_
  refine Ex.ww (w' := [(a, .inr (5, [.int 5, .int 0, .int 0, .null, .int 0, .null, .int 0, .null, .null, .int 0]))]) rfl ?_
  refine x_aload_n 0 dX7_init_9 rfl rfl ?_
  refine x_iconst (v := 5) dX7_init_10 rfl ?_
  refine x_put (q0 := 0) (k := 1) (ft := tyX7 1) dX7_init_11 clX7 lFX7_15 (by decide) rfl (Nat.le_of_ble_eq_true rfl) rfl (clX7.2.2.1 1 (by decide)) rfl rfl ?_
  refine Ex.ww (w' := [(a, .inr (5, [.int 5, .int 5, .int 0, .null, .int 0, .null, .int 0, .null, .null, .int 0]))]) rfl ?_
  refine x_aload_n 0 dX7_init_14 rfl rfl ?_
  refine x_bipush (v := 48) dX7_init_15 rfl ?_
  refine x_newi (N := 48) dX7_init_17 xa_int (by decide) (by decide) (by decide) ⟨Nat.le_of_ble_eq_true rfl, Nat.le_of_ble_eq_true rfl⟩ (fun tn => ?_)
  refine Ex.ww (w' := [(a, .inr (5, [.int 5, .int 5, .int 0, .null, .int 0, .null, .int 0, .null, .null, .int 0])), (tn, .inl (G.2.2.2 0, (48, .inl (fun _ => 0))))]) rfl ?_
  refine x_putF (fun _ _ _ _ h => h.1) (q0 := 0) (k := 3) (ft := tyX7 3) dX7_init_19 clX7 lFX7_18 (by decide) rfl (Nat.le_of_ble_eq_true rfl) rfl rfl (clX7.2.2.1 3 (by decide)) rfl rfl ?_
  refine Ex.ww (w' := [(a, .inr (5, [.int 5, .int 5, .int 0, .ref tn, .int 0, .null, .int 0, .null, .null, .int 0])), (tn, .inl (G.2.2.2 0, (48, .inl (fun _ => 0))))]) rfl ?_
  refine x_aload_n 0 dX7_init_22 rfl rfl ?_
  refine x_bipush (v := 16) dX7_init_23 rfl ?_
  refine x_newq (t := 4) (N := 16) dX7_init_25 (tb1 _ (List.mem_of_getElem? (i := 94) rfl)) (fun _ _ _ _ h => h.2.2.1) rfl (by decide) (by decide) (by decide) ⟨Nat.le_of_ble_eq_true rfl, Nat.le_of_ble_eq_true rfl⟩ (fun od => ?_)
  refine Ex.ww (w' := [(a, .inr (5, [.int 5, .int 5, .int 0, .ref tn, .int 0, .null, .int 0, .null, .null, .int 0])), (tn, .inl (G.2.2.2 0, (48, .inl (fun _ => 0)))), (od, .inl (G.2.2.2 4, (16, .inr (.inr (.inr (.inr (fun _ => none)))))))]) rfl ?_
  refine x_putF (fun _ _ _ _ h => h.1) (q0 := 0) (k := 5) (ft := tyX7 5) dX7_init_28 clX7 lFX7_24 (by decide) rfl (Nat.le_of_ble_eq_true rfl) rfl rfl (clX7.2.2.1 5 (by decide)) rfl rfl ?_
  refine Ex.ww (w' := [(a, .inr (5, [.int 5, .int 5, .int 0, .ref tn, .int 0, .ref od, .int 0, .null, .null, .int 0])), (tn, .inl (G.2.2.2 0, (48, .inl (fun _ => 0)))), (od, .inl (G.2.2.2 4, (16, .inr (.inr (.inr (.inr (fun _ => none)))))))]) rfl ?_
  refine x_aload_n 0 dX7_init_31 rfl rfl ?_
  refine x_sipush (v := 400) dX7_init_32 rfl ?_
  refine x_newq (t := 3) (N := 400) dX7_init_35 (tb1 _ (List.mem_of_getElem? (i := 96) rfl)) (fun _ _ _ _ h => h.2.1) rfl (by decide) (by decide) (by decide) ⟨Nat.le_of_ble_eq_true rfl, Nat.le_of_ble_eq_true rfl⟩ (fun st => ?_)
  refine Ex.ww (w' := [(a, .inr (5, [.int 5, .int 5, .int 0, .ref tn, .int 0, .ref od, .int 0, .null, .null, .int 0])), (tn, .inl (G.2.2.2 0, (48, .inl (fun _ => 0)))), (od, .inl (G.2.2.2 4, (16, .inr (.inr (.inr (.inr (fun _ => none))))))), (st, .inl (G.2.2.2 3, (400, .inr (.inr (.inr (.inr (fun _ => none)))))))]) rfl ?_
  refine x_putF (fun _ _ _ _ h => h.1) (q0 := 0) (k := 7) (ft := tyX7 7) dX7_init_38 clX7 lFX7_30 (by decide) rfl (Nat.le_of_ble_eq_true rfl) rfl rfl (clX7.2.2.1 7 (by decide)) rfl rfl ?_
  refine Ex.ww (w' := [(a, .inr (5, [.int 5, .int 5, .int 0, .ref tn, .int 0, .ref od, .int 0, .ref st, .null, .int 0])), (tn, .inl (G.2.2.2 0, (48, .inl (fun _ => 0)))), (od, .inl (G.2.2.2 4, (16, .inr (.inr (.inr (.inr (fun _ => none))))))), (st, .inl (G.2.2.2 3, (400, .inr (.inr (.inr (.inr (fun _ => none)))))))]) rfl ?_
  refine x_aload_n 0 dX7_init_41 rfl rfl ?_
  refine x_sipush (v := 400) dX7_init_42 rfl ?_
  refine x_newi (N := 400) dX7_init_45 xa_int (by decide) (by decide) (by decide) ⟨Nat.le_of_ble_eq_true rfl, Nat.le_of_ble_eq_true rfl⟩ (fun op => ?_)
  refine Ex.ww (w' := [(a, .inr (5, [.int 5, .int 5, .int 0, .ref tn, .int 0, .ref od, .int 0, .ref st, .null, .int 0])), (tn, .inl (G.2.2.2 0, (48, .inl (fun _ => 0)))), (od, .inl (G.2.2.2 4, (16, .inr (.inr (.inr (.inr (fun _ => none))))))), (st, .inl (G.2.2.2 3, (400, .inr (.inr (.inr (.inr (fun _ => none))))))), (op, .inl (G.2.2.2 0, (400, .inl (fun _ => 0))))]) rfl ?_
  refine x_putF (fun _ _ _ _ h => h.1) (q0 := 0) (k := 8) (ft := tyX7 8) dX7_init_47 clX7 lFX7_34 (by decide) rfl (Nat.le_of_ble_eq_true rfl) rfl rfl (clX7.2.2.1 8 (by decide)) rfl rfl ?_
  refine Ex.ww (w' := [(a, .inr (5, [.int 5, .int 5, .int 0, .ref tn, .int 0, .ref od, .int 0, .ref st, .ref op, .int 0])), (tn, .inl (G.2.2.2 0, (48, .inl (fun _ => 0)))), (od, .inl (G.2.2.2 4, (16, .inr (.inr (.inr (.inr (fun _ => none))))))), (st, .inl (G.2.2.2 3, (400, .inr (.inr (.inr (.inr (fun _ => none))))))), (op, .inl (G.2.2.2 0, (400, .inl (fun _ => 0))))]) rfl ?_
  refine x_iconst (v := 0) dX7_init_50 rfl ?_
  refine x_istore_n (l' := [(1, .int 0), (0, .ref a)]) dX7_init_51 rfl (by decide) rfl ?_
  have go := L_X7_init G a tn od st op 16 0 (fun _ => 0) rfl
  simp only [Nat.not_lt_zero, if_false] at go
  exact Ex.ww rfl go

