set_option maxHeartbeats 4000000 in
set_option maxRecDepth 100000 in
theorem C_X11_init (G : eG) (M : eM) (H : yH) (F : eM → yH → Prop) (a0 : Nat) (x1 : Int32)
    (h : ∃ (fs_1 : List Value), H a0 = some (.inr (9, fs_1)) ∧ 0 < fs_1.length ∧ (F M (yU H a0 (.inr (9, fs_1.set 0 (.int x1)))))) :
    yCal G (2, 0, 0) kX11_init [.ref a0, .int x1] M H (yFV F) := by
  refine yCal.of (by decide +kernel) rfl (Nat.le_of_ble_eq_true rfl) ?_
  show Yx (yX "<init>") (yZ G 0 0 (yFV F)) G (eR (2, 0, 0)) kX11_init 0 [(0, .ref a0), (1, .int x1)] [] M H 0 0
  refine y_aload_n 0 dX11_init_0 rfl rfl ?_
  refine y_objInit dX11_init_1 (tb4 _ (List.mem_of_getElem? (i := 121) rfl)) ⟨Nat.le_of_ble_eq_true rfl, Nat.le_of_ble_eq_true rfl⟩ (Nat.le_of_ble_eq_true rfl) ?_
  refine y_aload_n 0 dX11_init_4 rfl rfl ?_
  refine y_iload_n 1 dX11_init_5 rfl rfl ?_
  obtain ⟨fs_1, e1_1, e2_1, h⟩ := h
  refine y_put (k := 0) (ft := tyX11 0) dX11_init_6 clX11 lFX11_7 (by decide) e1_1 e2_1 rfl (clX11.2.2.1 0 (by decide)) rfl rfl ?_
  exact y_vret dX11_init_9 rfl (Nat.zero_le _) (Nat.zero_le _) ⟨rfl, h⟩
set_option maxHeartbeats 4000000 in
set_option maxRecDepth 100000 in
theorem C_X11_next (G : eG) (M : eM) (H : yH) (F : Int32 → eM → yH → Prop) (a0 : Nat) (x1 : Int32)
    (h : ∃ (x_1 : Int32), yG H a0 9 0 (.int x_1) ∧ (∃ (fs_2 : List Value), H a0 = some (.inr (9, fs_2)) ∧ 0 < fs_2.length ∧ (∃ (x_3 : Int32), yG (yU H a0 (.inr (9, fs_2.set 0 (.int ((x_1 * 1103515245) + 12345))))) a0 9 0 (.int x_3) ∧ (∃ r_4 : Int32, yRd G (1, 0, 0) kL_below [.int (x_3 >>> ((9 : Int32) &&& 31)), .int x1] M (yU H a0 (.inr (9, fs_2.set 0 (.int ((x_1 * 1103515245) + 12345))))) (.int r_4) ∧ (F r_4 M (yU H a0 (.inr (9, fs_2.set 0 (.int ((x_1 * 1103515245) + 12345)))))))))) :
    yCal G (2, 0, 0) kX11_next [.ref a0, .int x1] M H (yFI F) := by
  refine yCal.of (by decide +kernel) rfl (Nat.le_of_ble_eq_true rfl) ?_
  show Yx (yX "next") (yZ G 0 0 (yFI F)) G (eR (2, 0, 0)) kX11_next 0 [(0, .ref a0), (1, .int x1)] [] M H 0 0
  refine y_aload_n 0 dX11_next_0 rfl rfl ?_
  refine y_aload_n 0 dX11_next_1 rfl rfl ?_
  obtain ⟨x_1, ⟨fs_1, e1_1, e2_1⟩, h⟩ := h
  refine y_get (k := 0) dX11_next_2 clX11 lFX11_7 (by decide) e1_1 e2_1 ?_
  refine y_ldc dX11_next_5 lCX11_13 ?_
  refine y_imul dX11_next_7 ?_
  refine y_sipush (v := 12345) dX11_next_8 rfl ?_
  refine y_iadd dX11_next_11 ?_
  obtain ⟨fs_2, e1_2, e2_2, h⟩ := h
  refine y_put (k := 0) (ft := tyX11 0) dX11_next_12 clX11 lFX11_7 (by decide) e1_2 e2_2 rfl (clX11.2.2.1 0 (by decide)) rfl rfl ?_
  refine y_aload_n 0 dX11_next_15 rfl rfl ?_
  obtain ⟨x_3, ⟨fs_3, e1_3, e2_3⟩, h⟩ := h
  refine y_get (k := 0) dX11_next_16 clX11 lFX11_7 (by decide) e1_3 e2_3 ?_
  refine y_bipush (v := 9) dX11_next_19 rfl ?_
  refine y_ishr dX11_next_21 ?_
  refine y_iload_n 1 dX11_next_22 rfl rfl ?_
  obtain ⟨r_4, hc, h⟩ := h
  refine y_callSN yXn (b' := (1, 0, 0)) (K' := kL_below) (As := [.int (x_3 >>> ((9 : Int32) &&& 31)), .int x1]) (S := []) dX11_next_23 mL_below lMX11_14 rfl (by decide) (Nat.le_of_ble_eq_true rfl) hc (fun v_ M_ H_ q_ => ?_) rfl
  obtain ⟨rfl, rfl, rfl⟩ := q_
  exact y_iret dX11_next_26 rfl (Nat.zero_le _) (Nat.zero_le _) ⟨_, rfl, h⟩
set_option maxHeartbeats 4000000 in
set_option maxRecDepth 100000 in
theorem C_X13_init (G : eG) (M : eM) (H : yH) (F : eM → yH → Prop) (a0 : Nat) (x1 : Int32) (x2 : Int32) (o3 : Option Nat) (o4 : Option Nat)
    (h : ∃ (fs_1 : List Value), H a0 = some (.inr (11, fs_1)) ∧ 0 < fs_1.length ∧ (∃ (fs_2 : List Value), (yU H a0 (.inr (11, fs_1.set 0 (.int x1)))) a0 = some (.inr (11, fs_2)) ∧ 1 < fs_2.length ∧ (∃ (fs_3 : List Value), (yU (yU H a0 (.inr (11, fs_1.set 0 (.int x1)))) a0 (.inr (11, fs_2.set 1 (.int x2)))) a0 = some (.inr (11, fs_3)) ∧ 2 < fs_3.length ∧ (∃ (fs_4 : List Value), (yU (yU (yU H a0 (.inr (11, fs_1.set 0 (.int x1)))) a0 (.inr (11, fs_2.set 1 (.int x2)))) a0 (.inr (11, fs_3.set 2 (va_rf o3)))) a0 = some (.inr (11, fs_4)) ∧ 3 < fs_4.length ∧ (F M (yU (yU (yU (yU H a0 (.inr (11, fs_1.set 0 (.int x1)))) a0 (.inr (11, fs_2.set 1 (.int x2)))) a0 (.inr (11, fs_3.set 2 (va_rf o3)))) a0 (.inr (11, fs_4.set 3 (va_rf o4))))))))) :
    yCal G (2, 0, 0) kX13_init [.ref a0, .int x1, .int x2, va_rf o3, va_rf o4] M H (yFV F) := by
  refine yCal.of (by decide +kernel) rfl (by cases o3 <;> cases o4 <;> exact Nat.le_of_ble_eq_true rfl) ?_
  rw [show lv_args 0 [.ref a0, .int x1, .int x2, va_rf o3, va_rf o4] = [(0, .ref a0), (1, .int x1), (2, .int x2), (3, va_rf o3), (4, va_rf o4)] from by cases o3 <;> cases o4 <;> rfl]
  show Yx (yX "<init>") (yZ G 0 0 (yFV F)) G (eR (2, 0, 0)) kX13_init 0 [(0, .ref a0), (1, .int x1), (2, .int x2), (3, va_rf o3), (4, va_rf o4)] [] M H 0 0
  refine y_aload_n 0 dX13_init_0 rfl rfl ?_
  refine y_objInit dX13_init_1 (tb7 _ (List.mem_of_getElem? (i := 40) rfl)) ⟨Nat.le_of_ble_eq_true rfl, Nat.le_of_ble_eq_true rfl⟩ (Nat.le_of_ble_eq_true rfl) ?_
  refine y_aload_n 0 dX13_init_4 rfl rfl ?_
  refine y_iload_n 1 dX13_init_5 rfl rfl ?_
  obtain ⟨fs_1, e1_1, e2_1, h⟩ := h
  refine y_putF (fun _ _ _ _ h => h.1) (k := 0) (ft := tyX13 0) dX13_init_6 clX13 lFX13_7 (by decide) e1_1 e2_1 rfl rfl (clX13.2.2.1 0 (by decide)) rfl rfl ?_
  refine y_aload_n 0 dX13_init_9 rfl rfl ?_
  refine y_iload_n 2 dX13_init_10 rfl rfl ?_
  obtain ⟨fs_2, e1_2, e2_2, h⟩ := h
  refine y_putF (fun _ _ _ _ h => h.1) (k := 1) (ft := tyX13 1) dX13_init_11 clX13 lFX13_13 (by decide) e1_2 e2_2 rfl rfl (clX13.2.2.1 1 (by decide)) rfl rfl ?_
  refine y_aload_n 0 dX13_init_14 rfl rfl ?_
  refine y_aload_nQ 3 dX13_init_15 rfl rfl ?_
  obtain ⟨fs_3, e1_3, e2_3, h⟩ := h
  refine y_putF (fun _ _ _ _ h => h.1) (k := 2) (ft := tyX13 2) dX13_init_16 clX13 lFX13_16 (by decide) e1_3 e2_3 rfl rfl (clX13.2.2.1 2 (by decide)) (yQ_nar _ _).1 (yQ_nar _ _).2 ?_
  refine y_aload_n 0 dX13_init_19 rfl rfl ?_
  refine y_aloadQ 4 dX13_init_20 rfl ?_
  obtain ⟨fs_4, e1_4, e2_4, h⟩ := h
  refine y_putF (fun _ _ _ _ h => h.1) (k := 3) (ft := tyX13 3) dX13_init_22 clX13 lFX13_20 (by decide) e1_4 e2_4 rfl rfl (clX13.2.2.1 3 (by decide)) (yQ_nar _ _).1 (yQ_nar _ _).2 ?_
  exact y_vret dX13_init_25 rfl (Nat.zero_le _) (Nat.zero_le _) ⟨rfl, h⟩
set_option maxHeartbeats 4000000 in
set_option maxRecDepth 100000 in
theorem B_X13_sum_0_16 (G : eG) (ca sl : Nat) (M : eM) (H : yH) (F : Nat → eM → yH → Prop) (a0 : Nat) (x1 : Int32) (x2 : Int32) (x3 : Int32)
    (h : (((8 : Int32) ≤ x3) → (ca + 0 ≤ 1 ∧ sl + 0 ≤ 4) ∧ yCal G (1, 0, 0) kX13_sum [.ref a0, .int x1, .int (x2 - 1)] M H (yFR (fun (r_1 : Nat) (M_1 : eM) (H_1 : yH) => (ca + 1 ≤ 1 ∧ sl + 4 ≤ 4) ∧ ∀ q_2 : Nat, H_1 q_2 = none → (((¬ x3 = (8 : Int32)) → ((ca + 1) + 0 ≤ 1 ∧ (sl + 4) + 0 ≤ 4) ∧ yCal G (1, 0, 0) kX13_sum [.ref a0, .int x1, .int (x2 - 1)] M_1 (yU H_1 q_2 (.inr (11, [.int 0, .int 0, .null, .null]))) (yFR (fun (r_3 : Nat) (M_3 : eM) (H_3 : yH) => ((ca + 1) + 0 ≤ 1 ∧ (sl + 4) + 0 ≤ 4) ∧ yCal G (2, 0, 0) kX13_init [.ref q_2, .int x3, .int 0, .ref r_1, .ref r_3] M_3 H_3 (yFV (fun (M_4 : eM) (H_4 : yH) => (ca + 1 ≤ 1 ∧ sl + 4 ≤ 4) ∧ F q_2 M_4 H_4))))) ∧ ((x3 = (8 : Int32)) → ((ca + 1) + 0 ≤ 1 ∧ (sl + 4) + 0 ≤ 4) ∧ yCal G (2, 0, 0) kX13_init [.ref q_2, .int x3, .int 0, .ref r_1, .null] M_1 (yU H_1 q_2 (.inr (11, [.int 0, .int 0, .null, .null]))) (yFV (fun (M_3 : eM) (H_3 : yH) => (ca + 1 ≤ 1 ∧ sl + 4 ≤ 4) ∧ F q_2 M_3 H_3))))))) ∧ ((¬ (8 : Int32) ≤ x3) → (ca + 1 ≤ 1 ∧ sl + 4 ≤ 4) ∧ ∀ q_1 : Nat, H q_1 = none → (((x3 ≤ (0 : Int32)) → ((ca + 1) + 0 ≤ 1 ∧ (sl + 4) + 0 ≤ 4) ∧ yIs (yU H q_1 (.inr (11, [.int 0, .int 0, .null, .null]))) a0 9 ∧ yCal G (2, 0, 0) kX11_next [.ref a0, .int 7] M (yU H q_1 (.inr (11, [.int 0, .int 0, .null, .null]))) (yFI (fun (r_2 : Int32) (M_2 : eM) (H_2 : yH) => ((¬ r_2 = (0 : Int32)) → ((ca + 1) + 0 ≤ 1 ∧ (sl + 4) + 0 ≤ 4) ∧ yIs H_2 a0 9 ∧ yCal G (2, 0, 0) kX11_next [.ref a0, .int 12] M_2 H_2 (yFI (fun (r_3 : Int32) (M_3 : eM) (H_3 : yH) => ((ca + 1) + 0 ≤ 1 ∧ (sl + 4) + 0 ≤ 4) ∧ yCal G (2, 0, 0) kX13_init [.ref q_1, .int x3, .int r_3, .null, .null] M_3 H_3 (yFV (fun (M_4 : eM) (H_4 : yH) => (ca + 1 ≤ 1 ∧ sl + 4 ≤ 4) ∧ F q_1 M_4 H_4))))) ∧ ((r_2 = (0 : Int32)) → ((ca + 1) + 0 ≤ 1 ∧ (sl + 4) + 0 ≤ 4) ∧ yIs H_2 a0 9 ∧ yCal G (2, 0, 0) kX11_next [.ref a0, .int 1000000] M_2 H_2 (yFI (fun (r_3 : Int32) (M_3 : eM) (H_3 : yH) => ((ca + 1) + 0 ≤ 1 ∧ (sl + 4) + 0 ≤ 4) ∧ yCal G (2, 0, 0) kX13_init [.ref q_1, .int x3, .int r_3, .null, .null] M_3 H_3 (yFV (fun (M_4 : eM) (H_4 : yH) => (ca + 1 ≤ 1 ∧ sl + 4 ≤ 4) ∧ F q_1 M_4 H_4)))))))) ∧ ((¬ x3 ≤ (0 : Int32)) → ((ca + 1) + 0 ≤ 1 ∧ (sl + 4) + 0 ≤ 4) ∧ yIs (yU H q_1 (.inr (11, [.int 0, .int 0, .null, .null]))) a0 9 ∧ yCal G (2, 0, 0) kX11_next [.ref a0, .int x1] M (yU H q_1 (.inr (11, [.int 0, .int 0, .null, .null]))) (yFI (fun (r_2 : Int32) (M_2 : eM) (H_2 : yH) => ((ca + 1) + 0 ≤ 1 ∧ (sl + 4) + 0 ≤ 4) ∧ yCal G (2, 0, 0) kX13_init [.ref q_1, .int x3, .int r_2, .null, .null] M_2 H_2 (yFV (fun (M_3 : eM) (H_3 : yH) => (ca + 1 ≤ 1 ∧ sl + 4 ≤ 4) ∧ F q_1 M_3 H_3)))))))) :
    Yx (yX "sum") (yZ G 1 4 (yFR F)) G (eR (3, 1, 4)) kX13_sum 16 [(0, .ref a0), (1, .int x1), (2, .int x2), (3, .int x3)] [] M H ca sl := by
  refine y_iload_n 3 dX13_sum_16 rfl rfl ?_
  refine y_bipush (v := 8) dX13_sum_17 rfl ?_
  refine y_icmp_ge (t := 69) dX13_sum_19 (by decide) (fun q => ?_) (fun q => ?_)
  · replace h := h.1 q
    refine y_aload_n 0 dX13_sum_69 rfl rfl ?_
    refine y_iload_n 1 dX13_sum_70 rfl rfl ?_
    refine y_iload_n 2 dX13_sum_71 rfl rfl ?_
    refine y_iconst (v := 1) dX13_sum_72 rfl ?_
    refine y_isub dX13_sum_73 ?_
    have hb := h.1
    replace h := h.2
    refine y_callS yXn (b' := (1, 0, 0)) (K' := kX13_sum) (As := [.ref a0, .int x1, .int (x2 - 1)]) (S := []) dX13_sum_74 mX13_sum lMX13_33 rfl ⟨(by decide), hb⟩ (Nat.le_of_ble_eq_true rfl) h (fun v_ M_1 H_1 q_ => ?_) rfl
    obtain ⟨r_1, rfl, h⟩ := q_
    refine y_astore (i := 4) (l' := [(4, .ref r_1), (0, .ref a0), (1, .int x1), (2, .int x2), (3, .int x3)]) dX13_sum_77 (by decide) rfl ?_
    have hb := h.1
    replace h := h.2
    refine y_new dX13_sum_79 clX13 (tb7 _ (List.mem_of_getElem? (i := 58) rfl)) (tb7 _ (List.mem_of_getElem? (i := 36) rfl)) (tb1 _ (List.mem_of_getElem? (i := 27) rfl)) xd_X13 hb (fun q_2 hq => ?_)
    replace h := h q_2 hq
    refine y_dup dX13_sum_82 rfl ?_
    refine y_iload_n 4 dX13_sum_83 rfl rfl ?_
    refine y_iconst (v := 0) dX13_sum_84 rfl ?_
    refine y_aload 0 dX13_sum_85 rfl ?_
    refine y_iload_n 4 dX13_sum_87 rfl rfl ?_
    refine y_bipush (v := 8) dX13_sum_88 rfl ?_
    refine y_icmp_ne (t := 97) dX13_sum_90 (by decide) (fun q => ?_) (fun q => ?_)
    · replace h := h.1 q
      refine y_aload_n 1 dX13_sum_97 rfl rfl ?_
      refine y_iload_n 2 dX13_sum_98 rfl rfl ?_
      refine y_iload_n 3 dX13_sum_99 rfl rfl ?_
      refine y_iconst (v := 1) dX13_sum_100 rfl ?_
      refine y_isub dX13_sum_101 ?_
      have hb := h.1
      replace h := h.2
      refine y_callS yXn (b' := (1, 0, 0)) (K' := kX13_sum) (As := [.ref a0, .int x1, .int (x2 - 1)]) (S := [.ref r_1, .int 0, .int x3, .ref q_2, .ref q_2]) dX13_sum_102 mX13_sum lMX13_33 rfl ⟨(by decide), hb⟩ (Nat.le_of_ble_eq_true rfl) h (fun v_ M_3 H_3 q_ => ?_) rfl
      obtain ⟨r_3, rfl, h⟩ := q_
      have hb := h.1
      replace h := h.2
      refine y_callI yXn (b' := (2, 0, 0)) (K' := kX13_init) (As := [.int x3, .int 0, .ref r_1, .ref r_3]) (a := q_2) (S := [.ref q_2]) dX13_sum_105 miX13_init lMX13_30 rfl ⟨(by decide), hb⟩ (Nat.le_of_ble_eq_true rfl) h (fun v_ M_4 H_4 q_ => ?_) rfl
      obtain ⟨rfl, h⟩ := q_
      have hb := h.1
      replace h := h.2
      exact y_aret dX13_sum_108 rfl (Or.inl ⟨_, rfl⟩) hb.1 hb.2 ⟨_, rfl, h⟩
    · replace h := h.2 q
      refine y_aconst dX13_sum_93 ?_
      refine y_goto (t := 105) dX13_sum_94 (by decide) ?_
      have hb := h.1
      replace h := h.2
      refine y_callI yXn (b' := (2, 0, 0)) (K' := kX13_init) (As := [.int x3, .int 0, .ref r_1, .null]) (a := q_2) (S := [.ref q_2]) dX13_sum_105 miX13_init lMX13_30 rfl ⟨(by decide), hb⟩ (Nat.le_of_ble_eq_true rfl) h (fun v_ M_3 H_3 q_ => ?_) rfl
      obtain ⟨rfl, h⟩ := q_
      have hb := h.1
      replace h := h.2
      exact y_aret dX13_sum_108 rfl (Or.inl ⟨_, rfl⟩) hb.1 hb.2 ⟨_, rfl, h⟩
  · replace h := h.2 q
    have hb := h.1
    replace h := h.2
    refine y_new dX13_sum_22 clX13 (tb7 _ (List.mem_of_getElem? (i := 58) rfl)) (tb7 _ (List.mem_of_getElem? (i := 36) rfl)) (tb1 _ (List.mem_of_getElem? (i := 27) rfl)) xd_X13 hb (fun q_1 hq => ?_)
    replace h := h q_1 hq
    refine y_dup dX13_sum_25 rfl ?_
    refine y_iload_n 3 dX13_sum_26 rfl rfl ?_
    refine y_iload_n 3 dX13_sum_27 rfl rfl ?_
    refine y_if_le (t := 39) dX13_sum_28 (by decide) (fun q => ?_) (fun q => ?_)
    · replace h := h.1 q
      refine y_aload_n 0 dX13_sum_39 rfl rfl ?_
      refine y_bipush (v := 7) dX13_sum_40 rfl ?_
      have hb := h.1
      replace h := h.2
      obtain ⟨⟨fs_2, hi⟩, h⟩ := h
      refine y_callV yXn (b' := (2, 0, 0)) (K' := kX11_next) (As := [.int 7]) (S := [.int x3, .ref q_1, .ref q_1]) dX13_sum_42 mX11_next lMX13_23 clX11 rfl hi rfl ⟨(by decide), hb⟩ (Nat.le_of_ble_eq_true rfl) h (fun v_ M_2 H_2 q_ => ?_) rfl
      obtain ⟨r_2, rfl, h⟩ := q_
      refine y_if_ne (t := 57) dX13_sum_45 (by decide) (fun q => ?_) (fun q => ?_)
      · replace h := h.1 q
        refine y_aload_n 0 dX13_sum_57 rfl rfl ?_
        refine y_bipush (v := 12) dX13_sum_58 rfl ?_
        have hb := h.1
        replace h := h.2
        obtain ⟨⟨fs_3, hi⟩, h⟩ := h
        refine y_callV yXn (b' := (2, 0, 0)) (K' := kX11_next) (As := [.int 12]) (S := [.int x3, .ref q_1, .ref q_1]) dX13_sum_60 mX11_next lMX13_23 clX11 rfl hi rfl ⟨(by decide), hb⟩ (Nat.le_of_ble_eq_true rfl) h (fun v_ M_3 H_3 q_ => ?_) rfl
        obtain ⟨r_3, rfl, h⟩ := q_
        refine y_aconst dX13_sum_63 ?_
        refine y_aconst dX13_sum_64 ?_
        have hb := h.1
        replace h := h.2
        refine y_callI yXn (b' := (2, 0, 0)) (K' := kX13_init) (As := [.int x3, .int r_3, .null, .null]) (a := q_1) (S := [.ref q_1]) dX13_sum_65 miX13_init lMX13_30 rfl ⟨(by decide), hb⟩ (Nat.le_of_ble_eq_true rfl) h (fun v_ M_4 H_4 q_ => ?_) rfl
        obtain ⟨rfl, h⟩ := q_
        have hb := h.1
        replace h := h.2
        exact y_aret dX13_sum_68 rfl (Or.inl ⟨_, rfl⟩) hb.1 hb.2 ⟨_, rfl, h⟩
      · replace h := h.2 q
        refine y_aload_n 0 dX13_sum_48 rfl rfl ?_
        refine y_ldc dX13_sum_49 lCX13_29 ?_
        have hb := h.1
        replace h := h.2
        obtain ⟨⟨fs_3, hi⟩, h⟩ := h
        refine y_callV yXn (b' := (2, 0, 0)) (K' := kX11_next) (As := [.int 1000000]) (S := [.int x3, .ref q_1, .ref q_1]) dX13_sum_51 mX11_next lMX13_23 clX11 rfl hi rfl ⟨(by decide), hb⟩ (Nat.le_of_ble_eq_true rfl) h (fun v_ M_3 H_3 q_ => ?_) rfl
        obtain ⟨r_3, rfl, h⟩ := q_
        refine y_goto (t := 63) dX13_sum_54 (by decide) ?_
        refine y_aconst dX13_sum_63 ?_
        refine y_aconst dX13_sum_64 ?_
        have hb := h.1
        replace h := h.2
        refine y_callI yXn (b' := (2, 0, 0)) (K' := kX13_init) (As := [.int x3, .int r_3, .null, .null]) (a := q_1) (S := [.ref q_1]) dX13_sum_65 miX13_init lMX13_30 rfl ⟨(by decide), hb⟩ (Nat.le_of_ble_eq_true rfl) h (fun v_ M_4 H_4 q_ => ?_) rfl
        obtain ⟨rfl, h⟩ := q_
        have hb := h.1
        replace h := h.2
        exact y_aret dX13_sum_68 rfl (Or.inl ⟨_, rfl⟩) hb.1 hb.2 ⟨_, rfl, h⟩
    · replace h := h.2 q
      refine y_aload_n 0 dX13_sum_31 rfl rfl ?_
      refine y_iload_n 1 dX13_sum_32 rfl rfl ?_
      have hb := h.1
      replace h := h.2
      obtain ⟨⟨fs_2, hi⟩, h⟩ := h
      refine y_callV yXn (b' := (2, 0, 0)) (K' := kX11_next) (As := [.int x1]) (S := [.int x3, .ref q_1, .ref q_1]) dX13_sum_33 mX11_next lMX13_23 clX11 rfl hi rfl ⟨(by decide), hb⟩ (Nat.le_of_ble_eq_true rfl) h (fun v_ M_2 H_2 q_ => ?_) rfl
      obtain ⟨r_2, rfl, h⟩ := q_
      refine y_goto (t := 63) dX13_sum_36 (by decide) ?_
      refine y_aconst dX13_sum_63 ?_
      refine y_aconst dX13_sum_64 ?_
      have hb := h.1
      replace h := h.2
      refine y_callI yXn (b' := (2, 0, 0)) (K' := kX13_init) (As := [.int x3, .int r_2, .null, .null]) (a := q_1) (S := [.ref q_1]) dX13_sum_65 miX13_init lMX13_30 rfl ⟨(by decide), hb⟩ (Nat.le_of_ble_eq_true rfl) h (fun v_ M_3 H_3 q_ => ?_) rfl
      obtain ⟨rfl, h⟩ := q_
      have hb := h.1
      replace h := h.2
      exact y_aret dX13_sum_68 rfl (Or.inl ⟨_, rfl⟩) hb.1 hb.2 ⟨_, rfl, h⟩
set_option maxHeartbeats 4000000 in
set_option maxRecDepth 100000 in
theorem C_X13_sum_0 (G : eG) (M : eM) (H : yH) (F : Nat → eM → yH → Prop) (a0 : Nat) (x1 : Int32)
    (h : (0 + 0 ≤ 1 ∧ 0 + 0 ≤ 4) ∧ yIs H a0 9 ∧ yCal G (2, 0, 0) kX11_next [.ref a0, .int 8] M H (yFI (fun (r_1 : Int32) (M_1 : eM) (H_1 : yH) => Yx (yX "sum") (yZ G 1 4 (yFR F)) G (eR (3, 1, 4)) kX13_sum 16 [(0, .ref a0), (1, .int x1), (2, .int 0), (3, .int r_1)] [] M_1 H_1 0 0))) :
    yCal G (3, 1, 4) kX13_sum [.ref a0, .int x1, .int 0] M H (yFR F) := by
  refine yCal.of (by decide +kernel) rfl (Nat.le_of_ble_eq_true rfl) ?_
  show Yx (yX "sum") (yZ G 1 4 (yFR F)) G (eR (3, 1, 4)) kX13_sum 0 [(0, .ref a0), (1, .int x1), (2, .int 0)] [] M H 0 0
  refine y_aload_n 0 dX13_sum_0 rfl rfl ?_
  refine y_iload_n 2 dX13_sum_1 rfl rfl ?_
  refine y_if_ne (t := 10) dX13_sum_2 (by decide) (fun q => ?_) (fun q => ?_)
  · exact absurd q (by decide)
  · refine y_bipush (v := 8) dX13_sum_5 rfl ?_
    refine y_goto (t := 12) dX13_sum_7 (by decide) ?_
    have hb := h.1
    replace h := h.2
    obtain ⟨⟨fs_1, hi⟩, h⟩ := h
    refine y_callV yXn (b' := (2, 0, 0)) (K' := kX11_next) (As := [.int 8]) (S := []) dX13_sum_12 mX11_next lMX13_23 clX11 rfl hi rfl ⟨(by decide), hb⟩ (Nat.le_of_ble_eq_true rfl) h (fun v_ M_1 H_1 q_ => ?_) rfl
    obtain ⟨r_1, rfl, h⟩ := q_
    refine y_istore_n (i := 3) (l' := [(3, .int r_1), (0, .ref a0), (1, .int x1), (2, .int 0)]) dX13_sum_15 rfl (by decide) rfl ?_
    exact Yx.sub (ks := [1, 2, 3, 0]) rfl h
set_option maxHeartbeats 4000000 in
set_option maxRecDepth 100000 in
theorem B_X13_sum_1_16 (G : eG) (ca sl : Nat) (M : eM) (H : yH) (F : Nat → eM → yH → Prop) (a0 : Nat) (x1 : Int32) (x2 : Int32) (x3 : Int32)
    (h : (((8 : Int32) ≤ x3) → (ca + 1 ≤ 3 ∧ sl + 4 ≤ 12) ∧ yCal G (3, 1, 4) kX13_sum [.ref a0, .int x1, .int (x2 - 1)] M H (yFR (fun (r_1 : Nat) (M_1 : eM) (H_1 : yH) => ((ca + 1) + 1 ≤ 3 ∧ (sl + 4) + 4 ≤ 12) ∧ ∀ q_2 : Nat, H_1 q_2 = none → (((¬ x3 = (8 : Int32)) → ((ca + 1 + 1) + 1 ≤ 3 ∧ (sl + 4 + 4) + 4 ≤ 12) ∧ yCal G (3, 1, 4) kX13_sum [.ref a0, .int x1, .int (x2 - 1)] M_1 (yU H_1 q_2 (.inr (11, [.int 0, .int 0, .null, .null]))) (yFR (fun (r_3 : Nat) (M_3 : eM) (H_3 : yH) => ((ca + 1 + 1 + 1) + 0 ≤ 3 ∧ (sl + 4 + 4 + 4) + 0 ≤ 12) ∧ yCal G (2, 0, 0) kX13_init [.ref q_2, .int x3, .int 0, .ref r_1, .ref r_3] M_3 H_3 (yFV (fun (M_4 : eM) (H_4 : yH) => (ca + 1 + 1 + 1 ≤ 3 ∧ sl + 4 + 4 + 4 ≤ 12) ∧ F q_2 M_4 H_4))))) ∧ ((x3 = (8 : Int32)) → ((ca + 1 + 1) + 0 ≤ 3 ∧ (sl + 4 + 4) + 0 ≤ 12) ∧ yCal G (2, 0, 0) kX13_init [.ref q_2, .int x3, .int 0, .ref r_1, .null] M_1 (yU H_1 q_2 (.inr (11, [.int 0, .int 0, .null, .null]))) (yFV (fun (M_3 : eM) (H_3 : yH) => (ca + 1 + 1 ≤ 3 ∧ sl + 4 + 4 ≤ 12) ∧ F q_2 M_3 H_3))))))) ∧ ((¬ (8 : Int32) ≤ x3) → (ca + 1 ≤ 3 ∧ sl + 4 ≤ 12) ∧ ∀ q_1 : Nat, H q_1 = none → (((x3 ≤ (0 : Int32)) → ((ca + 1) + 0 ≤ 3 ∧ (sl + 4) + 0 ≤ 12) ∧ yIs (yU H q_1 (.inr (11, [.int 0, .int 0, .null, .null]))) a0 9 ∧ yCal G (2, 0, 0) kX11_next [.ref a0, .int 7] M (yU H q_1 (.inr (11, [.int 0, .int 0, .null, .null]))) (yFI (fun (r_2 : Int32) (M_2 : eM) (H_2 : yH) => ((¬ r_2 = (0 : Int32)) → ((ca + 1) + 0 ≤ 3 ∧ (sl + 4) + 0 ≤ 12) ∧ yIs H_2 a0 9 ∧ yCal G (2, 0, 0) kX11_next [.ref a0, .int 12] M_2 H_2 (yFI (fun (r_3 : Int32) (M_3 : eM) (H_3 : yH) => ((ca + 1) + 0 ≤ 3 ∧ (sl + 4) + 0 ≤ 12) ∧ yCal G (2, 0, 0) kX13_init [.ref q_1, .int x3, .int r_3, .null, .null] M_3 H_3 (yFV (fun (M_4 : eM) (H_4 : yH) => (ca + 1 ≤ 3 ∧ sl + 4 ≤ 12) ∧ F q_1 M_4 H_4))))) ∧ ((r_2 = (0 : Int32)) → ((ca + 1) + 0 ≤ 3 ∧ (sl + 4) + 0 ≤ 12) ∧ yIs H_2 a0 9 ∧ yCal G (2, 0, 0) kX11_next [.ref a0, .int 1000000] M_2 H_2 (yFI (fun (r_3 : Int32) (M_3 : eM) (H_3 : yH) => ((ca + 1) + 0 ≤ 3 ∧ (sl + 4) + 0 ≤ 12) ∧ yCal G (2, 0, 0) kX13_init [.ref q_1, .int x3, .int r_3, .null, .null] M_3 H_3 (yFV (fun (M_4 : eM) (H_4 : yH) => (ca + 1 ≤ 3 ∧ sl + 4 ≤ 12) ∧ F q_1 M_4 H_4)))))))) ∧ ((¬ x3 ≤ (0 : Int32)) → ((ca + 1) + 0 ≤ 3 ∧ (sl + 4) + 0 ≤ 12) ∧ yIs (yU H q_1 (.inr (11, [.int 0, .int 0, .null, .null]))) a0 9 ∧ yCal G (2, 0, 0) kX11_next [.ref a0, .int x1] M (yU H q_1 (.inr (11, [.int 0, .int 0, .null, .null]))) (yFI (fun (r_2 : Int32) (M_2 : eM) (H_2 : yH) => ((ca + 1) + 0 ≤ 3 ∧ (sl + 4) + 0 ≤ 12) ∧ yCal G (2, 0, 0) kX13_init [.ref q_1, .int x3, .int r_2, .null, .null] M_2 H_2 (yFV (fun (M_3 : eM) (H_3 : yH) => (ca + 1 ≤ 3 ∧ sl + 4 ≤ 12) ∧ F q_1 M_3 H_3)))))))) :
    Yx (yX "sum") (yZ G 3 12 (yFR F)) G (eR (4, 3, 12)) kX13_sum 16 [(0, .ref a0), (1, .int x1), (2, .int x2), (3, .int x3)] [] M H ca sl := by
  refine y_iload_n 3 dX13_sum_16 rfl rfl ?_
  refine y_bipush (v := 8) dX13_sum_17 rfl ?_
  refine y_icmp_ge (t := 69) dX13_sum_19 (by decide) (fun q => ?_) (fun q => ?_)
  · replace h := h.1 q
    refine y_aload_n 0 dX13_sum_69 rfl rfl ?_
    refine y_iload_n 1 dX13_sum_70 rfl rfl ?_
    refine y_iload_n 2 dX13_sum_71 rfl rfl ?_
    refine y_iconst (v := 1) dX13_sum_72 rfl ?_
    refine y_isub dX13_sum_73 ?_
    have hb := h.1
    replace h := h.2
    refine y_callS yXn (b' := (3, 1, 4)) (K' := kX13_sum) (As := [.ref a0, .int x1, .int (x2 - 1)]) (S := []) dX13_sum_74 mX13_sum lMX13_33 rfl ⟨(by decide), hb⟩ (Nat.le_of_ble_eq_true rfl) h (fun v_ M_1 H_1 q_ => ?_) rfl
    obtain ⟨r_1, rfl, h⟩ := q_
    refine y_astore (i := 4) (l' := [(4, .ref r_1), (0, .ref a0), (1, .int x1), (2, .int x2), (3, .int x3)]) dX13_sum_77 (by decide) rfl ?_
    have hb := h.1
    replace h := h.2
    refine y_new dX13_sum_79 clX13 (tb7 _ (List.mem_of_getElem? (i := 58) rfl)) (tb7 _ (List.mem_of_getElem? (i := 36) rfl)) (tb1 _ (List.mem_of_getElem? (i := 27) rfl)) xd_X13 hb (fun q_2 hq => ?_)
    replace h := h q_2 hq
    refine y_dup dX13_sum_82 rfl ?_
    refine y_iload_n 4 dX13_sum_83 rfl rfl ?_
    refine y_iconst (v := 0) dX13_sum_84 rfl ?_
    refine y_aload 0 dX13_sum_85 rfl ?_
    refine y_iload_n 4 dX13_sum_87 rfl rfl ?_
    refine y_bipush (v := 8) dX13_sum_88 rfl ?_
    refine y_icmp_ne (t := 97) dX13_sum_90 (by decide) (fun q => ?_) (fun q => ?_)
    · replace h := h.1 q
      refine y_aload_n 1 dX13_sum_97 rfl rfl ?_
      refine y_iload_n 2 dX13_sum_98 rfl rfl ?_
      refine y_iload_n 3 dX13_sum_99 rfl rfl ?_
      refine y_iconst (v := 1) dX13_sum_100 rfl ?_
      refine y_isub dX13_sum_101 ?_
      have hb := h.1
      replace h := h.2
      refine y_callS yXn (b' := (3, 1, 4)) (K' := kX13_sum) (As := [.ref a0, .int x1, .int (x2 - 1)]) (S := [.ref r_1, .int 0, .int x3, .ref q_2, .ref q_2]) dX13_sum_102 mX13_sum lMX13_33 rfl ⟨(by decide), hb⟩ (Nat.le_of_ble_eq_true rfl) h (fun v_ M_3 H_3 q_ => ?_) rfl
      obtain ⟨r_3, rfl, h⟩ := q_
      have hb := h.1
      replace h := h.2
      refine y_callI yXn (b' := (2, 0, 0)) (K' := kX13_init) (As := [.int x3, .int 0, .ref r_1, .ref r_3]) (a := q_2) (S := [.ref q_2]) dX13_sum_105 miX13_init lMX13_30 rfl ⟨(by decide), hb⟩ (Nat.le_of_ble_eq_true rfl) h (fun v_ M_4 H_4 q_ => ?_) rfl
      obtain ⟨rfl, h⟩ := q_
      have hb := h.1
      replace h := h.2
      exact y_aret dX13_sum_108 rfl (Or.inl ⟨_, rfl⟩) hb.1 hb.2 ⟨_, rfl, h⟩
    · replace h := h.2 q
      refine y_aconst dX13_sum_93 ?_
      refine y_goto (t := 105) dX13_sum_94 (by decide) ?_
      have hb := h.1
      replace h := h.2
      refine y_callI yXn (b' := (2, 0, 0)) (K' := kX13_init) (As := [.int x3, .int 0, .ref r_1, .null]) (a := q_2) (S := [.ref q_2]) dX13_sum_105 miX13_init lMX13_30 rfl ⟨(by decide), hb⟩ (Nat.le_of_ble_eq_true rfl) h (fun v_ M_3 H_3 q_ => ?_) rfl
      obtain ⟨rfl, h⟩ := q_
      have hb := h.1
      replace h := h.2
      exact y_aret dX13_sum_108 rfl (Or.inl ⟨_, rfl⟩) hb.1 hb.2 ⟨_, rfl, h⟩
  · replace h := h.2 q
    have hb := h.1
    replace h := h.2
    refine y_new dX13_sum_22 clX13 (tb7 _ (List.mem_of_getElem? (i := 58) rfl)) (tb7 _ (List.mem_of_getElem? (i := 36) rfl)) (tb1 _ (List.mem_of_getElem? (i := 27) rfl)) xd_X13 hb (fun q_1 hq => ?_)
    replace h := h q_1 hq
    refine y_dup dX13_sum_25 rfl ?_
    refine y_iload_n 3 dX13_sum_26 rfl rfl ?_
    refine y_iload_n 3 dX13_sum_27 rfl rfl ?_
    refine y_if_le (t := 39) dX13_sum_28 (by decide) (fun q => ?_) (fun q => ?_)
    · replace h := h.1 q
      refine y_aload_n 0 dX13_sum_39 rfl rfl ?_
      refine y_bipush (v := 7) dX13_sum_40 rfl ?_
      have hb := h.1
      replace h := h.2
      obtain ⟨⟨fs_2, hi⟩, h⟩ := h
      refine y_callV yXn (b' := (2, 0, 0)) (K' := kX11_next) (As := [.int 7]) (S := [.int x3, .ref q_1, .ref q_1]) dX13_sum_42 mX11_next lMX13_23 clX11 rfl hi rfl ⟨(by decide), hb⟩ (Nat.le_of_ble_eq_true rfl) h (fun v_ M_2 H_2 q_ => ?_) rfl
      obtain ⟨r_2, rfl, h⟩ := q_
      refine y_if_ne (t := 57) dX13_sum_45 (by decide) (fun q => ?_) (fun q => ?_)
      · replace h := h.1 q
        refine y_aload_n 0 dX13_sum_57 rfl rfl ?_
        refine y_bipush (v := 12) dX13_sum_58 rfl ?_
        have hb := h.1
        replace h := h.2
        obtain ⟨⟨fs_3, hi⟩, h⟩ := h
        refine y_callV yXn (b' := (2, 0, 0)) (K' := kX11_next) (As := [.int 12]) (S := [.int x3, .ref q_1, .ref q_1]) dX13_sum_60 mX11_next lMX13_23 clX11 rfl hi rfl ⟨(by decide), hb⟩ (Nat.le_of_ble_eq_true rfl) h (fun v_ M_3 H_3 q_ => ?_) rfl
        obtain ⟨r_3, rfl, h⟩ := q_
        refine y_aconst dX13_sum_63 ?_
        refine y_aconst dX13_sum_64 ?_
        have hb := h.1
        replace h := h.2
        refine y_callI yXn (b' := (2, 0, 0)) (K' := kX13_init) (As := [.int x3, .int r_3, .null, .null]) (a := q_1) (S := [.ref q_1]) dX13_sum_65 miX13_init lMX13_30 rfl ⟨(by decide), hb⟩ (Nat.le_of_ble_eq_true rfl) h (fun v_ M_4 H_4 q_ => ?_) rfl
        obtain ⟨rfl, h⟩ := q_
        have hb := h.1
        replace h := h.2
        exact y_aret dX13_sum_68 rfl (Or.inl ⟨_, rfl⟩) hb.1 hb.2 ⟨_, rfl, h⟩
      · replace h := h.2 q
        refine y_aload_n 0 dX13_sum_48 rfl rfl ?_
        refine y_ldc dX13_sum_49 lCX13_29 ?_
        have hb := h.1
        replace h := h.2
        obtain ⟨⟨fs_3, hi⟩, h⟩ := h
        refine y_callV yXn (b' := (2, 0, 0)) (K' := kX11_next) (As := [.int 1000000]) (S := [.int x3, .ref q_1, .ref q_1]) dX13_sum_51 mX11_next lMX13_23 clX11 rfl hi rfl ⟨(by decide), hb⟩ (Nat.le_of_ble_eq_true rfl) h (fun v_ M_3 H_3 q_ => ?_) rfl
        obtain ⟨r_3, rfl, h⟩ := q_
        refine y_goto (t := 63) dX13_sum_54 (by decide) ?_
        refine y_aconst dX13_sum_63 ?_
        refine y_aconst dX13_sum_64 ?_
        have hb := h.1
        replace h := h.2
        refine y_callI yXn (b' := (2, 0, 0)) (K' := kX13_init) (As := [.int x3, .int r_3, .null, .null]) (a := q_1) (S := [.ref q_1]) dX13_sum_65 miX13_init lMX13_30 rfl ⟨(by decide), hb⟩ (Nat.le_of_ble_eq_true rfl) h (fun v_ M_4 H_4 q_ => ?_) rfl
        obtain ⟨rfl, h⟩ := q_
        have hb := h.1
        replace h := h.2
        exact y_aret dX13_sum_68 rfl (Or.inl ⟨_, rfl⟩) hb.1 hb.2 ⟨_, rfl, h⟩
    · replace h := h.2 q
      refine y_aload_n 0 dX13_sum_31 rfl rfl ?_
      refine y_iload_n 1 dX13_sum_32 rfl rfl ?_
      have hb := h.1
      replace h := h.2
      obtain ⟨⟨fs_2, hi⟩, h⟩ := h
      refine y_callV yXn (b' := (2, 0, 0)) (K' := kX11_next) (As := [.int x1]) (S := [.int x3, .ref q_1, .ref q_1]) dX13_sum_33 mX11_next lMX13_23 clX11 rfl hi rfl ⟨(by decide), hb⟩ (Nat.le_of_ble_eq_true rfl) h (fun v_ M_2 H_2 q_ => ?_) rfl
      obtain ⟨r_2, rfl, h⟩ := q_
      refine y_goto (t := 63) dX13_sum_36 (by decide) ?_
      refine y_aconst dX13_sum_63 ?_
      refine y_aconst dX13_sum_64 ?_
      have hb := h.1
      replace h := h.2
      refine y_callI yXn (b' := (2, 0, 0)) (K' := kX13_init) (As := [.int x3, .int r_2, .null, .null]) (a := q_1) (S := [.ref q_1]) dX13_sum_65 miX13_init lMX13_30 rfl ⟨(by decide), hb⟩ (Nat.le_of_ble_eq_true rfl) h (fun v_ M_3 H_3 q_ => ?_) rfl
      obtain ⟨rfl, h⟩ := q_
      have hb := h.1
      replace h := h.2
      exact y_aret dX13_sum_68 rfl (Or.inl ⟨_, rfl⟩) hb.1 hb.2 ⟨_, rfl, h⟩
set_option maxHeartbeats 4000000 in
set_option maxRecDepth 100000 in
theorem C_X13_sum_1 (G : eG) (M : eM) (H : yH) (F : Nat → eM → yH → Prop) (a0 : Nat) (x1 : Int32)
    (h : (0 + 0 ≤ 3 ∧ 0 + 0 ≤ 12) ∧ yIs H a0 9 ∧ yCal G (2, 0, 0) kX11_next [.ref a0, .int 15] M H (yFI (fun (r_1 : Int32) (M_1 : eM) (H_1 : yH) => Yx (yX "sum") (yZ G 3 12 (yFR F)) G (eR (4, 3, 12)) kX13_sum 16 [(0, .ref a0), (1, .int x1), (2, .int 1), (3, .int r_1)] [] M_1 H_1 0 0))) :
    yCal G (4, 3, 12) kX13_sum [.ref a0, .int x1, .int 1] M H (yFR F) := by
  refine yCal.of (by decide +kernel) rfl (Nat.le_of_ble_eq_true rfl) ?_
  show Yx (yX "sum") (yZ G 3 12 (yFR F)) G (eR (4, 3, 12)) kX13_sum 0 [(0, .ref a0), (1, .int x1), (2, .int 1)] [] M H 0 0
  refine y_aload_n 0 dX13_sum_0 rfl rfl ?_
  refine y_iload_n 2 dX13_sum_1 rfl rfl ?_
  refine y_if_ne (t := 10) dX13_sum_2 (by decide) (fun q => ?_) (fun q => ?_)
  · refine y_bipush (v := 15) dX13_sum_10 rfl ?_
    have hb := h.1
    replace h := h.2
    obtain ⟨⟨fs_1, hi⟩, h⟩ := h
    refine y_callV yXn (b' := (2, 0, 0)) (K' := kX11_next) (As := [.int 15]) (S := []) dX13_sum_12 mX11_next lMX13_23 clX11 rfl hi rfl ⟨(by decide), hb⟩ (Nat.le_of_ble_eq_true rfl) h (fun v_ M_1 H_1 q_ => ?_) rfl
    obtain ⟨r_1, rfl, h⟩ := q_
    refine y_istore_n (i := 3) (l' := [(3, .int r_1), (0, .ref a0), (1, .int x1), (2, .int 1)]) dX13_sum_15 rfl (by decide) rfl ?_
    exact Yx.sub (ks := [1, 2, 3, 0]) rfl h
  · exact absurd q (by decide)
set_option maxHeartbeats 4000000 in
set_option maxRecDepth 100000 in
theorem B_X13_test_0_15 (G : eG) (ca sl : Nat) (M : eM) (H : yH) (F : Nat → eM → yH → Prop) (a0 : Nat) (x1 : Int32) (x2 : Int32) (x3 : Int32)
    (h : (((2 : Int32) ≤ x3) → (((5 : Int32) ≤ x3) → (ca + 0 ≤ 5 ∧ sl + 0 ≤ 20) ∧ yCal G (1, 0, 0) kX13_test [.ref a0, .int x1, .int (x2 - 1)] M H (yFR (fun (r_1 : Nat) (M_1 : eM) (H_1 : yH) => (ca + 1 ≤ 5 ∧ sl + 4 ≤ 20) ∧ ∀ q_2 : Nat, H_1 q_2 = none → (((¬ x3 = (5 : Int32)) → ((ca + 1) + 0 ≤ 5 ∧ (sl + 4) + 0 ≤ 20) ∧ yCal G (1, 0, 0) kX13_test [.ref a0, .int x1, .int (x2 - 1)] M_1 (yU H_1 q_2 (.inr (11, [.int 0, .int 0, .null, .null]))) (yFR (fun (r_3 : Nat) (M_3 : eM) (H_3 : yH) => ((ca + 1) + 0 ≤ 5 ∧ (sl + 4) + 0 ≤ 20) ∧ yCal G (2, 0, 0) kX13_init [.ref q_2, .int ((17 : Int32) + x3), .int 0, .ref r_1, .ref r_3] M_3 H_3 (yFV (fun (M_4 : eM) (H_4 : yH) => (ca + 1 ≤ 5 ∧ sl + 4 ≤ 20) ∧ F q_2 M_4 H_4))))) ∧ ((x3 = (5 : Int32)) → ((ca + 1) + 0 ≤ 5 ∧ (sl + 4) + 0 ≤ 20) ∧ yCal G (2, 0, 0) kX13_init [.ref q_2, .int ((17 : Int32) + x3), .int 0, .ref r_1, .null] M_1 (yU H_1 q_2 (.inr (11, [.int 0, .int 0, .null, .null]))) (yFV (fun (M_3 : eM) (H_3 : yH) => (ca + 1 ≤ 5 ∧ sl + 4 ≤ 20) ∧ F q_2 M_3 H_3))))))) ∧ ((¬ (5 : Int32) ≤ x3) → (ca + 1 ≤ 5 ∧ sl + 4 ≤ 20) ∧ ∀ q_1 : Nat, H q_1 = none → (((ca + 1) + 0 ≤ 5 ∧ (sl + 4) + 0 ≤ 20) ∧ yIs (yU H q_1 (.inr (11, [.int 0, .int 0, .null, .null]))) a0 9 ∧ yCal G (2, 0, 0) kX11_next [.ref a0, .int 5] M (yU H q_1 (.inr (11, [.int 0, .int 0, .null, .null]))) (yFI (fun (r_2 : Int32) (M_2 : eM) (H_2 : yH) => ((ca + 1) + 3 ≤ 5 ∧ (sl + 4) + 12 ≤ 20) ∧ yCal G (4, 3, 12) kX13_sum [.ref a0, .int x1, .int 1] M_2 H_2 (yFR (fun (r_3 : Nat) (M_3 : eM) (H_3 : yH) => ((ca + 1 + 3) + 1 ≤ 5 ∧ (sl + 4 + 12) + 4 ≤ 20) ∧ yCal G (3, 1, 4) kX13_sum [.ref a0, .int x1, .int 0] M_3 H_3 (yFR (fun (r_4 : Nat) (M_4 : eM) (H_4 : yH) => ((ca + 1 + 3 + 1) + 0 ≤ 5 ∧ (sl + 4 + 12 + 4) + 0 ≤ 20) ∧ yCal G (2, 0, 0) kX13_init [.ref q_1, .int ((15 : Int32) + r_2), .int 0, .ref r_3, .ref r_4] M_4 H_4 (yFV (fun (M_5 : eM) (H_5 : yH) => (ca + 1 + 3 + 1 ≤ 5 ∧ sl + 4 + 12 + 4 ≤ 20) ∧ F q_1 M_5 H_5))))))))))) ∧ ((¬ (2 : Int32) ≤ x3) → (ca + 1 ≤ 5 ∧ sl + 4 ≤ 20) ∧ ∀ q_1 : Nat, H q_1 = none → (((ca + 1) + 0 ≤ 5 ∧ (sl + 4) + 0 ≤ 20) ∧ yIs (yU H q_1 (.inr (11, [.int 0, .int 0, .null, .null]))) a0 9 ∧ yCal G (2, 0, 0) kX11_next [.ref a0, .int x1] M (yU H q_1 (.inr (11, [.int 0, .int 0, .null, .null]))) (yFI (fun (r_2 : Int32) (M_2 : eM) (H_2 : yH) => ((ca + 1) + 0 ≤ 5 ∧ (sl + 4) + 0 ≤ 20) ∧ yCal G (2, 0, 0) kX13_init [.ref q_1, .int ((20 : Int32) + x3), .int r_2, .null, .null] M_2 H_2 (yFV (fun (M_3 : eM) (H_3 : yH) => (ca + 1 ≤ 5 ∧ sl + 4 ≤ 20) ∧ F q_1 M_3 H_3))))))) :
    Yx (yX "test") (yZ G 5 20 (yFR F)) G (eR (5, 5, 20)) kX13_test 15 [(0, .ref a0), (1, .int x1), (2, .int x2), (3, .int x3)] [] M H ca sl := by
  refine y_iload_n 3 dX13_test_15 rfl rfl ?_
  refine y_iconst (v := 2) dX13_test_16 rfl ?_
  refine y_icmp_ge (t := 39) dX13_test_17 (by decide) (fun q => ?_) (fun q => ?_)
  · replace h := h.1 q
    refine y_iload_n 3 dX13_test_39 rfl rfl ?_
    refine y_iconst (v := 5) dX13_test_40 rfl ?_
    refine y_icmp_ge (t := 73) dX13_test_41 (by decide) (fun q => ?_) (fun q => ?_)
    · replace h := h.1 q
      refine y_aload_n 0 dX13_test_73 rfl rfl ?_
      refine y_iload_n 1 dX13_test_74 rfl rfl ?_
      refine y_iload_n 2 dX13_test_75 rfl rfl ?_
      refine y_iconst (v := 1) dX13_test_76 rfl ?_
      refine y_isub dX13_test_77 ?_
      have hb := h.1
      replace h := h.2
      refine y_callS yXn (b' := (1, 0, 0)) (K' := kX13_test) (As := [.ref a0, .int x1, .int (x2 - 1)]) (S := []) dX13_test_78 mX13_test lMX13_37 rfl ⟨(by decide), hb⟩ (Nat.le_of_ble_eq_true rfl) h (fun v_ M_1 H_1 q_ => ?_) rfl
      obtain ⟨r_1, rfl, h⟩ := q_
      refine y_astore (i := 4) (l' := [(4, .ref r_1), (0, .ref a0), (1, .int x1), (2, .int x2), (3, .int x3)]) dX13_test_81 (by decide) rfl ?_
      have hb := h.1
      replace h := h.2
      refine y_new dX13_test_83 clX13 (tb7 _ (List.mem_of_getElem? (i := 58) rfl)) (tb7 _ (List.mem_of_getElem? (i := 36) rfl)) (tb1 _ (List.mem_of_getElem? (i := 27) rfl)) xd_X13 hb (fun q_2 hq => ?_)
      replace h := h q_2 hq
      refine y_dup dX13_test_86 rfl ?_
      refine y_bipush (v := 17) dX13_test_87 rfl ?_
      refine y_iload_n 4 dX13_test_89 rfl rfl ?_
      refine y_iadd dX13_test_90 ?_
      refine y_iconst (v := 0) dX13_test_91 rfl ?_
      refine y_aload 0 dX13_test_92 rfl ?_
      refine y_iload_n 4 dX13_test_94 rfl rfl ?_
      refine y_iconst (v := 5) dX13_test_95 rfl ?_
      refine y_icmp_ne (t := 103) dX13_test_96 (by decide) (fun q => ?_) (fun q => ?_)
      · replace h := h.1 q
        refine y_aload_n 1 dX13_test_103 rfl rfl ?_
        refine y_iload_n 2 dX13_test_104 rfl rfl ?_
        refine y_iload_n 3 dX13_test_105 rfl rfl ?_
        refine y_iconst (v := 1) dX13_test_106 rfl ?_
        refine y_isub dX13_test_107 ?_
        have hb := h.1
        replace h := h.2
        refine y_callS yXn (b' := (1, 0, 0)) (K' := kX13_test) (As := [.ref a0, .int x1, .int (x2 - 1)]) (S := [.ref r_1, .int 0, .int ((17 : Int32) + x3), .ref q_2, .ref q_2]) dX13_test_108 mX13_test lMX13_37 rfl ⟨(by decide), hb⟩ (Nat.le_of_ble_eq_true rfl) h (fun v_ M_3 H_3 q_ => ?_) rfl
        obtain ⟨r_3, rfl, h⟩ := q_
        have hb := h.1
        replace h := h.2
        refine y_callI yXn (b' := (2, 0, 0)) (K' := kX13_init) (As := [.int ((17 : Int32) + x3), .int 0, .ref r_1, .ref r_3]) (a := q_2) (S := [.ref q_2]) dX13_test_111 miX13_init lMX13_30 rfl ⟨(by decide), hb⟩ (Nat.le_of_ble_eq_true rfl) h (fun v_ M_4 H_4 q_ => ?_) rfl
        obtain ⟨rfl, h⟩ := q_
        have hb := h.1
        replace h := h.2
        exact y_aret dX13_test_114 rfl (Or.inl ⟨_, rfl⟩) hb.1 hb.2 ⟨_, rfl, h⟩
      · replace h := h.2 q
        refine y_aconst dX13_test_99 ?_
        refine y_goto (t := 111) dX13_test_100 (by decide) ?_
        have hb := h.1
        replace h := h.2
        refine y_callI yXn (b' := (2, 0, 0)) (K' := kX13_init) (As := [.int ((17 : Int32) + x3), .int 0, .ref r_1, .null]) (a := q_2) (S := [.ref q_2]) dX13_test_111 miX13_init lMX13_30 rfl ⟨(by decide), hb⟩ (Nat.le_of_ble_eq_true rfl) h (fun v_ M_3 H_3 q_ => ?_) rfl
        obtain ⟨rfl, h⟩ := q_
        have hb := h.1
        replace h := h.2
        exact y_aret dX13_test_114 rfl (Or.inl ⟨_, rfl⟩) hb.1 hb.2 ⟨_, rfl, h⟩
    · replace h := h.2 q
      have hb := h.1
      replace h := h.2
      refine y_new dX13_test_44 clX13 (tb7 _ (List.mem_of_getElem? (i := 58) rfl)) (tb7 _ (List.mem_of_getElem? (i := 36) rfl)) (tb1 _ (List.mem_of_getElem? (i := 27) rfl)) xd_X13 hb (fun q_1 hq => ?_)
      replace h := h q_1 hq
      refine y_dup dX13_test_47 rfl ?_
      refine y_bipush (v := 15) dX13_test_48 rfl ?_
      refine y_aload_n 0 dX13_test_50 rfl rfl ?_
      refine y_iconst (v := 5) dX13_test_51 rfl ?_
      have hb := h.1
      replace h := h.2
      obtain ⟨⟨fs_2, hi⟩, h⟩ := h
      refine y_callV yXn (b' := (2, 0, 0)) (K' := kX11_next) (As := [.int 5]) (S := [.int 15, .ref q_1, .ref q_1]) dX13_test_52 mX11_next lMX13_23 clX11 rfl hi rfl ⟨(by decide), hb⟩ (Nat.le_of_ble_eq_true rfl) h (fun v_ M_2 H_2 q_ => ?_) rfl
      obtain ⟨r_2, rfl, h⟩ := q_
      refine y_iadd dX13_test_55 ?_
      refine y_iconst (v := 0) dX13_test_56 rfl ?_
      refine y_aload_n 0 dX13_test_57 rfl rfl ?_
      refine y_iload_n 1 dX13_test_58 rfl rfl ?_
      refine y_iconst (v := 1) dX13_test_59 rfl ?_
      have hb := h.1
      replace h := h.2
      refine y_callS yXn (b' := (4, 3, 12)) (K' := kX13_sum) (As := [.ref a0, .int x1, .int 1]) (S := [.int 0, .int ((15 : Int32) + r_2), .ref q_1, .ref q_1]) dX13_test_60 mX13_sum lMX13_33 rfl ⟨(by decide), hb⟩ (Nat.le_of_ble_eq_true rfl) h (fun v_ M_3 H_3 q_ => ?_) rfl
      obtain ⟨r_3, rfl, h⟩ := q_
      refine y_aload_n 0 dX13_test_63 rfl rfl ?_
      refine y_iload_n 1 dX13_test_64 rfl rfl ?_
      refine y_iconst (v := 0) dX13_test_65 rfl ?_
      have hb := h.1
      replace h := h.2
      refine y_callS yXn (b' := (3, 1, 4)) (K' := kX13_sum) (As := [.ref a0, .int x1, .int 0]) (S := [.ref r_3, .int 0, .int ((15 : Int32) + r_2), .ref q_1, .ref q_1]) dX13_test_66 mX13_sum lMX13_33 rfl ⟨(by decide), hb⟩ (Nat.le_of_ble_eq_true rfl) h (fun v_ M_4 H_4 q_ => ?_) rfl
      obtain ⟨r_4, rfl, h⟩ := q_
      have hb := h.1
      replace h := h.2
      refine y_callI yXn (b' := (2, 0, 0)) (K' := kX13_init) (As := [.int ((15 : Int32) + r_2), .int 0, .ref r_3, .ref r_4]) (a := q_1) (S := [.ref q_1]) dX13_test_69 miX13_init lMX13_30 rfl ⟨(by decide), hb⟩ (Nat.le_of_ble_eq_true rfl) h (fun v_ M_5 H_5 q_ => ?_) rfl
      obtain ⟨rfl, h⟩ := q_
      have hb := h.1
      replace h := h.2
      exact y_aret dX13_test_72 rfl (Or.inl ⟨_, rfl⟩) hb.1 hb.2 ⟨_, rfl, h⟩
  · replace h := h.2 q
    have hb := h.1
    replace h := h.2
    refine y_new dX13_test_20 clX13 (tb7 _ (List.mem_of_getElem? (i := 58) rfl)) (tb7 _ (List.mem_of_getElem? (i := 36) rfl)) (tb1 _ (List.mem_of_getElem? (i := 27) rfl)) xd_X13 hb (fun q_1 hq => ?_)
    replace h := h q_1 hq
    refine y_dup dX13_test_23 rfl ?_
    refine y_bipush (v := 20) dX13_test_24 rfl ?_
    refine y_iload_n 3 dX13_test_26 rfl rfl ?_
    refine y_iadd dX13_test_27 ?_
    refine y_aload_n 0 dX13_test_28 rfl rfl ?_
    refine y_iload_n 1 dX13_test_29 rfl rfl ?_
    have hb := h.1
    replace h := h.2
    obtain ⟨⟨fs_2, hi⟩, h⟩ := h
    refine y_callV yXn (b' := (2, 0, 0)) (K' := kX11_next) (As := [.int x1]) (S := [.int ((20 : Int32) + x3), .ref q_1, .ref q_1]) dX13_test_30 mX11_next lMX13_23 clX11 rfl hi rfl ⟨(by decide), hb⟩ (Nat.le_of_ble_eq_true rfl) h (fun v_ M_2 H_2 q_ => ?_) rfl
    obtain ⟨r_2, rfl, h⟩ := q_
    refine y_aconst dX13_test_33 ?_
    refine y_aconst dX13_test_34 ?_
    have hb := h.1
    replace h := h.2
    refine y_callI yXn (b' := (2, 0, 0)) (K' := kX13_init) (As := [.int ((20 : Int32) + x3), .int r_2, .null, .null]) (a := q_1) (S := [.ref q_1]) dX13_test_35 miX13_init lMX13_30 rfl ⟨(by decide), hb⟩ (Nat.le_of_ble_eq_true rfl) h (fun v_ M_3 H_3 q_ => ?_) rfl
    obtain ⟨rfl, h⟩ := q_
    have hb := h.1
    replace h := h.2
    exact y_aret dX13_test_38 rfl (Or.inl ⟨_, rfl⟩) hb.1 hb.2 ⟨_, rfl, h⟩
set_option maxHeartbeats 4000000 in
set_option maxRecDepth 100000 in
theorem C_X13_test_0 (G : eG) (M : eM) (H : yH) (F : Nat → eM → yH → Prop) (a0 : Nat) (x1 : Int32)
    (h : (0 + 0 ≤ 5 ∧ 0 + 0 ≤ 20) ∧ yIs H a0 9 ∧ yCal G (2, 0, 0) kX11_next [.ref a0, .int 5] M H (yFI (fun (r_1 : Int32) (M_1 : eM) (H_1 : yH) => Yx (yX "test") (yZ G 5 20 (yFR F)) G (eR (5, 5, 20)) kX13_test 15 [(0, .ref a0), (1, .int x1), (2, .int 0), (3, .int r_1)] [] M_1 H_1 0 0))) :
    yCal G (5, 5, 20) kX13_test [.ref a0, .int x1, .int 0] M H (yFR F) := by
  refine yCal.of (by decide +kernel) rfl (Nat.le_of_ble_eq_true rfl) ?_
  show Yx (yX "test") (yZ G 5 20 (yFR F)) G (eR (5, 5, 20)) kX13_test 0 [(0, .ref a0), (1, .int x1), (2, .int 0)] [] M H 0 0
  refine y_aload_n 0 dX13_test_0 rfl rfl ?_
  refine y_iload_n 2 dX13_test_1 rfl rfl ?_
  refine y_if_ne (t := 9) dX13_test_2 (by decide) (fun q => ?_) (fun q => ?_)
  · exact absurd q (by decide)
  · refine y_iconst (v := 5) dX13_test_5 rfl ?_
    refine y_goto (t := 11) dX13_test_6 (by decide) ?_
    have hb := h.1
    replace h := h.2
    obtain ⟨⟨fs_1, hi⟩, h⟩ := h
    refine y_callV yXn (b' := (2, 0, 0)) (K' := kX11_next) (As := [.int 5]) (S := []) dX13_test_11 mX11_next lMX13_23 clX11 rfl hi rfl ⟨(by decide), hb⟩ (Nat.le_of_ble_eq_true rfl) h (fun v_ M_1 H_1 q_ => ?_) rfl
    obtain ⟨r_1, rfl, h⟩ := q_
    refine y_istore_n (i := 3) (l' := [(3, .int r_1), (0, .ref a0), (1, .int x1), (2, .int 0)]) dX13_test_14 rfl (by decide) rfl ?_
    exact Yx.sub (ks := [1, 2, 3, 0]) rfl h
set_option maxHeartbeats 4000000 in
set_option maxRecDepth 100000 in
theorem B_X13_test_1_15 (G : eG) (ca sl : Nat) (M : eM) (H : yH) (F : Nat → eM → yH → Prop) (a0 : Nat) (x1 : Int32) (x2 : Int32) (x3 : Int32)
    (h : (((2 : Int32) ≤ x3) → (((5 : Int32) ≤ x3) → (ca + 5 ≤ 11 ∧ sl + 20 ≤ 44) ∧ yCal G (5, 5, 20) kX13_test [.ref a0, .int x1, .int (x2 - 1)] M H (yFR (fun (r_1 : Nat) (M_1 : eM) (H_1 : yH) => ((ca + 5) + 1 ≤ 11 ∧ (sl + 20) + 4 ≤ 44) ∧ ∀ q_2 : Nat, H_1 q_2 = none → (((¬ x3 = (5 : Int32)) → ((ca + 5 + 1) + 5 ≤ 11 ∧ (sl + 20 + 4) + 20 ≤ 44) ∧ yCal G (5, 5, 20) kX13_test [.ref a0, .int x1, .int (x2 - 1)] M_1 (yU H_1 q_2 (.inr (11, [.int 0, .int 0, .null, .null]))) (yFR (fun (r_3 : Nat) (M_3 : eM) (H_3 : yH) => ((ca + 5 + 1 + 5) + 0 ≤ 11 ∧ (sl + 20 + 4 + 20) + 0 ≤ 44) ∧ yCal G (2, 0, 0) kX13_init [.ref q_2, .int ((17 : Int32) + x3), .int 0, .ref r_1, .ref r_3] M_3 H_3 (yFV (fun (M_4 : eM) (H_4 : yH) => (ca + 5 + 1 + 5 ≤ 11 ∧ sl + 20 + 4 + 20 ≤ 44) ∧ F q_2 M_4 H_4))))) ∧ ((x3 = (5 : Int32)) → ((ca + 5 + 1) + 0 ≤ 11 ∧ (sl + 20 + 4) + 0 ≤ 44) ∧ yCal G (2, 0, 0) kX13_init [.ref q_2, .int ((17 : Int32) + x3), .int 0, .ref r_1, .null] M_1 (yU H_1 q_2 (.inr (11, [.int 0, .int 0, .null, .null]))) (yFV (fun (M_3 : eM) (H_3 : yH) => (ca + 5 + 1 ≤ 11 ∧ sl + 20 + 4 ≤ 44) ∧ F q_2 M_3 H_3))))))) ∧ ((¬ (5 : Int32) ≤ x3) → (ca + 1 ≤ 11 ∧ sl + 4 ≤ 44) ∧ ∀ q_1 : Nat, H q_1 = none → (((ca + 1) + 0 ≤ 11 ∧ (sl + 4) + 0 ≤ 44) ∧ yIs (yU H q_1 (.inr (11, [.int 0, .int 0, .null, .null]))) a0 9 ∧ yCal G (2, 0, 0) kX11_next [.ref a0, .int 5] M (yU H q_1 (.inr (11, [.int 0, .int 0, .null, .null]))) (yFI (fun (r_2 : Int32) (M_2 : eM) (H_2 : yH) => ((ca + 1) + 3 ≤ 11 ∧ (sl + 4) + 12 ≤ 44) ∧ yCal G (4, 3, 12) kX13_sum [.ref a0, .int x1, .int 1] M_2 H_2 (yFR (fun (r_3 : Nat) (M_3 : eM) (H_3 : yH) => ((ca + 1 + 3) + 1 ≤ 11 ∧ (sl + 4 + 12) + 4 ≤ 44) ∧ yCal G (3, 1, 4) kX13_sum [.ref a0, .int x1, .int 0] M_3 H_3 (yFR (fun (r_4 : Nat) (M_4 : eM) (H_4 : yH) => ((ca + 1 + 3 + 1) + 0 ≤ 11 ∧ (sl + 4 + 12 + 4) + 0 ≤ 44) ∧ yCal G (2, 0, 0) kX13_init [.ref q_1, .int ((15 : Int32) + r_2), .int 0, .ref r_3, .ref r_4] M_4 H_4 (yFV (fun (M_5 : eM) (H_5 : yH) => (ca + 1 + 3 + 1 ≤ 11 ∧ sl + 4 + 12 + 4 ≤ 44) ∧ F q_1 M_5 H_5))))))))))) ∧ ((¬ (2 : Int32) ≤ x3) → (ca + 1 ≤ 11 ∧ sl + 4 ≤ 44) ∧ ∀ q_1 : Nat, H q_1 = none → (((ca + 1) + 0 ≤ 11 ∧ (sl + 4) + 0 ≤ 44) ∧ yIs (yU H q_1 (.inr (11, [.int 0, .int 0, .null, .null]))) a0 9 ∧ yCal G (2, 0, 0) kX11_next [.ref a0, .int x1] M (yU H q_1 (.inr (11, [.int 0, .int 0, .null, .null]))) (yFI (fun (r_2 : Int32) (M_2 : eM) (H_2 : yH) => ((ca + 1) + 0 ≤ 11 ∧ (sl + 4) + 0 ≤ 44) ∧ yCal G (2, 0, 0) kX13_init [.ref q_1, .int ((20 : Int32) + x3), .int r_2, .null, .null] M_2 H_2 (yFV (fun (M_3 : eM) (H_3 : yH) => (ca + 1 ≤ 11 ∧ sl + 4 ≤ 44) ∧ F q_1 M_3 H_3))))))) :
    Yx (yX "test") (yZ G 11 44 (yFR F)) G (eR (6, 11, 44)) kX13_test 15 [(0, .ref a0), (1, .int x1), (2, .int x2), (3, .int x3)] [] M H ca sl := by
  refine y_iload_n 3 dX13_test_15 rfl rfl ?_
  refine y_iconst (v := 2) dX13_test_16 rfl ?_
  refine y_icmp_ge (t := 39) dX13_test_17 (by decide) (fun q => ?_) (fun q => ?_)
  · replace h := h.1 q
    refine y_iload_n 3 dX13_test_39 rfl rfl ?_
    refine y_iconst (v := 5) dX13_test_40 rfl ?_
    refine y_icmp_ge (t := 73) dX13_test_41 (by decide) (fun q => ?_) (fun q => ?_)
    · replace h := h.1 q
      refine y_aload_n 0 dX13_test_73 rfl rfl ?_
      refine y_iload_n 1 dX13_test_74 rfl rfl ?_
      refine y_iload_n 2 dX13_test_75 rfl rfl ?_
      refine y_iconst (v := 1) dX13_test_76 rfl ?_
      refine y_isub dX13_test_77 ?_
      have hb := h.1
      replace h := h.2
      refine y_callS yXn (b' := (5, 5, 20)) (K' := kX13_test) (As := [.ref a0, .int x1, .int (x2 - 1)]) (S := []) dX13_test_78 mX13_test lMX13_37 rfl ⟨(by decide), hb⟩ (Nat.le_of_ble_eq_true rfl) h (fun v_ M_1 H_1 q_ => ?_) rfl
      obtain ⟨r_1, rfl, h⟩ := q_
      refine y_astore (i := 4) (l' := [(4, .ref r_1), (0, .ref a0), (1, .int x1), (2, .int x2), (3, .int x3)]) dX13_test_81 (by decide) rfl ?_
      have hb := h.1
      replace h := h.2
      refine y_new dX13_test_83 clX13 (tb7 _ (List.mem_of_getElem? (i := 58) rfl)) (tb7 _ (List.mem_of_getElem? (i := 36) rfl)) (tb1 _ (List.mem_of_getElem? (i := 27) rfl)) xd_X13 hb (fun q_2 hq => ?_)
      replace h := h q_2 hq
      refine y_dup dX13_test_86 rfl ?_
      refine y_bipush (v := 17) dX13_test_87 rfl ?_
      refine y_iload_n 4 dX13_test_89 rfl rfl ?_
      refine y_iadd dX13_test_90 ?_
      refine y_iconst (v := 0) dX13_test_91 rfl ?_
      refine y_aload 0 dX13_test_92 rfl ?_
      refine y_iload_n 4 dX13_test_94 rfl rfl ?_
      refine y_iconst (v := 5) dX13_test_95 rfl ?_
      refine y_icmp_ne (t := 103) dX13_test_96 (by decide) (fun q => ?_) (fun q => ?_)
      · replace h := h.1 q
        refine y_aload_n 1 dX13_test_103 rfl rfl ?_
        refine y_iload_n 2 dX13_test_104 rfl rfl ?_
        refine y_iload_n 3 dX13_test_105 rfl rfl ?_
        refine y_iconst (v := 1) dX13_test_106 rfl ?_
        refine y_isub dX13_test_107 ?_
        have hb := h.1
        replace h := h.2
        refine y_callS yXn (b' := (5, 5, 20)) (K' := kX13_test) (As := [.ref a0, .int x1, .int (x2 - 1)]) (S := [.ref r_1, .int 0, .int ((17 : Int32) + x3), .ref q_2, .ref q_2]) dX13_test_108 mX13_test lMX13_37 rfl ⟨(by decide), hb⟩ (Nat.le_of_ble_eq_true rfl) h (fun v_ M_3 H_3 q_ => ?_) rfl
        obtain ⟨r_3, rfl, h⟩ := q_
        have hb := h.1
        replace h := h.2
        refine y_callI yXn (b' := (2, 0, 0)) (K' := kX13_init) (As := [.int ((17 : Int32) + x3), .int 0, .ref r_1, .ref r_3]) (a := q_2) (S := [.ref q_2]) dX13_test_111 miX13_init lMX13_30 rfl ⟨(by decide), hb⟩ (Nat.le_of_ble_eq_true rfl) h (fun v_ M_4 H_4 q_ => ?_) rfl
        obtain ⟨rfl, h⟩ := q_
        have hb := h.1
        replace h := h.2
        exact y_aret dX13_test_114 rfl (Or.inl ⟨_, rfl⟩) hb.1 hb.2 ⟨_, rfl, h⟩
      · replace h := h.2 q
        refine y_aconst dX13_test_99 ?_
        refine y_goto (t := 111) dX13_test_100 (by decide) ?_
        have hb := h.1
        replace h := h.2
        refine y_callI yXn (b' := (2, 0, 0)) (K' := kX13_init) (As := [.int ((17 : Int32) + x3), .int 0, .ref r_1, .null]) (a := q_2) (S := [.ref q_2]) dX13_test_111 miX13_init lMX13_30 rfl ⟨(by decide), hb⟩ (Nat.le_of_ble_eq_true rfl) h (fun v_ M_3 H_3 q_ => ?_) rfl
        obtain ⟨rfl, h⟩ := q_
        have hb := h.1
        replace h := h.2
        exact y_aret dX13_test_114 rfl (Or.inl ⟨_, rfl⟩) hb.1 hb.2 ⟨_, rfl, h⟩
    · replace h := h.2 q
      have hb := h.1
      replace h := h.2
      refine y_new dX13_test_44 clX13 (tb7 _ (List.mem_of_getElem? (i := 58) rfl)) (tb7 _ (List.mem_of_getElem? (i := 36) rfl)) (tb1 _ (List.mem_of_getElem? (i := 27) rfl)) xd_X13 hb (fun q_1 hq => ?_)
      replace h := h q_1 hq
      refine y_dup dX13_test_47 rfl ?_
      refine y_bipush (v := 15) dX13_test_48 rfl ?_
      refine y_aload_n 0 dX13_test_50 rfl rfl ?_
      refine y_iconst (v := 5) dX13_test_51 rfl ?_
      have hb := h.1
      replace h := h.2
      obtain ⟨⟨fs_2, hi⟩, h⟩ := h
      refine y_callV yXn (b' := (2, 0, 0)) (K' := kX11_next) (As := [.int 5]) (S := [.int 15, .ref q_1, .ref q_1]) dX13_test_52 mX11_next lMX13_23 clX11 rfl hi rfl ⟨(by decide), hb⟩ (Nat.le_of_ble_eq_true rfl) h (fun v_ M_2 H_2 q_ => ?_) rfl
      obtain ⟨r_2, rfl, h⟩ := q_
      refine y_iadd dX13_test_55 ?_
      refine y_iconst (v := 0) dX13_test_56 rfl ?_
      refine y_aload_n 0 dX13_test_57 rfl rfl ?_
      refine y_iload_n 1 dX13_test_58 rfl rfl ?_
      refine y_iconst (v := 1) dX13_test_59 rfl ?_
      have hb := h.1
      replace h := h.2
      refine y_callS yXn (b' := (4, 3, 12)) (K' := kX13_sum) (As := [.ref a0, .int x1, .int 1]) (S := [.int 0, .int ((15 : Int32) + r_2), .ref q_1, .ref q_1]) dX13_test_60 mX13_sum lMX13_33 rfl ⟨(by decide), hb⟩ (Nat.le_of_ble_eq_true rfl) h (fun v_ M_3 H_3 q_ => ?_) rfl
      obtain ⟨r_3, rfl, h⟩ := q_
      refine y_aload_n 0 dX13_test_63 rfl rfl ?_
      refine y_iload_n 1 dX13_test_64 rfl rfl ?_
      refine y_iconst (v := 0) dX13_test_65 rfl ?_
      have hb := h.1
      replace h := h.2
      refine y_callS yXn (b' := (3, 1, 4)) (K' := kX13_sum) (As := [.ref a0, .int x1, .int 0]) (S := [.ref r_3, .int 0, .int ((15 : Int32) + r_2), .ref q_1, .ref q_1]) dX13_test_66 mX13_sum lMX13_33 rfl ⟨(by decide), hb⟩ (Nat.le_of_ble_eq_true rfl) h (fun v_ M_4 H_4 q_ => ?_) rfl
      obtain ⟨r_4, rfl, h⟩ := q_
      have hb := h.1
      replace h := h.2
      refine y_callI yXn (b' := (2, 0, 0)) (K' := kX13_init) (As := [.int ((15 : Int32) + r_2), .int 0, .ref r_3, .ref r_4]) (a := q_1) (S := [.ref q_1]) dX13_test_69 miX13_init lMX13_30 rfl ⟨(by decide), hb⟩ (Nat.le_of_ble_eq_true rfl) h (fun v_ M_5 H_5 q_ => ?_) rfl
      obtain ⟨rfl, h⟩ := q_
      have hb := h.1
      replace h := h.2
      exact y_aret dX13_test_72 rfl (Or.inl ⟨_, rfl⟩) hb.1 hb.2 ⟨_, rfl, h⟩
  · replace h := h.2 q
    have hb := h.1
    replace h := h.2
    refine y_new dX13_test_20 clX13 (tb7 _ (List.mem_of_getElem? (i := 58) rfl)) (tb7 _ (List.mem_of_getElem? (i := 36) rfl)) (tb1 _ (List.mem_of_getElem? (i := 27) rfl)) xd_X13 hb (fun q_1 hq => ?_)
    replace h := h q_1 hq
    refine y_dup dX13_test_23 rfl ?_
    refine y_bipush (v := 20) dX13_test_24 rfl ?_
    refine y_iload_n 3 dX13_test_26 rfl rfl ?_
    refine y_iadd dX13_test_27 ?_
    refine y_aload_n 0 dX13_test_28 rfl rfl ?_
    refine y_iload_n 1 dX13_test_29 rfl rfl ?_
    have hb := h.1
    replace h := h.2
    obtain ⟨⟨fs_2, hi⟩, h⟩ := h
    refine y_callV yXn (b' := (2, 0, 0)) (K' := kX11_next) (As := [.int x1]) (S := [.int ((20 : Int32) + x3), .ref q_1, .ref q_1]) dX13_test_30 mX11_next lMX13_23 clX11 rfl hi rfl ⟨(by decide), hb⟩ (Nat.le_of_ble_eq_true rfl) h (fun v_ M_2 H_2 q_ => ?_) rfl
    obtain ⟨r_2, rfl, h⟩ := q_
    refine y_aconst dX13_test_33 ?_
    refine y_aconst dX13_test_34 ?_
    have hb := h.1
    replace h := h.2
    refine y_callI yXn (b' := (2, 0, 0)) (K' := kX13_init) (As := [.int ((20 : Int32) + x3), .int r_2, .null, .null]) (a := q_1) (S := [.ref q_1]) dX13_test_35 miX13_init lMX13_30 rfl ⟨(by decide), hb⟩ (Nat.le_of_ble_eq_true rfl) h (fun v_ M_3 H_3 q_ => ?_) rfl
    obtain ⟨rfl, h⟩ := q_
    have hb := h.1
    replace h := h.2
    exact y_aret dX13_test_38 rfl (Or.inl ⟨_, rfl⟩) hb.1 hb.2 ⟨_, rfl, h⟩
set_option maxHeartbeats 4000000 in
set_option maxRecDepth 100000 in
theorem C_X13_test_1 (G : eG) (M : eM) (H : yH) (F : Nat → eM → yH → Prop) (a0 : Nat) (x1 : Int32)
    (h : (0 + 0 ≤ 11 ∧ 0 + 0 ≤ 44) ∧ yIs H a0 9 ∧ yCal G (2, 0, 0) kX11_next [.ref a0, .int 8] M H (yFI (fun (r_1 : Int32) (M_1 : eM) (H_1 : yH) => Yx (yX "test") (yZ G 11 44 (yFR F)) G (eR (6, 11, 44)) kX13_test 15 [(0, .ref a0), (1, .int x1), (2, .int 1), (3, .int r_1)] [] M_1 H_1 0 0))) :
    yCal G (6, 11, 44) kX13_test [.ref a0, .int x1, .int 1] M H (yFR F) := by
  refine yCal.of (by decide +kernel) rfl (Nat.le_of_ble_eq_true rfl) ?_
  show Yx (yX "test") (yZ G 11 44 (yFR F)) G (eR (6, 11, 44)) kX13_test 0 [(0, .ref a0), (1, .int x1), (2, .int 1)] [] M H 0 0
  refine y_aload_n 0 dX13_test_0 rfl rfl ?_
  refine y_iload_n 2 dX13_test_1 rfl rfl ?_
  refine y_if_ne (t := 9) dX13_test_2 (by decide) (fun q => ?_) (fun q => ?_)
  · refine y_bipush (v := 8) dX13_test_9 rfl ?_
    have hb := h.1
    replace h := h.2
    obtain ⟨⟨fs_1, hi⟩, h⟩ := h
    refine y_callV yXn (b' := (2, 0, 0)) (K' := kX11_next) (As := [.int 8]) (S := []) dX13_test_11 mX11_next lMX13_23 clX11 rfl hi rfl ⟨(by decide), hb⟩ (Nat.le_of_ble_eq_true rfl) h (fun v_ M_1 H_1 q_ => ?_) rfl
    obtain ⟨r_1, rfl, h⟩ := q_
    refine y_istore_n (i := 3) (l' := [(3, .int r_1), (0, .ref a0), (1, .int x1), (2, .int 1)]) dX13_test_14 rfl (by decide) rfl ?_
    exact Yx.sub (ks := [1, 2, 3, 0]) rfl h
  · exact absurd q (by decide)
set_option maxHeartbeats 4000000 in
set_option maxRecDepth 100000 in
theorem B_X14_init_113 (G : eG) (ca sl : Nat) (M : eM) (H : yH) (F : eM → yH → Prop) (a0 : Nat) (a1 : Nat) (x2 : Int32)
    (h : (ca + 0 ≤ 21 ∧ sl + 0 ≤ 83) ∧ yIs H a1 9 ∧ yCal G (2, 0, 0) kX11_next [.ref a1, .int 2] M H (yFI (fun (r_1 : Int32) (M_1 : eM) (H_1 : yH) => ((¬ r_1 = (0 : Int32)) → (ca + 11 ≤ 21 ∧ sl + 44 ≤ 83) ∧ yCal G (6, 11, 44) kX13_test [.ref a1, .int x2, .int 1] M_1 H_1 (yFR (fun (r_2 : Nat) (M_2 : eM) (H_2 : yH) => ∃ (fs_3 : List Value), H_2 a0 = some (.inr (12, fs_3)) ∧ 3 < fs_3.length ∧ ((ca + 11 ≤ 21 ∧ sl + 44 ≤ 83) ∧ F M_2 (yU H_2 a0 (.inr (12, fs_3.set 3 (.ref r_2)))))))) ∧ ((r_1 = (0 : Int32)) → ∃ (fs_2 : List Value), H_1 a0 = some (.inr (12, fs_2)) ∧ 3 < fs_2.length ∧ ((ca ≤ 21 ∧ sl ≤ 83) ∧ F M_1 (yU H_1 a0 (.inr (12, fs_2.set 3 (.null))))))))) :
    Yx (yX "<init>") (yZ G 21 83 (yFV F)) G (eR (7, 21, 83)) kX14_init 113 [(0, .ref a0), (1, .ref a1), (2, .int x2)] [] M H ca sl := by
  refine y_aload_n 0 dX14_init_113 rfl rfl ?_
  refine y_aload_n 1 dX14_init_114 rfl rfl ?_
  refine y_iconst (v := 2) dX14_init_115 rfl ?_
  have hb := h.1
  replace h := h.2
  obtain ⟨⟨fs_1, hi⟩, h⟩ := h
  refine y_callV yXn (b' := (2, 0, 0)) (K' := kX11_next) (As := [.int 2]) (S := [.ref a0]) dX14_init_116 mX11_next lMX14_15 clX11 rfl hi rfl ⟨(by decide), hb⟩ (Nat.le_of_ble_eq_true rfl) h (fun v_ M_1 H_1 q_ => ?_) rfl
  obtain ⟨r_1, rfl, h⟩ := q_
  refine y_if_ne (t := 126) dX14_init_119 (by decide) (fun q => ?_) (fun q => ?_)
  · replace h := h.1 q
    refine y_aload_n 1 dX14_init_126 rfl rfl ?_
    refine y_iload_n 2 dX14_init_127 rfl rfl ?_
    refine y_iconst (v := 1) dX14_init_128 rfl ?_
    have hb := h.1
    replace h := h.2
    refine y_callS yXn (b' := (6, 11, 44)) (K' := kX13_test) (As := [.ref a1, .int x2, .int 1]) (S := [.ref a0]) dX14_init_129 mX13_test lMX14_35 rfl ⟨(by decide), hb⟩ (Nat.le_of_ble_eq_true rfl) h (fun v_ M_2 H_2 q_ => ?_) rfl
    obtain ⟨r_2, rfl, h⟩ := q_
    obtain ⟨fs_3, e1_3, e2_3, h⟩ := h
    refine y_putF (fun _ _ _ _ h => h.1) (k := 3) (ft := tyX14 3) dX14_init_132 clX14 lFX14_38 (by decide) e1_3 e2_3 rfl rfl (clX14.2.2.1 3 (by decide)) rfl rfl ?_
    have hb := h.1
    replace h := h.2
    exact y_vret dX14_init_135 rfl hb.1 hb.2 ⟨rfl, h⟩
  · replace h := h.2 q
    refine y_aconst dX14_init_122 ?_
    refine y_goto (t := 132) dX14_init_123 (by decide) ?_
    obtain ⟨fs_2, e1_2, e2_2, h⟩ := h
    refine y_putF (fun _ _ _ _ h => h.1) (k := 3) (ft := tyX14 3) dX14_init_132 clX14 lFX14_38 (by decide) e1_2 e2_2 rfl rfl (clX14.2.2.1 3 (by decide)) rfl rfl ?_
    have hb := h.1
    replace h := h.2
    exact y_vret dX14_init_135 rfl hb.1 hb.2 ⟨rfl, h⟩
set_option maxHeartbeats 4000000 in
set_option maxRecDepth 100000 in
theorem B_X14_init_60 (G : eG) (ca sl : Nat) (M : eM) (H : yH) (F : eM → yH → Prop) (a0 : Nat) (a1 : Nat) (x2 : Int32) (x4 : Int32)
    (h : ∃ (x_1 : Int32), yG H a0 12 0 (.int x_1) ∧ (((¬ x_1 = (0 : Int32)) → Yx (yX "<init>") (yZ G 21 83 (yFV F)) G (eR (7, 21, 83)) kX14_init 113 [(0, .ref a0), (1, .ref a1), (2, .int x2)] [] M H ca sl) ∧ ((x_1 = (0 : Int32)) → ∃ (b_2 : Nat), yG H a0 12 2 (.ref b_2) ∧ ((ca + 0 ≤ 21 ∧ sl + 0 ≤ 83) ∧ yIs H a1 9 ∧ yCal G (2, 0, 0) kX11_next [.ref a1, .int 2] M H (yFI (fun (r_3 : Int32) (M_3 : eM) (H_3 : yH) => ((¬ r_3 = (0 : Int32)) → (ca + 3 ≤ 21 ∧ sl + 12 ≤ 83) ∧ yCal G (4, 3, 12) kX13_sum [.ref a1, .int x2, .int 1] M_3 H_3 (yFR (fun (r_4 : Nat) (M_4 : eM) (H_4 : yH) => ∃ (N_5 : Nat) (f_5 : Nat → Option Nat) (fs_5 : List Value), H_4 b_2 = some (.inl (G.2.2.2 7, (N_5, .inr (.inr (.inr (.inr f_5)))))) ∧ vp_in x4 N_5 ∧ H_4 r_4 = some (.inr (11, fs_5)) ∧ (Yx (yX "<init>") (yZ G 21 83 (yFV F)) G (eR (7, 21, 83)) kX14_init 54 [(0, .ref a0), (1, .ref a1), (2, .int x2), (4, .int (x4 + 1))] [] M_4 (yU H_4 b_2 (.inl (G.2.2.2 7, (N_5, .inr (.inr (.inr (.inr (va_up f_5 x4.toNatClampNeg (some r_4))))))))) (ca + 3) (sl + 12))))) ∧ ((r_3 = (0 : Int32)) → (ca + 1 ≤ 21 ∧ sl + 4 ≤ 83) ∧ ∀ q_4 : Nat, H_3 q_4 = none → (((ca + 1) + 0 ≤ 21 ∧ (sl + 4) + 0 ≤ 83) ∧ yIs (yU H_3 q_4 (.inr (11, [.int 0, .int 0, .null, .null]))) a1 9 ∧ yCal G (2, 0, 0) kX11_next [.ref a1, .int 7] M_3 (yU H_3 q_4 (.inr (11, [.int 0, .int 0, .null, .null]))) (yFI (fun (r_5 : Int32) (M_5 : eM) (H_5 : yH) => ((ca + 1) + 0 ≤ 21 ∧ (sl + 4) + 0 ≤ 83) ∧ yCal G (2, 0, 0) kX13_init [.ref q_4, .int 0, .int r_5, .null, .null] M_5 H_5 (yFV (fun (M_6 : eM) (H_6 : yH) => ∃ (N_7 : Nat) (f_7 : Nat → Option Nat) (fs_7 : List Value), H_6 b_2 = some (.inl (G.2.2.2 7, (N_7, .inr (.inr (.inr (.inr f_7)))))) ∧ vp_in x4 N_7 ∧ H_6 q_4 = some (.inr (11, fs_7)) ∧ (Yx (yX "<init>") (yZ G 21 83 (yFV F)) G (eR (7, 21, 83)) kX14_init 54 [(0, .ref a0), (1, .ref a1), (2, .int x2), (4, .int (x4 + 1))] [] M_6 (yU H_6 b_2 (.inl (G.2.2.2 7, (N_7, .inr (.inr (.inr (.inr (va_up f_7 x4.toNatClampNeg (some q_4))))))))) (ca + 1) (sl + 4)))))))))))))) :
    Yx (yX "<init>") (yZ G 21 83 (yFV F)) G (eR (7, 21, 83)) kX14_init 60 [(0, .ref a0), (1, .ref a1), (2, .int x2), (4, .int x4)] [] M H ca sl := by
  refine y_aload_n 0 dX14_init_60 rfl rfl ?_
  obtain ⟨x_1, ⟨fs_1, e1_1, e2_1⟩, h⟩ := h
  refine y_get (k := 0) dX14_init_61 clX14 lFX14_21 (by decide) e1_1 e2_1 ?_
  refine y_if_ne (t := 113) dX14_init_64 (by decide) (fun q => ?_) (fun q => ?_)
  · replace h := h.1 q
    exact Yx.sub (ks := [0, 1, 2]) rfl h
  · replace h := h.2 q
    refine y_aload_n 0 dX14_init_67 rfl rfl ?_
    obtain ⟨b_2, ⟨fs_2, e1_2, e2_2⟩, h⟩ := h
    refine y_get (k := 2) dX14_init_68 clX14 lFX14_9 (by decide) e1_2 e2_2 ?_
    refine y_iload 3 dX14_init_71 rfl ?_
    refine y_aload_n 1 dX14_init_73 rfl rfl ?_
    refine y_iconst (v := 2) dX14_init_74 rfl ?_
    have hb := h.1
    replace h := h.2
    obtain ⟨⟨fs_3, hi⟩, h⟩ := h
    refine y_callV yXn (b' := (2, 0, 0)) (K' := kX11_next) (As := [.int 2]) (S := [.int x4, .ref b_2]) dX14_init_75 mX11_next lMX14_15 clX11 rfl hi rfl ⟨(by decide), hb⟩ (Nat.le_of_ble_eq_true rfl) h (fun v_ M_3 H_3 q_ => ?_) rfl
    obtain ⟨r_3, rfl, h⟩ := q_
    refine y_if_ne (t := 100) dX14_init_78 (by decide) (fun q => ?_) (fun q => ?_)
    · replace h := h.1 q
      refine y_aload_n 1 dX14_init_100 rfl rfl ?_
      refine y_iload_n 2 dX14_init_101 rfl rfl ?_
      refine y_iconst (v := 1) dX14_init_102 rfl ?_
      have hb := h.1
      replace h := h.2
      refine y_callS yXn (b' := (4, 3, 12)) (K' := kX13_sum) (As := [.ref a1, .int x2, .int 1]) (S := [.int x4, .ref b_2]) dX14_init_103 mX13_sum lMX14_31 rfl ⟨(by decide), hb⟩ (Nat.le_of_ble_eq_true rfl) h (fun v_ M_4 H_4 q_ => ?_) rfl
      obtain ⟨r_4, rfl, h⟩ := q_
      obtain ⟨N_5, f_5, fs_5, e1_5, e2_5, e3_5, h⟩ := h
      refine y_astq yXn (t := 7) (ci := 11) dX14_init_106 e1_5 rfl e3_5 rfl e2_5 ?_
      refine y_iinc (v := x4 + 1) (l' := [(4, .int (x4 + 1)), (0, .ref a0), (1, .ref a1), (2, .int x2)]) 3 dX14_init_107 rfl rfl (by decide) rfl ?_
      refine y_goto (t := 54) dX14_init_110 (by decide) ?_
      exact Yx.sub (ks := [1, 2, 3, 0]) rfl h
    · replace h := h.2 q
      have hb := h.1
      replace h := h.2
      refine y_new dX14_init_81 clX13 (tb7 _ (List.mem_of_getElem? (i := 33) rfl)) (tb7 _ (List.mem_of_getElem? (i := 36) rfl)) (tb1 _ (List.mem_of_getElem? (i := 27) rfl)) xd_X13 hb (fun q_4 hq => ?_)
      replace h := h q_4 hq
      refine y_dup dX14_init_84 rfl ?_
      refine y_iconst (v := 0) dX14_init_85 rfl ?_
      refine y_aload_n 1 dX14_init_86 rfl rfl ?_
      refine y_bipush (v := 7) dX14_init_87 rfl ?_
      have hb := h.1
      replace h := h.2
      obtain ⟨⟨fs_5, hi⟩, h⟩ := h
      refine y_callV yXn (b' := (2, 0, 0)) (K' := kX11_next) (As := [.int 7]) (S := [.int 0, .ref q_4, .ref q_4, .int x4, .ref b_2]) dX14_init_89 mX11_next lMX14_15 clX11 rfl hi rfl ⟨(by decide), hb⟩ (Nat.le_of_ble_eq_true rfl) h (fun v_ M_5 H_5 q_ => ?_) rfl
      obtain ⟨r_5, rfl, h⟩ := q_
      refine y_aconst dX14_init_92 ?_
      refine y_aconst dX14_init_93 ?_
      have hb := h.1
      replace h := h.2
      refine y_callI yXn (b' := (2, 0, 0)) (K' := kX13_init) (As := [.int 0, .int r_5, .null, .null]) (a := q_4) (S := [.ref q_4, .int x4, .ref b_2]) dX14_init_94 miX13_init lMX14_28 rfl ⟨(by decide), hb⟩ (Nat.le_of_ble_eq_true rfl) h (fun v_ M_6 H_6 q_ => ?_) rfl
      obtain ⟨rfl, h⟩ := q_
      refine y_goto (t := 106) dX14_init_97 (by decide) ?_
      obtain ⟨N_7, f_7, fs_7, e1_7, e2_7, e3_7, h⟩ := h
      refine y_astq yXn (t := 7) (ci := 11) dX14_init_106 e1_7 rfl e3_7 rfl e2_7 ?_
      refine y_iinc (v := x4 + 1) (l' := [(4, .int (x4 + 1)), (0, .ref a0), (1, .ref a1), (2, .int x2)]) 3 dX14_init_107 rfl rfl (by decide) rfl ?_
      refine y_goto (t := 54) dX14_init_110 (by decide) ?_
      exact Yx.sub (ks := [1, 2, 3, 0]) rfl h
set_option maxHeartbeats 4000000 in
set_option maxRecDepth 100000 in
theorem B_X14_init_54 (G : eG) (ca sl : Nat) (M : eM) (H : yH) (F : eM → yH → Prop) (a0 : Nat) (a1 : Nat) (x2 : Int32) (x4 : Int32)
    (h : (((3 : Int32) ≤ x4) → Yx (yX "<init>") (yZ G 21 83 (yFV F)) G (eR (7, 21, 83)) kX14_init 113 [(0, .ref a0), (1, .ref a1), (2, .int x2)] [] M H ca sl) ∧ ((¬ (3 : Int32) ≤ x4) → Yx (yX "<init>") (yZ G 21 83 (yFV F)) G (eR (7, 21, 83)) kX14_init 60 [(0, .ref a0), (1, .ref a1), (2, .int x2), (4, .int x4)] [] M H ca sl)) :
    Yx (yX "<init>") (yZ G 21 83 (yFV F)) G (eR (7, 21, 83)) kX14_init 54 [(0, .ref a0), (1, .ref a1), (2, .int x2), (4, .int x4)] [] M H ca sl := by
  refine y_iload 3 dX14_init_54 rfl ?_
  refine y_iconst (v := 3) dX14_init_56 rfl ?_
  refine y_icmp_ge (t := 113) dX14_init_57 (by decide) (fun q => ?_) (fun q => ?_)
  · replace h := h.1 q
    exact Yx.sub (ks := [0, 1, 2]) rfl h
  · replace h := h.2 q
    exact h
set_option maxHeartbeats 4000000 in
set_option maxRecDepth 100000 in
theorem B_X14_init_42 (G : eG) (ca sl : Nat) (M : eM) (H : yH) (F : eM → yH → Prop) (a0 : Nat) (a1 : Nat) (x2 : Int32)
    (h : (ca + 0 ≤ 21 ∧ sl + 0 ≤ 83) ∧ yIs H a1 9 ∧ yCal G (2, 0, 0) kX11_next [.ref a1, .int x2] M H (yFI (fun (r_1 : Int32) (M_1 : eM) (H_1 : yH) => ∃ (fs_2 : List Value), H_1 a0 = some (.inr (12, fs_2)) ∧ 1 < fs_2.length ∧ (Yx (yX "<init>") (yZ G 21 83 (yFV F)) G (eR (7, 21, 83)) kX14_init 54 [(0, .ref a0), (1, .ref a1), (2, .int x2), (4, .int 0)] [] M_1 (yU H_1 a0 (.inr (12, fs_2.set 1 (.int r_1)))) ca sl)))) :
    Yx (yX "<init>") (yZ G 21 83 (yFV F)) G (eR (7, 21, 83)) kX14_init 42 [(0, .ref a0), (1, .ref a1), (2, .int x2)] [] M H ca sl := by
  refine y_aload_n 0 dX14_init_42 rfl rfl ?_
  refine y_aload_n 1 dX14_init_43 rfl rfl ?_
  refine y_iload_n 2 dX14_init_44 rfl rfl ?_
  have hb := h.1
  replace h := h.2
  obtain ⟨⟨fs_1, hi⟩, h⟩ := h
  refine y_callV yXn (b' := (2, 0, 0)) (K' := kX11_next) (As := [.int x2]) (S := [.ref a0]) dX14_init_45 mX11_next lMX14_15 clX11 rfl hi rfl ⟨(by decide), hb⟩ (Nat.le_of_ble_eq_true rfl) h (fun v_ M_1 H_1 q_ => ?_) rfl
  obtain ⟨r_1, rfl, h⟩ := q_
  obtain ⟨fs_2, e1_2, e2_2, h⟩ := h
  refine y_putF (fun _ _ _ _ h => h.1) (k := 1) (ft := tyX14 1) dX14_init_48 clX14 lFX14_25 (by decide) e1_2 e2_2 rfl rfl (clX14.2.2.1 1 (by decide)) rfl rfl ?_
  refine y_iconst (v := 0) dX14_init_51 rfl ?_
  refine y_istore (i := 4) (l' := [(4, .int 0), (0, .ref a0), (1, .ref a1), (2, .int x2)]) dX14_init_52 (by decide) rfl ?_
  exact Yx.sub (ks := [1, 2, 3, 0]) rfl h
set_option maxHeartbeats 4000000 in
set_option maxRecDepth 100000 in
theorem C_X14_init (G : eG) (M : eM) (H : yH) (F : eM → yH → Prop) (a0 : Nat) (a1 : Nat) (x2 : Int32)
    (h : ∃ N_1 : Nat, (¬ (3 : Int32) < 0) ∧ (3 : Int32).toNatClampNeg = N_1 ∧ N_1 * 4 ≤ 536870912 ∧ (0 + 1 ≤ 21 ∧ 0 + N_1 ≤ 83) ∧ ∀ q_1 : Nat, H q_1 = none → (∃ (fs_2 : List Value), (yU H q_1 (.inl (G.2.2.2 7, (N_1, .inr (.inr (.inr (.inr (fun _ => none)))))))) a0 = some (.inr (12, fs_2)) ∧ 2 < fs_2.length ∧ (((0 + 1) + 0 ≤ 21 ∧ (0 + N_1) + 0 ≤ 83) ∧ yIs (yU (yU H q_1 (.inl (G.2.2.2 7, (N_1, .inr (.inr (.inr (.inr (fun _ => none)))))))) a0 (.inr (12, fs_2.set 2 (.ref q_1)))) a1 9 ∧ yCal G (2, 0, 0) kX11_next [.ref a1, .int 6] M (yU (yU H q_1 (.inl (G.2.2.2 7, (N_1, .inr (.inr (.inr (.inr (fun _ => none)))))))) a0 (.inr (12, fs_2.set 2 (.ref q_1)))) (yFI (fun (r_3 : Int32) (M_3 : eM) (H_3 : yH) => (((2 : Int32) ≤ r_3) → (((3 : Int32) ≤ r_3) → ∃ (fs_4 : List Value), H_3 a0 = some (.inr (12, fs_4)) ∧ 0 < fs_4.length ∧ (Yx (yX "<init>") (yZ G 21 83 (yFV F)) G (eR (7, 21, 83)) kX14_init 42 [(0, .ref a0), (1, .ref a1), (2, .int x2)] [] M_3 (yU H_3 a0 (.inr (12, fs_4.set 0 (.int 2)))) (0 + 1) (0 + N_1))) ∧ ((¬ (3 : Int32) ≤ r_3) → ∃ (fs_4 : List Value), H_3 a0 = some (.inr (12, fs_4)) ∧ 0 < fs_4.length ∧ (Yx (yX "<init>") (yZ G 21 83 (yFV F)) G (eR (7, 21, 83)) kX14_init 42 [(0, .ref a0), (1, .ref a1), (2, .int x2)] [] M_3 (yU H_3 a0 (.inr (12, fs_4.set 0 (.int 1)))) (0 + 1) (0 + N_1)))) ∧ ((¬ (2 : Int32) ≤ r_3) → ∃ (fs_4 : List Value), H_3 a0 = some (.inr (12, fs_4)) ∧ 0 < fs_4.length ∧ (Yx (yX "<init>") (yZ G 21 83 (yFV F)) G (eR (7, 21, 83)) kX14_init 42 [(0, .ref a0), (1, .ref a1), (2, .int x2)] [] M_3 (yU H_3 a0 (.inr (12, fs_4.set 0 (.int 0)))) (0 + 1) (0 + N_1)))))))) :
    yCal G (7, 21, 83) kX14_init [.ref a0, .ref a1, .int x2] M H (yFV F) := by
  refine yCal.of (by decide +kernel) rfl (Nat.le_of_ble_eq_true rfl) ?_
  show Yx (yX "<init>") (yZ G 21 83 (yFV F)) G (eR (7, 21, 83)) kX14_init 0 [(0, .ref a0), (1, .ref a1), (2, .int x2)] [] M H 0 0
  refine y_aload_n 0 dX14_init_0 rfl rfl ?_
  refine y_objInit dX14_init_1 (tb7 _ (List.mem_of_getElem? (i := 32) rfl)) ⟨Nat.le_of_ble_eq_true rfl, Nat.le_of_ble_eq_true rfl⟩ (Nat.le_of_ble_eq_true rfl) ?_
  refine y_aload_n 0 dX14_init_4 rfl rfl ?_
  refine y_iconst (v := 3) dX14_init_5 rfl ?_
  obtain ⟨N_1, z1_1, z2_1, z3_1, hb, h⟩ := h
  refine y_newq (t := 7) (fun s m c A z => (yXn s m c A z).2.2.2.1) dX14_init_6 (tb7 _ (List.mem_of_getElem? (i := 33) rfl)) rfl z1_1 z2_1 z3_1 hb (fun q_1 hq => ?_)
  replace h := h q_1 hq
  obtain ⟨fs_2, e1_2, e2_2, h⟩ := h
  refine y_putF (fun _ _ _ _ h => h.1) (k := 2) (ft := tyX14 2) dX14_init_9 clX14 lFX14_9 (by decide) e1_2 e2_2 rfl rfl (clX14.2.2.1 2 (by decide)) rfl rfl ?_
  refine y_aload_n 1 dX14_init_12 rfl rfl ?_
  refine y_bipush (v := 6) dX14_init_13 rfl ?_
  have hb := h.1
  replace h := h.2
  obtain ⟨⟨fs_3, hi⟩, h⟩ := h
  refine y_callV yXn (b' := (2, 0, 0)) (K' := kX11_next) (As := [.int 6]) (S := []) dX14_init_15 mX11_next lMX14_15 clX11 rfl hi rfl ⟨(by decide), hb⟩ (Nat.le_of_ble_eq_true rfl) h (fun v_ M_3 H_3 q_ => ?_) rfl
  obtain ⟨r_3, rfl, h⟩ := q_
  refine y_istore_n (i := 3) (l' := [(3, .int r_3), (0, .ref a0), (1, .ref a1), (2, .int x2)]) dX14_init_18 rfl (by decide) rfl ?_
  refine y_aload_n 1 dX14_init_19 rfl rfl ?_
  refine y_iload_n 0 dX14_init_20 rfl rfl ?_
  refine y_iconst (v := 2) dX14_init_21 rfl ?_
  refine y_icmp_ge (t := 29) dX14_init_22 (by decide) (fun q => ?_) (fun q => ?_)
  · replace h := h.1 q
    refine y_iload_n 0 dX14_init_29 rfl rfl ?_
    refine y_iconst (v := 3) dX14_init_30 rfl ?_
    refine y_icmp_ge (t := 38) dX14_init_31 (by decide) (fun q => ?_) (fun q => ?_)
    · replace h := h.1 q
      refine y_iconst (v := 2) dX14_init_38 rfl ?_
      obtain ⟨fs_4, e1_4, e2_4, h⟩ := h
      refine y_putF (fun _ _ _ _ h => h.1) (k := 0) (ft := tyX14 0) dX14_init_39 clX14 lFX14_21 (by decide) e1_4 e2_4 rfl rfl (clX14.2.2.1 0 (by decide)) rfl rfl ?_
      exact Yx.sub (ks := [1, 2, 3]) rfl h
    · replace h := h.2 q
      refine y_iconst (v := 1) dX14_init_34 rfl ?_
      refine y_goto (t := 39) dX14_init_35 (by decide) ?_
      obtain ⟨fs_4, e1_4, e2_4, h⟩ := h
      refine y_putF (fun _ _ _ _ h => h.1) (k := 0) (ft := tyX14 0) dX14_init_39 clX14 lFX14_21 (by decide) e1_4 e2_4 rfl rfl (clX14.2.2.1 0 (by decide)) rfl rfl ?_
      exact Yx.sub (ks := [1, 2, 3]) rfl h
  · replace h := h.2 q
    refine y_iconst (v := 0) dX14_init_25 rfl ?_
    refine y_goto (t := 39) dX14_init_26 (by decide) ?_
    obtain ⟨fs_4, e1_4, e2_4, h⟩ := h
    refine y_putF (fun _ _ _ _ h => h.1) (k := 0) (ft := tyX14 0) dX14_init_39 clX14 lFX14_21 (by decide) e1_4 e2_4 rfl rfl (clX14.2.2.1 0 (by decide)) rfl rfl ?_
    exact Yx.sub (ks := [1, 2, 3]) rfl h
set_option maxHeartbeats 4000000 in
set_option maxRecDepth 100000 in
theorem C_X12_init (G : eG) (M : eM) (H : yH) (F : eM → yH → Prop) (a0 : Nat)
    (h : ∃ (fs_1 : List Value), H a0 = some (.inr (10, fs_1)) ∧ 0 < fs_1.length ∧ (∃ (fs_2 : List Value), (yU H a0 (.inr (10, fs_1.set 0 (.int 5)))) a0 = some (.inr (10, fs_2)) ∧ 1 < fs_2.length ∧ (∃ N_3 : Nat, (¬ (0 : Int32) < 0) ∧ (0 : Int32).toNatClampNeg = N_3 ∧ N_3 * 4 ≤ 536870912 ∧ (0 + 1 ≤ 2 ∧ 0 + N_3 ≤ 0) ∧ ∀ q_3 : Nat, (yU (yU H a0 (.inr (10, fs_1.set 0 (.int 5)))) a0 (.inr (10, fs_2.set 1 (.int 5)))) q_3 = none → (∃ (fs_4 : List Value), (yU (yU (yU H a0 (.inr (10, fs_1.set 0 (.int 5)))) a0 (.inr (10, fs_2.set 1 (.int 5)))) q_3 (.inl (G.2.2.2 5, (N_3, .inr (.inr (.inr (.inr (fun _ => none)))))))) a0 = some (.inr (10, fs_4)) ∧ 2 < fs_4.length ∧ (∃ N_5 : Nat, (¬ (0 : Int32) < 0) ∧ (0 : Int32).toNatClampNeg = N_5 ∧ N_5 * 4 ≤ 536870912 ∧ ((0 + 1) + 1 ≤ 2 ∧ (0 + N_3) + N_5 ≤ 0) ∧ ∀ q_5 : Nat, (yU (yU (yU (yU H a0 (.inr (10, fs_1.set 0 (.int 5)))) a0 (.inr (10, fs_2.set 1 (.int 5)))) q_3 (.inl (G.2.2.2 5, (N_3, .inr (.inr (.inr (.inr (fun _ => none)))))))) a0 (.inr (10, fs_4.set 2 (.ref q_3)))) q_5 = none → (∃ (fs_6 : List Value), (yU (yU (yU (yU (yU H a0 (.inr (10, fs_1.set 0 (.int 5)))) a0 (.inr (10, fs_2.set 1 (.int 5)))) q_3 (.inl (G.2.2.2 5, (N_3, .inr (.inr (.inr (.inr (fun _ => none)))))))) a0 (.inr (10, fs_4.set 2 (.ref q_3)))) q_5 (.inl (G.2.2.2 6, (N_5, .inr (.inr (.inr (.inr (fun _ => none)))))))) a0 = some (.inr (10, fs_6)) ∧ 4 < fs_6.length ∧ ((0 + 1 + 1 ≤ 2 ∧ 0 + N_3 + N_5 ≤ 0) ∧ F M (yU (yU (yU (yU (yU (yU H a0 (.inr (10, fs_1.set 0 (.int 5)))) a0 (.inr (10, fs_2.set 1 (.int 5)))) q_3 (.inl (G.2.2.2 5, (N_3, .inr (.inr (.inr (.inr (fun _ => none)))))))) a0 (.inr (10, fs_4.set 2 (.ref q_3)))) q_5 (.inl (G.2.2.2 6, (N_5, .inr (.inr (.inr (.inr (fun _ => none)))))))) a0 (.inr (10, fs_6.set 4 (.ref q_5))))))))))) :
    yCal G (2, 2, 0) kX12_init [.ref a0] M H (yFV F) := by
  refine yCal.of (by decide +kernel) rfl (Nat.le_of_ble_eq_true rfl) ?_
  show Yx (yX "<init>") (yZ G 2 0 (yFV F)) G (eR (2, 2, 0)) kX12_init 0 [(0, .ref a0)] [] M H 0 0
  refine y_aload_n 0 dX12_init_0 rfl rfl ?_
  refine y_objInit dX12_init_1 (tb6 _ (List.mem_of_getElem? (i := 99) rfl)) ⟨Nat.le_of_ble_eq_true rfl, Nat.le_of_ble_eq_true rfl⟩ (Nat.le_of_ble_eq_true rfl) ?_
  refine y_aload_n 0 dX12_init_4 rfl rfl ?_
  refine y_iconst (v := 5) dX12_init_5 rfl ?_
  obtain ⟨fs_1, e1_1, e2_1, h⟩ := h
  refine y_put (k := 0) (ft := tyX12 0) dX12_init_6 clX12 lFX12_7 (by decide) e1_1 e2_1 rfl (clX12.2.2.1 0 (by decide)) rfl rfl ?_
  refine y_aload_n 0 dX12_init_9 rfl rfl ?_
  refine y_iconst (v := 5) dX12_init_10 rfl ?_
  obtain ⟨fs_2, e1_2, e2_2, h⟩ := h
  refine y_put (k := 1) (ft := tyX12 1) dX12_init_11 clX12 lFX12_13 (by decide) e1_2 e2_2 rfl (clX12.2.2.1 1 (by decide)) rfl rfl ?_
  refine y_aload_n 0 dX12_init_14 rfl rfl ?_
  refine y_iconst (v := 0) dX12_init_15 rfl ?_
  obtain ⟨N_3, z1_3, z2_3, z3_3, hb, h⟩ := h
  refine y_newA yXn dX12_init_16 (tb6 _ (List.mem_of_getElem? (i := 100) rfl)) z1_3 z2_3 z3_3 hb (fun q_3 hq => ?_)
  replace h := h q_3 hq
  obtain ⟨fs_4, e1_4, e2_4, h⟩ := h
  refine y_put (k := 2) (ft := tyX12 2) dX12_init_19 clX12 lFX12_18 (by decide) e1_4 e2_4 rfl (clX12.2.2.1 2 (by decide)) rfl rfl ?_
  refine y_aload_n 0 dX12_init_22 rfl rfl ?_
  refine y_iconst (v := 0) dX12_init_23 rfl ?_
  obtain ⟨N_5, z1_5, z2_5, z3_5, hb, h⟩ := h
  refine y_newq (t := 6) (fun s m c A z => (yXn s m c A z).2.2.1) dX12_init_24 (tb6 _ (List.mem_of_getElem? (i := 102) rfl)) rfl z1_5 z2_5 z3_5 hb (fun q_5 hq => ?_)
  replace h := h q_5 hq
  obtain ⟨fs_6, e1_6, e2_6, h⟩ := h
  refine y_put (k := 4) (ft := tyX12 4) dX12_init_27 clX12 lFX12_24 (by decide) e1_6 e2_6 rfl (clX12.2.2.1 4 (by decide)) rfl rfl ?_
  have hb := h.1
  replace h := h.2
  exact y_vret dX12_init_30 rfl hb.1 hb.2 ⟨rfl, h⟩
