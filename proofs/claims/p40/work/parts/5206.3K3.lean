set_option maxHeartbeats 4000000 in
set_option maxRecDepth 100000 in
theorem B_X13_value_0_243 (G : eG) (ca sl : Nat) (M : eM) (H : yH) (F : Int32 → eM → yH → Prop) (a0 : Nat) (a1 : Nat)
    (h : ∃ (x_1 : Int32), yG H a0 11 0 (.int x_1) ∧ (∃ (b_2 : Nat), yG H a0 11 2 (.ref b_2) ∧ ((ca + 0 ≤ 2 ∧ sl + 0 ≤ 54) ∧ yIs H b_2 11 ∧ ∃ r_3 : Int32, yRd G (1, 0, 0) kX13_value [.ref b_2, .ref a1] M H (.int r_3) ∧ (∃ (b_4 : Nat), yG H a0 11 3 (.ref b_4) ∧ ((ca + 0 ≤ 2 ∧ sl + 0 ≤ 54) ∧ yIs H b_4 11 ∧ ∃ r_5 : Int32, yRd G (1, 0, 0) kX13_value [.ref b_4, .ref a1] M H (.int r_5) ∧ ((ca + 0 ≤ 2 ∧ sl + 0 ≤ 54) ∧ ∃ r_6 : Int32, yRd G (1, 0, 0) kX13_both [.int x_1, .int r_3, .int r_5] M H (.int r_6) ∧ ((ca ≤ 2 ∧ sl ≤ 54) ∧ F r_6 M H))))))) :
    Yx (yX "value") (yZ G 2 54 (yFI F)) G (eR (6, 2, 54)) kX13_value 243 [(0, .ref a0), (1, .ref a1)] [] M H ca sl := by
  refine y_aload_n 0 dX13_value_243 rfl rfl ?_
  obtain ⟨x_1, ⟨fs_1, e1_1, e2_1⟩, h⟩ := h
  refine y_get (k := 0) dX13_value_244 clX13 lFX13_7 (by decide) e1_1 e2_1 ?_
  refine y_aload_n 0 dX13_value_247 rfl rfl ?_
  obtain ⟨b_2, ⟨fs_2, e1_2, e2_2⟩, h⟩ := h
  refine y_get (k := 2) dX13_value_248 clX13 lFX13_16 (by decide) e1_2 e2_2 ?_
  refine y_aload_n 1 dX13_value_251 rfl rfl ?_
  have hb := h.1
  replace h := h.2
  obtain ⟨⟨fs_3, hi⟩, h⟩ := h
  obtain ⟨r_3, hc, h⟩ := h
  refine y_callV yXn (b' := (1, 0, 0)) (K' := kX13_value) (As := [.ref a1]) (S := [.int x_1]) dX13_value_252 mX13_value lMX13_120 clX13 rfl hi rfl ⟨(by decide), hb⟩ (Nat.le_of_ble_eq_true rfl) hc (fun v_ M_ H_ q_ => ?_) rfl
  obtain ⟨rfl, rfl, rfl⟩ := q_
  refine y_aload_n 0 dX13_value_255 rfl rfl ?_
  obtain ⟨b_4, ⟨fs_4, e1_4, e2_4⟩, h⟩ := h
  refine y_get (k := 3) dX13_value_256 clX13 lFX13_20 (by decide) e1_4 e2_4 ?_
  refine y_aload_n 1 dX13_value_259 rfl rfl ?_
  have hb := h.1
  replace h := h.2
  obtain ⟨⟨fs_5, hi⟩, h⟩ := h
  obtain ⟨r_5, hc, h⟩ := h
  refine y_callV yXn (b' := (1, 0, 0)) (K' := kX13_value) (As := [.ref a1]) (S := [.int r_3, .int x_1]) dX13_value_260 mX13_value lMX13_120 clX13 rfl hi rfl ⟨(by decide), hb⟩ (Nat.le_of_ble_eq_true rfl) hc (fun v_ M_ H_ q_ => ?_) rfl
  obtain ⟨rfl, rfl, rfl⟩ := q_
  have hb := h.1
  replace h := h.2
  obtain ⟨r_6, hc, h⟩ := h
  refine y_callS yXn (b' := (1, 0, 0)) (K' := kX13_both) (As := [.int x_1, .int r_3, .int r_5]) (S := []) dX13_value_263 mX13_both lMX13_128 rfl ⟨(by decide), hb⟩ (Nat.le_of_ble_eq_true rfl) hc (fun v_ M_ H_ q_ => ?_) rfl
  obtain ⟨rfl, rfl, rfl⟩ := q_
  have hb := h.1
  replace h := h.2
  exact y_iret dX13_value_266 rfl hb.1 hb.2 ⟨_, rfl, h⟩
set_option maxHeartbeats 4000000 in
set_option maxRecDepth 100000 in
theorem C_X13_value_0 (G : eG) (M : eM) (H : yH) (F : Int32 → eM → yH → Prop) (a0 : Nat) (a1 : Nat)
    (h : ∃ (x_1 : Int32), yG H a0 11 0 (.int x_1) ∧ ((((x_1 : Int32).toInt < 0 ∨ 22 < (x_1 : Int32).toInt) → Yx (yX "value") (yZ G 2 54 (yFI F)) G (eR (6, 2, 54)) kX13_value 243 [(0, .ref a0), (1, .ref a1)] [] M H 0 0) ∧ ((x_1 : Int32) = 0 → ∃ (x_2 : Int32), yG H a0 11 1 (.int x_2) ∧ ((0 ≤ 2 ∧ 0 ≤ 54) ∧ F x_2 M H)) ∧ ((x_1 : Int32) = 1 → ∃ (x_2 : Int32), yG H a1 10 3 (.int x_2) ∧ ((0 ≤ 2 ∧ 0 ≤ 54) ∧ F x_2 M H)) ∧ ((x_1 : Int32) = 2 → (0 + 2 ≤ 2 ∧ 0 + 54 ≤ 54) ∧ yIs H a1 10 ∧ yCal G (3, 2, 54) kX12_counts [.ref a1] M H (yFR (fun (r_2 : Nat) (M_2 : eM) (H_2 : yH) => ∃ (x_3 : Int32), yEI G H_2 r_2 4 x_3 ∧ ((0 + 2 ≤ 2 ∧ 0 + 54 ≤ 54) ∧ F x_3 M_2 H_2)))) ∧ ((x_1 : Int32) = 3 → (0 + 2 ≤ 2 ∧ 0 + 54 ≤ 54) ∧ yIs H a1 10 ∧ yCal G (3, 2, 54) kX12_counts [.ref a1] M H (yFR (fun (r_2 : Nat) (M_2 : eM) (H_2 : yH) => ∃ (x_3 : Int32), yEI G H_2 r_2 0 x_3 ∧ ((0 + 2 ≤ 2 ∧ 0 + 54 ≤ 54) ∧ F x_3 M_2 H_2)))) ∧ ((x_1 : Int32) = 4 → (0 + 2 ≤ 2 ∧ 0 + 54 ≤ 54) ∧ yIs H a1 10 ∧ yCal G (3, 2, 54) kX12_counts [.ref a1] M H (yFR (fun (r_2 : Nat) (M_2 : eM) (H_2 : yH) => ∃ (x_3 : Int32), yEI G H_2 r_2 3 x_3 ∧ ((0 + 2 ≤ 2 ∧ 0 + 54 ≤ 54) ∧ F x_3 M_2 H_2)))) ∧ ((x_1 : Int32) = 5 → (0 + 2 ≤ 2 ∧ 0 + 54 ≤ 54) ∧ yIs H a1 10 ∧ yCal G (3, 2, 54) kX12_counts [.ref a1] M H (yFR (fun (r_2 : Nat) (M_2 : eM) (H_2 : yH) => ∃ (x_3 : Int32), yEI G H_2 r_2 2 x_3 ∧ ((0 + 2 ≤ 2 ∧ 0 + 54 ≤ 54) ∧ F x_3 M_2 H_2)))) ∧ ((x_1 : Int32) = 6 → ∃ (x_2 : Int32), yG H a1 10 0 (.int x_2) ∧ (∃ (x_3 : Int32), yG H a1 10 1 (.int x_3) ∧ ((0 + 2 ≤ 2 ∧ 0 + 54 ≤ 54) ∧ yIs H a1 10 ∧ yCal G (3, 2, 54) kX12_counts [.ref a1] M H (yFR (fun (r_4 : Nat) (M_4 : eM) (H_4 : yH) => ∃ (x_5 : Int32), yEI G H_4 r_4 4 x_5 ∧ ((0 + 2 ≤ 2 ∧ 0 + 54 ≤ 54) ∧ F ((x_2 * x_3) - x_5) M_4 H_4)))))) ∧ ((x_1 : Int32) = 7 → (0 + 1 ≤ 2 ∧ 0 + 49 ≤ 54) ∧ yIs H a1 10 ∧ yCal G (1, 1, 49) kX12_board [.ref a1] M H (yFR (fun (r_2 : Nat) (M_2 : eM) (H_2 : yH) => ∃ (x_3 : Int32), yG H_2 a0 11 1 (.int x_3) ∧ (((0 + 1) + 0 ≤ 2 ∧ (0 + 49) + 0 ≤ 54) ∧ yIs H_2 a1 10 ∧ ∃ r_4 : Int32, yRd G (4, 0, 0) kX12_ways [.ref a1, .ref r_2, .int x_3] M_2 H_2 (.int r_4) ∧ ((0 + 1 ≤ 2 ∧ 0 + 49 ≤ 54) ∧ F r_4 M_2 H_2))))) ∧ ((x_1 : Int32) = 8 → ∃ (b_2 : Nat), yG H a0 11 2 (.ref b_2) ∧ ((0 + 0 ≤ 2 ∧ 0 + 0 ≤ 54) ∧ yIs H b_2 11 ∧ ∃ r_3 : Int32, yRd G (1, 0, 0) kX13_value [.ref b_2, .ref a1] M H (.int r_3) ∧ ((0 ≤ 2 ∧ 0 ≤ 54) ∧ F ((0 : Int32) - r_3) M H))) ∧ ((x_1 : Int32) = 9 → Yx (yX "value") (yZ G 2 54 (yFI F)) G (eR (6, 2, 54)) kX13_value 243 [(0, .ref a0), (1, .ref a1)] [] M H 0 0) ∧ ((x_1 : Int32) = 10 → Yx (yX "value") (yZ G 2 54 (yFI F)) G (eR (6, 2, 54)) kX13_value 243 [(0, .ref a0), (1, .ref a1)] [] M H 0 0) ∧ ((x_1 : Int32) = 11 → Yx (yX "value") (yZ G 2 54 (yFI F)) G (eR (6, 2, 54)) kX13_value 243 [(0, .ref a0), (1, .ref a1)] [] M H 0 0) ∧ ((x_1 : Int32) = 12 → Yx (yX "value") (yZ G 2 54 (yFI F)) G (eR (6, 2, 54)) kX13_value 243 [(0, .ref a0), (1, .ref a1)] [] M H 0 0) ∧ ((x_1 : Int32) = 13 → Yx (yX "value") (yZ G 2 54 (yFI F)) G (eR (6, 2, 54)) kX13_value 243 [(0, .ref a0), (1, .ref a1)] [] M H 0 0) ∧ ((x_1 : Int32) = 14 → Yx (yX "value") (yZ G 2 54 (yFI F)) G (eR (6, 2, 54)) kX13_value 243 [(0, .ref a0), (1, .ref a1)] [] M H 0 0) ∧ ((x_1 : Int32) = 15 → Yx (yX "value") (yZ G 2 54 (yFI F)) G (eR (6, 2, 54)) kX13_value 243 [(0, .ref a0), (1, .ref a1)] [] M H 0 0) ∧ ((x_1 : Int32) = 16 → Yx (yX "value") (yZ G 2 54 (yFI F)) G (eR (6, 2, 54)) kX13_value 243 [(0, .ref a0), (1, .ref a1)] [] M H 0 0) ∧ ((x_1 : Int32) = 17 → Yx (yX "value") (yZ G 2 54 (yFI F)) G (eR (6, 2, 54)) kX13_value 243 [(0, .ref a0), (1, .ref a1)] [] M H 0 0) ∧ ((x_1 : Int32) = 18 → Yx (yX "value") (yZ G 2 54 (yFI F)) G (eR (6, 2, 54)) kX13_value 243 [(0, .ref a0), (1, .ref a1)] [] M H 0 0) ∧ ((x_1 : Int32) = 19 → Yx (yX "value") (yZ G 2 54 (yFI F)) G (eR (6, 2, 54)) kX13_value 243 [(0, .ref a0), (1, .ref a1)] [] M H 0 0) ∧ ((x_1 : Int32) = 20 → ∃ (b_2 : Nat), yG H a1 10 2 (.ref b_2) ∧ (∃ (x_3 : Int32), yG H a0 11 1 (.int x_3) ∧ (∃ (b_4 : Nat), yER G 5 H b_2 x_3 b_4 ∧ (∃ (x_5 : Int32), yEI G H b_4 3 x_5 ∧ (((x_5 < (0 : Int32)) → (0 ≤ 2 ∧ 0 ≤ 54) ∧ F 0 M H) ∧ ((¬ x_5 < (0 : Int32)) → (0 ≤ 2 ∧ 0 ≤ 54) ∧ F 1 M H)))))) ∧ ((x_1 : Int32) = 21 → (0 + 1 ≤ 2 ∧ 0 + 49 ≤ 54) ∧ yIs H a1 10 ∧ yCal G (1, 1, 49) kX12_board [.ref a1] M H (yFR (fun (r_2 : Nat) (M_2 : eM) (H_2 : yH) => ∃ (x_3 : Int32), yG H_2 a0 11 1 (.int x_3) ∧ (((0 + 1) + 0 ≤ 2 ∧ (0 + 49) + 0 ≤ 54) ∧ yIs H_2 a1 10 ∧ ∃ r_4 : Int32, yRd G (4, 0, 0) kX12_ways [.ref a1, .ref r_2, .int x_3] M_2 H_2 (.int r_4) ∧ (((r_4 ≤ (0 : Int32)) → (0 + 1 ≤ 2 ∧ 0 + 49 ≤ 54) ∧ F 0 M_2 H_2) ∧ ((¬ r_4 ≤ (0 : Int32)) → (0 + 1 ≤ 2 ∧ 0 + 49 ≤ 54) ∧ F 1 M_2 H_2)))))) ∧ ((x_1 : Int32) = 22 → ∃ (b_2 : Nat), yG H a0 11 2 (.ref b_2) ∧ ((0 + 0 ≤ 2 ∧ 0 + 0 ≤ 54) ∧ yIs H b_2 11 ∧ ∃ r_3 : Int32, yRd G (1, 0, 0) kX13_value [.ref b_2, .ref a1] M H (.int r_3) ∧ ((0 ≤ 2 ∧ 0 ≤ 54) ∧ F ((1 : Int32) - r_3) M H))))) :
    yCal G (6, 2, 54) kX13_value [.ref a0, .ref a1] M H (yFI F) := by
  refine yCal.of (by decide +kernel) rfl (Nat.le_of_ble_eq_true rfl) ?_
  show Yx (yX "value") (yZ G 2 54 (yFI F)) G (eR (6, 2, 54)) kX13_value 0 [(0, .ref a0), (1, .ref a1)] [] M H 0 0
  refine y_aload_n 0 dX13_value_0 rfl rfl ?_
  obtain ⟨x_1, ⟨fs_1, e1_1, e2_1⟩, h⟩ := h
  refine y_get (k := 0) dX13_value_1 clX13 lFX13_7 (by decide) e1_1 e2_1 ?_
  by_cases q : (x_1 : Int32).toInt < 0 ∨ 22 < (x_1 : Int32).toInt
  · replace h := h.1 q
    refine y_tableOut (tg := 243) dX13_value_4 q (by decide) ?_
    exact h
  · replace h := h.2
    refine eTabCases (N := 23) q (by decide) (fun i9 hi hx => ?_)
    match i9, hi, hx with
    | 0, hi, hx =>
      have q3 : (x_1 : Int32) = 0 := eToI (hx.trans (by decide))
      replace h := h.1 q3
      refine y_tableAt (tg := 112) dX13_value_4 q3 (by decide) (by decide) rfl (by decide) ?_
      refine y_aload_n 0 dX13_value_112 rfl rfl ?_
      obtain ⟨x_2, ⟨fs_2, e1_2, e2_2⟩, h⟩ := h
      refine y_get (k := 1) dX13_value_113 clX13 lFX13_13 (by decide) e1_2 e2_2 ?_
      have hb := h.1
      replace h := h.2
      exact y_iret dX13_value_116 rfl hb.1 hb.2 ⟨_, rfl, h⟩
    | 1, hi, hx =>
      have q3 : (x_1 : Int32) = 1 := eToI (hx.trans (by decide))
      replace h := h.2.1 q3
      refine y_tableAt (tg := 117) dX13_value_4 q3 (by decide) (by decide) rfl (by decide) ?_
      refine y_aload_n 1 dX13_value_117 rfl rfl ?_
      obtain ⟨x_2, ⟨fs_2, e1_2, e2_2⟩, h⟩ := h
      refine y_get (k := 3) dX13_value_118 clX12 lFX13_98 (by decide) e1_2 e2_2 ?_
      have hb := h.1
      replace h := h.2
      exact y_iret dX13_value_121 rfl hb.1 hb.2 ⟨_, rfl, h⟩
    | 2, hi, hx =>
      have q3 : (x_1 : Int32) = 2 := eToI (hx.trans (by decide))
      replace h := h.2.2.1 q3
      refine y_tableAt (tg := 122) dX13_value_4 q3 (by decide) (by decide) rfl (by decide) ?_
      refine y_aload_n 1 dX13_value_122 rfl rfl ?_
      have hb := h.1
      replace h := h.2
      obtain ⟨⟨fs_2, hi⟩, h⟩ := h
      refine y_callV yXn (b' := (3, 2, 54)) (K' := kX12_counts) (As := []) (S := []) dX13_value_123 mX12_counts lMX13_103 clX12 rfl hi rfl ⟨(by decide), hb⟩ (Nat.le_of_ble_eq_true rfl) h (fun v_ M_2 H_2 q_ => ?_) rfl
      obtain ⟨r_2, rfl, h⟩ := q_
      refine y_iconst (v := 4) dX13_value_126 rfl ?_
      obtain ⟨x_3, ⟨N_3, f_3, e1_3, e2_3, e3_3⟩, h⟩ := h
      refine y_ialdx dX13_value_127 e1_3 e2_3 e3_3 ?_
      have hb := h.1
      replace h := h.2
      exact y_iret dX13_value_128 rfl hb.1 hb.2 ⟨_, rfl, h⟩
    | 3, hi, hx =>
      have q3 : (x_1 : Int32) = 3 := eToI (hx.trans (by decide))
      replace h := h.2.2.2.1 q3
      refine y_tableAt (tg := 129) dX13_value_4 q3 (by decide) (by decide) rfl (by decide) ?_
      refine y_aload_n 1 dX13_value_129 rfl rfl ?_
      have hb := h.1
      replace h := h.2
      obtain ⟨⟨fs_2, hi⟩, h⟩ := h
      refine y_callV yXn (b' := (3, 2, 54)) (K' := kX12_counts) (As := []) (S := []) dX13_value_130 mX12_counts lMX13_103 clX12 rfl hi rfl ⟨(by decide), hb⟩ (Nat.le_of_ble_eq_true rfl) h (fun v_ M_2 H_2 q_ => ?_) rfl
      obtain ⟨r_2, rfl, h⟩ := q_
      refine y_iconst (v := 0) dX13_value_133 rfl ?_
      obtain ⟨x_3, ⟨N_3, f_3, e1_3, e2_3, e3_3⟩, h⟩ := h
      refine y_ialdx dX13_value_134 e1_3 e2_3 e3_3 ?_
      have hb := h.1
      replace h := h.2
      exact y_iret dX13_value_135 rfl hb.1 hb.2 ⟨_, rfl, h⟩
    | 4, hi, hx =>
      have q3 : (x_1 : Int32) = 4 := eToI (hx.trans (by decide))
      replace h := h.2.2.2.2.1 q3
      refine y_tableAt (tg := 136) dX13_value_4 q3 (by decide) (by decide) rfl (by decide) ?_
      refine y_aload_n 1 dX13_value_136 rfl rfl ?_
      have hb := h.1
      replace h := h.2
      obtain ⟨⟨fs_2, hi⟩, h⟩ := h
      refine y_callV yXn (b' := (3, 2, 54)) (K' := kX12_counts) (As := []) (S := []) dX13_value_137 mX12_counts lMX13_103 clX12 rfl hi rfl ⟨(by decide), hb⟩ (Nat.le_of_ble_eq_true rfl) h (fun v_ M_2 H_2 q_ => ?_) rfl
      obtain ⟨r_2, rfl, h⟩ := q_
      refine y_iconst (v := 3) dX13_value_140 rfl ?_
      obtain ⟨x_3, ⟨N_3, f_3, e1_3, e2_3, e3_3⟩, h⟩ := h
      refine y_ialdx dX13_value_141 e1_3 e2_3 e3_3 ?_
      have hb := h.1
      replace h := h.2
      exact y_iret dX13_value_142 rfl hb.1 hb.2 ⟨_, rfl, h⟩
    | 5, hi, hx =>
      have q3 : (x_1 : Int32) = 5 := eToI (hx.trans (by decide))
      replace h := h.2.2.2.2.2.1 q3
      refine y_tableAt (tg := 143) dX13_value_4 q3 (by decide) (by decide) rfl (by decide) ?_
      refine y_aload_n 1 dX13_value_143 rfl rfl ?_
      have hb := h.1
      replace h := h.2
      obtain ⟨⟨fs_2, hi⟩, h⟩ := h
      refine y_callV yXn (b' := (3, 2, 54)) (K' := kX12_counts) (As := []) (S := []) dX13_value_144 mX12_counts lMX13_103 clX12 rfl hi rfl ⟨(by decide), hb⟩ (Nat.le_of_ble_eq_true rfl) h (fun v_ M_2 H_2 q_ => ?_) rfl
      obtain ⟨r_2, rfl, h⟩ := q_
      refine y_iconst (v := 2) dX13_value_147 rfl ?_
      obtain ⟨x_3, ⟨N_3, f_3, e1_3, e2_3, e3_3⟩, h⟩ := h
      refine y_ialdx dX13_value_148 e1_3 e2_3 e3_3 ?_
      have hb := h.1
      replace h := h.2
      exact y_iret dX13_value_149 rfl hb.1 hb.2 ⟨_, rfl, h⟩
    | 6, hi, hx =>
      have q3 : (x_1 : Int32) = 6 := eToI (hx.trans (by decide))
      replace h := h.2.2.2.2.2.2.1 q3
      refine y_tableAt (tg := 150) dX13_value_4 q3 (by decide) (by decide) rfl (by decide) ?_
      refine y_aload_n 1 dX13_value_150 rfl rfl ?_
      obtain ⟨x_2, ⟨fs_2, e1_2, e2_2⟩, h⟩ := h
      refine y_get (k := 0) dX13_value_151 clX12 lFX13_107 (by decide) e1_2 e2_2 ?_
      refine y_aload_n 1 dX13_value_154 rfl rfl ?_
      obtain ⟨x_3, ⟨fs_3, e1_3, e2_3⟩, h⟩ := h
      refine y_get (k := 1) dX13_value_155 clX12 lFX13_110 (by decide) e1_3 e2_3 ?_
      refine y_imul dX13_value_158 ?_
      refine y_aload_n 1 dX13_value_159 rfl rfl ?_
      have hb := h.1
      replace h := h.2
      obtain ⟨⟨fs_4, hi⟩, h⟩ := h
      refine y_callV yXn (b' := (3, 2, 54)) (K' := kX12_counts) (As := []) (S := [.int (x_2 * x_3)]) dX13_value_160 mX12_counts lMX13_103 clX12 rfl hi rfl ⟨(by decide), hb⟩ (Nat.le_of_ble_eq_true rfl) h (fun v_ M_4 H_4 q_ => ?_) rfl
      obtain ⟨r_4, rfl, h⟩ := q_
      refine y_iconst (v := 4) dX13_value_163 rfl ?_
      obtain ⟨x_5, ⟨N_5, f_5, e1_5, e2_5, e3_5⟩, h⟩ := h
      refine y_ialdx dX13_value_164 e1_5 e2_5 e3_5 ?_
      refine y_isub dX13_value_165 ?_
      have hb := h.1
      replace h := h.2
      exact y_iret dX13_value_166 rfl hb.1 hb.2 ⟨_, rfl, h⟩
    | 7, hi, hx =>
      have q3 : (x_1 : Int32) = 7 := eToI (hx.trans (by decide))
      replace h := h.2.2.2.2.2.2.2.1 q3
      refine y_tableAt (tg := 167) dX13_value_4 q3 (by decide) (by decide) rfl (by decide) ?_
      refine y_aload_n 1 dX13_value_167 rfl rfl ?_
      refine y_aload_n 1 dX13_value_168 rfl rfl ?_
      have hb := h.1
      replace h := h.2
      obtain ⟨⟨fs_2, hi⟩, h⟩ := h
      refine y_callV yXn (b' := (1, 1, 49)) (K' := kX12_board) (As := []) (S := [.ref a1]) dX13_value_169 mX12_board lMX13_113 clX12 rfl hi rfl ⟨(by decide), hb⟩ (Nat.le_of_ble_eq_true rfl) h (fun v_ M_2 H_2 q_ => ?_) rfl
      obtain ⟨r_2, rfl, h⟩ := q_
      refine y_aload_n 0 dX13_value_172 rfl rfl ?_
      obtain ⟨x_3, ⟨fs_3, e1_3, e2_3⟩, h⟩ := h
      refine y_get (k := 1) dX13_value_173 clX13 lFX13_13 (by decide) e1_3 e2_3 ?_
      have hb := h.1
      replace h := h.2
      obtain ⟨⟨fs_4, hi⟩, h⟩ := h
      obtain ⟨r_4, hc, h⟩ := h
      refine y_callV yXn (b' := (4, 0, 0)) (K' := kX12_ways) (As := [.ref r_2, .int x_3]) (S := []) dX13_value_176 mX12_ways lMX13_116 clX12 rfl hi rfl ⟨(by decide), hb⟩ (Nat.le_of_ble_eq_true rfl) hc (fun v_ M_ H_ q_ => ?_) rfl
      obtain ⟨rfl, rfl, rfl⟩ := q_
      have hb := h.1
      replace h := h.2
      exact y_iret dX13_value_179 rfl hb.1 hb.2 ⟨_, rfl, h⟩
    | 8, hi, hx =>
      have q3 : (x_1 : Int32) = 8 := eToI (hx.trans (by decide))
      replace h := h.2.2.2.2.2.2.2.2.1 q3
      refine y_tableAt (tg := 180) dX13_value_4 q3 (by decide) (by decide) rfl (by decide) ?_
      refine y_iconst (v := 0) dX13_value_180 rfl ?_
      refine y_aload_n 0 dX13_value_181 rfl rfl ?_
      obtain ⟨b_2, ⟨fs_2, e1_2, e2_2⟩, h⟩ := h
      refine y_get (k := 2) dX13_value_182 clX13 lFX13_16 (by decide) e1_2 e2_2 ?_
      refine y_aload_n 1 dX13_value_185 rfl rfl ?_
      have hb := h.1
      replace h := h.2
      obtain ⟨⟨fs_3, hi⟩, h⟩ := h
      obtain ⟨r_3, hc, h⟩ := h
      refine y_callV yXn (b' := (1, 0, 0)) (K' := kX13_value) (As := [.ref a1]) (S := [.int 0]) dX13_value_186 mX13_value lMX13_120 clX13 rfl hi rfl ⟨(by decide), hb⟩ (Nat.le_of_ble_eq_true rfl) hc (fun v_ M_ H_ q_ => ?_) rfl
      obtain ⟨rfl, rfl, rfl⟩ := q_
      refine y_isub dX13_value_189 ?_
      have hb := h.1
      replace h := h.2
      exact y_iret dX13_value_190 rfl hb.1 hb.2 ⟨_, rfl, h⟩
    | 9, hi, hx =>
      have q3 : (x_1 : Int32) = 9 := eToI (hx.trans (by decide))
      replace h := h.2.2.2.2.2.2.2.2.2.1 q3
      refine y_tableAt (tg := 243) dX13_value_4 q3 (by decide) (by decide) rfl (by decide) ?_
      exact h
    | 10, hi, hx =>
      have q3 : (x_1 : Int32) = 10 := eToI (hx.trans (by decide))
      replace h := h.2.2.2.2.2.2.2.2.2.2.1 q3
      refine y_tableAt (tg := 243) dX13_value_4 q3 (by decide) (by decide) rfl (by decide) ?_
      exact h
    | 11, hi, hx =>
      have q3 : (x_1 : Int32) = 11 := eToI (hx.trans (by decide))
      replace h := h.2.2.2.2.2.2.2.2.2.2.2.1 q3
      refine y_tableAt (tg := 243) dX13_value_4 q3 (by decide) (by decide) rfl (by decide) ?_
      exact h
    | 12, hi, hx =>
      have q3 : (x_1 : Int32) = 12 := eToI (hx.trans (by decide))
      replace h := h.2.2.2.2.2.2.2.2.2.2.2.2.1 q3
      refine y_tableAt (tg := 243) dX13_value_4 q3 (by decide) (by decide) rfl (by decide) ?_
      exact h
    | 13, hi, hx =>
      have q3 : (x_1 : Int32) = 13 := eToI (hx.trans (by decide))
      replace h := h.2.2.2.2.2.2.2.2.2.2.2.2.2.1 q3
      refine y_tableAt (tg := 243) dX13_value_4 q3 (by decide) (by decide) rfl (by decide) ?_
      exact h
    | 14, hi, hx =>
      have q3 : (x_1 : Int32) = 14 := eToI (hx.trans (by decide))
      replace h := h.2.2.2.2.2.2.2.2.2.2.2.2.2.2.1 q3
      refine y_tableAt (tg := 243) dX13_value_4 q3 (by decide) (by decide) rfl (by decide) ?_
      exact h
    | 15, hi, hx =>
      have q3 : (x_1 : Int32) = 15 := eToI (hx.trans (by decide))
      replace h := h.2.2.2.2.2.2.2.2.2.2.2.2.2.2.2.1 q3
      refine y_tableAt (tg := 243) dX13_value_4 q3 (by decide) (by decide) rfl (by decide) ?_
      exact h
    | 16, hi, hx =>
      have q3 : (x_1 : Int32) = 16 := eToI (hx.trans (by decide))
      replace h := h.2.2.2.2.2.2.2.2.2.2.2.2.2.2.2.2.1 q3
      refine y_tableAt (tg := 243) dX13_value_4 q3 (by decide) (by decide) rfl (by decide) ?_
      exact h
    | 17, hi, hx =>
      have q3 : (x_1 : Int32) = 17 := eToI (hx.trans (by decide))
      replace h := h.2.2.2.2.2.2.2.2.2.2.2.2.2.2.2.2.2.1 q3
      refine y_tableAt (tg := 243) dX13_value_4 q3 (by decide) (by decide) rfl (by decide) ?_
      exact h
    | 18, hi, hx =>
      have q3 : (x_1 : Int32) = 18 := eToI (hx.trans (by decide))
      replace h := h.2.2.2.2.2.2.2.2.2.2.2.2.2.2.2.2.2.2.1 q3
      refine y_tableAt (tg := 243) dX13_value_4 q3 (by decide) (by decide) rfl (by decide) ?_
      exact h
    | 19, hi, hx =>
      have q3 : (x_1 : Int32) = 19 := eToI (hx.trans (by decide))
      replace h := h.2.2.2.2.2.2.2.2.2.2.2.2.2.2.2.2.2.2.2.1 q3
      refine y_tableAt (tg := 243) dX13_value_4 q3 (by decide) (by decide) rfl (by decide) ?_
      exact h
    | 20, hi, hx =>
      have q3 : (x_1 : Int32) = 20 := eToI (hx.trans (by decide))
      replace h := h.2.2.2.2.2.2.2.2.2.2.2.2.2.2.2.2.2.2.2.2.1 q3
      refine y_tableAt (tg := 191) dX13_value_4 q3 (by decide) (by decide) rfl (by decide) ?_
      refine y_aload_n 1 dX13_value_191 rfl rfl ?_
      obtain ⟨b_2, ⟨fs_2, e1_2, e2_2⟩, h⟩ := h
      refine y_get (k := 2) dX13_value_192 clX12 lFX13_124 (by decide) e1_2 e2_2 ?_
      refine y_aload_n 0 dX13_value_195 rfl rfl ?_
      obtain ⟨x_3, ⟨fs_3, e1_3, e2_3⟩, h⟩ := h
      refine y_get (k := 1) dX13_value_196 clX13 lFX13_13 (by decide) e1_3 e2_3 ?_
      obtain ⟨b_4, ⟨N_4, f_4, e1_4, e2_4, e3_4⟩, h⟩ := h
      refine y_aald (t := 5) (ty := .array .int) dX13_value_199 rfl rfl e1_4 e2_4 e3_4 ?_
      refine y_iconst (v := 3) dX13_value_200 rfl ?_
      obtain ⟨x_5, ⟨N_5, f_5, e1_5, e2_5, e3_5⟩, h⟩ := h
      refine y_ialdx dX13_value_201 e1_5 e2_5 e3_5 ?_
      refine y_if_lt (t := 209) dX13_value_202 (by decide) (fun q => ?_) (fun q => ?_)
      · replace h := h.1 q
        refine y_iconst (v := 0) dX13_value_209 rfl ?_
        have hb := h.1
        replace h := h.2
        exact y_iret dX13_value_210 rfl hb.1 hb.2 ⟨_, rfl, h⟩
      · replace h := h.2 q
        refine y_iconst (v := 1) dX13_value_205 rfl ?_
        refine y_goto (t := 210) dX13_value_206 (by decide) ?_
        have hb := h.1
        replace h := h.2
        exact y_iret dX13_value_210 rfl hb.1 hb.2 ⟨_, rfl, h⟩
    | 21, hi, hx =>
      have q3 : (x_1 : Int32) = 21 := eToI (hx.trans (by decide))
      replace h := h.2.2.2.2.2.2.2.2.2.2.2.2.2.2.2.2.2.2.2.2.2.1 q3
      refine y_tableAt (tg := 211) dX13_value_4 q3 (by decide) (by decide) rfl (by decide) ?_
      refine y_aload_n 1 dX13_value_211 rfl rfl ?_
      refine y_aload_n 1 dX13_value_212 rfl rfl ?_
      have hb := h.1
      replace h := h.2
      obtain ⟨⟨fs_2, hi⟩, h⟩ := h
      refine y_callV yXn (b' := (1, 1, 49)) (K' := kX12_board) (As := []) (S := [.ref a1]) dX13_value_213 mX12_board lMX13_113 clX12 rfl hi rfl ⟨(by decide), hb⟩ (Nat.le_of_ble_eq_true rfl) h (fun v_ M_2 H_2 q_ => ?_) rfl
      obtain ⟨r_2, rfl, h⟩ := q_
      refine y_aload_n 0 dX13_value_216 rfl rfl ?_
      obtain ⟨x_3, ⟨fs_3, e1_3, e2_3⟩, h⟩ := h
      refine y_get (k := 1) dX13_value_217 clX13 lFX13_13 (by decide) e1_3 e2_3 ?_
      have hb := h.1
      replace h := h.2
      obtain ⟨⟨fs_4, hi⟩, h⟩ := h
      obtain ⟨r_4, hc, h⟩ := h
      refine y_callV yXn (b' := (4, 0, 0)) (K' := kX12_ways) (As := [.ref r_2, .int x_3]) (S := []) dX13_value_220 mX12_ways lMX13_116 clX12 rfl hi rfl ⟨(by decide), hb⟩ (Nat.le_of_ble_eq_true rfl) hc (fun v_ M_ H_ q_ => ?_) rfl
      obtain ⟨rfl, rfl, rfl⟩ := q_
      refine y_if_le (t := 230) dX13_value_223 (by decide) (fun q => ?_) (fun q => ?_)
      · replace h := h.1 q
        refine y_iconst (v := 0) dX13_value_230 rfl ?_
        have hb := h.1
        replace h := h.2
        exact y_iret dX13_value_231 rfl hb.1 hb.2 ⟨_, rfl, h⟩
      · replace h := h.2 q
        refine y_iconst (v := 1) dX13_value_226 rfl ?_
        refine y_goto (t := 231) dX13_value_227 (by decide) ?_
        have hb := h.1
        replace h := h.2
        exact y_iret dX13_value_231 rfl hb.1 hb.2 ⟨_, rfl, h⟩
    | 22, hi, hx =>
      have q3 : (x_1 : Int32) = 22 := eToI (hx.trans (by decide))
      replace h := h.2.2.2.2.2.2.2.2.2.2.2.2.2.2.2.2.2.2.2.2.2.2 q3
      refine y_tableAt (tg := 232) dX13_value_4 q3 (by decide) (by decide) rfl (by decide) ?_
      refine y_iconst (v := 1) dX13_value_232 rfl ?_
      refine y_aload_n 0 dX13_value_233 rfl rfl ?_
      obtain ⟨b_2, ⟨fs_2, e1_2, e2_2⟩, h⟩ := h
      refine y_get (k := 2) dX13_value_234 clX13 lFX13_16 (by decide) e1_2 e2_2 ?_
      refine y_aload_n 1 dX13_value_237 rfl rfl ?_
      have hb := h.1
      replace h := h.2
      obtain ⟨⟨fs_3, hi⟩, h⟩ := h
      obtain ⟨r_3, hc, h⟩ := h
      refine y_callV yXn (b' := (1, 0, 0)) (K' := kX13_value) (As := [.ref a1]) (S := [.int 1]) dX13_value_238 mX13_value lMX13_120 clX13 rfl hi rfl ⟨(by decide), hb⟩ (Nat.le_of_ble_eq_true rfl) hc (fun v_ M_ H_ q_ => ?_) rfl
      obtain ⟨rfl, rfl, rfl⟩ := q_
      refine y_isub dX13_value_241 ?_
      have hb := h.1
      replace h := h.2
      exact y_iret dX13_value_242 rfl hb.1 hb.2 ⟨_, rfl, h⟩
    | i + 23, hi, hx => exact absurd hi (by omega)
set_option maxHeartbeats 4000000 in
set_option maxRecDepth 100000 in
theorem B_X13_value_1_243 (G : eG) (ca sl : Nat) (M : eM) (H : yH) (F : Int32 → eM → yH → Prop) (a0 : Nat) (a1 : Nat)
    (h : ∃ (x_1 : Int32), yG H a0 11 0 (.int x_1) ∧ (∃ (b_2 : Nat), yG H a0 11 2 (.ref b_2) ∧ ((ca + 2 ≤ 4 ∧ sl + 54 ≤ 108) ∧ yIs H b_2 11 ∧ ∃ r_3 : Int32, yRd G (6, 2, 54) kX13_value [.ref b_2, .ref a1] M H (.int r_3) ∧ (∃ (b_4 : Nat), yG H a0 11 3 (.ref b_4) ∧ (((ca + 2) + 2 ≤ 4 ∧ (sl + 54) + 54 ≤ 108) ∧ yIs H b_4 11 ∧ ∃ r_5 : Int32, yRd G (6, 2, 54) kX13_value [.ref b_4, .ref a1] M H (.int r_5) ∧ (((ca + 2 + 2) + 0 ≤ 4 ∧ (sl + 54 + 54) + 0 ≤ 108) ∧ ∃ r_6 : Int32, yRd G (1, 0, 0) kX13_both [.int x_1, .int r_3, .int r_5] M H (.int r_6) ∧ ((ca + 2 + 2 ≤ 4 ∧ sl + 54 + 54 ≤ 108) ∧ F r_6 M H))))))) :
    Yx (yX "value") (yZ G 4 108 (yFI F)) G (eR (7, 4, 108)) kX13_value 243 [(0, .ref a0), (1, .ref a1)] [] M H ca sl := by
  refine y_aload_n 0 dX13_value_243 rfl rfl ?_
  obtain ⟨x_1, ⟨fs_1, e1_1, e2_1⟩, h⟩ := h
  refine y_get (k := 0) dX13_value_244 clX13 lFX13_7 (by decide) e1_1 e2_1 ?_
  refine y_aload_n 0 dX13_value_247 rfl rfl ?_
  obtain ⟨b_2, ⟨fs_2, e1_2, e2_2⟩, h⟩ := h
  refine y_get (k := 2) dX13_value_248 clX13 lFX13_16 (by decide) e1_2 e2_2 ?_
  refine y_aload_n 1 dX13_value_251 rfl rfl ?_
  have hb := h.1
  replace h := h.2
  obtain ⟨⟨fs_3, hi⟩, h⟩ := h
  obtain ⟨r_3, hc, h⟩ := h
  refine y_callV yXn (b' := (6, 2, 54)) (K' := kX13_value) (As := [.ref a1]) (S := [.int x_1]) dX13_value_252 mX13_value lMX13_120 clX13 rfl hi rfl ⟨(by decide), hb⟩ (Nat.le_of_ble_eq_true rfl) hc (fun v_ M_ H_ q_ => ?_) rfl
  obtain ⟨rfl, rfl, rfl⟩ := q_
  refine y_aload_n 0 dX13_value_255 rfl rfl ?_
  obtain ⟨b_4, ⟨fs_4, e1_4, e2_4⟩, h⟩ := h
  refine y_get (k := 3) dX13_value_256 clX13 lFX13_20 (by decide) e1_4 e2_4 ?_
  refine y_aload_n 1 dX13_value_259 rfl rfl ?_
  have hb := h.1
  replace h := h.2
  obtain ⟨⟨fs_5, hi⟩, h⟩ := h
  obtain ⟨r_5, hc, h⟩ := h
  refine y_callV yXn (b' := (6, 2, 54)) (K' := kX13_value) (As := [.ref a1]) (S := [.int r_3, .int x_1]) dX13_value_260 mX13_value lMX13_120 clX13 rfl hi rfl ⟨(by decide), hb⟩ (Nat.le_of_ble_eq_true rfl) hc (fun v_ M_ H_ q_ => ?_) rfl
  obtain ⟨rfl, rfl, rfl⟩ := q_
  have hb := h.1
  replace h := h.2
  obtain ⟨r_6, hc, h⟩ := h
  refine y_callS yXn (b' := (1, 0, 0)) (K' := kX13_both) (As := [.int x_1, .int r_3, .int r_5]) (S := []) dX13_value_263 mX13_both lMX13_128 rfl ⟨(by decide), hb⟩ (Nat.le_of_ble_eq_true rfl) hc (fun v_ M_ H_ q_ => ?_) rfl
  obtain ⟨rfl, rfl, rfl⟩ := q_
  have hb := h.1
  replace h := h.2
  exact y_iret dX13_value_266 rfl hb.1 hb.2 ⟨_, rfl, h⟩
set_option maxHeartbeats 4000000 in
set_option maxRecDepth 100000 in
theorem C_X13_value_1 (G : eG) (M : eM) (H : yH) (F : Int32 → eM → yH → Prop) (a0 : Nat) (a1 : Nat)
    (h : ∃ (x_1 : Int32), yG H a0 11 0 (.int x_1) ∧ ((((x_1 : Int32).toInt < 0 ∨ 22 < (x_1 : Int32).toInt) → Yx (yX "value") (yZ G 4 108 (yFI F)) G (eR (7, 4, 108)) kX13_value 243 [(0, .ref a0), (1, .ref a1)] [] M H 0 0) ∧ ((x_1 : Int32) = 0 → ∃ (x_2 : Int32), yG H a0 11 1 (.int x_2) ∧ ((0 ≤ 4 ∧ 0 ≤ 108) ∧ F x_2 M H)) ∧ ((x_1 : Int32) = 1 → ∃ (x_2 : Int32), yG H a1 10 3 (.int x_2) ∧ ((0 ≤ 4 ∧ 0 ≤ 108) ∧ F x_2 M H)) ∧ ((x_1 : Int32) = 2 → (0 + 2 ≤ 4 ∧ 0 + 54 ≤ 108) ∧ yIs H a1 10 ∧ yCal G (3, 2, 54) kX12_counts [.ref a1] M H (yFR (fun (r_2 : Nat) (M_2 : eM) (H_2 : yH) => ∃ (x_3 : Int32), yEI G H_2 r_2 4 x_3 ∧ ((0 + 2 ≤ 4 ∧ 0 + 54 ≤ 108) ∧ F x_3 M_2 H_2)))) ∧ ((x_1 : Int32) = 3 → (0 + 2 ≤ 4 ∧ 0 + 54 ≤ 108) ∧ yIs H a1 10 ∧ yCal G (3, 2, 54) kX12_counts [.ref a1] M H (yFR (fun (r_2 : Nat) (M_2 : eM) (H_2 : yH) => ∃ (x_3 : Int32), yEI G H_2 r_2 0 x_3 ∧ ((0 + 2 ≤ 4 ∧ 0 + 54 ≤ 108) ∧ F x_3 M_2 H_2)))) ∧ ((x_1 : Int32) = 4 → (0 + 2 ≤ 4 ∧ 0 + 54 ≤ 108) ∧ yIs H a1 10 ∧ yCal G (3, 2, 54) kX12_counts [.ref a1] M H (yFR (fun (r_2 : Nat) (M_2 : eM) (H_2 : yH) => ∃ (x_3 : Int32), yEI G H_2 r_2 3 x_3 ∧ ((0 + 2 ≤ 4 ∧ 0 + 54 ≤ 108) ∧ F x_3 M_2 H_2)))) ∧ ((x_1 : Int32) = 5 → (0 + 2 ≤ 4 ∧ 0 + 54 ≤ 108) ∧ yIs H a1 10 ∧ yCal G (3, 2, 54) kX12_counts [.ref a1] M H (yFR (fun (r_2 : Nat) (M_2 : eM) (H_2 : yH) => ∃ (x_3 : Int32), yEI G H_2 r_2 2 x_3 ∧ ((0 + 2 ≤ 4 ∧ 0 + 54 ≤ 108) ∧ F x_3 M_2 H_2)))) ∧ ((x_1 : Int32) = 6 → ∃ (x_2 : Int32), yG H a1 10 0 (.int x_2) ∧ (∃ (x_3 : Int32), yG H a1 10 1 (.int x_3) ∧ ((0 + 2 ≤ 4 ∧ 0 + 54 ≤ 108) ∧ yIs H a1 10 ∧ yCal G (3, 2, 54) kX12_counts [.ref a1] M H (yFR (fun (r_4 : Nat) (M_4 : eM) (H_4 : yH) => ∃ (x_5 : Int32), yEI G H_4 r_4 4 x_5 ∧ ((0 + 2 ≤ 4 ∧ 0 + 54 ≤ 108) ∧ F ((x_2 * x_3) - x_5) M_4 H_4)))))) ∧ ((x_1 : Int32) = 7 → (0 + 1 ≤ 4 ∧ 0 + 49 ≤ 108) ∧ yIs H a1 10 ∧ yCal G (1, 1, 49) kX12_board [.ref a1] M H (yFR (fun (r_2 : Nat) (M_2 : eM) (H_2 : yH) => ∃ (x_3 : Int32), yG H_2 a0 11 1 (.int x_3) ∧ (((0 + 1) + 0 ≤ 4 ∧ (0 + 49) + 0 ≤ 108) ∧ yIs H_2 a1 10 ∧ ∃ r_4 : Int32, yRd G (4, 0, 0) kX12_ways [.ref a1, .ref r_2, .int x_3] M_2 H_2 (.int r_4) ∧ ((0 + 1 ≤ 4 ∧ 0 + 49 ≤ 108) ∧ F r_4 M_2 H_2))))) ∧ ((x_1 : Int32) = 8 → ∃ (b_2 : Nat), yG H a0 11 2 (.ref b_2) ∧ ((0 + 2 ≤ 4 ∧ 0 + 54 ≤ 108) ∧ yIs H b_2 11 ∧ ∃ r_3 : Int32, yRd G (6, 2, 54) kX13_value [.ref b_2, .ref a1] M H (.int r_3) ∧ ((0 + 2 ≤ 4 ∧ 0 + 54 ≤ 108) ∧ F ((0 : Int32) - r_3) M H))) ∧ ((x_1 : Int32) = 9 → Yx (yX "value") (yZ G 4 108 (yFI F)) G (eR (7, 4, 108)) kX13_value 243 [(0, .ref a0), (1, .ref a1)] [] M H 0 0) ∧ ((x_1 : Int32) = 10 → Yx (yX "value") (yZ G 4 108 (yFI F)) G (eR (7, 4, 108)) kX13_value 243 [(0, .ref a0), (1, .ref a1)] [] M H 0 0) ∧ ((x_1 : Int32) = 11 → Yx (yX "value") (yZ G 4 108 (yFI F)) G (eR (7, 4, 108)) kX13_value 243 [(0, .ref a0), (1, .ref a1)] [] M H 0 0) ∧ ((x_1 : Int32) = 12 → Yx (yX "value") (yZ G 4 108 (yFI F)) G (eR (7, 4, 108)) kX13_value 243 [(0, .ref a0), (1, .ref a1)] [] M H 0 0) ∧ ((x_1 : Int32) = 13 → Yx (yX "value") (yZ G 4 108 (yFI F)) G (eR (7, 4, 108)) kX13_value 243 [(0, .ref a0), (1, .ref a1)] [] M H 0 0) ∧ ((x_1 : Int32) = 14 → Yx (yX "value") (yZ G 4 108 (yFI F)) G (eR (7, 4, 108)) kX13_value 243 [(0, .ref a0), (1, .ref a1)] [] M H 0 0) ∧ ((x_1 : Int32) = 15 → Yx (yX "value") (yZ G 4 108 (yFI F)) G (eR (7, 4, 108)) kX13_value 243 [(0, .ref a0), (1, .ref a1)] [] M H 0 0) ∧ ((x_1 : Int32) = 16 → Yx (yX "value") (yZ G 4 108 (yFI F)) G (eR (7, 4, 108)) kX13_value 243 [(0, .ref a0), (1, .ref a1)] [] M H 0 0) ∧ ((x_1 : Int32) = 17 → Yx (yX "value") (yZ G 4 108 (yFI F)) G (eR (7, 4, 108)) kX13_value 243 [(0, .ref a0), (1, .ref a1)] [] M H 0 0) ∧ ((x_1 : Int32) = 18 → Yx (yX "value") (yZ G 4 108 (yFI F)) G (eR (7, 4, 108)) kX13_value 243 [(0, .ref a0), (1, .ref a1)] [] M H 0 0) ∧ ((x_1 : Int32) = 19 → Yx (yX "value") (yZ G 4 108 (yFI F)) G (eR (7, 4, 108)) kX13_value 243 [(0, .ref a0), (1, .ref a1)] [] M H 0 0) ∧ ((x_1 : Int32) = 20 → ∃ (b_2 : Nat), yG H a1 10 2 (.ref b_2) ∧ (∃ (x_3 : Int32), yG H a0 11 1 (.int x_3) ∧ (∃ (b_4 : Nat), yER G 5 H b_2 x_3 b_4 ∧ (∃ (x_5 : Int32), yEI G H b_4 3 x_5 ∧ (((x_5 < (0 : Int32)) → (0 ≤ 4 ∧ 0 ≤ 108) ∧ F 0 M H) ∧ ((¬ x_5 < (0 : Int32)) → (0 ≤ 4 ∧ 0 ≤ 108) ∧ F 1 M H)))))) ∧ ((x_1 : Int32) = 21 → (0 + 1 ≤ 4 ∧ 0 + 49 ≤ 108) ∧ yIs H a1 10 ∧ yCal G (1, 1, 49) kX12_board [.ref a1] M H (yFR (fun (r_2 : Nat) (M_2 : eM) (H_2 : yH) => ∃ (x_3 : Int32), yG H_2 a0 11 1 (.int x_3) ∧ (((0 + 1) + 0 ≤ 4 ∧ (0 + 49) + 0 ≤ 108) ∧ yIs H_2 a1 10 ∧ ∃ r_4 : Int32, yRd G (4, 0, 0) kX12_ways [.ref a1, .ref r_2, .int x_3] M_2 H_2 (.int r_4) ∧ (((r_4 ≤ (0 : Int32)) → (0 + 1 ≤ 4 ∧ 0 + 49 ≤ 108) ∧ F 0 M_2 H_2) ∧ ((¬ r_4 ≤ (0 : Int32)) → (0 + 1 ≤ 4 ∧ 0 + 49 ≤ 108) ∧ F 1 M_2 H_2)))))) ∧ ((x_1 : Int32) = 22 → ∃ (b_2 : Nat), yG H a0 11 2 (.ref b_2) ∧ ((0 + 2 ≤ 4 ∧ 0 + 54 ≤ 108) ∧ yIs H b_2 11 ∧ ∃ r_3 : Int32, yRd G (6, 2, 54) kX13_value [.ref b_2, .ref a1] M H (.int r_3) ∧ ((0 + 2 ≤ 4 ∧ 0 + 54 ≤ 108) ∧ F ((1 : Int32) - r_3) M H))))) :
    yCal G (7, 4, 108) kX13_value [.ref a0, .ref a1] M H (yFI F) := by
  refine yCal.of (by decide +kernel) rfl (Nat.le_of_ble_eq_true rfl) ?_
  show Yx (yX "value") (yZ G 4 108 (yFI F)) G (eR (7, 4, 108)) kX13_value 0 [(0, .ref a0), (1, .ref a1)] [] M H 0 0
  refine y_aload_n 0 dX13_value_0 rfl rfl ?_
  obtain ⟨x_1, ⟨fs_1, e1_1, e2_1⟩, h⟩ := h
  refine y_get (k := 0) dX13_value_1 clX13 lFX13_7 (by decide) e1_1 e2_1 ?_
  by_cases q : (x_1 : Int32).toInt < 0 ∨ 22 < (x_1 : Int32).toInt
  · replace h := h.1 q
    refine y_tableOut (tg := 243) dX13_value_4 q (by decide) ?_
    exact h
  · replace h := h.2
    refine eTabCases (N := 23) q (by decide) (fun i9 hi hx => ?_)
    match i9, hi, hx with
    | 0, hi, hx =>
      have q3 : (x_1 : Int32) = 0 := eToI (hx.trans (by decide))
      replace h := h.1 q3
      refine y_tableAt (tg := 112) dX13_value_4 q3 (by decide) (by decide) rfl (by decide) ?_
      refine y_aload_n 0 dX13_value_112 rfl rfl ?_
      obtain ⟨x_2, ⟨fs_2, e1_2, e2_2⟩, h⟩ := h
      refine y_get (k := 1) dX13_value_113 clX13 lFX13_13 (by decide) e1_2 e2_2 ?_
      have hb := h.1
      replace h := h.2
      exact y_iret dX13_value_116 rfl hb.1 hb.2 ⟨_, rfl, h⟩
    | 1, hi, hx =>
      have q3 : (x_1 : Int32) = 1 := eToI (hx.trans (by decide))
      replace h := h.2.1 q3
      refine y_tableAt (tg := 117) dX13_value_4 q3 (by decide) (by decide) rfl (by decide) ?_
      refine y_aload_n 1 dX13_value_117 rfl rfl ?_
      obtain ⟨x_2, ⟨fs_2, e1_2, e2_2⟩, h⟩ := h
      refine y_get (k := 3) dX13_value_118 clX12 lFX13_98 (by decide) e1_2 e2_2 ?_
      have hb := h.1
      replace h := h.2
      exact y_iret dX13_value_121 rfl hb.1 hb.2 ⟨_, rfl, h⟩
    | 2, hi, hx =>
      have q3 : (x_1 : Int32) = 2 := eToI (hx.trans (by decide))
      replace h := h.2.2.1 q3
      refine y_tableAt (tg := 122) dX13_value_4 q3 (by decide) (by decide) rfl (by decide) ?_
      refine y_aload_n 1 dX13_value_122 rfl rfl ?_
      have hb := h.1
      replace h := h.2
      obtain ⟨⟨fs_2, hi⟩, h⟩ := h
      refine y_callV yXn (b' := (3, 2, 54)) (K' := kX12_counts) (As := []) (S := []) dX13_value_123 mX12_counts lMX13_103 clX12 rfl hi rfl ⟨(by decide), hb⟩ (Nat.le_of_ble_eq_true rfl) h (fun v_ M_2 H_2 q_ => ?_) rfl
      obtain ⟨r_2, rfl, h⟩ := q_
      refine y_iconst (v := 4) dX13_value_126 rfl ?_
      obtain ⟨x_3, ⟨N_3, f_3, e1_3, e2_3, e3_3⟩, h⟩ := h
      refine y_ialdx dX13_value_127 e1_3 e2_3 e3_3 ?_
      have hb := h.1
      replace h := h.2
      exact y_iret dX13_value_128 rfl hb.1 hb.2 ⟨_, rfl, h⟩
    | 3, hi, hx =>
      have q3 : (x_1 : Int32) = 3 := eToI (hx.trans (by decide))
      replace h := h.2.2.2.1 q3
      refine y_tableAt (tg := 129) dX13_value_4 q3 (by decide) (by decide) rfl (by decide) ?_
      refine y_aload_n 1 dX13_value_129 rfl rfl ?_
      have hb := h.1
      replace h := h.2
      obtain ⟨⟨fs_2, hi⟩, h⟩ := h
      refine y_callV yXn (b' := (3, 2, 54)) (K' := kX12_counts) (As := []) (S := []) dX13_value_130 mX12_counts lMX13_103 clX12 rfl hi rfl ⟨(by decide), hb⟩ (Nat.le_of_ble_eq_true rfl) h (fun v_ M_2 H_2 q_ => ?_) rfl
      obtain ⟨r_2, rfl, h⟩ := q_
      refine y_iconst (v := 0) dX13_value_133 rfl ?_
      obtain ⟨x_3, ⟨N_3, f_3, e1_3, e2_3, e3_3⟩, h⟩ := h
      refine y_ialdx dX13_value_134 e1_3 e2_3 e3_3 ?_
      have hb := h.1
      replace h := h.2
      exact y_iret dX13_value_135 rfl hb.1 hb.2 ⟨_, rfl, h⟩
    | 4, hi, hx =>
      have q3 : (x_1 : Int32) = 4 := eToI (hx.trans (by decide))
      replace h := h.2.2.2.2.1 q3
      refine y_tableAt (tg := 136) dX13_value_4 q3 (by decide) (by decide) rfl (by decide) ?_
      refine y_aload_n 1 dX13_value_136 rfl rfl ?_
      have hb := h.1
      replace h := h.2
      obtain ⟨⟨fs_2, hi⟩, h⟩ := h
      refine y_callV yXn (b' := (3, 2, 54)) (K' := kX12_counts) (As := []) (S := []) dX13_value_137 mX12_counts lMX13_103 clX12 rfl hi rfl ⟨(by decide), hb⟩ (Nat.le_of_ble_eq_true rfl) h (fun v_ M_2 H_2 q_ => ?_) rfl
      obtain ⟨r_2, rfl, h⟩ := q_
      refine y_iconst (v := 3) dX13_value_140 rfl ?_
      obtain ⟨x_3, ⟨N_3, f_3, e1_3, e2_3, e3_3⟩, h⟩ := h
      refine y_ialdx dX13_value_141 e1_3 e2_3 e3_3 ?_
      have hb := h.1
      replace h := h.2
      exact y_iret dX13_value_142 rfl hb.1 hb.2 ⟨_, rfl, h⟩
    | 5, hi, hx =>
      have q3 : (x_1 : Int32) = 5 := eToI (hx.trans (by decide))
      replace h := h.2.2.2.2.2.1 q3
      refine y_tableAt (tg := 143) dX13_value_4 q3 (by decide) (by decide) rfl (by decide) ?_
      refine y_aload_n 1 dX13_value_143 rfl rfl ?_
      have hb := h.1
      replace h := h.2
      obtain ⟨⟨fs_2, hi⟩, h⟩ := h
      refine y_callV yXn (b' := (3, 2, 54)) (K' := kX12_counts) (As := []) (S := []) dX13_value_144 mX12_counts lMX13_103 clX12 rfl hi rfl ⟨(by decide), hb⟩ (Nat.le_of_ble_eq_true rfl) h (fun v_ M_2 H_2 q_ => ?_) rfl
      obtain ⟨r_2, rfl, h⟩ := q_
      refine y_iconst (v := 2) dX13_value_147 rfl ?_
      obtain ⟨x_3, ⟨N_3, f_3, e1_3, e2_3, e3_3⟩, h⟩ := h
      refine y_ialdx dX13_value_148 e1_3 e2_3 e3_3 ?_
      have hb := h.1
      replace h := h.2
      exact y_iret dX13_value_149 rfl hb.1 hb.2 ⟨_, rfl, h⟩
    | 6, hi, hx =>
      have q3 : (x_1 : Int32) = 6 := eToI (hx.trans (by decide))
      replace h := h.2.2.2.2.2.2.1 q3
      refine y_tableAt (tg := 150) dX13_value_4 q3 (by decide) (by decide) rfl (by decide) ?_
      refine y_aload_n 1 dX13_value_150 rfl rfl ?_
      obtain ⟨x_2, ⟨fs_2, e1_2, e2_2⟩, h⟩ := h
      refine y_get (k := 0) dX13_value_151 clX12 lFX13_107 (by decide) e1_2 e2_2 ?_
      refine y_aload_n 1 dX13_value_154 rfl rfl ?_
      obtain ⟨x_3, ⟨fs_3, e1_3, e2_3⟩, h⟩ := h
      refine y_get (k := 1) dX13_value_155 clX12 lFX13_110 (by decide) e1_3 e2_3 ?_
      refine y_imul dX13_value_158 ?_
      refine y_aload_n 1 dX13_value_159 rfl rfl ?_
      have hb := h.1
      replace h := h.2
      obtain ⟨⟨fs_4, hi⟩, h⟩ := h
      refine y_callV yXn (b' := (3, 2, 54)) (K' := kX12_counts) (As := []) (S := [.int (x_2 * x_3)]) dX13_value_160 mX12_counts lMX13_103 clX12 rfl hi rfl ⟨(by decide), hb⟩ (Nat.le_of_ble_eq_true rfl) h (fun v_ M_4 H_4 q_ => ?_) rfl
      obtain ⟨r_4, rfl, h⟩ := q_
      refine y_iconst (v := 4) dX13_value_163 rfl ?_
      obtain ⟨x_5, ⟨N_5, f_5, e1_5, e2_5, e3_5⟩, h⟩ := h
      refine y_ialdx dX13_value_164 e1_5 e2_5 e3_5 ?_
      refine y_isub dX13_value_165 ?_
      have hb := h.1
      replace h := h.2
      exact y_iret dX13_value_166 rfl hb.1 hb.2 ⟨_, rfl, h⟩
    | 7, hi, hx =>
      have q3 : (x_1 : Int32) = 7 := eToI (hx.trans (by decide))
      replace h := h.2.2.2.2.2.2.2.1 q3
      refine y_tableAt (tg := 167) dX13_value_4 q3 (by decide) (by decide) rfl (by decide) ?_
      refine y_aload_n 1 dX13_value_167 rfl rfl ?_
      refine y_aload_n 1 dX13_value_168 rfl rfl ?_
      have hb := h.1
      replace h := h.2
      obtain ⟨⟨fs_2, hi⟩, h⟩ := h
      refine y_callV yXn (b' := (1, 1, 49)) (K' := kX12_board) (As := []) (S := [.ref a1]) dX13_value_169 mX12_board lMX13_113 clX12 rfl hi rfl ⟨(by decide), hb⟩ (Nat.le_of_ble_eq_true rfl) h (fun v_ M_2 H_2 q_ => ?_) rfl
      obtain ⟨r_2, rfl, h⟩ := q_
      refine y_aload_n 0 dX13_value_172 rfl rfl ?_
      obtain ⟨x_3, ⟨fs_3, e1_3, e2_3⟩, h⟩ := h
      refine y_get (k := 1) dX13_value_173 clX13 lFX13_13 (by decide) e1_3 e2_3 ?_
      have hb := h.1
      replace h := h.2
      obtain ⟨⟨fs_4, hi⟩, h⟩ := h
      obtain ⟨r_4, hc, h⟩ := h
      refine y_callV yXn (b' := (4, 0, 0)) (K' := kX12_ways) (As := [.ref r_2, .int x_3]) (S := []) dX13_value_176 mX12_ways lMX13_116 clX12 rfl hi rfl ⟨(by decide), hb⟩ (Nat.le_of_ble_eq_true rfl) hc (fun v_ M_ H_ q_ => ?_) rfl
      obtain ⟨rfl, rfl, rfl⟩ := q_
      have hb := h.1
      replace h := h.2
      exact y_iret dX13_value_179 rfl hb.1 hb.2 ⟨_, rfl, h⟩
    | 8, hi, hx =>
      have q3 : (x_1 : Int32) = 8 := eToI (hx.trans (by decide))
      replace h := h.2.2.2.2.2.2.2.2.1 q3
      refine y_tableAt (tg := 180) dX13_value_4 q3 (by decide) (by decide) rfl (by decide) ?_
      refine y_iconst (v := 0) dX13_value_180 rfl ?_
      refine y_aload_n 0 dX13_value_181 rfl rfl ?_
      obtain ⟨b_2, ⟨fs_2, e1_2, e2_2⟩, h⟩ := h
      refine y_get (k := 2) dX13_value_182 clX13 lFX13_16 (by decide) e1_2 e2_2 ?_
      refine y_aload_n 1 dX13_value_185 rfl rfl ?_
      have hb := h.1
      replace h := h.2
      obtain ⟨⟨fs_3, hi⟩, h⟩ := h
      obtain ⟨r_3, hc, h⟩ := h
      refine y_callV yXn (b' := (6, 2, 54)) (K' := kX13_value) (As := [.ref a1]) (S := [.int 0]) dX13_value_186 mX13_value lMX13_120 clX13 rfl hi rfl ⟨(by decide), hb⟩ (Nat.le_of_ble_eq_true rfl) hc (fun v_ M_ H_ q_ => ?_) rfl
      obtain ⟨rfl, rfl, rfl⟩ := q_
      refine y_isub dX13_value_189 ?_
      have hb := h.1
      replace h := h.2
      exact y_iret dX13_value_190 rfl hb.1 hb.2 ⟨_, rfl, h⟩
    | 9, hi, hx =>
      have q3 : (x_1 : Int32) = 9 := eToI (hx.trans (by decide))
      replace h := h.2.2.2.2.2.2.2.2.2.1 q3
      refine y_tableAt (tg := 243) dX13_value_4 q3 (by decide) (by decide) rfl (by decide) ?_
      exact h
    | 10, hi, hx =>
      have q3 : (x_1 : Int32) = 10 := eToI (hx.trans (by decide))
      replace h := h.2.2.2.2.2.2.2.2.2.2.1 q3
      refine y_tableAt (tg := 243) dX13_value_4 q3 (by decide) (by decide) rfl (by decide) ?_
      exact h
    | 11, hi, hx =>
      have q3 : (x_1 : Int32) = 11 := eToI (hx.trans (by decide))
      replace h := h.2.2.2.2.2.2.2.2.2.2.2.1 q3
      refine y_tableAt (tg := 243) dX13_value_4 q3 (by decide) (by decide) rfl (by decide) ?_
      exact h
    | 12, hi, hx =>
      have q3 : (x_1 : Int32) = 12 := eToI (hx.trans (by decide))
      replace h := h.2.2.2.2.2.2.2.2.2.2.2.2.1 q3
      refine y_tableAt (tg := 243) dX13_value_4 q3 (by decide) (by decide) rfl (by decide) ?_
      exact h
    | 13, hi, hx =>
      have q3 : (x_1 : Int32) = 13 := eToI (hx.trans (by decide))
      replace h := h.2.2.2.2.2.2.2.2.2.2.2.2.2.1 q3
      refine y_tableAt (tg := 243) dX13_value_4 q3 (by decide) (by decide) rfl (by decide) ?_
      exact h
    | 14, hi, hx =>
      have q3 : (x_1 : Int32) = 14 := eToI (hx.trans (by decide))
      replace h := h.2.2.2.2.2.2.2.2.2.2.2.2.2.2.1 q3
      refine y_tableAt (tg := 243) dX13_value_4 q3 (by decide) (by decide) rfl (by decide) ?_
      exact h
    | 15, hi, hx =>
      have q3 : (x_1 : Int32) = 15 := eToI (hx.trans (by decide))
      replace h := h.2.2.2.2.2.2.2.2.2.2.2.2.2.2.2.1 q3
      refine y_tableAt (tg := 243) dX13_value_4 q3 (by decide) (by decide) rfl (by decide) ?_
      exact h
    | 16, hi, hx =>
      have q3 : (x_1 : Int32) = 16 := eToI (hx.trans (by decide))
      replace h := h.2.2.2.2.2.2.2.2.2.2.2.2.2.2.2.2.1 q3
      refine y_tableAt (tg := 243) dX13_value_4 q3 (by decide) (by decide) rfl (by decide) ?_
      exact h
    | 17, hi, hx =>
      have q3 : (x_1 : Int32) = 17 := eToI (hx.trans (by decide))
      replace h := h.2.2.2.2.2.2.2.2.2.2.2.2.2.2.2.2.2.1 q3
      refine y_tableAt (tg := 243) dX13_value_4 q3 (by decide) (by decide) rfl (by decide) ?_
      exact h
    | 18, hi, hx =>
      have q3 : (x_1 : Int32) = 18 := eToI (hx.trans (by decide))
      replace h := h.2.2.2.2.2.2.2.2.2.2.2.2.2.2.2.2.2.2.1 q3
      refine y_tableAt (tg := 243) dX13_value_4 q3 (by decide) (by decide) rfl (by decide) ?_
      exact h
    | 19, hi, hx =>
      have q3 : (x_1 : Int32) = 19 := eToI (hx.trans (by decide))
      replace h := h.2.2.2.2.2.2.2.2.2.2.2.2.2.2.2.2.2.2.2.1 q3
      refine y_tableAt (tg := 243) dX13_value_4 q3 (by decide) (by decide) rfl (by decide) ?_
      exact h
    | 20, hi, hx =>
      have q3 : (x_1 : Int32) = 20 := eToI (hx.trans (by decide))
      replace h := h.2.2.2.2.2.2.2.2.2.2.2.2.2.2.2.2.2.2.2.2.1 q3
      refine y_tableAt (tg := 191) dX13_value_4 q3 (by decide) (by decide) rfl (by decide) ?_
      refine y_aload_n 1 dX13_value_191 rfl rfl ?_
      obtain ⟨b_2, ⟨fs_2, e1_2, e2_2⟩, h⟩ := h
      refine y_get (k := 2) dX13_value_192 clX12 lFX13_124 (by decide) e1_2 e2_2 ?_
      refine y_aload_n 0 dX13_value_195 rfl rfl ?_
      obtain ⟨x_3, ⟨fs_3, e1_3, e2_3⟩, h⟩ := h
      refine y_get (k := 1) dX13_value_196 clX13 lFX13_13 (by decide) e1_3 e2_3 ?_
      obtain ⟨b_4, ⟨N_4, f_4, e1_4, e2_4, e3_4⟩, h⟩ := h
      refine y_aald (t := 5) (ty := .array .int) dX13_value_199 rfl rfl e1_4 e2_4 e3_4 ?_
      refine y_iconst (v := 3) dX13_value_200 rfl ?_
      obtain ⟨x_5, ⟨N_5, f_5, e1_5, e2_5, e3_5⟩, h⟩ := h
      refine y_ialdx dX13_value_201 e1_5 e2_5 e3_5 ?_
      refine y_if_lt (t := 209) dX13_value_202 (by decide) (fun q => ?_) (fun q => ?_)
      · replace h := h.1 q
        refine y_iconst (v := 0) dX13_value_209 rfl ?_
        have hb := h.1
        replace h := h.2
        exact y_iret dX13_value_210 rfl hb.1 hb.2 ⟨_, rfl, h⟩
      · replace h := h.2 q
        refine y_iconst (v := 1) dX13_value_205 rfl ?_
        refine y_goto (t := 210) dX13_value_206 (by decide) ?_
        have hb := h.1
        replace h := h.2
        exact y_iret dX13_value_210 rfl hb.1 hb.2 ⟨_, rfl, h⟩
    | 21, hi, hx =>
      have q3 : (x_1 : Int32) = 21 := eToI (hx.trans (by decide))
      replace h := h.2.2.2.2.2.2.2.2.2.2.2.2.2.2.2.2.2.2.2.2.2.1 q3
      refine y_tableAt (tg := 211) dX13_value_4 q3 (by decide) (by decide) rfl (by decide) ?_
      refine y_aload_n 1 dX13_value_211 rfl rfl ?_
      refine y_aload_n 1 dX13_value_212 rfl rfl ?_
      have hb := h.1
      replace h := h.2
      obtain ⟨⟨fs_2, hi⟩, h⟩ := h
      refine y_callV yXn (b' := (1, 1, 49)) (K' := kX12_board) (As := []) (S := [.ref a1]) dX13_value_213 mX12_board lMX13_113 clX12 rfl hi rfl ⟨(by decide), hb⟩ (Nat.le_of_ble_eq_true rfl) h (fun v_ M_2 H_2 q_ => ?_) rfl
      obtain ⟨r_2, rfl, h⟩ := q_
      refine y_aload_n 0 dX13_value_216 rfl rfl ?_
      obtain ⟨x_3, ⟨fs_3, e1_3, e2_3⟩, h⟩ := h
      refine y_get (k := 1) dX13_value_217 clX13 lFX13_13 (by decide) e1_3 e2_3 ?_
      have hb := h.1
      replace h := h.2
      obtain ⟨⟨fs_4, hi⟩, h⟩ := h
      obtain ⟨r_4, hc, h⟩ := h
      refine y_callV yXn (b' := (4, 0, 0)) (K' := kX12_ways) (As := [.ref r_2, .int x_3]) (S := []) dX13_value_220 mX12_ways lMX13_116 clX12 rfl hi rfl ⟨(by decide), hb⟩ (Nat.le_of_ble_eq_true rfl) hc (fun v_ M_ H_ q_ => ?_) rfl
      obtain ⟨rfl, rfl, rfl⟩ := q_
      refine y_if_le (t := 230) dX13_value_223 (by decide) (fun q => ?_) (fun q => ?_)
      · replace h := h.1 q
        refine y_iconst (v := 0) dX13_value_230 rfl ?_
        have hb := h.1
        replace h := h.2
        exact y_iret dX13_value_231 rfl hb.1 hb.2 ⟨_, rfl, h⟩
      · replace h := h.2 q
        refine y_iconst (v := 1) dX13_value_226 rfl ?_
        refine y_goto (t := 231) dX13_value_227 (by decide) ?_
        have hb := h.1
        replace h := h.2
        exact y_iret dX13_value_231 rfl hb.1 hb.2 ⟨_, rfl, h⟩
    | 22, hi, hx =>
      have q3 : (x_1 : Int32) = 22 := eToI (hx.trans (by decide))
      replace h := h.2.2.2.2.2.2.2.2.2.2.2.2.2.2.2.2.2.2.2.2.2.2 q3
      refine y_tableAt (tg := 232) dX13_value_4 q3 (by decide) (by decide) rfl (by decide) ?_
      refine y_iconst (v := 1) dX13_value_232 rfl ?_
      refine y_aload_n 0 dX13_value_233 rfl rfl ?_
      obtain ⟨b_2, ⟨fs_2, e1_2, e2_2⟩, h⟩ := h
      refine y_get (k := 2) dX13_value_234 clX13 lFX13_16 (by decide) e1_2 e2_2 ?_
      refine y_aload_n 1 dX13_value_237 rfl rfl ?_
      have hb := h.1
      replace h := h.2
      obtain ⟨⟨fs_3, hi⟩, h⟩ := h
      obtain ⟨r_3, hc, h⟩ := h
      refine y_callV yXn (b' := (6, 2, 54)) (K' := kX13_value) (As := [.ref a1]) (S := [.int 1]) dX13_value_238 mX13_value lMX13_120 clX13 rfl hi rfl ⟨(by decide), hb⟩ (Nat.le_of_ble_eq_true rfl) hc (fun v_ M_ H_ q_ => ?_) rfl
      obtain ⟨rfl, rfl, rfl⟩ := q_
      refine y_isub dX13_value_241 ?_
      have hb := h.1
      replace h := h.2
      exact y_iret dX13_value_242 rfl hb.1 hb.2 ⟨_, rfl, h⟩
    | i + 23, hi, hx => exact absurd hi (by omega)
set_option maxHeartbeats 4000000 in
set_option maxRecDepth 100000 in
theorem B_X13_value_2_243 (G : eG) (ca sl : Nat) (M : eM) (H : yH) (F : Int32 → eM → yH → Prop) (a0 : Nat) (a1 : Nat)
    (h : ∃ (x_1 : Int32), yG H a0 11 0 (.int x_1) ∧ (∃ (b_2 : Nat), yG H a0 11 2 (.ref b_2) ∧ ((ca + 4 ≤ 8 ∧ sl + 108 ≤ 216) ∧ yIs H b_2 11 ∧ ∃ r_3 : Int32, yRd G (7, 4, 108) kX13_value [.ref b_2, .ref a1] M H (.int r_3) ∧ (∃ (b_4 : Nat), yG H a0 11 3 (.ref b_4) ∧ (((ca + 4) + 4 ≤ 8 ∧ (sl + 108) + 108 ≤ 216) ∧ yIs H b_4 11 ∧ ∃ r_5 : Int32, yRd G (7, 4, 108) kX13_value [.ref b_4, .ref a1] M H (.int r_5) ∧ (((ca + 4 + 4) + 0 ≤ 8 ∧ (sl + 108 + 108) + 0 ≤ 216) ∧ ∃ r_6 : Int32, yRd G (1, 0, 0) kX13_both [.int x_1, .int r_3, .int r_5] M H (.int r_6) ∧ ((ca + 4 + 4 ≤ 8 ∧ sl + 108 + 108 ≤ 216) ∧ F r_6 M H))))))) :
    Yx (yX "value") (yZ G 8 216 (yFI F)) G (eR (8, 8, 216)) kX13_value 243 [(0, .ref a0), (1, .ref a1)] [] M H ca sl := by
  refine y_aload_n 0 dX13_value_243 rfl rfl ?_
  obtain ⟨x_1, ⟨fs_1, e1_1, e2_1⟩, h⟩ := h
  refine y_get (k := 0) dX13_value_244 clX13 lFX13_7 (by decide) e1_1 e2_1 ?_
  refine y_aload_n 0 dX13_value_247 rfl rfl ?_
  obtain ⟨b_2, ⟨fs_2, e1_2, e2_2⟩, h⟩ := h
  refine y_get (k := 2) dX13_value_248 clX13 lFX13_16 (by decide) e1_2 e2_2 ?_
  refine y_aload_n 1 dX13_value_251 rfl rfl ?_
  have hb := h.1
  replace h := h.2
  obtain ⟨⟨fs_3, hi⟩, h⟩ := h
  obtain ⟨r_3, hc, h⟩ := h
  refine y_callV yXn (b' := (7, 4, 108)) (K' := kX13_value) (As := [.ref a1]) (S := [.int x_1]) dX13_value_252 mX13_value lMX13_120 clX13 rfl hi rfl ⟨(by decide), hb⟩ (Nat.le_of_ble_eq_true rfl) hc (fun v_ M_ H_ q_ => ?_) rfl
  obtain ⟨rfl, rfl, rfl⟩ := q_
  refine y_aload_n 0 dX13_value_255 rfl rfl ?_
  obtain ⟨b_4, ⟨fs_4, e1_4, e2_4⟩, h⟩ := h
  refine y_get (k := 3) dX13_value_256 clX13 lFX13_20 (by decide) e1_4 e2_4 ?_
  refine y_aload_n 1 dX13_value_259 rfl rfl ?_
  have hb := h.1
  replace h := h.2
  obtain ⟨⟨fs_5, hi⟩, h⟩ := h
  obtain ⟨r_5, hc, h⟩ := h
  refine y_callV yXn (b' := (7, 4, 108)) (K' := kX13_value) (As := [.ref a1]) (S := [.int r_3, .int x_1]) dX13_value_260 mX13_value lMX13_120 clX13 rfl hi rfl ⟨(by decide), hb⟩ (Nat.le_of_ble_eq_true rfl) hc (fun v_ M_ H_ q_ => ?_) rfl
  obtain ⟨rfl, rfl, rfl⟩ := q_
  have hb := h.1
  replace h := h.2
  obtain ⟨r_6, hc, h⟩ := h
  refine y_callS yXn (b' := (1, 0, 0)) (K' := kX13_both) (As := [.int x_1, .int r_3, .int r_5]) (S := []) dX13_value_263 mX13_both lMX13_128 rfl ⟨(by decide), hb⟩ (Nat.le_of_ble_eq_true rfl) hc (fun v_ M_ H_ q_ => ?_) rfl
  obtain ⟨rfl, rfl, rfl⟩ := q_
  have hb := h.1
  replace h := h.2
  exact y_iret dX13_value_266 rfl hb.1 hb.2 ⟨_, rfl, h⟩
set_option maxHeartbeats 4000000 in
set_option maxRecDepth 100000 in
theorem C_X13_value_2 (G : eG) (M : eM) (H : yH) (F : Int32 → eM → yH → Prop) (a0 : Nat) (a1 : Nat)
    (h : ∃ (x_1 : Int32), yG H a0 11 0 (.int x_1) ∧ ((((x_1 : Int32).toInt < 0 ∨ 22 < (x_1 : Int32).toInt) → Yx (yX "value") (yZ G 8 216 (yFI F)) G (eR (8, 8, 216)) kX13_value 243 [(0, .ref a0), (1, .ref a1)] [] M H 0 0) ∧ ((x_1 : Int32) = 0 → ∃ (x_2 : Int32), yG H a0 11 1 (.int x_2) ∧ ((0 ≤ 8 ∧ 0 ≤ 216) ∧ F x_2 M H)) ∧ ((x_1 : Int32) = 1 → ∃ (x_2 : Int32), yG H a1 10 3 (.int x_2) ∧ ((0 ≤ 8 ∧ 0 ≤ 216) ∧ F x_2 M H)) ∧ ((x_1 : Int32) = 2 → (0 + 2 ≤ 8 ∧ 0 + 54 ≤ 216) ∧ yIs H a1 10 ∧ yCal G (3, 2, 54) kX12_counts [.ref a1] M H (yFR (fun (r_2 : Nat) (M_2 : eM) (H_2 : yH) => ∃ (x_3 : Int32), yEI G H_2 r_2 4 x_3 ∧ ((0 + 2 ≤ 8 ∧ 0 + 54 ≤ 216) ∧ F x_3 M_2 H_2)))) ∧ ((x_1 : Int32) = 3 → (0 + 2 ≤ 8 ∧ 0 + 54 ≤ 216) ∧ yIs H a1 10 ∧ yCal G (3, 2, 54) kX12_counts [.ref a1] M H (yFR (fun (r_2 : Nat) (M_2 : eM) (H_2 : yH) => ∃ (x_3 : Int32), yEI G H_2 r_2 0 x_3 ∧ ((0 + 2 ≤ 8 ∧ 0 + 54 ≤ 216) ∧ F x_3 M_2 H_2)))) ∧ ((x_1 : Int32) = 4 → (0 + 2 ≤ 8 ∧ 0 + 54 ≤ 216) ∧ yIs H a1 10 ∧ yCal G (3, 2, 54) kX12_counts [.ref a1] M H (yFR (fun (r_2 : Nat) (M_2 : eM) (H_2 : yH) => ∃ (x_3 : Int32), yEI G H_2 r_2 3 x_3 ∧ ((0 + 2 ≤ 8 ∧ 0 + 54 ≤ 216) ∧ F x_3 M_2 H_2)))) ∧ ((x_1 : Int32) = 5 → (0 + 2 ≤ 8 ∧ 0 + 54 ≤ 216) ∧ yIs H a1 10 ∧ yCal G (3, 2, 54) kX12_counts [.ref a1] M H (yFR (fun (r_2 : Nat) (M_2 : eM) (H_2 : yH) => ∃ (x_3 : Int32), yEI G H_2 r_2 2 x_3 ∧ ((0 + 2 ≤ 8 ∧ 0 + 54 ≤ 216) ∧ F x_3 M_2 H_2)))) ∧ ((x_1 : Int32) = 6 → ∃ (x_2 : Int32), yG H a1 10 0 (.int x_2) ∧ (∃ (x_3 : Int32), yG H a1 10 1 (.int x_3) ∧ ((0 + 2 ≤ 8 ∧ 0 + 54 ≤ 216) ∧ yIs H a1 10 ∧ yCal G (3, 2, 54) kX12_counts [.ref a1] M H (yFR (fun (r_4 : Nat) (M_4 : eM) (H_4 : yH) => ∃ (x_5 : Int32), yEI G H_4 r_4 4 x_5 ∧ ((0 + 2 ≤ 8 ∧ 0 + 54 ≤ 216) ∧ F ((x_2 * x_3) - x_5) M_4 H_4)))))) ∧ ((x_1 : Int32) = 7 → (0 + 1 ≤ 8 ∧ 0 + 49 ≤ 216) ∧ yIs H a1 10 ∧ yCal G (1, 1, 49) kX12_board [.ref a1] M H (yFR (fun (r_2 : Nat) (M_2 : eM) (H_2 : yH) => ∃ (x_3 : Int32), yG H_2 a0 11 1 (.int x_3) ∧ (((0 + 1) + 0 ≤ 8 ∧ (0 + 49) + 0 ≤ 216) ∧ yIs H_2 a1 10 ∧ ∃ r_4 : Int32, yRd G (4, 0, 0) kX12_ways [.ref a1, .ref r_2, .int x_3] M_2 H_2 (.int r_4) ∧ ((0 + 1 ≤ 8 ∧ 0 + 49 ≤ 216) ∧ F r_4 M_2 H_2))))) ∧ ((x_1 : Int32) = 8 → ∃ (b_2 : Nat), yG H a0 11 2 (.ref b_2) ∧ ((0 + 4 ≤ 8 ∧ 0 + 108 ≤ 216) ∧ yIs H b_2 11 ∧ ∃ r_3 : Int32, yRd G (7, 4, 108) kX13_value [.ref b_2, .ref a1] M H (.int r_3) ∧ ((0 + 4 ≤ 8 ∧ 0 + 108 ≤ 216) ∧ F ((0 : Int32) - r_3) M H))) ∧ ((x_1 : Int32) = 9 → Yx (yX "value") (yZ G 8 216 (yFI F)) G (eR (8, 8, 216)) kX13_value 243 [(0, .ref a0), (1, .ref a1)] [] M H 0 0) ∧ ((x_1 : Int32) = 10 → Yx (yX "value") (yZ G 8 216 (yFI F)) G (eR (8, 8, 216)) kX13_value 243 [(0, .ref a0), (1, .ref a1)] [] M H 0 0) ∧ ((x_1 : Int32) = 11 → Yx (yX "value") (yZ G 8 216 (yFI F)) G (eR (8, 8, 216)) kX13_value 243 [(0, .ref a0), (1, .ref a1)] [] M H 0 0) ∧ ((x_1 : Int32) = 12 → Yx (yX "value") (yZ G 8 216 (yFI F)) G (eR (8, 8, 216)) kX13_value 243 [(0, .ref a0), (1, .ref a1)] [] M H 0 0) ∧ ((x_1 : Int32) = 13 → Yx (yX "value") (yZ G 8 216 (yFI F)) G (eR (8, 8, 216)) kX13_value 243 [(0, .ref a0), (1, .ref a1)] [] M H 0 0) ∧ ((x_1 : Int32) = 14 → Yx (yX "value") (yZ G 8 216 (yFI F)) G (eR (8, 8, 216)) kX13_value 243 [(0, .ref a0), (1, .ref a1)] [] M H 0 0) ∧ ((x_1 : Int32) = 15 → Yx (yX "value") (yZ G 8 216 (yFI F)) G (eR (8, 8, 216)) kX13_value 243 [(0, .ref a0), (1, .ref a1)] [] M H 0 0) ∧ ((x_1 : Int32) = 16 → Yx (yX "value") (yZ G 8 216 (yFI F)) G (eR (8, 8, 216)) kX13_value 243 [(0, .ref a0), (1, .ref a1)] [] M H 0 0) ∧ ((x_1 : Int32) = 17 → Yx (yX "value") (yZ G 8 216 (yFI F)) G (eR (8, 8, 216)) kX13_value 243 [(0, .ref a0), (1, .ref a1)] [] M H 0 0) ∧ ((x_1 : Int32) = 18 → Yx (yX "value") (yZ G 8 216 (yFI F)) G (eR (8, 8, 216)) kX13_value 243 [(0, .ref a0), (1, .ref a1)] [] M H 0 0) ∧ ((x_1 : Int32) = 19 → Yx (yX "value") (yZ G 8 216 (yFI F)) G (eR (8, 8, 216)) kX13_value 243 [(0, .ref a0), (1, .ref a1)] [] M H 0 0) ∧ ((x_1 : Int32) = 20 → ∃ (b_2 : Nat), yG H a1 10 2 (.ref b_2) ∧ (∃ (x_3 : Int32), yG H a0 11 1 (.int x_3) ∧ (∃ (b_4 : Nat), yER G 5 H b_2 x_3 b_4 ∧ (∃ (x_5 : Int32), yEI G H b_4 3 x_5 ∧ (((x_5 < (0 : Int32)) → (0 ≤ 8 ∧ 0 ≤ 216) ∧ F 0 M H) ∧ ((¬ x_5 < (0 : Int32)) → (0 ≤ 8 ∧ 0 ≤ 216) ∧ F 1 M H)))))) ∧ ((x_1 : Int32) = 21 → (0 + 1 ≤ 8 ∧ 0 + 49 ≤ 216) ∧ yIs H a1 10 ∧ yCal G (1, 1, 49) kX12_board [.ref a1] M H (yFR (fun (r_2 : Nat) (M_2 : eM) (H_2 : yH) => ∃ (x_3 : Int32), yG H_2 a0 11 1 (.int x_3) ∧ (((0 + 1) + 0 ≤ 8 ∧ (0 + 49) + 0 ≤ 216) ∧ yIs H_2 a1 10 ∧ ∃ r_4 : Int32, yRd G (4, 0, 0) kX12_ways [.ref a1, .ref r_2, .int x_3] M_2 H_2 (.int r_4) ∧ (((r_4 ≤ (0 : Int32)) → (0 + 1 ≤ 8 ∧ 0 + 49 ≤ 216) ∧ F 0 M_2 H_2) ∧ ((¬ r_4 ≤ (0 : Int32)) → (0 + 1 ≤ 8 ∧ 0 + 49 ≤ 216) ∧ F 1 M_2 H_2)))))) ∧ ((x_1 : Int32) = 22 → ∃ (b_2 : Nat), yG H a0 11 2 (.ref b_2) ∧ ((0 + 4 ≤ 8 ∧ 0 + 108 ≤ 216) ∧ yIs H b_2 11 ∧ ∃ r_3 : Int32, yRd G (7, 4, 108) kX13_value [.ref b_2, .ref a1] M H (.int r_3) ∧ ((0 + 4 ≤ 8 ∧ 0 + 108 ≤ 216) ∧ F ((1 : Int32) - r_3) M H))))) :
    yCal G (8, 8, 216) kX13_value [.ref a0, .ref a1] M H (yFI F) := by
  refine yCal.of (by decide +kernel) rfl (Nat.le_of_ble_eq_true rfl) ?_
  show Yx (yX "value") (yZ G 8 216 (yFI F)) G (eR (8, 8, 216)) kX13_value 0 [(0, .ref a0), (1, .ref a1)] [] M H 0 0
  refine y_aload_n 0 dX13_value_0 rfl rfl ?_
  obtain ⟨x_1, ⟨fs_1, e1_1, e2_1⟩, h⟩ := h
  refine y_get (k := 0) dX13_value_1 clX13 lFX13_7 (by decide) e1_1 e2_1 ?_
  by_cases q : (x_1 : Int32).toInt < 0 ∨ 22 < (x_1 : Int32).toInt
  · replace h := h.1 q
    refine y_tableOut (tg := 243) dX13_value_4 q (by decide) ?_
    exact h
  · replace h := h.2
    refine eTabCases (N := 23) q (by decide) (fun i9 hi hx => ?_)
    match i9, hi, hx with
    | 0, hi, hx =>
      have q3 : (x_1 : Int32) = 0 := eToI (hx.trans (by decide))
      replace h := h.1 q3
      refine y_tableAt (tg := 112) dX13_value_4 q3 (by decide) (by decide) rfl (by decide) ?_
      refine y_aload_n 0 dX13_value_112 rfl rfl ?_
      obtain ⟨x_2, ⟨fs_2, e1_2, e2_2⟩, h⟩ := h
      refine y_get (k := 1) dX13_value_113 clX13 lFX13_13 (by decide) e1_2 e2_2 ?_
      have hb := h.1
      replace h := h.2
      exact y_iret dX13_value_116 rfl hb.1 hb.2 ⟨_, rfl, h⟩
    | 1, hi, hx =>
      have q3 : (x_1 : Int32) = 1 := eToI (hx.trans (by decide))
      replace h := h.2.1 q3
      refine y_tableAt (tg := 117) dX13_value_4 q3 (by decide) (by decide) rfl (by decide) ?_
      refine y_aload_n 1 dX13_value_117 rfl rfl ?_
      obtain ⟨x_2, ⟨fs_2, e1_2, e2_2⟩, h⟩ := h
      refine y_get (k := 3) dX13_value_118 clX12 lFX13_98 (by decide) e1_2 e2_2 ?_
      have hb := h.1
      replace h := h.2
      exact y_iret dX13_value_121 rfl hb.1 hb.2 ⟨_, rfl, h⟩
    | 2, hi, hx =>
      have q3 : (x_1 : Int32) = 2 := eToI (hx.trans (by decide))
      replace h := h.2.2.1 q3
      refine y_tableAt (tg := 122) dX13_value_4 q3 (by decide) (by decide) rfl (by decide) ?_
      refine y_aload_n 1 dX13_value_122 rfl rfl ?_
      have hb := h.1
      replace h := h.2
      obtain ⟨⟨fs_2, hi⟩, h⟩ := h
      refine y_callV yXn (b' := (3, 2, 54)) (K' := kX12_counts) (As := []) (S := []) dX13_value_123 mX12_counts lMX13_103 clX12 rfl hi rfl ⟨(by decide), hb⟩ (Nat.le_of_ble_eq_true rfl) h (fun v_ M_2 H_2 q_ => ?_) rfl
      obtain ⟨r_2, rfl, h⟩ := q_
      refine y_iconst (v := 4) dX13_value_126 rfl ?_
      obtain ⟨x_3, ⟨N_3, f_3, e1_3, e2_3, e3_3⟩, h⟩ := h
      refine y_ialdx dX13_value_127 e1_3 e2_3 e3_3 ?_
      have hb := h.1
      replace h := h.2
      exact y_iret dX13_value_128 rfl hb.1 hb.2 ⟨_, rfl, h⟩
    | 3, hi, hx =>
      have q3 : (x_1 : Int32) = 3 := eToI (hx.trans (by decide))
      replace h := h.2.2.2.1 q3
      refine y_tableAt (tg := 129) dX13_value_4 q3 (by decide) (by decide) rfl (by decide) ?_
      refine y_aload_n 1 dX13_value_129 rfl rfl ?_
      have hb := h.1
      replace h := h.2
      obtain ⟨⟨fs_2, hi⟩, h⟩ := h
      refine y_callV yXn (b' := (3, 2, 54)) (K' := kX12_counts) (As := []) (S := []) dX13_value_130 mX12_counts lMX13_103 clX12 rfl hi rfl ⟨(by decide), hb⟩ (Nat.le_of_ble_eq_true rfl) h (fun v_ M_2 H_2 q_ => ?_) rfl
      obtain ⟨r_2, rfl, h⟩ := q_
      refine y_iconst (v := 0) dX13_value_133 rfl ?_
      obtain ⟨x_3, ⟨N_3, f_3, e1_3, e2_3, e3_3⟩, h⟩ := h
      refine y_ialdx dX13_value_134 e1_3 e2_3 e3_3 ?_
      have hb := h.1
      replace h := h.2
      exact y_iret dX13_value_135 rfl hb.1 hb.2 ⟨_, rfl, h⟩
    | 4, hi, hx =>
      have q3 : (x_1 : Int32) = 4 := eToI (hx.trans (by decide))
      replace h := h.2.2.2.2.1 q3
      refine y_tableAt (tg := 136) dX13_value_4 q3 (by decide) (by decide) rfl (by decide) ?_
      refine y_aload_n 1 dX13_value_136 rfl rfl ?_
      have hb := h.1
      replace h := h.2
      obtain ⟨⟨fs_2, hi⟩, h⟩ := h
      refine y_callV yXn (b' := (3, 2, 54)) (K' := kX12_counts) (As := []) (S := []) dX13_value_137 mX12_counts lMX13_103 clX12 rfl hi rfl ⟨(by decide), hb⟩ (Nat.le_of_ble_eq_true rfl) h (fun v_ M_2 H_2 q_ => ?_) rfl
      obtain ⟨r_2, rfl, h⟩ := q_
      refine y_iconst (v := 3) dX13_value_140 rfl ?_
      obtain ⟨x_3, ⟨N_3, f_3, e1_3, e2_3, e3_3⟩, h⟩ := h
      refine y_ialdx dX13_value_141 e1_3 e2_3 e3_3 ?_
      have hb := h.1
      replace h := h.2
      exact y_iret dX13_value_142 rfl hb.1 hb.2 ⟨_, rfl, h⟩
    | 5, hi, hx =>
      have q3 : (x_1 : Int32) = 5 := eToI (hx.trans (by decide))
      replace h := h.2.2.2.2.2.1 q3
      refine y_tableAt (tg := 143) dX13_value_4 q3 (by decide) (by decide) rfl (by decide) ?_
      refine y_aload_n 1 dX13_value_143 rfl rfl ?_
      have hb := h.1
      replace h := h.2
      obtain ⟨⟨fs_2, hi⟩, h⟩ := h
      refine y_callV yXn (b' := (3, 2, 54)) (K' := kX12_counts) (As := []) (S := []) dX13_value_144 mX12_counts lMX13_103 clX12 rfl hi rfl ⟨(by decide), hb⟩ (Nat.le_of_ble_eq_true rfl) h (fun v_ M_2 H_2 q_ => ?_) rfl
      obtain ⟨r_2, rfl, h⟩ := q_
      refine y_iconst (v := 2) dX13_value_147 rfl ?_
      obtain ⟨x_3, ⟨N_3, f_3, e1_3, e2_3, e3_3⟩, h⟩ := h
      refine y_ialdx dX13_value_148 e1_3 e2_3 e3_3 ?_
      have hb := h.1
      replace h := h.2
      exact y_iret dX13_value_149 rfl hb.1 hb.2 ⟨_, rfl, h⟩
    | 6, hi, hx =>
      have q3 : (x_1 : Int32) = 6 := eToI (hx.trans (by decide))
      replace h := h.2.2.2.2.2.2.1 q3
      refine y_tableAt (tg := 150) dX13_value_4 q3 (by decide) (by decide) rfl (by decide) ?_
      refine y_aload_n 1 dX13_value_150 rfl rfl ?_
      obtain ⟨x_2, ⟨fs_2, e1_2, e2_2⟩, h⟩ := h
      refine y_get (k := 0) dX13_value_151 clX12 lFX13_107 (by decide) e1_2 e2_2 ?_
      refine y_aload_n 1 dX13_value_154 rfl rfl ?_
      obtain ⟨x_3, ⟨fs_3, e1_3, e2_3⟩, h⟩ := h
      refine y_get (k := 1) dX13_value_155 clX12 lFX13_110 (by decide) e1_3 e2_3 ?_
      refine y_imul dX13_value_158 ?_
      refine y_aload_n 1 dX13_value_159 rfl rfl ?_
      have hb := h.1
      replace h := h.2
      obtain ⟨⟨fs_4, hi⟩, h⟩ := h
      refine y_callV yXn (b' := (3, 2, 54)) (K' := kX12_counts) (As := []) (S := [.int (x_2 * x_3)]) dX13_value_160 mX12_counts lMX13_103 clX12 rfl hi rfl ⟨(by decide), hb⟩ (Nat.le_of_ble_eq_true rfl) h (fun v_ M_4 H_4 q_ => ?_) rfl
      obtain ⟨r_4, rfl, h⟩ := q_
      refine y_iconst (v := 4) dX13_value_163 rfl ?_
      obtain ⟨x_5, ⟨N_5, f_5, e1_5, e2_5, e3_5⟩, h⟩ := h
      refine y_ialdx dX13_value_164 e1_5 e2_5 e3_5 ?_
      refine y_isub dX13_value_165 ?_
      have hb := h.1
      replace h := h.2
      exact y_iret dX13_value_166 rfl hb.1 hb.2 ⟨_, rfl, h⟩
    | 7, hi, hx =>
      have q3 : (x_1 : Int32) = 7 := eToI (hx.trans (by decide))
      replace h := h.2.2.2.2.2.2.2.1 q3
      refine y_tableAt (tg := 167) dX13_value_4 q3 (by decide) (by decide) rfl (by decide) ?_
      refine y_aload_n 1 dX13_value_167 rfl rfl ?_
      refine y_aload_n 1 dX13_value_168 rfl rfl ?_
      have hb := h.1
      replace h := h.2
      obtain ⟨⟨fs_2, hi⟩, h⟩ := h
      refine y_callV yXn (b' := (1, 1, 49)) (K' := kX12_board) (As := []) (S := [.ref a1]) dX13_value_169 mX12_board lMX13_113 clX12 rfl hi rfl ⟨(by decide), hb⟩ (Nat.le_of_ble_eq_true rfl) h (fun v_ M_2 H_2 q_ => ?_) rfl
      obtain ⟨r_2, rfl, h⟩ := q_
      refine y_aload_n 0 dX13_value_172 rfl rfl ?_
      obtain ⟨x_3, ⟨fs_3, e1_3, e2_3⟩, h⟩ := h
      refine y_get (k := 1) dX13_value_173 clX13 lFX13_13 (by decide) e1_3 e2_3 ?_
      have hb := h.1
      replace h := h.2
      obtain ⟨⟨fs_4, hi⟩, h⟩ := h
      obtain ⟨r_4, hc, h⟩ := h
      refine y_callV yXn (b' := (4, 0, 0)) (K' := kX12_ways) (As := [.ref r_2, .int x_3]) (S := []) dX13_value_176 mX12_ways lMX13_116 clX12 rfl hi rfl ⟨(by decide), hb⟩ (Nat.le_of_ble_eq_true rfl) hc (fun v_ M_ H_ q_ => ?_) rfl
      obtain ⟨rfl, rfl, rfl⟩ := q_
      have hb := h.1
      replace h := h.2
      exact y_iret dX13_value_179 rfl hb.1 hb.2 ⟨_, rfl, h⟩
    | 8, hi, hx =>
      have q3 : (x_1 : Int32) = 8 := eToI (hx.trans (by decide))
      replace h := h.2.2.2.2.2.2.2.2.1 q3
      refine y_tableAt (tg := 180) dX13_value_4 q3 (by decide) (by decide) rfl (by decide) ?_
      refine y_iconst (v := 0) dX13_value_180 rfl ?_
      refine y_aload_n 0 dX13_value_181 rfl rfl ?_
      obtain ⟨b_2, ⟨fs_2, e1_2, e2_2⟩, h⟩ := h
      refine y_get (k := 2) dX13_value_182 clX13 lFX13_16 (by decide) e1_2 e2_2 ?_
      refine y_aload_n 1 dX13_value_185 rfl rfl ?_
      have hb := h.1
      replace h := h.2
      obtain ⟨⟨fs_3, hi⟩, h⟩ := h
      obtain ⟨r_3, hc, h⟩ := h
      refine y_callV yXn (b' := (7, 4, 108)) (K' := kX13_value) (As := [.ref a1]) (S := [.int 0]) dX13_value_186 mX13_value lMX13_120 clX13 rfl hi rfl ⟨(by decide), hb⟩ (Nat.le_of_ble_eq_true rfl) hc (fun v_ M_ H_ q_ => ?_) rfl
      obtain ⟨rfl, rfl, rfl⟩ := q_
      refine y_isub dX13_value_189 ?_
      have hb := h.1
      replace h := h.2
      exact y_iret dX13_value_190 rfl hb.1 hb.2 ⟨_, rfl, h⟩
    | 9, hi, hx =>
      have q3 : (x_1 : Int32) = 9 := eToI (hx.trans (by decide))
      replace h := h.2.2.2.2.2.2.2.2.2.1 q3
      refine y_tableAt (tg := 243) dX13_value_4 q3 (by decide) (by decide) rfl (by decide) ?_
      exact h
    | 10, hi, hx =>
      have q3 : (x_1 : Int32) = 10 := eToI (hx.trans (by decide))
      replace h := h.2.2.2.2.2.2.2.2.2.2.1 q3
      refine y_tableAt (tg := 243) dX13_value_4 q3 (by decide) (by decide) rfl (by decide) ?_
      exact h
    | 11, hi, hx =>
      have q3 : (x_1 : Int32) = 11 := eToI (hx.trans (by decide))
      replace h := h.2.2.2.2.2.2.2.2.2.2.2.1 q3
      refine y_tableAt (tg := 243) dX13_value_4 q3 (by decide) (by decide) rfl (by decide) ?_
      exact h
    | 12, hi, hx =>
      have q3 : (x_1 : Int32) = 12 := eToI (hx.trans (by decide))
      replace h := h.2.2.2.2.2.2.2.2.2.2.2.2.1 q3
      refine y_tableAt (tg := 243) dX13_value_4 q3 (by decide) (by decide) rfl (by decide) ?_
      exact h
    | 13, hi, hx =>
      have q3 : (x_1 : Int32) = 13 := eToI (hx.trans (by decide))
      replace h := h.2.2.2.2.2.2.2.2.2.2.2.2.2.1 q3
      refine y_tableAt (tg := 243) dX13_value_4 q3 (by decide) (by decide) rfl (by decide) ?_
      exact h
    | 14, hi, hx =>
      have q3 : (x_1 : Int32) = 14 := eToI (hx.trans (by decide))
      replace h := h.2.2.2.2.2.2.2.2.2.2.2.2.2.2.1 q3
      refine y_tableAt (tg := 243) dX13_value_4 q3 (by decide) (by decide) rfl (by decide) ?_
      exact h
    | 15, hi, hx =>
      have q3 : (x_1 : Int32) = 15 := eToI (hx.trans (by decide))
      replace h := h.2.2.2.2.2.2.2.2.2.2.2.2.2.2.2.1 q3
      refine y_tableAt (tg := 243) dX13_value_4 q3 (by decide) (by decide) rfl (by decide) ?_
      exact h
    | 16, hi, hx =>
      have q3 : (x_1 : Int32) = 16 := eToI (hx.trans (by decide))
      replace h := h.2.2.2.2.2.2.2.2.2.2.2.2.2.2.2.2.1 q3
      refine y_tableAt (tg := 243) dX13_value_4 q3 (by decide) (by decide) rfl (by decide) ?_
      exact h
    | 17, hi, hx =>
      have q3 : (x_1 : Int32) = 17 := eToI (hx.trans (by decide))
      replace h := h.2.2.2.2.2.2.2.2.2.2.2.2.2.2.2.2.2.1 q3
      refine y_tableAt (tg := 243) dX13_value_4 q3 (by decide) (by decide) rfl (by decide) ?_
      exact h
    | 18, hi, hx =>
      have q3 : (x_1 : Int32) = 18 := eToI (hx.trans (by decide))
      replace h := h.2.2.2.2.2.2.2.2.2.2.2.2.2.2.2.2.2.2.1 q3
      refine y_tableAt (tg := 243) dX13_value_4 q3 (by decide) (by decide) rfl (by decide) ?_
      exact h
    | 19, hi, hx =>
      have q3 : (x_1 : Int32) = 19 := eToI (hx.trans (by decide))
      replace h := h.2.2.2.2.2.2.2.2.2.2.2.2.2.2.2.2.2.2.2.1 q3
      refine y_tableAt (tg := 243) dX13_value_4 q3 (by decide) (by decide) rfl (by decide) ?_
      exact h
    | 20, hi, hx =>
      have q3 : (x_1 : Int32) = 20 := eToI (hx.trans (by decide))
      replace h := h.2.2.2.2.2.2.2.2.2.2.2.2.2.2.2.2.2.2.2.2.1 q3
      refine y_tableAt (tg := 191) dX13_value_4 q3 (by decide) (by decide) rfl (by decide) ?_
      refine y_aload_n 1 dX13_value_191 rfl rfl ?_
      obtain ⟨b_2, ⟨fs_2, e1_2, e2_2⟩, h⟩ := h
      refine y_get (k := 2) dX13_value_192 clX12 lFX13_124 (by decide) e1_2 e2_2 ?_
      refine y_aload_n 0 dX13_value_195 rfl rfl ?_
      obtain ⟨x_3, ⟨fs_3, e1_3, e2_3⟩, h⟩ := h
      refine y_get (k := 1) dX13_value_196 clX13 lFX13_13 (by decide) e1_3 e2_3 ?_
      obtain ⟨b_4, ⟨N_4, f_4, e1_4, e2_4, e3_4⟩, h⟩ := h
      refine y_aald (t := 5) (ty := .array .int) dX13_value_199 rfl rfl e1_4 e2_4 e3_4 ?_
      refine y_iconst (v := 3) dX13_value_200 rfl ?_
      obtain ⟨x_5, ⟨N_5, f_5, e1_5, e2_5, e3_5⟩, h⟩ := h
      refine y_ialdx dX13_value_201 e1_5 e2_5 e3_5 ?_
      refine y_if_lt (t := 209) dX13_value_202 (by decide) (fun q => ?_) (fun q => ?_)
      · replace h := h.1 q
        refine y_iconst (v := 0) dX13_value_209 rfl ?_
        have hb := h.1
        replace h := h.2
        exact y_iret dX13_value_210 rfl hb.1 hb.2 ⟨_, rfl, h⟩
      · replace h := h.2 q
        refine y_iconst (v := 1) dX13_value_205 rfl ?_
        refine y_goto (t := 210) dX13_value_206 (by decide) ?_
        have hb := h.1
        replace h := h.2
        exact y_iret dX13_value_210 rfl hb.1 hb.2 ⟨_, rfl, h⟩
    | 21, hi, hx =>
      have q3 : (x_1 : Int32) = 21 := eToI (hx.trans (by decide))
      replace h := h.2.2.2.2.2.2.2.2.2.2.2.2.2.2.2.2.2.2.2.2.2.1 q3
      refine y_tableAt (tg := 211) dX13_value_4 q3 (by decide) (by decide) rfl (by decide) ?_
      refine y_aload_n 1 dX13_value_211 rfl rfl ?_
      refine y_aload_n 1 dX13_value_212 rfl rfl ?_
      have hb := h.1
      replace h := h.2
      obtain ⟨⟨fs_2, hi⟩, h⟩ := h
      refine y_callV yXn (b' := (1, 1, 49)) (K' := kX12_board) (As := []) (S := [.ref a1]) dX13_value_213 mX12_board lMX13_113 clX12 rfl hi rfl ⟨(by decide), hb⟩ (Nat.le_of_ble_eq_true rfl) h (fun v_ M_2 H_2 q_ => ?_) rfl
      obtain ⟨r_2, rfl, h⟩ := q_
      refine y_aload_n 0 dX13_value_216 rfl rfl ?_
      obtain ⟨x_3, ⟨fs_3, e1_3, e2_3⟩, h⟩ := h
      refine y_get (k := 1) dX13_value_217 clX13 lFX13_13 (by decide) e1_3 e2_3 ?_
      have hb := h.1
      replace h := h.2
      obtain ⟨⟨fs_4, hi⟩, h⟩ := h
      obtain ⟨r_4, hc, h⟩ := h
      refine y_callV yXn (b' := (4, 0, 0)) (K' := kX12_ways) (As := [.ref r_2, .int x_3]) (S := []) dX13_value_220 mX12_ways lMX13_116 clX12 rfl hi rfl ⟨(by decide), hb⟩ (Nat.le_of_ble_eq_true rfl) hc (fun v_ M_ H_ q_ => ?_) rfl
      obtain ⟨rfl, rfl, rfl⟩ := q_
      refine y_if_le (t := 230) dX13_value_223 (by decide) (fun q => ?_) (fun q => ?_)
      · replace h := h.1 q
        refine y_iconst (v := 0) dX13_value_230 rfl ?_
        have hb := h.1
        replace h := h.2
        exact y_iret dX13_value_231 rfl hb.1 hb.2 ⟨_, rfl, h⟩
      · replace h := h.2 q
        refine y_iconst (v := 1) dX13_value_226 rfl ?_
        refine y_goto (t := 231) dX13_value_227 (by decide) ?_
        have hb := h.1
        replace h := h.2
        exact y_iret dX13_value_231 rfl hb.1 hb.2 ⟨_, rfl, h⟩
    | 22, hi, hx =>
      have q3 : (x_1 : Int32) = 22 := eToI (hx.trans (by decide))
      replace h := h.2.2.2.2.2.2.2.2.2.2.2.2.2.2.2.2.2.2.2.2.2.2 q3
      refine y_tableAt (tg := 232) dX13_value_4 q3 (by decide) (by decide) rfl (by decide) ?_
      refine y_iconst (v := 1) dX13_value_232 rfl ?_
      refine y_aload_n 0 dX13_value_233 rfl rfl ?_
      obtain ⟨b_2, ⟨fs_2, e1_2, e2_2⟩, h⟩ := h
      refine y_get (k := 2) dX13_value_234 clX13 lFX13_16 (by decide) e1_2 e2_2 ?_
      refine y_aload_n 1 dX13_value_237 rfl rfl ?_
      have hb := h.1
      replace h := h.2
      obtain ⟨⟨fs_3, hi⟩, h⟩ := h
      obtain ⟨r_3, hc, h⟩ := h
      refine y_callV yXn (b' := (7, 4, 108)) (K' := kX13_value) (As := [.ref a1]) (S := [.int 1]) dX13_value_238 mX13_value lMX13_120 clX13 rfl hi rfl ⟨(by decide), hb⟩ (Nat.le_of_ble_eq_true rfl) hc (fun v_ M_ H_ q_ => ?_) rfl
      obtain ⟨rfl, rfl, rfl⟩ := q_
      refine y_isub dX13_value_241 ?_
      have hb := h.1
      replace h := h.2
      exact y_iret dX13_value_242 rfl hb.1 hb.2 ⟨_, rfl, h⟩
    | i + 23, hi, hx => exact absurd hi (by omega)
set_option maxHeartbeats 4000000 in
set_option maxRecDepth 100000 in
theorem B_X13_value_3_243 (G : eG) (ca sl : Nat) (M : eM) (H : yH) (F : Int32 → eM → yH → Prop) (a0 : Nat) (a1 : Nat)
    (h : ∃ (x_1 : Int32), yG H a0 11 0 (.int x_1) ∧ (∃ (b_2 : Nat), yG H a0 11 2 (.ref b_2) ∧ ((ca + 8 ≤ 16 ∧ sl + 216 ≤ 432) ∧ yIs H b_2 11 ∧ ∃ r_3 : Int32, yRd G (8, 8, 216) kX13_value [.ref b_2, .ref a1] M H (.int r_3) ∧ (∃ (b_4 : Nat), yG H a0 11 3 (.ref b_4) ∧ (((ca + 8) + 8 ≤ 16 ∧ (sl + 216) + 216 ≤ 432) ∧ yIs H b_4 11 ∧ ∃ r_5 : Int32, yRd G (8, 8, 216) kX13_value [.ref b_4, .ref a1] M H (.int r_5) ∧ (((ca + 8 + 8) + 0 ≤ 16 ∧ (sl + 216 + 216) + 0 ≤ 432) ∧ ∃ r_6 : Int32, yRd G (1, 0, 0) kX13_both [.int x_1, .int r_3, .int r_5] M H (.int r_6) ∧ ((ca + 8 + 8 ≤ 16 ∧ sl + 216 + 216 ≤ 432) ∧ F r_6 M H))))))) :
    Yx (yX "value") (yZ G 16 432 (yFI F)) G (eR (9, 16, 432)) kX13_value 243 [(0, .ref a0), (1, .ref a1)] [] M H ca sl := by
  refine y_aload_n 0 dX13_value_243 rfl rfl ?_
  obtain ⟨x_1, ⟨fs_1, e1_1, e2_1⟩, h⟩ := h
  refine y_get (k := 0) dX13_value_244 clX13 lFX13_7 (by decide) e1_1 e2_1 ?_
  refine y_aload_n 0 dX13_value_247 rfl rfl ?_
  obtain ⟨b_2, ⟨fs_2, e1_2, e2_2⟩, h⟩ := h
  refine y_get (k := 2) dX13_value_248 clX13 lFX13_16 (by decide) e1_2 e2_2 ?_
  refine y_aload_n 1 dX13_value_251 rfl rfl ?_
  have hb := h.1
  replace h := h.2
  obtain ⟨⟨fs_3, hi⟩, h⟩ := h
  obtain ⟨r_3, hc, h⟩ := h
  refine y_callV yXn (b' := (8, 8, 216)) (K' := kX13_value) (As := [.ref a1]) (S := [.int x_1]) dX13_value_252 mX13_value lMX13_120 clX13 rfl hi rfl ⟨(by decide), hb⟩ (Nat.le_of_ble_eq_true rfl) hc (fun v_ M_ H_ q_ => ?_) rfl
  obtain ⟨rfl, rfl, rfl⟩ := q_
  refine y_aload_n 0 dX13_value_255 rfl rfl ?_
  obtain ⟨b_4, ⟨fs_4, e1_4, e2_4⟩, h⟩ := h
  refine y_get (k := 3) dX13_value_256 clX13 lFX13_20 (by decide) e1_4 e2_4 ?_
  refine y_aload_n 1 dX13_value_259 rfl rfl ?_
  have hb := h.1
  replace h := h.2
  obtain ⟨⟨fs_5, hi⟩, h⟩ := h
  obtain ⟨r_5, hc, h⟩ := h
  refine y_callV yXn (b' := (8, 8, 216)) (K' := kX13_value) (As := [.ref a1]) (S := [.int r_3, .int x_1]) dX13_value_260 mX13_value lMX13_120 clX13 rfl hi rfl ⟨(by decide), hb⟩ (Nat.le_of_ble_eq_true rfl) hc (fun v_ M_ H_ q_ => ?_) rfl
  obtain ⟨rfl, rfl, rfl⟩ := q_
  have hb := h.1
  replace h := h.2
  obtain ⟨r_6, hc, h⟩ := h
  refine y_callS yXn (b' := (1, 0, 0)) (K' := kX13_both) (As := [.int x_1, .int r_3, .int r_5]) (S := []) dX13_value_263 mX13_both lMX13_128 rfl ⟨(by decide), hb⟩ (Nat.le_of_ble_eq_true rfl) hc (fun v_ M_ H_ q_ => ?_) rfl
  obtain ⟨rfl, rfl, rfl⟩ := q_
  have hb := h.1
  replace h := h.2
  exact y_iret dX13_value_266 rfl hb.1 hb.2 ⟨_, rfl, h⟩
set_option maxHeartbeats 4000000 in
set_option maxRecDepth 100000 in
theorem C_X13_value_3 (G : eG) (M : eM) (H : yH) (F : Int32 → eM → yH → Prop) (a0 : Nat) (a1 : Nat)
    (h : ∃ (x_1 : Int32), yG H a0 11 0 (.int x_1) ∧ ((((x_1 : Int32).toInt < 0 ∨ 22 < (x_1 : Int32).toInt) → Yx (yX "value") (yZ G 16 432 (yFI F)) G (eR (9, 16, 432)) kX13_value 243 [(0, .ref a0), (1, .ref a1)] [] M H 0 0) ∧ ((x_1 : Int32) = 0 → ∃ (x_2 : Int32), yG H a0 11 1 (.int x_2) ∧ ((0 ≤ 16 ∧ 0 ≤ 432) ∧ F x_2 M H)) ∧ ((x_1 : Int32) = 1 → ∃ (x_2 : Int32), yG H a1 10 3 (.int x_2) ∧ ((0 ≤ 16 ∧ 0 ≤ 432) ∧ F x_2 M H)) ∧ ((x_1 : Int32) = 2 → (0 + 2 ≤ 16 ∧ 0 + 54 ≤ 432) ∧ yIs H a1 10 ∧ yCal G (3, 2, 54) kX12_counts [.ref a1] M H (yFR (fun (r_2 : Nat) (M_2 : eM) (H_2 : yH) => ∃ (x_3 : Int32), yEI G H_2 r_2 4 x_3 ∧ ((0 + 2 ≤ 16 ∧ 0 + 54 ≤ 432) ∧ F x_3 M_2 H_2)))) ∧ ((x_1 : Int32) = 3 → (0 + 2 ≤ 16 ∧ 0 + 54 ≤ 432) ∧ yIs H a1 10 ∧ yCal G (3, 2, 54) kX12_counts [.ref a1] M H (yFR (fun (r_2 : Nat) (M_2 : eM) (H_2 : yH) => ∃ (x_3 : Int32), yEI G H_2 r_2 0 x_3 ∧ ((0 + 2 ≤ 16 ∧ 0 + 54 ≤ 432) ∧ F x_3 M_2 H_2)))) ∧ ((x_1 : Int32) = 4 → (0 + 2 ≤ 16 ∧ 0 + 54 ≤ 432) ∧ yIs H a1 10 ∧ yCal G (3, 2, 54) kX12_counts [.ref a1] M H (yFR (fun (r_2 : Nat) (M_2 : eM) (H_2 : yH) => ∃ (x_3 : Int32), yEI G H_2 r_2 3 x_3 ∧ ((0 + 2 ≤ 16 ∧ 0 + 54 ≤ 432) ∧ F x_3 M_2 H_2)))) ∧ ((x_1 : Int32) = 5 → (0 + 2 ≤ 16 ∧ 0 + 54 ≤ 432) ∧ yIs H a1 10 ∧ yCal G (3, 2, 54) kX12_counts [.ref a1] M H (yFR (fun (r_2 : Nat) (M_2 : eM) (H_2 : yH) => ∃ (x_3 : Int32), yEI G H_2 r_2 2 x_3 ∧ ((0 + 2 ≤ 16 ∧ 0 + 54 ≤ 432) ∧ F x_3 M_2 H_2)))) ∧ ((x_1 : Int32) = 6 → ∃ (x_2 : Int32), yG H a1 10 0 (.int x_2) ∧ (∃ (x_3 : Int32), yG H a1 10 1 (.int x_3) ∧ ((0 + 2 ≤ 16 ∧ 0 + 54 ≤ 432) ∧ yIs H a1 10 ∧ yCal G (3, 2, 54) kX12_counts [.ref a1] M H (yFR (fun (r_4 : Nat) (M_4 : eM) (H_4 : yH) => ∃ (x_5 : Int32), yEI G H_4 r_4 4 x_5 ∧ ((0 + 2 ≤ 16 ∧ 0 + 54 ≤ 432) ∧ F ((x_2 * x_3) - x_5) M_4 H_4)))))) ∧ ((x_1 : Int32) = 7 → (0 + 1 ≤ 16 ∧ 0 + 49 ≤ 432) ∧ yIs H a1 10 ∧ yCal G (1, 1, 49) kX12_board [.ref a1] M H (yFR (fun (r_2 : Nat) (M_2 : eM) (H_2 : yH) => ∃ (x_3 : Int32), yG H_2 a0 11 1 (.int x_3) ∧ (((0 + 1) + 0 ≤ 16 ∧ (0 + 49) + 0 ≤ 432) ∧ yIs H_2 a1 10 ∧ ∃ r_4 : Int32, yRd G (4, 0, 0) kX12_ways [.ref a1, .ref r_2, .int x_3] M_2 H_2 (.int r_4) ∧ ((0 + 1 ≤ 16 ∧ 0 + 49 ≤ 432) ∧ F r_4 M_2 H_2))))) ∧ ((x_1 : Int32) = 8 → ∃ (b_2 : Nat), yG H a0 11 2 (.ref b_2) ∧ ((0 + 8 ≤ 16 ∧ 0 + 216 ≤ 432) ∧ yIs H b_2 11 ∧ ∃ r_3 : Int32, yRd G (8, 8, 216) kX13_value [.ref b_2, .ref a1] M H (.int r_3) ∧ ((0 + 8 ≤ 16 ∧ 0 + 216 ≤ 432) ∧ F ((0 : Int32) - r_3) M H))) ∧ ((x_1 : Int32) = 9 → Yx (yX "value") (yZ G 16 432 (yFI F)) G (eR (9, 16, 432)) kX13_value 243 [(0, .ref a0), (1, .ref a1)] [] M H 0 0) ∧ ((x_1 : Int32) = 10 → Yx (yX "value") (yZ G 16 432 (yFI F)) G (eR (9, 16, 432)) kX13_value 243 [(0, .ref a0), (1, .ref a1)] [] M H 0 0) ∧ ((x_1 : Int32) = 11 → Yx (yX "value") (yZ G 16 432 (yFI F)) G (eR (9, 16, 432)) kX13_value 243 [(0, .ref a0), (1, .ref a1)] [] M H 0 0) ∧ ((x_1 : Int32) = 12 → Yx (yX "value") (yZ G 16 432 (yFI F)) G (eR (9, 16, 432)) kX13_value 243 [(0, .ref a0), (1, .ref a1)] [] M H 0 0) ∧ ((x_1 : Int32) = 13 → Yx (yX "value") (yZ G 16 432 (yFI F)) G (eR (9, 16, 432)) kX13_value 243 [(0, .ref a0), (1, .ref a1)] [] M H 0 0) ∧ ((x_1 : Int32) = 14 → Yx (yX "value") (yZ G 16 432 (yFI F)) G (eR (9, 16, 432)) kX13_value 243 [(0, .ref a0), (1, .ref a1)] [] M H 0 0) ∧ ((x_1 : Int32) = 15 → Yx (yX "value") (yZ G 16 432 (yFI F)) G (eR (9, 16, 432)) kX13_value 243 [(0, .ref a0), (1, .ref a1)] [] M H 0 0) ∧ ((x_1 : Int32) = 16 → Yx (yX "value") (yZ G 16 432 (yFI F)) G (eR (9, 16, 432)) kX13_value 243 [(0, .ref a0), (1, .ref a1)] [] M H 0 0) ∧ ((x_1 : Int32) = 17 → Yx (yX "value") (yZ G 16 432 (yFI F)) G (eR (9, 16, 432)) kX13_value 243 [(0, .ref a0), (1, .ref a1)] [] M H 0 0) ∧ ((x_1 : Int32) = 18 → Yx (yX "value") (yZ G 16 432 (yFI F)) G (eR (9, 16, 432)) kX13_value 243 [(0, .ref a0), (1, .ref a1)] [] M H 0 0) ∧ ((x_1 : Int32) = 19 → Yx (yX "value") (yZ G 16 432 (yFI F)) G (eR (9, 16, 432)) kX13_value 243 [(0, .ref a0), (1, .ref a1)] [] M H 0 0) ∧ ((x_1 : Int32) = 20 → ∃ (b_2 : Nat), yG H a1 10 2 (.ref b_2) ∧ (∃ (x_3 : Int32), yG H a0 11 1 (.int x_3) ∧ (∃ (b_4 : Nat), yER G 5 H b_2 x_3 b_4 ∧ (∃ (x_5 : Int32), yEI G H b_4 3 x_5 ∧ (((x_5 < (0 : Int32)) → (0 ≤ 16 ∧ 0 ≤ 432) ∧ F 0 M H) ∧ ((¬ x_5 < (0 : Int32)) → (0 ≤ 16 ∧ 0 ≤ 432) ∧ F 1 M H)))))) ∧ ((x_1 : Int32) = 21 → (0 + 1 ≤ 16 ∧ 0 + 49 ≤ 432) ∧ yIs H a1 10 ∧ yCal G (1, 1, 49) kX12_board [.ref a1] M H (yFR (fun (r_2 : Nat) (M_2 : eM) (H_2 : yH) => ∃ (x_3 : Int32), yG H_2 a0 11 1 (.int x_3) ∧ (((0 + 1) + 0 ≤ 16 ∧ (0 + 49) + 0 ≤ 432) ∧ yIs H_2 a1 10 ∧ ∃ r_4 : Int32, yRd G (4, 0, 0) kX12_ways [.ref a1, .ref r_2, .int x_3] M_2 H_2 (.int r_4) ∧ (((r_4 ≤ (0 : Int32)) → (0 + 1 ≤ 16 ∧ 0 + 49 ≤ 432) ∧ F 0 M_2 H_2) ∧ ((¬ r_4 ≤ (0 : Int32)) → (0 + 1 ≤ 16 ∧ 0 + 49 ≤ 432) ∧ F 1 M_2 H_2)))))) ∧ ((x_1 : Int32) = 22 → ∃ (b_2 : Nat), yG H a0 11 2 (.ref b_2) ∧ ((0 + 8 ≤ 16 ∧ 0 + 216 ≤ 432) ∧ yIs H b_2 11 ∧ ∃ r_3 : Int32, yRd G (8, 8, 216) kX13_value [.ref b_2, .ref a1] M H (.int r_3) ∧ ((0 + 8 ≤ 16 ∧ 0 + 216 ≤ 432) ∧ F ((1 : Int32) - r_3) M H))))) :
    yCal G (9, 16, 432) kX13_value [.ref a0, .ref a1] M H (yFI F) := by
  refine yCal.of (by decide +kernel) rfl (Nat.le_of_ble_eq_true rfl) ?_
  show Yx (yX "value") (yZ G 16 432 (yFI F)) G (eR (9, 16, 432)) kX13_value 0 [(0, .ref a0), (1, .ref a1)] [] M H 0 0
  refine y_aload_n 0 dX13_value_0 rfl rfl ?_
  obtain ⟨x_1, ⟨fs_1, e1_1, e2_1⟩, h⟩ := h
  refine y_get (k := 0) dX13_value_1 clX13 lFX13_7 (by decide) e1_1 e2_1 ?_
  by_cases q : (x_1 : Int32).toInt < 0 ∨ 22 < (x_1 : Int32).toInt
  · replace h := h.1 q
    refine y_tableOut (tg := 243) dX13_value_4 q (by decide) ?_
    exact h
  · replace h := h.2
    refine eTabCases (N := 23) q (by decide) (fun i9 hi hx => ?_)
    match i9, hi, hx with
    | 0, hi, hx =>
      have q3 : (x_1 : Int32) = 0 := eToI (hx.trans (by decide))
      replace h := h.1 q3
      refine y_tableAt (tg := 112) dX13_value_4 q3 (by decide) (by decide) rfl (by decide) ?_
      refine y_aload_n 0 dX13_value_112 rfl rfl ?_
      obtain ⟨x_2, ⟨fs_2, e1_2, e2_2⟩, h⟩ := h
      refine y_get (k := 1) dX13_value_113 clX13 lFX13_13 (by decide) e1_2 e2_2 ?_
      have hb := h.1
      replace h := h.2
      exact y_iret dX13_value_116 rfl hb.1 hb.2 ⟨_, rfl, h⟩
    | 1, hi, hx =>
      have q3 : (x_1 : Int32) = 1 := eToI (hx.trans (by decide))
      replace h := h.2.1 q3
      refine y_tableAt (tg := 117) dX13_value_4 q3 (by decide) (by decide) rfl (by decide) ?_
      refine y_aload_n 1 dX13_value_117 rfl rfl ?_
      obtain ⟨x_2, ⟨fs_2, e1_2, e2_2⟩, h⟩ := h
      refine y_get (k := 3) dX13_value_118 clX12 lFX13_98 (by decide) e1_2 e2_2 ?_
      have hb := h.1
      replace h := h.2
      exact y_iret dX13_value_121 rfl hb.1 hb.2 ⟨_, rfl, h⟩
    | 2, hi, hx =>
      have q3 : (x_1 : Int32) = 2 := eToI (hx.trans (by decide))
      replace h := h.2.2.1 q3
      refine y_tableAt (tg := 122) dX13_value_4 q3 (by decide) (by decide) rfl (by decide) ?_
      refine y_aload_n 1 dX13_value_122 rfl rfl ?_
      have hb := h.1
      replace h := h.2
      obtain ⟨⟨fs_2, hi⟩, h⟩ := h
      refine y_callV yXn (b' := (3, 2, 54)) (K' := kX12_counts) (As := []) (S := []) dX13_value_123 mX12_counts lMX13_103 clX12 rfl hi rfl ⟨(by decide), hb⟩ (Nat.le_of_ble_eq_true rfl) h (fun v_ M_2 H_2 q_ => ?_) rfl
      obtain ⟨r_2, rfl, h⟩ := q_
      refine y_iconst (v := 4) dX13_value_126 rfl ?_
      obtain ⟨x_3, ⟨N_3, f_3, e1_3, e2_3, e3_3⟩, h⟩ := h
      refine y_ialdx dX13_value_127 e1_3 e2_3 e3_3 ?_
      have hb := h.1
      replace h := h.2
      exact y_iret dX13_value_128 rfl hb.1 hb.2 ⟨_, rfl, h⟩
    | 3, hi, hx =>
      have q3 : (x_1 : Int32) = 3 := eToI (hx.trans (by decide))
      replace h := h.2.2.2.1 q3
      refine y_tableAt (tg := 129) dX13_value_4 q3 (by decide) (by decide) rfl (by decide) ?_
      refine y_aload_n 1 dX13_value_129 rfl rfl ?_
      have hb := h.1
      replace h := h.2
      obtain ⟨⟨fs_2, hi⟩, h⟩ := h
      refine y_callV yXn (b' := (3, 2, 54)) (K' := kX12_counts) (As := []) (S := []) dX13_value_130 mX12_counts lMX13_103 clX12 rfl hi rfl ⟨(by decide), hb⟩ (Nat.le_of_ble_eq_true rfl) h (fun v_ M_2 H_2 q_ => ?_) rfl
      obtain ⟨r_2, rfl, h⟩ := q_
      refine y_iconst (v := 0) dX13_value_133 rfl ?_
      obtain ⟨x_3, ⟨N_3, f_3, e1_3, e2_3, e3_3⟩, h⟩ := h
      refine y_ialdx dX13_value_134 e1_3 e2_3 e3_3 ?_
      have hb := h.1
      replace h := h.2
      exact y_iret dX13_value_135 rfl hb.1 hb.2 ⟨_, rfl, h⟩
    | 4, hi, hx =>
      have q3 : (x_1 : Int32) = 4 := eToI (hx.trans (by decide))
      replace h := h.2.2.2.2.1 q3
      refine y_tableAt (tg := 136) dX13_value_4 q3 (by decide) (by decide) rfl (by decide) ?_
      refine y_aload_n 1 dX13_value_136 rfl rfl ?_
      have hb := h.1
      replace h := h.2
      obtain ⟨⟨fs_2, hi⟩, h⟩ := h
      refine y_callV yXn (b' := (3, 2, 54)) (K' := kX12_counts) (As := []) (S := []) dX13_value_137 mX12_counts lMX13_103 clX12 rfl hi rfl ⟨(by decide), hb⟩ (Nat.le_of_ble_eq_true rfl) h (fun v_ M_2 H_2 q_ => ?_) rfl
      obtain ⟨r_2, rfl, h⟩ := q_
      refine y_iconst (v := 3) dX13_value_140 rfl ?_
      obtain ⟨x_3, ⟨N_3, f_3, e1_3, e2_3, e3_3⟩, h⟩ := h
      refine y_ialdx dX13_value_141 e1_3 e2_3 e3_3 ?_
      have hb := h.1
      replace h := h.2
      exact y_iret dX13_value_142 rfl hb.1 hb.2 ⟨_, rfl, h⟩
    | 5, hi, hx =>
      have q3 : (x_1 : Int32) = 5 := eToI (hx.trans (by decide))
      replace h := h.2.2.2.2.2.1 q3
      refine y_tableAt (tg := 143) dX13_value_4 q3 (by decide) (by decide) rfl (by decide) ?_
      refine y_aload_n 1 dX13_value_143 rfl rfl ?_
      have hb := h.1
      replace h := h.2
      obtain ⟨⟨fs_2, hi⟩, h⟩ := h
      refine y_callV yXn (b' := (3, 2, 54)) (K' := kX12_counts) (As := []) (S := []) dX13_value_144 mX12_counts lMX13_103 clX12 rfl hi rfl ⟨(by decide), hb⟩ (Nat.le_of_ble_eq_true rfl) h (fun v_ M_2 H_2 q_ => ?_) rfl
      obtain ⟨r_2, rfl, h⟩ := q_
      refine y_iconst (v := 2) dX13_value_147 rfl ?_
      obtain ⟨x_3, ⟨N_3, f_3, e1_3, e2_3, e3_3⟩, h⟩ := h
      refine y_ialdx dX13_value_148 e1_3 e2_3 e3_3 ?_
      have hb := h.1
      replace h := h.2
      exact y_iret dX13_value_149 rfl hb.1 hb.2 ⟨_, rfl, h⟩
    | 6, hi, hx =>
      have q3 : (x_1 : Int32) = 6 := eToI (hx.trans (by decide))
      replace h := h.2.2.2.2.2.2.1 q3
      refine y_tableAt (tg := 150) dX13_value_4 q3 (by decide) (by decide) rfl (by decide) ?_
      refine y_aload_n 1 dX13_value_150 rfl rfl ?_
      obtain ⟨x_2, ⟨fs_2, e1_2, e2_2⟩, h⟩ := h
      refine y_get (k := 0) dX13_value_151 clX12 lFX13_107 (by decide) e1_2 e2_2 ?_
      refine y_aload_n 1 dX13_value_154 rfl rfl ?_
      obtain ⟨x_3, ⟨fs_3, e1_3, e2_3⟩, h⟩ := h
      refine y_get (k := 1) dX13_value_155 clX12 lFX13_110 (by decide) e1_3 e2_3 ?_
      refine y_imul dX13_value_158 ?_
      refine y_aload_n 1 dX13_value_159 rfl rfl ?_
      have hb := h.1
      replace h := h.2
      obtain ⟨⟨fs_4, hi⟩, h⟩ := h
      refine y_callV yXn (b' := (3, 2, 54)) (K' := kX12_counts) (As := []) (S := [.int (x_2 * x_3)]) dX13_value_160 mX12_counts lMX13_103 clX12 rfl hi rfl ⟨(by decide), hb⟩ (Nat.le_of_ble_eq_true rfl) h (fun v_ M_4 H_4 q_ => ?_) rfl
      obtain ⟨r_4, rfl, h⟩ := q_
      refine y_iconst (v := 4) dX13_value_163 rfl ?_
      obtain ⟨x_5, ⟨N_5, f_5, e1_5, e2_5, e3_5⟩, h⟩ := h
      refine y_ialdx dX13_value_164 e1_5 e2_5 e3_5 ?_
      refine y_isub dX13_value_165 ?_
      have hb := h.1
      replace h := h.2
      exact y_iret dX13_value_166 rfl hb.1 hb.2 ⟨_, rfl, h⟩
    | 7, hi, hx =>
      have q3 : (x_1 : Int32) = 7 := eToI (hx.trans (by decide))
      replace h := h.2.2.2.2.2.2.2.1 q3
      refine y_tableAt (tg := 167) dX13_value_4 q3 (by decide) (by decide) rfl (by decide) ?_
      refine y_aload_n 1 dX13_value_167 rfl rfl ?_
      refine y_aload_n 1 dX13_value_168 rfl rfl ?_
      have hb := h.1
      replace h := h.2
      obtain ⟨⟨fs_2, hi⟩, h⟩ := h
      refine y_callV yXn (b' := (1, 1, 49)) (K' := kX12_board) (As := []) (S := [.ref a1]) dX13_value_169 mX12_board lMX13_113 clX12 rfl hi rfl ⟨(by decide), hb⟩ (Nat.le_of_ble_eq_true rfl) h (fun v_ M_2 H_2 q_ => ?_) rfl
      obtain ⟨r_2, rfl, h⟩ := q_
      refine y_aload_n 0 dX13_value_172 rfl rfl ?_
      obtain ⟨x_3, ⟨fs_3, e1_3, e2_3⟩, h⟩ := h
      refine y_get (k := 1) dX13_value_173 clX13 lFX13_13 (by decide) e1_3 e2_3 ?_
      have hb := h.1
      replace h := h.2
      obtain ⟨⟨fs_4, hi⟩, h⟩ := h
      obtain ⟨r_4, hc, h⟩ := h
      refine y_callV yXn (b' := (4, 0, 0)) (K' := kX12_ways) (As := [.ref r_2, .int x_3]) (S := []) dX13_value_176 mX12_ways lMX13_116 clX12 rfl hi rfl ⟨(by decide), hb⟩ (Nat.le_of_ble_eq_true rfl) hc (fun v_ M_ H_ q_ => ?_) rfl
      obtain ⟨rfl, rfl, rfl⟩ := q_
      have hb := h.1
      replace h := h.2
      exact y_iret dX13_value_179 rfl hb.1 hb.2 ⟨_, rfl, h⟩
    | 8, hi, hx =>
      have q3 : (x_1 : Int32) = 8 := eToI (hx.trans (by decide))
      replace h := h.2.2.2.2.2.2.2.2.1 q3
      refine y_tableAt (tg := 180) dX13_value_4 q3 (by decide) (by decide) rfl (by decide) ?_
      refine y_iconst (v := 0) dX13_value_180 rfl ?_
      refine y_aload_n 0 dX13_value_181 rfl rfl ?_
      obtain ⟨b_2, ⟨fs_2, e1_2, e2_2⟩, h⟩ := h
      refine y_get (k := 2) dX13_value_182 clX13 lFX13_16 (by decide) e1_2 e2_2 ?_
      refine y_aload_n 1 dX13_value_185 rfl rfl ?_
      have hb := h.1
      replace h := h.2
      obtain ⟨⟨fs_3, hi⟩, h⟩ := h
      obtain ⟨r_3, hc, h⟩ := h
      refine y_callV yXn (b' := (8, 8, 216)) (K' := kX13_value) (As := [.ref a1]) (S := [.int 0]) dX13_value_186 mX13_value lMX13_120 clX13 rfl hi rfl ⟨(by decide), hb⟩ (Nat.le_of_ble_eq_true rfl) hc (fun v_ M_ H_ q_ => ?_) rfl
      obtain ⟨rfl, rfl, rfl⟩ := q_
      refine y_isub dX13_value_189 ?_
      have hb := h.1
      replace h := h.2
      exact y_iret dX13_value_190 rfl hb.1 hb.2 ⟨_, rfl, h⟩
    | 9, hi, hx =>
      have q3 : (x_1 : Int32) = 9 := eToI (hx.trans (by decide))
      replace h := h.2.2.2.2.2.2.2.2.2.1 q3
      refine y_tableAt (tg := 243) dX13_value_4 q3 (by decide) (by decide) rfl (by decide) ?_
      exact h
    | 10, hi, hx =>
      have q3 : (x_1 : Int32) = 10 := eToI (hx.trans (by decide))
      replace h := h.2.2.2.2.2.2.2.2.2.2.1 q3
      refine y_tableAt (tg := 243) dX13_value_4 q3 (by decide) (by decide) rfl (by decide) ?_
      exact h
    | 11, hi, hx =>
      have q3 : (x_1 : Int32) = 11 := eToI (hx.trans (by decide))
      replace h := h.2.2.2.2.2.2.2.2.2.2.2.1 q3
      refine y_tableAt (tg := 243) dX13_value_4 q3 (by decide) (by decide) rfl (by decide) ?_
      exact h
    | 12, hi, hx =>
      have q3 : (x_1 : Int32) = 12 := eToI (hx.trans (by decide))
      replace h := h.2.2.2.2.2.2.2.2.2.2.2.2.1 q3
      refine y_tableAt (tg := 243) dX13_value_4 q3 (by decide) (by decide) rfl (by decide) ?_
      exact h
    | 13, hi, hx =>
      have q3 : (x_1 : Int32) = 13 := eToI (hx.trans (by decide))
      replace h := h.2.2.2.2.2.2.2.2.2.2.2.2.2.1 q3
      refine y_tableAt (tg := 243) dX13_value_4 q3 (by decide) (by decide) rfl (by decide) ?_
      exact h
    | 14, hi, hx =>
      have q3 : (x_1 : Int32) = 14 := eToI (hx.trans (by decide))
      replace h := h.2.2.2.2.2.2.2.2.2.2.2.2.2.2.1 q3
      refine y_tableAt (tg := 243) dX13_value_4 q3 (by decide) (by decide) rfl (by decide) ?_
      exact h
    | 15, hi, hx =>
      have q3 : (x_1 : Int32) = 15 := eToI (hx.trans (by decide))
      replace h := h.2.2.2.2.2.2.2.2.2.2.2.2.2.2.2.1 q3
      refine y_tableAt (tg := 243) dX13_value_4 q3 (by decide) (by decide) rfl (by decide) ?_
      exact h
    | 16, hi, hx =>
      have q3 : (x_1 : Int32) = 16 := eToI (hx.trans (by decide))
      replace h := h.2.2.2.2.2.2.2.2.2.2.2.2.2.2.2.2.1 q3
      refine y_tableAt (tg := 243) dX13_value_4 q3 (by decide) (by decide) rfl (by decide) ?_
      exact h
    | 17, hi, hx =>
      have q3 : (x_1 : Int32) = 17 := eToI (hx.trans (by decide))
      replace h := h.2.2.2.2.2.2.2.2.2.2.2.2.2.2.2.2.2.1 q3
      refine y_tableAt (tg := 243) dX13_value_4 q3 (by decide) (by decide) rfl (by decide) ?_
      exact h
    | 18, hi, hx =>
      have q3 : (x_1 : Int32) = 18 := eToI (hx.trans (by decide))
      replace h := h.2.2.2.2.2.2.2.2.2.2.2.2.2.2.2.2.2.2.1 q3
      refine y_tableAt (tg := 243) dX13_value_4 q3 (by decide) (by decide) rfl (by decide) ?_
      exact h
    | 19, hi, hx =>
      have q3 : (x_1 : Int32) = 19 := eToI (hx.trans (by decide))
      replace h := h.2.2.2.2.2.2.2.2.2.2.2.2.2.2.2.2.2.2.2.1 q3
      refine y_tableAt (tg := 243) dX13_value_4 q3 (by decide) (by decide) rfl (by decide) ?_
      exact h
    | 20, hi, hx =>
      have q3 : (x_1 : Int32) = 20 := eToI (hx.trans (by decide))
      replace h := h.2.2.2.2.2.2.2.2.2.2.2.2.2.2.2.2.2.2.2.2.1 q3
      refine y_tableAt (tg := 191) dX13_value_4 q3 (by decide) (by decide) rfl (by decide) ?_
      refine y_aload_n 1 dX13_value_191 rfl rfl ?_
      obtain ⟨b_2, ⟨fs_2, e1_2, e2_2⟩, h⟩ := h
      refine y_get (k := 2) dX13_value_192 clX12 lFX13_124 (by decide) e1_2 e2_2 ?_
      refine y_aload_n 0 dX13_value_195 rfl rfl ?_
      obtain ⟨x_3, ⟨fs_3, e1_3, e2_3⟩, h⟩ := h
      refine y_get (k := 1) dX13_value_196 clX13 lFX13_13 (by decide) e1_3 e2_3 ?_
      obtain ⟨b_4, ⟨N_4, f_4, e1_4, e2_4, e3_4⟩, h⟩ := h
      refine y_aald (t := 5) (ty := .array .int) dX13_value_199 rfl rfl e1_4 e2_4 e3_4 ?_
      refine y_iconst (v := 3) dX13_value_200 rfl ?_
      obtain ⟨x_5, ⟨N_5, f_5, e1_5, e2_5, e3_5⟩, h⟩ := h
      refine y_ialdx dX13_value_201 e1_5 e2_5 e3_5 ?_
      refine y_if_lt (t := 209) dX13_value_202 (by decide) (fun q => ?_) (fun q => ?_)
      · replace h := h.1 q
        refine y_iconst (v := 0) dX13_value_209 rfl ?_
        have hb := h.1
        replace h := h.2
        exact y_iret dX13_value_210 rfl hb.1 hb.2 ⟨_, rfl, h⟩
      · replace h := h.2 q
        refine y_iconst (v := 1) dX13_value_205 rfl ?_
        refine y_goto (t := 210) dX13_value_206 (by decide) ?_
        have hb := h.1
        replace h := h.2
        exact y_iret dX13_value_210 rfl hb.1 hb.2 ⟨_, rfl, h⟩
    | 21, hi, hx =>
      have q3 : (x_1 : Int32) = 21 := eToI (hx.trans (by decide))
      replace h := h.2.2.2.2.2.2.2.2.2.2.2.2.2.2.2.2.2.2.2.2.2.1 q3
      refine y_tableAt (tg := 211) dX13_value_4 q3 (by decide) (by decide) rfl (by decide) ?_
      refine y_aload_n 1 dX13_value_211 rfl rfl ?_
      refine y_aload_n 1 dX13_value_212 rfl rfl ?_
      have hb := h.1
      replace h := h.2
      obtain ⟨⟨fs_2, hi⟩, h⟩ := h
      refine y_callV yXn (b' := (1, 1, 49)) (K' := kX12_board) (As := []) (S := [.ref a1]) dX13_value_213 mX12_board lMX13_113 clX12 rfl hi rfl ⟨(by decide), hb⟩ (Nat.le_of_ble_eq_true rfl) h (fun v_ M_2 H_2 q_ => ?_) rfl
      obtain ⟨r_2, rfl, h⟩ := q_
      refine y_aload_n 0 dX13_value_216 rfl rfl ?_
      obtain ⟨x_3, ⟨fs_3, e1_3, e2_3⟩, h⟩ := h
      refine y_get (k := 1) dX13_value_217 clX13 lFX13_13 (by decide) e1_3 e2_3 ?_
      have hb := h.1
      replace h := h.2
      obtain ⟨⟨fs_4, hi⟩, h⟩ := h
      obtain ⟨r_4, hc, h⟩ := h
      refine y_callV yXn (b' := (4, 0, 0)) (K' := kX12_ways) (As := [.ref r_2, .int x_3]) (S := []) dX13_value_220 mX12_ways lMX13_116 clX12 rfl hi rfl ⟨(by decide), hb⟩ (Nat.le_of_ble_eq_true rfl) hc (fun v_ M_ H_ q_ => ?_) rfl
      obtain ⟨rfl, rfl, rfl⟩ := q_
      refine y_if_le (t := 230) dX13_value_223 (by decide) (fun q => ?_) (fun q => ?_)
      · replace h := h.1 q
        refine y_iconst (v := 0) dX13_value_230 rfl ?_
        have hb := h.1
        replace h := h.2
        exact y_iret dX13_value_231 rfl hb.1 hb.2 ⟨_, rfl, h⟩
      · replace h := h.2 q
        refine y_iconst (v := 1) dX13_value_226 rfl ?_
        refine y_goto (t := 231) dX13_value_227 (by decide) ?_
        have hb := h.1
        replace h := h.2
        exact y_iret dX13_value_231 rfl hb.1 hb.2 ⟨_, rfl, h⟩
    | 22, hi, hx =>
      have q3 : (x_1 : Int32) = 22 := eToI (hx.trans (by decide))
      replace h := h.2.2.2.2.2.2.2.2.2.2.2.2.2.2.2.2.2.2.2.2.2.2 q3
      refine y_tableAt (tg := 232) dX13_value_4 q3 (by decide) (by decide) rfl (by decide) ?_
      refine y_iconst (v := 1) dX13_value_232 rfl ?_
      refine y_aload_n 0 dX13_value_233 rfl rfl ?_
      obtain ⟨b_2, ⟨fs_2, e1_2, e2_2⟩, h⟩ := h
      refine y_get (k := 2) dX13_value_234 clX13 lFX13_16 (by decide) e1_2 e2_2 ?_
      refine y_aload_n 1 dX13_value_237 rfl rfl ?_
      have hb := h.1
      replace h := h.2
      obtain ⟨⟨fs_3, hi⟩, h⟩ := h
      obtain ⟨r_3, hc, h⟩ := h
      refine y_callV yXn (b' := (8, 8, 216)) (K' := kX13_value) (As := [.ref a1]) (S := [.int 1]) dX13_value_238 mX13_value lMX13_120 clX13 rfl hi rfl ⟨(by decide), hb⟩ (Nat.le_of_ble_eq_true rfl) hc (fun v_ M_ H_ q_ => ?_) rfl
      obtain ⟨rfl, rfl, rfl⟩ := q_
      refine y_isub dX13_value_241 ?_
      have hb := h.1
      replace h := h.2
      exact y_iret dX13_value_242 rfl hb.1 hb.2 ⟨_, rfl, h⟩
    | i + 23, hi, hx => exact absurd hi (by omega)
set_option maxHeartbeats 4000000 in
set_option maxRecDepth 100000 in
theorem B_X14_isDone_30 (G : eG) (ca sl : Nat) (M : eM) (H : yH) (F : Bool → eM → yH → Prop) (a0 : Nat) (a1 : Nat) (a2 : Nat)
    (h : ∃ (x_1 : Int32), yG H a0 12 0 (.int x_1) ∧ (((¬ x_1 = (2 : Int32)) → ∃ (x_2 : Int32), yG H a0 12 0 (.int x_2) ∧ (((¬ x_2 = (1 : Int32)) → ∃ (b_3 : Nat), yG H a0 12 2 (.ref b_3) ∧ (∃ (b_4 : Nat), yER G 7 H b_3 0 b_4 ∧ ((ca + 4 ≤ 29 ∧ sl + 108 ≤ 810) ∧ yIs H b_4 11 ∧ ∃ r_5 : Int32, yRd G (7, 4, 108) kX13_value [.ref b_4, .ref a1] M H (.int r_5) ∧ (∃ (x_6 : Int32), yG H a1 10 0 (.int x_6) ∧ (((ca + 4) + 0 ≤ 29 ∧ (sl + 108) + 0 ≤ 810) ∧ ∃ r_7 : Int32, yRd G (1, 0, 0) kX14_rest [.int r_5, .int x_6] M H (.int r_7) ∧ (∃ (x_8 : Int32), yG H a1 10 0 (.int x_8) ∧ (∃ (b_9 : Nat), yG H a0 12 2 (.ref b_9) ∧ (∃ (b_10 : Nat), yER G 7 H b_9 1 b_10 ∧ (((ca + 4) + 4 ≤ 29 ∧ (sl + 108) + 108 ≤ 810) ∧ yIs H b_10 11 ∧ ∃ r_11 : Int32, yRd G (7, 4, 108) kX13_value [.ref b_10, .ref a1] M H (.int r_11) ∧ (∃ (x_12 : Int32), yG H a1 10 1 (.int x_12) ∧ (((ca + 4 + 4) + 0 ≤ 29 ∧ (sl + 108 + 108) + 0 ≤ 810) ∧ ∃ r_13 : Int32, yRd G (1, 0, 0) kX14_rest [.int r_11, .int x_12] M H (.int r_13) ∧ (∃ (b_14 : Nat), yG H a0 12 2 (.ref b_14) ∧ (∃ (b_15 : Nat), yER G 7 H b_14 2 b_15 ∧ (((ca + 4 + 4) + 4 ≤ 29 ∧ (sl + 108 + 108) + 108 ≤ 810) ∧ yIs H b_15 11 ∧ ∃ r_16 : Int32, yRd G (7, 4, 108) kX13_value [.ref b_15, .ref a1] M H (.int r_16) ∧ (((ca + 4 + 4 + 4) + 0 ≤ 29 ∧ (sl + 108 + 108 + 108) + 0 ≤ 810) ∧ ∃ r_17 : Int32, yRd G (1, 0, 0) kX14_rest [.int r_16, .int 6] M H (.int r_17) ∧ (((ca + 4 + 4 + 4) + 1 ≤ 29 ∧ (sl + 108 + 108 + 108) + 49 ≤ 810) ∧ yIs H a1 10 ∧ yCal G (1, 1, 49) kX12_board [.ref a1] M H (yFR (fun (r_18 : Nat) (M_18 : eM) (H_18 : yH) => ∃ (x_19 : Int32), yG H_18 a0 12 1 (.int x_19) ∧ (((ca + 4 + 4 + 4 + 1) + 0 ≤ 29 ∧ (sl + 108 + 108 + 108 + 49) + 0 ≤ 810) ∧ yIs H_18 a1 10 ∧ ∃ r_20 : Bool, yRd G (3, 0, 0) kX12_fits [.ref a1, .ref r_18, .int x_19, .int (r_7 + (x_8 * r_13)), .int r_17] M_18 H_18 (.int (eZi r_20)) ∧ (((r_20 = true) → ∃ (N_21 : Nat) (f_21 : Nat → Int32), H_18 a2 = some (.inl (G.2.2.2 0, (N_21, .inl f_21))) ∧ vp_in 3 N_21 ∧ (∃ (N_22 : Nat) (f_22 : Nat → Int32), (yU H_18 a2 (.inl (G.2.2.2 0, (N_21, .inl (upd f_21 (3 : Int32).toNatClampNeg (r_7 + (x_8 * r_13))))))) a2 = some (.inl (G.2.2.2 0, (N_22, .inl f_22))) ∧ vp_in 4 N_22 ∧ ((ca + 4 + 4 + 4 + 1 ≤ 29 ∧ sl + 108 + 108 + 108 + 49 ≤ 810) ∧ F true M_18 (yU (yU H_18 a2 (.inl (G.2.2.2 0, (N_21, .inl (upd f_21 (3 : Int32).toNatClampNeg (r_7 + (x_8 * r_13))))))) a2 (.inl (G.2.2.2 0, (N_22, .inl (upd f_22 (4 : Int32).toNatClampNeg r_17)))))))) ∧ ((r_20 = false) → (ca + 4 + 4 + 4 + 1 ≤ 29 ∧ sl + 108 + 108 + 108 + 49 ≤ 810) ∧ F false M_18 H_18))))))))))))))))))))) ∧ ((x_2 = (1 : Int32)) → ∃ (x_3 : Int32), yEI G H a2 3 x_3 ∧ (((x_3 < (0 : Int32)) → ∃ (N_4 : Nat) (f_4 : Nat → Int32), H a2 = some (.inl (G.2.2.2 0, (N_4, .inl f_4))) ∧ vp_in 3 N_4 ∧ ((ca ≤ 29 ∧ sl ≤ 810) ∧ F false M (yU H a2 (.inl (G.2.2.2 0, (N_4, .inl (upd f_4 (3 : Int32).toNatClampNeg (-1)))))))) ∧ ((¬ x_3 < (0 : Int32)) → ∃ (N_4 : Nat) (f_4 : Nat → Int32), H a2 = some (.inl (G.2.2.2 0, (N_4, .inl f_4))) ∧ vp_in 3 N_4 ∧ ((ca ≤ 29 ∧ sl ≤ 810) ∧ F true M (yU H a2 (.inl (G.2.2.2 0, (N_4, .inl (upd f_4 (3 : Int32).toNatClampNeg (-1)))))))))))) ∧ ((x_1 = (2 : Int32)) → ∃ (x_2 : Int32), yG H a0 12 1 (.int x_2) ∧ ((ca + 1 ≤ 29 ∧ sl + 49 ≤ 810) ∧ yIs H a1 10 ∧ yCal G (4, 1, 49) kX12_fit [.ref a1, .int x_2] M H (yFZ (fun (r_3 : Bool) (M_3 : eM) (H_3 : yH) => (ca + 1 ≤ 29 ∧ sl + 49 ≤ 810) ∧ F r_3 M_3 H_3)))))) :
    Yx (yX "isDone") (yZ G 29 810 (yFZ F)) G (eR (10, 29, 810)) kX14_isDone 30 [(0, .ref a0), (1, .ref a1), (2, .ref a2)] [] M H ca sl := by
  refine y_aload_n 0 dX14_isDone_30 rfl rfl ?_
  obtain ⟨x_1, ⟨fs_1, e1_1, e2_1⟩, h⟩ := h
  refine y_get (k := 0) dX14_isDone_31 clX14 lFX14_21 (by decide) e1_1 e2_1 ?_
  refine y_iconst (v := 2) dX14_isDone_34 rfl ?_
  refine y_icmp_ne (t := 47) dX14_isDone_35 (by decide) (fun q => ?_) (fun q => ?_)
  · replace h := h.1 q
    refine y_aload_n 0 dX14_isDone_47 rfl rfl ?_
    obtain ⟨x_2, ⟨fs_2, e1_2, e2_2⟩, h⟩ := h
    refine y_get (k := 0) dX14_isDone_48 clX14 lFX14_21 (by decide) e1_2 e2_2 ?_
    refine y_iconst (v := 1) dX14_isDone_51 rfl ?_
    refine y_icmp_ne (t := 73) dX14_isDone_52 (by decide) (fun q => ?_) (fun q => ?_)
    · replace h := h.1 q
      refine y_aload_n 0 dX14_isDone_73 rfl rfl ?_
      obtain ⟨b_3, ⟨fs_3, e1_3, e2_3⟩, h⟩ := h
      refine y_get (k := 2) dX14_isDone_74 clX14 lFX14_9 (by decide) e1_3 e2_3 ?_
      refine y_iconst (v := 0) dX14_isDone_77 rfl ?_
      obtain ⟨b_4, ⟨N_4, f_4, e1_4, e2_4, e3_4⟩, h⟩ := h
      refine y_aald (t := 7) (ty := .object "RingDominoLaw$Node") dX14_isDone_78 rfl rfl e1_4 e2_4 e3_4 ?_
      refine y_aload_n 1 dX14_isDone_79 rfl rfl ?_
      have hb := h.1
      replace h := h.2
      obtain ⟨⟨fs_5, hi⟩, h⟩ := h
      obtain ⟨r_5, hc, h⟩ := h
      refine y_callV yXn (b' := (7, 4, 108)) (K' := kX13_value) (As := [.ref a1]) (S := []) dX14_isDone_80 mX13_value lMX14_80 clX13 rfl hi rfl ⟨(by decide), hb⟩ (Nat.le_of_ble_eq_true rfl) hc (fun v_ M_ H_ q_ => ?_) rfl
      obtain ⟨rfl, rfl, rfl⟩ := q_
      refine y_aload_n 1 dX14_isDone_83 rfl rfl ?_
      obtain ⟨x_6, ⟨fs_6, e1_6, e2_6⟩, h⟩ := h
      refine y_get (k := 0) dX14_isDone_84 clX12 lFX14_88 (by decide) e1_6 e2_6 ?_
      have hb := h.1
      replace h := h.2
      obtain ⟨r_7, hc, h⟩ := h
      refine y_callS yXn (b' := (1, 0, 0)) (K' := kX14_rest) (As := [.int r_5, .int x_6]) (S := []) dX14_isDone_87 mX14_rest lMX14_91 rfl ⟨(by decide), hb⟩ (Nat.le_of_ble_eq_true rfl) hc (fun v_ M_ H_ q_ => ?_) rfl
      obtain ⟨rfl, rfl, rfl⟩ := q_
      refine y_aload_n 1 dX14_isDone_90 rfl rfl ?_
      obtain ⟨x_8, ⟨fs_8, e1_8, e2_8⟩, h⟩ := h
      refine y_get (k := 0) dX14_isDone_91 clX12 lFX14_88 (by decide) e1_8 e2_8 ?_
      refine y_aload_n 0 dX14_isDone_94 rfl rfl ?_
      obtain ⟨b_9, ⟨fs_9, e1_9, e2_9⟩, h⟩ := h
      refine y_get (k := 2) dX14_isDone_95 clX14 lFX14_9 (by decide) e1_9 e2_9 ?_
      refine y_iconst (v := 1) dX14_isDone_98 rfl ?_
      obtain ⟨b_10, ⟨N_10, f_10, e1_10, e2_10, e3_10⟩, h⟩ := h
      refine y_aald (t := 7) (ty := .object "RingDominoLaw$Node") dX14_isDone_99 rfl rfl e1_10 e2_10 e3_10 ?_
      refine y_aload_n 1 dX14_isDone_100 rfl rfl ?_
      have hb := h.1
      replace h := h.2
      obtain ⟨⟨fs_11, hi⟩, h⟩ := h
      obtain ⟨r_11, hc, h⟩ := h
      refine y_callV yXn (b' := (7, 4, 108)) (K' := kX13_value) (As := [.ref a1]) (S := [.int x_8, .int r_7]) dX14_isDone_101 mX13_value lMX14_80 clX13 rfl hi rfl ⟨(by decide), hb⟩ (Nat.le_of_ble_eq_true rfl) hc (fun v_ M_ H_ q_ => ?_) rfl
      obtain ⟨rfl, rfl, rfl⟩ := q_
      refine y_aload_n 1 dX14_isDone_104 rfl rfl ?_
      obtain ⟨x_12, ⟨fs_12, e1_12, e2_12⟩, h⟩ := h
      refine y_get (k := 1) dX14_isDone_105 clX12 lFX14_95 (by decide) e1_12 e2_12 ?_
      have hb := h.1
      replace h := h.2
      obtain ⟨r_13, hc, h⟩ := h
      refine y_callS yXn (b' := (1, 0, 0)) (K' := kX14_rest) (As := [.int r_11, .int x_12]) (S := [.int x_8, .int r_7]) dX14_isDone_108 mX14_rest lMX14_91 rfl ⟨(by decide), hb⟩ (Nat.le_of_ble_eq_true rfl) hc (fun v_ M_ H_ q_ => ?_) rfl
      obtain ⟨rfl, rfl, rfl⟩ := q_
      refine y_imul dX14_isDone_111 ?_
      refine y_iadd dX14_isDone_112 ?_
      refine y_istore_n (i := 3) (l' := [(3, .int (r_7 + (x_8 * r_13))), (0, .ref a0), (1, .ref a1), (2, .ref a2)]) dX14_isDone_113 rfl (by decide) rfl ?_
      refine y_aload_n 1 dX14_isDone_114 rfl rfl ?_
      obtain ⟨b_14, ⟨fs_14, e1_14, e2_14⟩, h⟩ := h
      refine y_get (k := 2) dX14_isDone_115 clX14 lFX14_9 (by decide) e1_14 e2_14 ?_
      refine y_iconst (v := 2) dX14_isDone_118 rfl ?_
      obtain ⟨b_15, ⟨N_15, f_15, e1_15, e2_15, e3_15⟩, h⟩ := h
      refine y_aald (t := 7) (ty := .object "RingDominoLaw$Node") dX14_isDone_119 rfl rfl e1_15 e2_15 e3_15 ?_
      refine y_aload_n 2 dX14_isDone_120 rfl rfl ?_
      have hb := h.1
      replace h := h.2
      obtain ⟨⟨fs_16, hi⟩, h⟩ := h
      obtain ⟨r_16, hc, h⟩ := h
      refine y_callV yXn (b' := (7, 4, 108)) (K' := kX13_value) (As := [.ref a1]) (S := []) dX14_isDone_121 mX13_value lMX14_80 clX13 rfl hi rfl ⟨(by decide), hb⟩ (Nat.le_of_ble_eq_true rfl) hc (fun v_ M_ H_ q_ => ?_) rfl
      obtain ⟨rfl, rfl, rfl⟩ := q_
      refine y_bipush (v := 6) dX14_isDone_124 rfl ?_
      have hb := h.1
      replace h := h.2
      obtain ⟨r_17, hc, h⟩ := h
      refine y_callS yXn (b' := (1, 0, 0)) (K' := kX14_rest) (As := [.int r_16, .int 6]) (S := []) dX14_isDone_126 mX14_rest lMX14_91 rfl ⟨(by decide), hb⟩ (Nat.le_of_ble_eq_true rfl) hc (fun v_ M_ H_ q_ => ?_) rfl
      obtain ⟨rfl, rfl, rfl⟩ := q_
      refine y_istore (i := 4) (l' := [(4, .int r_17), (3, .int (r_7 + (x_8 * r_13))), (0, .ref a0), (1, .ref a1), (2, .ref a2)]) dX14_isDone_129 (by decide) rfl ?_
      refine y_aload_n 3 dX14_isDone_131 rfl rfl ?_
      refine y_aload_n 3 dX14_isDone_132 rfl rfl ?_
      have hb := h.1
      replace h := h.2
      obtain ⟨⟨fs_18, hi⟩, h⟩ := h
      refine y_callV yXn (b' := (1, 1, 49)) (K' := kX12_board) (As := []) (S := [.ref a1]) dX14_isDone_133 mX12_board lMX14_98 clX12 rfl hi rfl ⟨(by decide), hb⟩ (Nat.le_of_ble_eq_true rfl) h (fun v_ M_18 H_18 q_ => ?_) rfl
      obtain ⟨r_18, rfl, h⟩ := q_
      refine y_aload_n 2 dX14_isDone_136 rfl rfl ?_
      obtain ⟨x_19, ⟨fs_19, e1_19, e2_19⟩, h⟩ := h
      refine y_get (k := 1) dX14_isDone_137 clX14 lFX14_25 (by decide) e1_19 e2_19 ?_
      refine y_iload_n 1 dX14_isDone_140 rfl rfl ?_
      refine y_iload 0 dX14_isDone_141 rfl ?_
      have hb := h.1
      replace h := h.2
      obtain ⟨⟨fs_20, hi⟩, h⟩ := h
      obtain ⟨r_20, hc, h⟩ := h
      refine y_callV yXn (b' := (3, 0, 0)) (K' := kX12_fits) (As := [.ref r_18, .int x_19, .int (r_7 + (x_8 * r_13)), .int r_17]) (S := []) dX14_isDone_143 mX12_fits lMX14_102 clX12 rfl hi rfl ⟨(by decide), hb⟩ (Nat.le_of_ble_eq_true rfl) hc (fun v_ M_ H_ q_ => ?_) rfl
      obtain ⟨rfl, rfl, rfl⟩ := q_
      refine y_zif_ne (t := 151) dX14_isDone_146 (by decide) (fun q => ?_) (fun q => ?_)
      · replace h := h.1 q
        refine y_aload_n 4 dX14_isDone_151 rfl rfl ?_
        refine y_iconst (v := 3) dX14_isDone_152 rfl ?_
        refine y_iload_n 1 dX14_isDone_153 rfl rfl ?_
        obtain ⟨N_21, f_21, e1_21, e2_21, h⟩ := h
        refine y_iast yXn dX14_isDone_154 e1_21 e2_21 ?_
        refine y_aload_n 4 dX14_isDone_155 rfl rfl ?_
        refine y_iconst (v := 4) dX14_isDone_156 rfl ?_
        refine y_iload 0 dX14_isDone_157 rfl ?_
        obtain ⟨N_22, f_22, e1_22, e2_22, h⟩ := h
        refine y_iast yXn dX14_isDone_159 e1_22 e2_22 ?_
        refine y_iconst (v := 1) dX14_isDone_160 rfl ?_
        have hb := h.1
        replace h := h.2
        exact y_zret (v := eZi true) dX14_isDone_161 rfl (eZi_nw _) hb.1 hb.2 ⟨_, rfl, h⟩
      · replace h := h.2 q
        refine y_iconst (v := 0) dX14_isDone_149 rfl ?_
        have hb := h.1
        replace h := h.2
        exact y_zret (v := eZi false) dX14_isDone_150 rfl (eZi_nw _) hb.1 hb.2 ⟨_, rfl, h⟩
    · replace h := h.2 q
      refine y_aload_n 2 dX14_isDone_55 rfl rfl ?_
      refine y_iconst (v := 3) dX14_isDone_56 rfl ?_
      obtain ⟨x_3, ⟨N_3, f_3, e1_3, e2_3, e3_3⟩, h⟩ := h
      refine y_ialdx dX14_isDone_57 e1_3 e2_3 e3_3 ?_
      refine y_if_lt (t := 65) dX14_isDone_58 (by decide) (fun q => ?_) (fun q => ?_)
      · replace h := h.1 q
        refine y_iconst (v := 0) dX14_isDone_65 rfl ?_
        refine y_istore_n (i := 3) (l' := [(3, .int 0), (0, .ref a0), (1, .ref a1), (2, .ref a2)]) dX14_isDone_66 rfl (by decide) rfl ?_
        refine y_aload_n 3 dX14_isDone_67 rfl rfl ?_
        refine y_iconst (v := 3) dX14_isDone_68 rfl ?_
        refine y_iconst (v := (-1)) dX14_isDone_69 rfl ?_
        obtain ⟨N_4, f_4, e1_4, e2_4, h⟩ := h
        refine y_iast yXn dX14_isDone_70 e1_4 e2_4 ?_
        refine y_iload_n 0 dX14_isDone_71 rfl rfl ?_
        have hb := h.1
        replace h := h.2
        exact y_zret (v := eZi false) dX14_isDone_72 rfl (eZi_nw _) hb.1 hb.2 ⟨_, rfl, h⟩
      · replace h := h.2 q
        refine y_iconst (v := 1) dX14_isDone_61 rfl ?_
        refine y_goto (t := 66) dX14_isDone_62 (by decide) ?_
        refine y_istore_n (i := 3) (l' := [(3, .int 1), (0, .ref a0), (1, .ref a1), (2, .ref a2)]) dX14_isDone_66 rfl (by decide) rfl ?_
        refine y_aload_n 3 dX14_isDone_67 rfl rfl ?_
        refine y_iconst (v := 3) dX14_isDone_68 rfl ?_
        refine y_iconst (v := (-1)) dX14_isDone_69 rfl ?_
        obtain ⟨N_4, f_4, e1_4, e2_4, h⟩ := h
        refine y_iast yXn dX14_isDone_70 e1_4 e2_4 ?_
        refine y_iload_n 0 dX14_isDone_71 rfl rfl ?_
        have hb := h.1
        replace h := h.2
        exact y_zret (v := eZi true) dX14_isDone_72 rfl (eZi_nw _) hb.1 hb.2 ⟨_, rfl, h⟩
  · replace h := h.2 q
    refine y_aload_n 1 dX14_isDone_38 rfl rfl ?_
    refine y_aload_n 0 dX14_isDone_39 rfl rfl ?_
    obtain ⟨x_2, ⟨fs_2, e1_2, e2_2⟩, h⟩ := h
    refine y_get (k := 1) dX14_isDone_40 clX14 lFX14_25 (by decide) e1_2 e2_2 ?_
    have hb := h.1
    replace h := h.2
    obtain ⟨⟨fs_3, hi⟩, h⟩ := h
    refine y_callV yXn (b' := (4, 1, 49)) (K' := kX12_fit) (As := [.int x_2]) (S := []) dX14_isDone_43 mX12_fit lMX14_84 clX12 rfl hi rfl ⟨(by decide), hb⟩ (Nat.le_of_ble_eq_true rfl) h (fun v_ M_3 H_3 q_ => ?_) rfl
    obtain ⟨r_3, rfl, h⟩ := q_
    have hb := h.1
    replace h := h.2
    exact y_zret (v := eZi r_3) dX14_isDone_46 rfl (eZi_nw _) hb.1 hb.2 ⟨_, rfl, h⟩
set_option maxHeartbeats 4000000 in
set_option maxRecDepth 100000 in
theorem C_X14_isDone (G : eG) (M : eM) (H : yH) (F : Bool → eM → yH → Prop) (a0 : Nat) (a1 : Nat)
    (h : ∃ (b_1 : Nat), yG H a1 10 2 (.ref b_1) ∧ (∃ (x_2 : Int32), yG H a0 12 1 (.int x_2) ∧ (∃ (b_3 : Nat), yER G 5 H b_1 x_2 b_3 ∧ ((yG H a0 12 3 .null ∧ (Yx (yX "isDone") (yZ G 29 810 (yFZ F)) G (eR (10, 29, 810)) kX14_isDone 30 [(0, .ref a0), (1, .ref a1), (2, .ref b_3)] [] M H 0 0)) ∨ (∃ (b_4 : Nat), yG H a0 12 3 (.ref b_4) ∧ (∃ (b_5 : Nat), yG H a0 12 3 (.ref b_5) ∧ ((0 + 16 ≤ 29 ∧ 0 + 432 ≤ 810) ∧ yIs H b_5 11 ∧ ∃ r_6 : Int32, yRd G (9, 16, 432) kX13_value [.ref b_5, .ref a1] M H (.int r_6) ∧ (((¬ r_6 = (0 : Int32)) → Yx (yX "isDone") (yZ G 29 810 (yFZ F)) G (eR (10, 29, 810)) kX14_isDone 30 [(0, .ref a0), (1, .ref a1), (2, .ref b_3)] [] M H (0 + 16) (0 + 432)) ∧ ((r_6 = (0 : Int32)) → (0 + 16 ≤ 29 ∧ 0 + 432 ≤ 810) ∧ F false M H))))))))) :
    yCal G (10, 29, 810) kX14_isDone [.ref a0, .ref a1] M H (yFZ F) := by
  refine yCal.of (by decide +kernel) rfl (Nat.le_of_ble_eq_true rfl) ?_
  show Yx (yX "isDone") (yZ G 29 810 (yFZ F)) G (eR (10, 29, 810)) kX14_isDone 0 [(0, .ref a0), (1, .ref a1)] [] M H 0 0
  refine y_aload_n 1 dX14_isDone_0 rfl rfl ?_
  obtain ⟨b_1, ⟨fs_1, e1_1, e2_1⟩, h⟩ := h
  refine y_get (k := 2) dX14_isDone_1 clX12 lFX14_74 (by decide) e1_1 e2_1 ?_
  refine y_aload_n 0 dX14_isDone_4 rfl rfl ?_
  obtain ⟨x_2, ⟨fs_2, e1_2, e2_2⟩, h⟩ := h
  refine y_get (k := 1) dX14_isDone_5 clX14 lFX14_25 (by decide) e1_2 e2_2 ?_
  obtain ⟨b_3, ⟨N_3, f_3, e1_3, e2_3, e3_3⟩, h⟩ := h
  refine y_aald (t := 5) (ty := .array .int) dX14_isDone_8 rfl rfl e1_3 e2_3 e3_3 ?_
  refine y_astore_n (i := 2) (l' := [(2, .ref b_3), (0, .ref a0), (1, .ref a1)]) dX14_isDone_9 rfl (by decide) rfl ?_
  refine y_aload_n 1 dX14_isDone_10 rfl rfl ?_
  rcases h with ⟨⟨fs_4, e1_4, e2_4⟩, h⟩ | ⟨b_4, ⟨fs_4, e1_4, e2_4⟩, h⟩
  · refine y_get (k := 3) dX14_isDone_11 clX14 lFX14_38 (by decide) e1_4 e2_4 ?_
    refine y_ifnullN (t := 30) dX14_isDone_14 (by decide) ?_
    exact Yx.sub (ks := [1, 2, 0]) rfl h
  · refine y_get (k := 3) dX14_isDone_11 clX14 lFX14_38 (by decide) e1_4 e2_4 ?_
    refine y_ifnullR dX14_isDone_14 ?_
    refine y_aload_n 1 dX14_isDone_17 rfl rfl ?_
    obtain ⟨b_5, ⟨fs_5, e1_5, e2_5⟩, h⟩ := h
    refine y_get (k := 3) dX14_isDone_18 clX14 lFX14_38 (by decide) e1_5 e2_5 ?_
    refine y_aload_n 2 dX14_isDone_21 rfl rfl ?_
    have hb := h.1
    replace h := h.2
    obtain ⟨⟨fs_6, hi⟩, h⟩ := h
    obtain ⟨r_6, hc, h⟩ := h
    refine y_callV yXn (b' := (9, 16, 432)) (K' := kX13_value) (As := [.ref a1]) (S := []) dX14_isDone_22 mX13_value lMX14_80 clX13 rfl hi rfl ⟨(by decide), hb⟩ (Nat.le_of_ble_eq_true rfl) hc (fun v_ M_ H_ q_ => ?_) rfl
    obtain ⟨rfl, rfl, rfl⟩ := q_
    refine y_if_ne (t := 30) dX14_isDone_25 (by decide) (fun q => ?_) (fun q => ?_)
    · replace h := h.1 q
      exact Yx.sub (ks := [1, 2, 0]) rfl h
    · replace h := h.2 q
      refine y_iconst (v := 0) dX14_isDone_28 rfl ?_
      have hb := h.1
      replace h := h.2
      exact y_zret (v := eZi false) dX14_isDone_29 rfl (eZi_nw _) hb.1 hb.2 ⟨_, rfl, h⟩
set_option maxHeartbeats 4000000 in
set_option maxRecDepth 100000 in
theorem B_X12_play_42 (G : eG) (ca sl : Nat) (M : eM) (H : yH) (F : Int32 → eM → yH → Prop) (a0 : Nat) (x1 : Int32) (a2 : Nat) (x3 : Int32) (x4 : Int32)
    (h : Yx (yX "play") (yZ G 116 3240 (yFI F)) G (eR (11, 116, 3240)) kX12_play 13 [(0, .ref a0), (1, .int x1), (2, .ref a2), (3, .int x3), (4, .int (x4 + 1))] [] M H ca sl) :
    Yx (yX "play") (yZ G 116 3240 (yFI F)) G (eR (11, 116, 3240)) kX12_play 42 [(0, .ref a0), (1, .int x1), (2, .ref a2), (3, .int x3), (4, .int x4)] [] M H ca sl := by
  refine y_iinc (v := x4 + 1) (l' := [(4, .int (x4 + 1)), (0, .ref a0), (1, .int x1), (2, .ref a2), (3, .int x3)]) 4 dX12_play_42 rfl rfl (by decide) rfl ?_
  refine y_goto (t := 13) dX12_play_45 (by decide) ?_
  exact Yx.sub (ks := [1, 2, 3, 4, 0]) rfl h
set_option maxHeartbeats 4000000 in
set_option maxRecDepth 100000 in
theorem B_X12_play_13 (G : eG) (ca sl : Nat) (M : eM) (H : yH) (F : Int32 → eM → yH → Prop) (a0 : Nat) (x1 : Int32) (a2 : Nat) (x3 : Int32) (x4 : Int32)
    (h : ((x3 ≤ x4) → ∃ (x_1 : Int32), yG H a0 10 3 (.int x_1) ∧ (∃ (fs_2 : List Value), H a0 = some (.inr (10, fs_2)) ∧ 3 < fs_2.length ∧ ((ca ≤ 116 ∧ sl ≤ 3240) ∧ F x1 M (yU H a0 (.inr (10, fs_2.set 3 (.int (x_1 + 1)))))))) ∧ ((¬ x3 ≤ x4) → ∃ (b_1 : Nat), yER G 6 H a2 x4 b_1 ∧ ((ca + 29 ≤ 116 ∧ sl + 810 ≤ 3240) ∧ yIs H b_1 12 ∧ yCal G (10, 29, 810) kX14_isDone [.ref b_1, .ref a0] M H (yFZ (fun (r_2 : Bool) (M_2 : eM) (H_2 : yH) => ((r_2 = false) → Yx (yX "play") (yZ G 116 3240 (yFI F)) G (eR (11, 116, 3240)) kX12_play 42 [(0, .ref a0), (1, .int (x1 + 0)), (2, .ref a2), (3, .int x3), (4, .int x4)] [] M_2 H_2 (ca + 29) (sl + 810)) ∧ ((r_2 = true) → Yx (yX "play") (yZ G 116 3240 (yFI F)) G (eR (11, 116, 3240)) kX12_play 42 [(0, .ref a0), (1, .int (x1 + 1)), (2, .ref a2), (3, .int x3), (4, .int x4)] [] M_2 H_2 (ca + 29) (sl + 810))))))) :
    Yx (yX "play") (yZ G 116 3240 (yFI F)) G (eR (11, 116, 3240)) kX12_play 13 [(0, .ref a0), (1, .int x1), (2, .ref a2), (3, .int x3), (4, .int x4)] [] M H ca sl := by
  refine y_iload 4 dX12_play_13 rfl ?_
  refine y_iload_n 3 dX12_play_15 rfl rfl ?_
  refine y_icmp_ge (t := 48) dX12_play_16 (by decide) (fun q => ?_) (fun q => ?_)
  · replace h := h.1 q
    refine y_aload_n 0 dX12_play_48 rfl rfl ?_
    refine y_dup dX12_play_49 rfl ?_
    obtain ⟨x_1, ⟨fs_1, e1_1, e2_1⟩, h⟩ := h
    refine y_get (k := 3) dX12_play_50 clX12 lFX12_33 (by decide) e1_1 e2_1 ?_
    refine y_iconst (v := 1) dX12_play_53 rfl ?_
    refine y_iadd dX12_play_54 ?_
    obtain ⟨fs_2, e1_2, e2_2, h⟩ := h
    refine y_put (k := 3) (ft := tyX12 3) dX12_play_55 clX12 lFX12_33 (by decide) e1_2 e2_2 rfl (clX12.2.2.1 3 (by decide)) rfl rfl ?_
    refine y_iload_n 1 dX12_play_58 rfl rfl ?_
    have hb := h.1
    replace h := h.2
    exact y_iret dX12_play_59 rfl hb.1 hb.2 ⟨_, rfl, h⟩
  · replace h := h.2 q
    refine y_aload_n 2 dX12_play_19 rfl rfl ?_
    refine y_iload 4 dX12_play_20 rfl ?_
    obtain ⟨b_1, ⟨N_1, f_1, e1_1, e2_1, e3_1⟩, h⟩ := h
    refine y_aald (t := 6) (ty := .object "RingDominoLaw$Order") dX12_play_22 rfl rfl e1_1 e2_1 e3_1 ?_
    refine y_astore (i := 5) (l' := [(5, .ref b_1), (0, .ref a0), (1, .int x1), (2, .ref a2), (3, .int x3), (4, .int x4)]) dX12_play_23 (by decide) rfl ?_
    refine y_iload_n 2 dX12_play_25 rfl rfl ?_
    refine y_aload 0 dX12_play_26 rfl ?_
    refine y_aload_n 1 dX12_play_28 rfl rfl ?_
    have hb := h.1
    replace h := h.2
    obtain ⟨⟨fs_2, hi⟩, h⟩ := h
    refine y_callV yXn (b' := (10, 29, 810)) (K' := kX14_isDone) (As := [.ref a0]) (S := [.int x1]) dX12_play_29 mX14_isDone lMX12_63 clX14 rfl hi rfl ⟨(by decide), hb⟩ (Nat.le_of_ble_eq_true rfl) h (fun v_ M_2 H_2 q_ => ?_) rfl
    obtain ⟨r_2, rfl, h⟩ := q_
    refine y_zif_eq (t := 39) dX12_play_32 (by decide) (fun q => ?_) (fun q => ?_)
    · replace h := h.1 q
      refine y_iconst (v := 0) dX12_play_39 rfl ?_
      refine y_iadd dX12_play_40 ?_
      refine y_istore_n (i := 1) (l' := [(1, .int (x1 + 0)), (5, .ref b_1), (0, .ref a0), (2, .ref a2), (3, .int x3), (4, .int x4)]) dX12_play_41 rfl (by decide) rfl ?_
      exact Yx.sub (ks := [2, 0, 3, 4, 5]) rfl h
    · replace h := h.2 q
      refine y_iconst (v := 1) dX12_play_35 rfl ?_
      refine y_goto (t := 40) dX12_play_36 (by decide) ?_
      refine y_iadd dX12_play_40 ?_
      refine y_istore_n (i := 1) (l' := [(1, .int (x1 + 1)), (5, .ref b_1), (0, .ref a0), (2, .ref a2), (3, .int x3), (4, .int x4)]) dX12_play_41 rfl (by decide) rfl ?_
      exact Yx.sub (ks := [2, 0, 3, 4, 5]) rfl h
set_option maxHeartbeats 4000000 in
set_option maxRecDepth 100000 in
theorem C_X12_play (G : eG) (M : eM) (H : yH) (F : Int32 → eM → yH → Prop) (a0 : Nat)
    (h : ∃ (b_1 : Nat), yG H a0 10 4 (.ref b_1) ∧ (∃ (n_2 : Nat), yLn G 6 H b_1 n_2 ∧ (Yx (yX "play") (yZ G 116 3240 (yFI F)) G (eR (11, 116, 3240)) kX12_play 13 [(0, .ref a0), (1, .int 0), (2, .ref b_1), (3, .int (nI n_2)), (4, .int 0)] [] M H 0 0))) :
    yCal G (11, 116, 3240) kX12_play [.ref a0] M H (yFI F) := by
  refine yCal.of (by decide +kernel) rfl (Nat.le_of_ble_eq_true rfl) ?_
  show Yx (yX "play") (yZ G 116 3240 (yFI F)) G (eR (11, 116, 3240)) kX12_play 0 [(0, .ref a0)] [] M H 0 0
  refine y_iconst (v := 0) dX12_play_0 rfl ?_
  refine y_istore_n (i := 1) (l' := [(1, .int 0), (0, .ref a0)]) dX12_play_1 rfl (by decide) rfl ?_
  refine y_aload_n 1 dX12_play_2 rfl rfl ?_
  obtain ⟨b_1, ⟨fs_1, e1_1, e2_1⟩, h⟩ := h
  refine y_get (k := 4) dX12_play_3 clX12 lFX12_24 (by decide) e1_1 e2_1 ?_
  refine y_astore_n (i := 2) (l' := [(2, .ref b_1), (1, .int 0), (0, .ref a0)]) dX12_play_6 rfl (by decide) rfl ?_
  refine y_aload_n 0 dX12_play_7 rfl rfl ?_
  obtain ⟨n_2, ⟨v_2, e1_2, e2_2⟩, h⟩ := h
  refine y_alenx (t := 6) (ty := .object "RingDominoLaw$Order") dX12_play_8 rfl e1_2 e2_2 ?_
  refine y_istore_n (i := 3) (l' := [(3, .int (nI n_2)), (2, .ref b_1), (1, .int 0), (0, .ref a0)]) dX12_play_9 rfl (by decide) rfl ?_
  refine y_iconst (v := 0) dX12_play_10 rfl ?_
  refine y_istore (i := 4) (l' := [(4, .int 0), (3, .int (nI n_2)), (2, .ref b_1), (1, .int 0), (0, .ref a0)]) dX12_play_11 (by decide) rfl ?_
  exact Yx.sub (ks := [4, 3, 2, 1, 0]) rfl h
set_option maxHeartbeats 4000000 in
set_option maxRecDepth 100000 in
theorem B_X12_play__4 (G : eG) (ca sl : Nat) (M : eM) (H : yH) (F : Int32 → eM → yH → Prop) (a0 : Nat) (x1 : Int32) (x2 : Int32) (x3 : Int32)
    (h : ((x1 ≤ x3) → (ca ≤ 696 ∧ sl ≤ 19440) ∧ F x2 M H) ∧ ((¬ x1 ≤ x3) → (ca + 116 ≤ 696 ∧ sl + 3240 ≤ 19440) ∧ yIs H a0 10 ∧ yCal G (11, 116, 3240) kX12_play [.ref a0] M H (yFI (fun (r_1 : Int32) (M_1 : eM) (H_1 : yH) => Yx (yX "play") (yZ G 696 19440 (yFI F)) G (eR (12, 696, 19440)) kX12_play_ 4 [(0, .ref a0), (1, .int x1), (2, .int (x2 + r_1)), (3, .int (x3 + 1))] [] M_1 H_1 (ca + 116) (sl + 3240))))) :
    Yx (yX "play") (yZ G 696 19440 (yFI F)) G (eR (12, 696, 19440)) kX12_play_ 4 [(0, .ref a0), (1, .int x1), (2, .int x2), (3, .int x3)] [] M H ca sl := by
  refine y_iload_n 3 dX12_play__4 rfl rfl ?_
  refine y_iload_n 1 dX12_play__5 rfl rfl ?_
  refine y_icmp_ge (t := 22) dX12_play__6 (by decide) (fun q => ?_) (fun q => ?_)
  · replace h := h.1 q
    refine y_iload_n 2 dX12_play__22 rfl rfl ?_
    have hb := h.1
    replace h := h.2
    exact y_iret dX12_play__23 rfl hb.1 hb.2 ⟨_, rfl, h⟩
  · replace h := h.2 q
    refine y_iload_n 2 dX12_play__9 rfl rfl ?_
    refine y_aload_n 0 dX12_play__10 rfl rfl ?_
    have hb := h.1
    replace h := h.2
    obtain ⟨⟨fs_1, hi⟩, h⟩ := h
    refine y_callV yXn (b' := (11, 116, 3240)) (K' := kX12_play) (As := []) (S := [.int x2]) dX12_play__11 mX12_play lMX12_67 clX12 rfl hi rfl ⟨(by decide), hb⟩ (Nat.le_of_ble_eq_true rfl) h (fun v_ M_1 H_1 q_ => ?_) rfl
    obtain ⟨r_1, rfl, h⟩ := q_
    refine y_iadd dX12_play__14 ?_
    refine y_istore_n (i := 2) (l' := [(2, .int (x2 + r_1)), (0, .ref a0), (1, .int x1), (3, .int x3)]) dX12_play__15 rfl (by decide) rfl ?_
    refine y_iinc (v := x3 + 1) (l' := [(3, .int (x3 + 1)), (2, .int (x2 + r_1)), (0, .ref a0), (1, .int x1)]) 3 dX12_play__16 rfl rfl (by decide) rfl ?_
    refine y_goto (t := 4) dX12_play__19 (by decide) ?_
    exact Yx.sub (ks := [2, 3, 1, 0]) rfl h
set_option maxHeartbeats 4000000 in
set_option maxRecDepth 100000 in
theorem C_X12_play_ (G : eG) (M : eM) (H : yH) (F : Int32 → eM → yH → Prop) (a0 : Nat) (x1 : Int32)
    (h : Yx (yX "play") (yZ G 696 19440 (yFI F)) G (eR (12, 696, 19440)) kX12_play_ 4 [(0, .ref a0), (1, .int x1), (2, .int 0), (3, .int 0)] [] M H 0 0) :
    yCal G (12, 696, 19440) kX12_play_ [.ref a0, .int x1] M H (yFI F) := by
  refine yCal.of (by decide +kernel) rfl (Nat.le_of_ble_eq_true rfl) ?_
  show Yx (yX "play") (yZ G 696 19440 (yFI F)) G (eR (12, 696, 19440)) kX12_play_ 0 [(0, .ref a0), (1, .int x1)] [] M H 0 0
  refine y_iconst (v := 0) dX12_play__0 rfl ?_
  refine y_istore_n (i := 2) (l' := [(2, .int 0), (0, .ref a0), (1, .int x1)]) dX12_play__1 rfl (by decide) rfl ?_
  refine y_iconst (v := 0) dX12_play__2 rfl ?_
  refine y_istore_n (i := 3) (l' := [(3, .int 0), (2, .int 0), (0, .ref a0), (1, .int x1)]) dX12_play__3 rfl (by decide) rfl ?_
  exact Yx.sub (ks := [2, 3, 1, 0]) rfl h
