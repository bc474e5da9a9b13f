set_option maxHeartbeats 4000000 in
set_option maxRecDepth 100000 in
theorem B_X14_text_43 (G : eG) (ca sl : Nat) (M : eM) (H : yH) (F : Nat → eM → yH → Prop) (a0 : Nat) (a1 : Nat)
    (h : ∃ (x_1 : Int32), yG H a0 12 0 (.int x_1) ∧ (((x_1 ≤ (0 : Int32)) → (ca + 1 ≤ 194 ∧ sl + 4 ≤ 229200) ∧ ∀ q_2 : Nat, H q_2 = none → (((ca + 1) + 1 ≤ 194 ∧ (sl + 4) + 16 ≤ 229200) ∧ yCal G (3, 1, 16) kJ4_init_da8c8 [.ref q_2] M (yU H q_2 (.inr (14, [.null, .int 0, .int 0, .int 0]))) (yFV (fun (M_3 : eM) (H_3 : yH) => ((ca + 1 + 1) + 1 ≤ 194 ∧ (sl + 4 + 16) + 2200 ≤ 229200) ∧ yIs H_3 q_2 14 ∧ yCal G (6, 1, 2200) kJ4_append_15ec4 [.ref q_2, .ref (G.1 1726)] M_3 H_3 (yFR (fun (r_4 : Nat) (M_4 : eM) (H_4 : yH) => ∃ (x_5 : Int32), yG H_4 a0 12 1 (.int x_5) ∧ (((ca + 1 + 1 + 1) + 1 ≤ 194 ∧ (sl + 4 + 16 + 2200) + 2200 ≤ 229200) ∧ yIs H_4 r_4 14 ∧ yCal G (6, 1, 2200) kJ4_append_bf812 [.ref r_4, .int x_5] M_4 H_4 (yFR (fun (r_6 : Nat) (M_6 : eM) (H_6 : yH) => ((ca + 1 + 1 + 1 + 1) + 1 ≤ 194 ∧ (sl + 4 + 16 + 2200 + 2200) + 2200 ≤ 229200) ∧ yIs H_6 r_6 14 ∧ yCal G (6, 1, 2200) kJ4_append_15ec4 [.ref r_6, .ref (G.1 1727)] M_6 H_6 (yFR (fun (r_7 : Nat) (M_7 : eM) (H_7 : yH) => ∃ (b_8 : Nat), yG H_7 a0 12 2 (.ref b_8) ∧ (∃ (b_9 : Nat), yER G 7 H_7 b_8 0 b_9 ∧ (((ca + 1 + 1 + 1 + 1 + 1) + 21 ≤ 194 ∧ (sl + 4 + 16 + 2200 + 2200 + 2200) + 23400 ≤ 229200) ∧ yIs H_7 b_9 11 ∧ yCal G (8, 21, 23400) kX13_text [.ref b_9] M_7 H_7 (yFR (fun (r_10 : Nat) (M_10 : eM) (H_10 : yH) => ((ca + 1 + 1 + 1 + 1 + 1 + 21) + 1 ≤ 194 ∧ (sl + 4 + 16 + 2200 + 2200 + 2200 + 23400) + 2200 ≤ 229200) ∧ yIs H_10 r_7 14 ∧ yCal G (6, 1, 2200) kJ4_append_15ec4 [.ref r_7, .ref r_10] M_10 H_10 (yFR (fun (r_11 : Nat) (M_11 : eM) (H_11 : yH) => ((ca + 1 + 1 + 1 + 1 + 1 + 21 + 1) + 1 ≤ 194 ∧ (sl + 4 + 16 + 2200 + 2200 + 2200 + 23400 + 2200) + 2200 ≤ 229200) ∧ yIs H_11 r_11 14 ∧ yCal G (6, 1, 2200) kJ4_append_15ec4 [.ref r_11, .ref (G.1 1728)] M_11 H_11 (yFR (fun (r_12 : Nat) (M_12 : eM) (H_12 : yH) => ∃ (b_13 : Nat), yG H_12 a0 12 2 (.ref b_13) ∧ (∃ (b_14 : Nat), yER G 7 H_12 b_13 1 b_14 ∧ (((ca + 1 + 1 + 1 + 1 + 1 + 21 + 1 + 1) + 21 ≤ 194 ∧ (sl + 4 + 16 + 2200 + 2200 + 2200 + 23400 + 2200 + 2200) + 23400 ≤ 229200) ∧ yIs H_12 b_14 11 ∧ yCal G (8, 21, 23400) kX13_text [.ref b_14] M_12 H_12 (yFR (fun (r_15 : Nat) (M_15 : eM) (H_15 : yH) => ((ca + 1 + 1 + 1 + 1 + 1 + 21 + 1 + 1 + 21) + 1 ≤ 194 ∧ (sl + 4 + 16 + 2200 + 2200 + 2200 + 23400 + 2200 + 2200 + 23400) + 2200 ≤ 229200) ∧ yIs H_15 r_12 14 ∧ yCal G (6, 1, 2200) kJ4_append_15ec4 [.ref r_12, .ref r_15] M_15 H_15 (yFR (fun (r_16 : Nat) (M_16 : eM) (H_16 : yH) => ((ca + 1 + 1 + 1 + 1 + 1 + 21 + 1 + 1 + 21 + 1) + 1 ≤ 194 ∧ (sl + 4 + 16 + 2200 + 2200 + 2200 + 23400 + 2200 + 2200 + 23400 + 2200) + 2200 ≤ 229200) ∧ yIs H_16 r_16 14 ∧ yCal G (6, 1, 2200) kJ4_append_15ec4 [.ref r_16, .ref (G.1 1729)] M_16 H_16 (yFR (fun (r_17 : Nat) (M_17 : eM) (H_17 : yH) => ∃ (b_18 : Nat), yG H_17 a0 12 2 (.ref b_18) ∧ (∃ (b_19 : Nat), yER G 7 H_17 b_18 2 b_19 ∧ (((ca + 1 + 1 + 1 + 1 + 1 + 21 + 1 + 1 + 21 + 1 + 1) + 21 ≤ 194 ∧ (sl + 4 + 16 + 2200 + 2200 + 2200 + 23400 + 2200 + 2200 + 23400 + 2200 + 2200) + 23400 ≤ 229200) ∧ yIs H_17 b_19 11 ∧ yCal G (8, 21, 23400) kX13_text [.ref b_19] M_17 H_17 (yFR (fun (r_20 : Nat) (M_20 : eM) (H_20 : yH) => ((ca + 1 + 1 + 1 + 1 + 1 + 21 + 1 + 1 + 21 + 1 + 1 + 21) + 1 ≤ 194 ∧ (sl + 4 + 16 + 2200 + 2200 + 2200 + 23400 + 2200 + 2200 + 23400 + 2200 + 2200 + 23400) + 2200 ≤ 229200) ∧ yIs H_20 r_17 14 ∧ yCal G (6, 1, 2200) kJ4_append_15ec4 [.ref r_17, .ref r_20] M_20 H_20 (yFR (fun (r_21 : Nat) (M_21 : eM) (H_21 : yH) => ((ca + 1 + 1 + 1 + 1 + 1 + 21 + 1 + 1 + 21 + 1 + 1 + 21 + 1) + 1 ≤ 194 ∧ (sl + 4 + 16 + 2200 + 2200 + 2200 + 23400 + 2200 + 2200 + 23400 + 2200 + 2200 + 23400 + 2200) + 2200 ≤ 229200) ∧ yIs H_21 r_21 14 ∧ yCal G (6, 1, 2200) kJ4_append_15ec4 [.ref r_21, .ref a1] M_21 H_21 (yFR (fun (r_22 : Nat) (M_22 : eM) (H_22 : yH) => ((ca + 1 + 1 + 1 + 1 + 1 + 21 + 1 + 1 + 21 + 1 + 1 + 21 + 1 + 1) + 2 ≤ 194 ∧ (sl + 4 + 16 + 2200 + 2200 + 2200 + 23400 + 2200 + 2200 + 23400 + 2200 + 2200 + 23400 + 2200 + 2200) + 1104 ≤ 229200) ∧ yIs H_22 r_22 14 ∧ yCal G (6, 2, 1104) kJ4_toString_0e30d [.ref r_22] M_22 H_22 (yFR (fun (r_23 : Nat) (M_23 : eM) (H_23 : yH) => (ca + 1 + 1 + 1 + 1 + 1 + 21 + 1 + 1 + 21 + 1 + 1 + 21 + 1 + 1 + 2 ≤ 194 ∧ sl + 4 + 16 + 2200 + 2200 + 2200 + 23400 + 2200 + 2200 + 23400 + 2200 + 2200 + 23400 + 2200 + 2200 + 1104 ≤ 229200) ∧ F r_23 M_23 H_23))))))))))))))))))))))))))))))))))))) ∧ ((¬ x_1 ≤ (0 : Int32)) → (ca + 1 ≤ 194 ∧ sl + 4 ≤ 229200) ∧ ∀ q_2 : Nat, H q_2 = none → (((ca + 1) + 1 ≤ 194 ∧ (sl + 4) + 16 ≤ 229200) ∧ yCal G (3, 1, 16) kJ4_init_da8c8 [.ref q_2] M (yU H q_2 (.inr (14, [.null, .int 0, .int 0, .int 0]))) (yFV (fun (M_3 : eM) (H_3 : yH) => ∃ (x_4 : Int32), yG H_3 a0 12 0 (.int x_4) ∧ (((¬ x_4 = (1 : Int32)) → ((ca + 1 + 1) + 1 ≤ 194 ∧ (sl + 4 + 16) + 2200 ≤ 229200) ∧ yIs H_3 q_2 14 ∧ yCal G (6, 1, 2200) kJ4_append_15ec4 [.ref q_2, .ref (G.1 1725)] M_3 H_3 (yFR (fun (r_5 : Nat) (M_5 : eM) (H_5 : yH) => ∃ (x_6 : Int32), yG H_5 a0 12 1 (.int x_6) ∧ (((ca + 1 + 1 + 1) + 1 ≤ 194 ∧ (sl + 4 + 16 + 2200) + 2200 ≤ 229200) ∧ yIs H_5 r_5 14 ∧ yCal G (6, 1, 2200) kJ4_append_bf812 [.ref r_5, .int x_6] M_5 H_5 (yFR (fun (r_7 : Nat) (M_7 : eM) (H_7 : yH) => ((ca + 1 + 1 + 1 + 1) + 1 ≤ 194 ∧ (sl + 4 + 16 + 2200 + 2200) + 2200 ≤ 229200) ∧ yIs H_7 r_7 14 ∧ yCal G (6, 1, 2200) kJ4_append_15ec4 [.ref r_7, .ref a1] M_7 H_7 (yFR (fun (r_8 : Nat) (M_8 : eM) (H_8 : yH) => ((ca + 1 + 1 + 1 + 1 + 1) + 2 ≤ 194 ∧ (sl + 4 + 16 + 2200 + 2200 + 2200) + 1104 ≤ 229200) ∧ yIs H_8 r_8 14 ∧ yCal G (6, 2, 1104) kJ4_toString_0e30d [.ref r_8] M_8 H_8 (yFR (fun (r_9 : Nat) (M_9 : eM) (H_9 : yH) => (ca + 1 + 1 + 1 + 1 + 1 + 2 ≤ 194 ∧ sl + 4 + 16 + 2200 + 2200 + 2200 + 1104 ≤ 229200) ∧ F r_9 M_9 H_9)))))))))) ∧ ((x_4 = (1 : Int32)) → ((ca + 1 + 1) + 1 ≤ 194 ∧ (sl + 4 + 16) + 2200 ≤ 229200) ∧ yIs H_3 q_2 14 ∧ yCal G (6, 1, 2200) kJ4_append_15ec4 [.ref q_2, .ref (G.1 1724)] M_3 H_3 (yFR (fun (r_5 : Nat) (M_5 : eM) (H_5 : yH) => ∃ (x_6 : Int32), yG H_5 a0 12 1 (.int x_6) ∧ (((ca + 1 + 1 + 1) + 1 ≤ 194 ∧ (sl + 4 + 16 + 2200) + 2200 ≤ 229200) ∧ yIs H_5 r_5 14 ∧ yCal G (6, 1, 2200) kJ4_append_bf812 [.ref r_5, .int x_6] M_5 H_5 (yFR (fun (r_7 : Nat) (M_7 : eM) (H_7 : yH) => ((ca + 1 + 1 + 1 + 1) + 1 ≤ 194 ∧ (sl + 4 + 16 + 2200 + 2200) + 2200 ≤ 229200) ∧ yIs H_7 r_7 14 ∧ yCal G (6, 1, 2200) kJ4_append_15ec4 [.ref r_7, .ref a1] M_7 H_7 (yFR (fun (r_8 : Nat) (M_8 : eM) (H_8 : yH) => ((ca + 1 + 1 + 1 + 1 + 1) + 2 ≤ 194 ∧ (sl + 4 + 16 + 2200 + 2200 + 2200) + 1104 ≤ 229200) ∧ yIs H_8 r_8 14 ∧ yCal G (6, 2, 1104) kJ4_toString_0e30d [.ref r_8] M_8 H_8 (yFR (fun (r_9 : Nat) (M_9 : eM) (H_9 : yH) => (ca + 1 + 1 + 1 + 1 + 1 + 2 ≤ 194 ∧ sl + 4 + 16 + 2200 + 2200 + 2200 + 1104 ≤ 229200) ∧ F r_9 M_9 H_9))))))))))))))))) :
    Yx (yX "text") (yZ G 194 229200 (yFR F)) G (eR (11, 194, 229200)) kX14_text 43 [(0, .ref a0), (1, .ref a1)] [] M H ca sl := by
  refine y_aload_n 0 dX14_text_43 rfl rfl ?_
  obtain ⟨x_1, ⟨fs_1, e1_1, e2_1⟩, h⟩ := h
  refine y_get (k := 0) dX14_text_44 clX14 lFX14_21 (by decide) e1_1 e2_1 ?_
  refine y_if_le (t := 90) dX14_text_47 (by decide) (fun q => ?_) (fun q => ?_)
  · replace h := h.1 q
    have hb := h.1
    replace h := h.2
    refine y_new dX14_text_90 clJ4 (tb7 _ (List.mem_of_getElem? (i := 84) rfl)) (tb7 _ (List.mem_of_getElem? (i := 85) rfl)) (tb1 _ (List.mem_of_getElem? (i := 16) rfl)) xd_J4 hb (fun q_2 hq => ?_)
    replace h := h q_2 hq
    refine y_dup dX14_text_93 rfl ?_
    have hb := h.1
    replace h := h.2
    refine y_callI yXn (b' := (3, 1, 16)) (K' := kJ4_init_da8c8) (As := []) (a := q_2) (S := [.ref q_2]) dX14_text_94 miJ4_init_da8c8 lMX14_45 rfl ⟨(by decide), hb⟩ (Nat.le_of_ble_eq_true rfl) h (fun v_ M_3 H_3 q_ => ?_) rfl
    obtain ⟨rfl, h⟩ := q_
    refine y_ldcS (j := 1726) dX14_text_97 (List.mem_of_getElem? (i := 26) rfl) ?_
    have hb := h.1
    replace h := h.2
    obtain ⟨⟨fs_4, hi⟩, h⟩ := h
    refine y_callV yXn (b' := (6, 1, 2200)) (K' := kJ4_append_15ec4) (As := [.ref (G.1 1726)]) (S := []) dX14_text_99 mJ4_append_15ec4 lMX14_48 clJ4 rfl hi rfl ⟨(by decide), hb⟩ (Nat.le_of_ble_eq_true rfl) h (fun v_ M_4 H_4 q_ => ?_) rfl
    obtain ⟨r_4, rfl, h⟩ := q_
    refine y_aload_n 0 dX14_text_102 rfl rfl ?_
    obtain ⟨x_5, ⟨fs_5, e1_5, e2_5⟩, h⟩ := h
    refine y_get (k := 1) dX14_text_103 clX14 lFX14_25 (by decide) e1_5 e2_5 ?_
    have hb := h.1
    replace h := h.2
    obtain ⟨⟨fs_6, hi⟩, h⟩ := h
    refine y_callV yXn (b' := (6, 1, 2200)) (K' := kJ4_append_bf812) (As := [.int x_5]) (S := []) dX14_text_106 mJ4_append_bf812 lMX14_63 clJ4 rfl hi rfl ⟨(by decide), hb⟩ (Nat.le_of_ble_eq_true rfl) h (fun v_ M_6 H_6 q_ => ?_) rfl
    obtain ⟨r_6, rfl, h⟩ := q_
    refine y_ldcS (j := 1727) dX14_text_109 (List.mem_of_getElem? (i := 27) rfl) ?_
    have hb := h.1
    replace h := h.2
    obtain ⟨⟨fs_7, hi⟩, h⟩ := h
    refine y_callV yXn (b' := (6, 1, 2200)) (K' := kJ4_append_15ec4) (As := [.ref (G.1 1727)]) (S := []) dX14_text_111 mJ4_append_15ec4 lMX14_48 clJ4 rfl hi rfl ⟨(by decide), hb⟩ (Nat.le_of_ble_eq_true rfl) h (fun v_ M_7 H_7 q_ => ?_) rfl
    obtain ⟨r_7, rfl, h⟩ := q_
    refine y_aload_n 0 dX14_text_114 rfl rfl ?_
    obtain ⟨b_8, ⟨fs_8, e1_8, e2_8⟩, h⟩ := h
    refine y_get (k := 2) dX14_text_115 clX14 lFX14_9 (by decide) e1_8 e2_8 ?_
    refine y_iconst (v := 0) dX14_text_118 rfl ?_
    obtain ⟨b_9, ⟨N_9, f_9, e1_9, e2_9, e3_9⟩, h⟩ := h
    refine y_aald (t := 7) (ty := .object "RingDominoLaw$Node") dX14_text_119 rfl rfl e1_9 e2_9 e3_9 ?_
    have hb := h.1
    replace h := h.2
    obtain ⟨⟨fs_10, hi⟩, h⟩ := h
    refine y_callV yXn (b' := (8, 21, 23400)) (K' := kX13_text) (As := []) (S := [.ref r_7]) dX14_text_120 mX13_text lMX14_52 clX13 rfl hi rfl ⟨(by decide), hb⟩ (Nat.le_of_ble_eq_true rfl) h (fun v_ M_10 H_10 q_ => ?_) rfl
    obtain ⟨r_10, rfl, h⟩ := q_
    have hb := h.1
    replace h := h.2
    obtain ⟨⟨fs_11, hi⟩, h⟩ := h
    refine y_callV yXn (b' := (6, 1, 2200)) (K' := kJ4_append_15ec4) (As := [.ref r_10]) (S := []) dX14_text_123 mJ4_append_15ec4 lMX14_48 clJ4 rfl hi rfl ⟨(by decide), hb⟩ (Nat.le_of_ble_eq_true rfl) h (fun v_ M_11 H_11 q_ => ?_) rfl
    obtain ⟨r_11, rfl, h⟩ := q_
    refine y_ldcS (j := 1728) dX14_text_126 (List.mem_of_getElem? (i := 28) rfl) ?_
    have hb := h.1
    replace h := h.2
    obtain ⟨⟨fs_12, hi⟩, h⟩ := h
    refine y_callV yXn (b' := (6, 1, 2200)) (K' := kJ4_append_15ec4) (As := [.ref (G.1 1728)]) (S := []) dX14_text_128 mJ4_append_15ec4 lMX14_48 clJ4 rfl hi rfl ⟨(by decide), hb⟩ (Nat.le_of_ble_eq_true rfl) h (fun v_ M_12 H_12 q_ => ?_) rfl
    obtain ⟨r_12, rfl, h⟩ := q_
    refine y_aload_n 0 dX14_text_131 rfl rfl ?_
    obtain ⟨b_13, ⟨fs_13, e1_13, e2_13⟩, h⟩ := h
    refine y_get (k := 2) dX14_text_132 clX14 lFX14_9 (by decide) e1_13 e2_13 ?_
    refine y_iconst (v := 1) dX14_text_135 rfl ?_
    obtain ⟨b_14, ⟨N_14, f_14, e1_14, e2_14, e3_14⟩, h⟩ := h
    refine y_aald (t := 7) (ty := .object "RingDominoLaw$Node") dX14_text_136 rfl rfl e1_14 e2_14 e3_14 ?_
    have hb := h.1
    replace h := h.2
    obtain ⟨⟨fs_15, hi⟩, h⟩ := h
    refine y_callV yXn (b' := (8, 21, 23400)) (K' := kX13_text) (As := []) (S := [.ref r_12]) dX14_text_137 mX13_text lMX14_52 clX13 rfl hi rfl ⟨(by decide), hb⟩ (Nat.le_of_ble_eq_true rfl) h (fun v_ M_15 H_15 q_ => ?_) rfl
    obtain ⟨r_15, rfl, h⟩ := q_
    have hb := h.1
    replace h := h.2
    obtain ⟨⟨fs_16, hi⟩, h⟩ := h
    refine y_callV yXn (b' := (6, 1, 2200)) (K' := kJ4_append_15ec4) (As := [.ref r_15]) (S := []) dX14_text_140 mJ4_append_15ec4 lMX14_48 clJ4 rfl hi rfl ⟨(by decide), hb⟩ (Nat.le_of_ble_eq_true rfl) h (fun v_ M_16 H_16 q_ => ?_) rfl
    obtain ⟨r_16, rfl, h⟩ := q_
    refine y_ldcS (j := 1729) dX14_text_143 (List.mem_of_getElem? (i := 29) rfl) ?_
    have hb := h.1
    replace h := h.2
    obtain ⟨⟨fs_17, hi⟩, h⟩ := h
    refine y_callV yXn (b' := (6, 1, 2200)) (K' := kJ4_append_15ec4) (As := [.ref (G.1 1729)]) (S := []) dX14_text_145 mJ4_append_15ec4 lMX14_48 clJ4 rfl hi rfl ⟨(by decide), hb⟩ (Nat.le_of_ble_eq_true rfl) h (fun v_ M_17 H_17 q_ => ?_) rfl
    obtain ⟨r_17, rfl, h⟩ := q_
    refine y_aload_n 0 dX14_text_148 rfl rfl ?_
    obtain ⟨b_18, ⟨fs_18, e1_18, e2_18⟩, h⟩ := h
    refine y_get (k := 2) dX14_text_149 clX14 lFX14_9 (by decide) e1_18 e2_18 ?_
    refine y_iconst (v := 2) dX14_text_152 rfl ?_
    obtain ⟨b_19, ⟨N_19, f_19, e1_19, e2_19, e3_19⟩, h⟩ := h
    refine y_aald (t := 7) (ty := .object "RingDominoLaw$Node") dX14_text_153 rfl rfl e1_19 e2_19 e3_19 ?_
    have hb := h.1
    replace h := h.2
    obtain ⟨⟨fs_20, hi⟩, h⟩ := h
    refine y_callV yXn (b' := (8, 21, 23400)) (K' := kX13_text) (As := []) (S := [.ref r_17]) dX14_text_154 mX13_text lMX14_52 clX13 rfl hi rfl ⟨(by decide), hb⟩ (Nat.le_of_ble_eq_true rfl) h (fun v_ M_20 H_20 q_ => ?_) rfl
    obtain ⟨r_20, rfl, h⟩ := q_
    have hb := h.1
    replace h := h.2
    obtain ⟨⟨fs_21, hi⟩, h⟩ := h
    refine y_callV yXn (b' := (6, 1, 2200)) (K' := kJ4_append_15ec4) (As := [.ref r_20]) (S := []) dX14_text_157 mJ4_append_15ec4 lMX14_48 clJ4 rfl hi rfl ⟨(by decide), hb⟩ (Nat.le_of_ble_eq_true rfl) h (fun v_ M_21 H_21 q_ => ?_) rfl
    obtain ⟨r_21, rfl, h⟩ := q_
    refine y_aload_n 1 dX14_text_160 rfl rfl ?_
    have hb := h.1
    replace h := h.2
    obtain ⟨⟨fs_22, hi⟩, h⟩ := h
    refine y_callV yXn (b' := (6, 1, 2200)) (K' := kJ4_append_15ec4) (As := [.ref a1]) (S := []) dX14_text_161 mJ4_append_15ec4 lMX14_48 clJ4 rfl hi rfl ⟨(by decide), hb⟩ (Nat.le_of_ble_eq_true rfl) h (fun v_ M_22 H_22 q_ => ?_) rfl
    obtain ⟨r_22, rfl, h⟩ := q_
    have hb := h.1
    replace h := h.2
    obtain ⟨⟨fs_23, hi⟩, h⟩ := h
    refine y_callV yXn (b' := (6, 2, 1104)) (K' := kJ4_toString_0e30d) (As := []) (S := []) dX14_text_164 mJ4_toString_0e30d lMX14_56 clJ4 rfl hi rfl ⟨(by decide), hb⟩ (Nat.le_of_ble_eq_true rfl) h (fun v_ M_23 H_23 q_ => ?_) rfl
    obtain ⟨r_23, rfl, h⟩ := q_
    have hb := h.1
    replace h := h.2
    exact y_aret dX14_text_167 rfl (Or.inl ⟨_, rfl⟩) hb.1 hb.2 ⟨_, rfl, h⟩
  · replace h := h.2 q
    have hb := h.1
    replace h := h.2
    refine y_new dX14_text_50 clJ4 (tb7 _ (List.mem_of_getElem? (i := 84) rfl)) (tb7 _ (List.mem_of_getElem? (i := 85) rfl)) (tb1 _ (List.mem_of_getElem? (i := 16) rfl)) xd_J4 hb (fun q_2 hq => ?_)
    replace h := h q_2 hq
    refine y_dup dX14_text_53 rfl ?_
    have hb := h.1
    replace h := h.2
    refine y_callI yXn (b' := (3, 1, 16)) (K' := kJ4_init_da8c8) (As := []) (a := q_2) (S := [.ref q_2]) dX14_text_54 miJ4_init_da8c8 lMX14_45 rfl ⟨(by decide), hb⟩ (Nat.le_of_ble_eq_true rfl) h (fun v_ M_3 H_3 q_ => ?_) rfl
    obtain ⟨rfl, h⟩ := q_
    refine y_aload_n 0 dX14_text_57 rfl rfl ?_
    obtain ⟨x_4, ⟨fs_4, e1_4, e2_4⟩, h⟩ := h
    refine y_get (k := 0) dX14_text_58 clX14 lFX14_21 (by decide) e1_4 e2_4 ?_
    refine y_iconst (v := 1) dX14_text_61 rfl ?_
    refine y_icmp_ne (t := 70) dX14_text_62 (by decide) (fun q => ?_) (fun q => ?_)
    · replace h := h.1 q
      refine y_ldcS (j := 1725) dX14_text_70 (List.mem_of_getElem? (i := 25) rfl) ?_
      have hb := h.1
      replace h := h.2
      obtain ⟨⟨fs_5, hi⟩, h⟩ := h
      refine y_callV yXn (b' := (6, 1, 2200)) (K' := kJ4_append_15ec4) (As := [.ref (G.1 1725)]) (S := []) dX14_text_72 mJ4_append_15ec4 lMX14_48 clJ4 rfl hi rfl ⟨(by decide), hb⟩ (Nat.le_of_ble_eq_true rfl) h (fun v_ M_5 H_5 q_ => ?_) rfl
      obtain ⟨r_5, rfl, h⟩ := q_
      refine y_aload_n 0 dX14_text_75 rfl rfl ?_
      obtain ⟨x_6, ⟨fs_6, e1_6, e2_6⟩, h⟩ := h
      refine y_get (k := 1) dX14_text_76 clX14 lFX14_25 (by decide) e1_6 e2_6 ?_
      have hb := h.1
      replace h := h.2
      obtain ⟨⟨fs_7, hi⟩, h⟩ := h
      refine y_callV yXn (b' := (6, 1, 2200)) (K' := kJ4_append_bf812) (As := [.int x_6]) (S := []) dX14_text_79 mJ4_append_bf812 lMX14_63 clJ4 rfl hi rfl ⟨(by decide), hb⟩ (Nat.le_of_ble_eq_true rfl) h (fun v_ M_7 H_7 q_ => ?_) rfl
      obtain ⟨r_7, rfl, h⟩ := q_
      refine y_aload_n 1 dX14_text_82 rfl rfl ?_
      have hb := h.1
      replace h := h.2
      obtain ⟨⟨fs_8, hi⟩, h⟩ := h
      refine y_callV yXn (b' := (6, 1, 2200)) (K' := kJ4_append_15ec4) (As := [.ref a1]) (S := []) dX14_text_83 mJ4_append_15ec4 lMX14_48 clJ4 rfl hi rfl ⟨(by decide), hb⟩ (Nat.le_of_ble_eq_true rfl) h (fun v_ M_8 H_8 q_ => ?_) rfl
      obtain ⟨r_8, rfl, h⟩ := q_
      have hb := h.1
      replace h := h.2
      obtain ⟨⟨fs_9, hi⟩, h⟩ := h
      refine y_callV yXn (b' := (6, 2, 1104)) (K' := kJ4_toString_0e30d) (As := []) (S := []) dX14_text_86 mJ4_toString_0e30d lMX14_56 clJ4 rfl hi rfl ⟨(by decide), hb⟩ (Nat.le_of_ble_eq_true rfl) h (fun v_ M_9 H_9 q_ => ?_) rfl
      obtain ⟨r_9, rfl, h⟩ := q_
      have hb := h.1
      replace h := h.2
      exact y_aret dX14_text_89 rfl (Or.inl ⟨_, rfl⟩) hb.1 hb.2 ⟨_, rfl, h⟩
    · replace h := h.2 q
      refine y_ldcS (j := 1724) dX14_text_65 (List.mem_of_getElem? (i := 24) rfl) ?_
      refine y_goto (t := 72) dX14_text_67 (by decide) ?_
      have hb := h.1
      replace h := h.2
      obtain ⟨⟨fs_5, hi⟩, h⟩ := h
      refine y_callV yXn (b' := (6, 1, 2200)) (K' := kJ4_append_15ec4) (As := [.ref (G.1 1724)]) (S := []) dX14_text_72 mJ4_append_15ec4 lMX14_48 clJ4 rfl hi rfl ⟨(by decide), hb⟩ (Nat.le_of_ble_eq_true rfl) h (fun v_ M_5 H_5 q_ => ?_) rfl
      obtain ⟨r_5, rfl, h⟩ := q_
      refine y_aload_n 0 dX14_text_75 rfl rfl ?_
      obtain ⟨x_6, ⟨fs_6, e1_6, e2_6⟩, h⟩ := h
      refine y_get (k := 1) dX14_text_76 clX14 lFX14_25 (by decide) e1_6 e2_6 ?_
      have hb := h.1
      replace h := h.2
      obtain ⟨⟨fs_7, hi⟩, h⟩ := h
      refine y_callV yXn (b' := (6, 1, 2200)) (K' := kJ4_append_bf812) (As := [.int x_6]) (S := []) dX14_text_79 mJ4_append_bf812 lMX14_63 clJ4 rfl hi rfl ⟨(by decide), hb⟩ (Nat.le_of_ble_eq_true rfl) h (fun v_ M_7 H_7 q_ => ?_) rfl
      obtain ⟨r_7, rfl, h⟩ := q_
      refine y_aload_n 1 dX14_text_82 rfl rfl ?_
      have hb := h.1
      replace h := h.2
      obtain ⟨⟨fs_8, hi⟩, h⟩ := h
      refine y_callV yXn (b' := (6, 1, 2200)) (K' := kJ4_append_15ec4) (As := [.ref a1]) (S := []) dX14_text_83 mJ4_append_15ec4 lMX14_48 clJ4 rfl hi rfl ⟨(by decide), hb⟩ (Nat.le_of_ble_eq_true rfl) h (fun v_ M_8 H_8 q_ => ?_) rfl
      obtain ⟨r_8, rfl, h⟩ := q_
      have hb := h.1
      replace h := h.2
      obtain ⟨⟨fs_9, hi⟩, h⟩ := h
      refine y_callV yXn (b' := (6, 2, 1104)) (K' := kJ4_toString_0e30d) (As := []) (S := []) dX14_text_86 mJ4_toString_0e30d lMX14_56 clJ4 rfl hi rfl ⟨(by decide), hb⟩ (Nat.le_of_ble_eq_true rfl) h (fun v_ M_9 H_9 q_ => ?_) rfl
      obtain ⟨r_9, rfl, h⟩ := q_
      have hb := h.1
      replace h := h.2
      exact y_aret dX14_text_89 rfl (Or.inl ⟨_, rfl⟩) hb.1 hb.2 ⟨_, rfl, h⟩
set_option maxHeartbeats 4000000 in
set_option maxRecDepth 100000 in
theorem C_X14_text (G : eG) (M : eM) (H : yH) (F : Nat → eM → yH → Prop) (a0 : Nat)
    (h : (yG H a0 12 3 .null ∧ (Yx (yX "text") (yZ G 194 229200 (yFR F)) G (eR (11, 194, 229200)) kX14_text 43 [(0, .ref a0), (1, .ref (G.1 1706))] [] M H 0 0)) ∨ (∃ (b_1 : Nat), yG H a0 12 3 (.ref b_1) ∧ ((0 + 1 ≤ 194 ∧ 0 + 4 ≤ 229200) ∧ ∀ q_2 : Nat, H q_2 = none → (((0 + 1) + 1 ≤ 194 ∧ (0 + 4) + 16 ≤ 229200) ∧ yCal G (3, 1, 16) kJ4_init_da8c8 [.ref q_2] M (yU H q_2 (.inr (14, [.null, .int 0, .int 0, .int 0]))) (yFV (fun (M_3 : eM) (H_3 : yH) => ((0 + 1 + 1) + 1 ≤ 194 ∧ (0 + 4 + 16) + 2200 ≤ 229200) ∧ yIs H_3 q_2 14 ∧ yCal G (6, 1, 2200) kJ4_append_15ec4 [.ref q_2, .ref (G.1 1707)] M_3 H_3 (yFR (fun (r_4 : Nat) (M_4 : eM) (H_4 : yH) => ∃ (b_5 : Nat), yG H_4 a0 12 3 (.ref b_5) ∧ (((0 + 1 + 1 + 1) + 111 ≤ 194 ∧ (0 + 4 + 16 + 2200) + 130200 ≤ 229200) ∧ yIs H_4 b_5 11 ∧ yCal G (10, 111, 130200) kX13_text [.ref b_5] M_4 H_4 (yFR (fun (r_6 : Nat) (M_6 : eM) (H_6 : yH) => ((0 + 1 + 1 + 1 + 111) + 1 ≤ 194 ∧ (0 + 4 + 16 + 2200 + 130200) + 2200 ≤ 229200) ∧ yIs H_6 r_4 14 ∧ yCal G (6, 1, 2200) kJ4_append_15ec4 [.ref r_4, .ref r_6] M_6 H_6 (yFR (fun (r_7 : Nat) (M_7 : eM) (H_7 : yH) => ((0 + 1 + 1 + 1 + 111 + 1) + 1 ≤ 194 ∧ (0 + 4 + 16 + 2200 + 130200 + 2200) + 2200 ≤ 229200) ∧ yIs H_7 r_7 14 ∧ yCal G (6, 1, 2200) kJ4_append_15ec4 [.ref r_7, .ref (G.1 1706)] M_7 H_7 (yFR (fun (r_8 : Nat) (M_8 : eM) (H_8 : yH) => ((0 + 1 + 1 + 1 + 111 + 1 + 1) + 2 ≤ 194 ∧ (0 + 4 + 16 + 2200 + 130200 + 2200 + 2200) + 1104 ≤ 229200) ∧ yIs H_8 r_8 14 ∧ yCal G (6, 2, 1104) kJ4_toString_0e30d [.ref r_8] M_8 H_8 (yFR (fun (r_9 : Nat) (M_9 : eM) (H_9 : yH) => Yx (yX "text") (yZ G 194 229200 (yFR F)) G (eR (11, 194, 229200)) kX14_text 43 [(0, .ref a0), (1, .ref r_9)] [] M_9 H_9 (0 + 1 + 1 + 1 + 111 + 1 + 1 + 2) (0 + 4 + 16 + 2200 + 130200 + 2200 + 2200 + 1104)))))))))))))))))) :
    yCal G (11, 194, 229200) kX14_text [.ref a0] M H (yFR F) := by
  refine yCal.of (by decide +kernel) rfl (Nat.le_of_ble_eq_true rfl) ?_
  show Yx (yX "text") (yZ G 194 229200 (yFR F)) G (eR (11, 194, 229200)) kX14_text 0 [(0, .ref a0)] [] M H 0 0
  refine y_aload_n 0 dX14_text_0 rfl rfl ?_
  rcases h with ⟨⟨fs_1, e1_1, e2_1⟩, h⟩ | ⟨b_1, ⟨fs_1, e1_1, e2_1⟩, h⟩
  · refine y_get (k := 3) dX14_text_1 clX14 lFX14_38 (by decide) e1_1 e2_1 ?_
    refine y_ifnonnullN dX14_text_4 ?_
    refine y_ldcS (j := 1706) dX14_text_7 (List.mem_of_getElem? (i := 6) rfl) ?_
    refine y_goto (t := 42) dX14_text_9 (by decide) ?_
    refine y_astore_n (i := 1) (l' := [(1, .ref (G.1 1706)), (0, .ref a0)]) dX14_text_42 rfl (by decide) rfl ?_
    exact Yx.sub (ks := [1, 0]) rfl h
  · refine y_get (k := 3) dX14_text_1 clX14 lFX14_38 (by decide) e1_1 e2_1 ?_
    refine y_ifnonnullR (t := 12) dX14_text_4 (by decide) ?_
    have hb := h.1
    replace h := h.2
    refine y_new dX14_text_12 clJ4 (tb7 _ (List.mem_of_getElem? (i := 84) rfl)) (tb7 _ (List.mem_of_getElem? (i := 85) rfl)) (tb1 _ (List.mem_of_getElem? (i := 16) rfl)) xd_J4 hb (fun q_2 hq => ?_)
    replace h := h q_2 hq
    refine y_dup dX14_text_15 rfl ?_
    have hb := h.1
    replace h := h.2
    refine y_callI yXn (b' := (3, 1, 16)) (K' := kJ4_init_da8c8) (As := []) (a := q_2) (S := [.ref q_2]) dX14_text_16 miJ4_init_da8c8 lMX14_45 rfl ⟨(by decide), hb⟩ (Nat.le_of_ble_eq_true rfl) h (fun v_ M_3 H_3 q_ => ?_) rfl
    obtain ⟨rfl, h⟩ := q_
    refine y_ldcS (j := 1707) dX14_text_19 (List.mem_of_getElem? (i := 7) rfl) ?_
    have hb := h.1
    replace h := h.2
    obtain ⟨⟨fs_4, hi⟩, h⟩ := h
    refine y_callV yXn (b' := (6, 1, 2200)) (K' := kJ4_append_15ec4) (As := [.ref (G.1 1707)]) (S := []) dX14_text_21 mJ4_append_15ec4 lMX14_48 clJ4 rfl hi rfl ⟨(by decide), hb⟩ (Nat.le_of_ble_eq_true rfl) h (fun v_ M_4 H_4 q_ => ?_) rfl
    obtain ⟨r_4, rfl, h⟩ := q_
    refine y_aload_n 0 dX14_text_24 rfl rfl ?_
    obtain ⟨b_5, ⟨fs_5, e1_5, e2_5⟩, h⟩ := h
    refine y_get (k := 3) dX14_text_25 clX14 lFX14_38 (by decide) e1_5 e2_5 ?_
    have hb := h.1
    replace h := h.2
    obtain ⟨⟨fs_6, hi⟩, h⟩ := h
    refine y_callV yXn (b' := (10, 111, 130200)) (K' := kX13_text) (As := []) (S := [.ref r_4]) dX14_text_28 mX13_text lMX14_52 clX13 rfl hi rfl ⟨(by decide), hb⟩ (Nat.le_of_ble_eq_true rfl) h (fun v_ M_6 H_6 q_ => ?_) rfl
    obtain ⟨r_6, rfl, h⟩ := q_
    have hb := h.1
    replace h := h.2
    obtain ⟨⟨fs_7, hi⟩, h⟩ := h
    refine y_callV yXn (b' := (6, 1, 2200)) (K' := kJ4_append_15ec4) (As := [.ref r_6]) (S := []) dX14_text_31 mJ4_append_15ec4 lMX14_48 clJ4 rfl hi rfl ⟨(by decide), hb⟩ (Nat.le_of_ble_eq_true rfl) h (fun v_ M_7 H_7 q_ => ?_) rfl
    obtain ⟨r_7, rfl, h⟩ := q_
    refine y_ldcS (j := 1706) dX14_text_34 (List.mem_of_getElem? (i := 6) rfl) ?_
    have hb := h.1
    replace h := h.2
    obtain ⟨⟨fs_8, hi⟩, h⟩ := h
    refine y_callV yXn (b' := (6, 1, 2200)) (K' := kJ4_append_15ec4) (As := [.ref (G.1 1706)]) (S := []) dX14_text_36 mJ4_append_15ec4 lMX14_48 clJ4 rfl hi rfl ⟨(by decide), hb⟩ (Nat.le_of_ble_eq_true rfl) h (fun v_ M_8 H_8 q_ => ?_) rfl
    obtain ⟨r_8, rfl, h⟩ := q_
    have hb := h.1
    replace h := h.2
    obtain ⟨⟨fs_9, hi⟩, h⟩ := h
    refine y_callV yXn (b' := (6, 2, 1104)) (K' := kJ4_toString_0e30d) (As := []) (S := []) dX14_text_39 mJ4_toString_0e30d lMX14_56 clJ4 rfl hi rfl ⟨(by decide), hb⟩ (Nat.le_of_ble_eq_true rfl) h (fun v_ M_9 H_9 q_ => ?_) rfl
    obtain ⟨r_9, rfl, h⟩ := q_
    refine y_astore_n (i := 1) (l' := [(1, .ref r_9), (0, .ref a0)]) dX14_text_42 rfl (by decide) rfl ?_
    exact Yx.sub (ks := [1, 0]) rfl h
