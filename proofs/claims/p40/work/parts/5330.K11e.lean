set_option maxHeartbeats 4000000 in
set_option maxRecDepth 100000 in
theorem B_X14_text_90 (G : eG) (ca sl : Nat) (M : eM) (H : yH) (F : Nat → eM → yH → Prop) (a0 : Nat) (a1 : Nat)
    (h : (ca + 1 ≤ 194 ∧ sl + 4 ≤ 229200) ∧ ∀ q_1 : Nat, H q_1 = none → (((ca + 1) + 1 ≤ 194 ∧ (sl + 4) + 16 ≤ 229200) ∧ yCal G (3, 1, 16) kJ4_init_da8c8 [.ref q_1] M (yU H q_1 (.inr (14, [.null, .int 0, .int 0, .int 0]))) (yFV (fun (M_2 : eM) (H_2 : yH) => ((ca + 1 + 1) + 1 ≤ 194 ∧ (sl + 4 + 16) + 2200 ≤ 229200) ∧ yIs H_2 q_1 14 ∧ yCal G (6, 1, 2200) kJ4_append_15ec4 [.ref q_1, .ref (G.1 1726)] M_2 H_2 (yFR (fun (r_3 : Nat) (M_3 : eM) (H_3 : yH) => ∃ (x_4 : Int32), yG H_3 a0 12 1 (.int x_4) ∧ (((ca + 1 + 1 + 1) + 1 ≤ 194 ∧ (sl + 4 + 16 + 2200) + 2200 ≤ 229200) ∧ yIs H_3 r_3 14 ∧ yCal G (6, 1, 2200) kJ4_append_bf812 [.ref r_3, .int x_4] M_3 H_3 (yFR (fun (r_5 : Nat) (M_5 : eM) (H_5 : yH) => ((ca + 1 + 1 + 1 + 1) + 1 ≤ 194 ∧ (sl + 4 + 16 + 2200 + 2200) + 2200 ≤ 229200) ∧ yIs H_5 r_5 14 ∧ yCal G (6, 1, 2200) kJ4_append_15ec4 [.ref r_5, .ref (G.1 1727)] M_5 H_5 (yFR (fun (r_6 : Nat) (M_6 : eM) (H_6 : yH) => ∃ (b_7 : Nat), yG H_6 a0 12 2 (.ref b_7) ∧ (∃ (b_8 : Nat), yER G 7 H_6 b_7 0 b_8 ∧ (((ca + 1 + 1 + 1 + 1 + 1) + 21 ≤ 194 ∧ (sl + 4 + 16 + 2200 + 2200 + 2200) + 23400 ≤ 229200) ∧ yIs H_6 b_8 11 ∧ yCal G (8, 21, 23400) kX13_text [.ref b_8] M_6 H_6 (yFR (fun (r_9 : Nat) (M_9 : eM) (H_9 : yH) => ((ca + 1 + 1 + 1 + 1 + 1 + 21) + 1 ≤ 194 ∧ (sl + 4 + 16 + 2200 + 2200 + 2200 + 23400) + 2200 ≤ 229200) ∧ yIs H_9 r_6 14 ∧ yCal G (6, 1, 2200) kJ4_append_15ec4 [.ref r_6, .ref r_9] M_9 H_9 (yFR (fun (r_10 : Nat) (M_10 : eM) (H_10 : yH) => ((ca + 1 + 1 + 1 + 1 + 1 + 21 + 1) + 1 ≤ 194 ∧ (sl + 4 + 16 + 2200 + 2200 + 2200 + 23400 + 2200) + 2200 ≤ 229200) ∧ yIs H_10 r_10 14 ∧ yCal G (6, 1, 2200) kJ4_append_15ec4 [.ref r_10, .ref (G.1 1728)] M_10 H_10 (yFR (fun (r_11 : Nat) (M_11 : eM) (H_11 : yH) => ∃ (b_12 : Nat), yG H_11 a0 12 2 (.ref b_12) ∧ (∃ (b_13 : Nat), yER G 7 H_11 b_12 1 b_13 ∧ (((ca + 1 + 1 + 1 + 1 + 1 + 21 + 1 + 1) + 21 ≤ 194 ∧ (sl + 4 + 16 + 2200 + 2200 + 2200 + 23400 + 2200 + 2200) + 23400 ≤ 229200) ∧ yIs H_11 b_13 11 ∧ yCal G (8, 21, 23400) kX13_text [.ref b_13] M_11 H_11 (yFR (fun (r_14 : Nat) (M_14 : eM) (H_14 : yH) => ((ca + 1 + 1 + 1 + 1 + 1 + 21 + 1 + 1 + 21) + 1 ≤ 194 ∧ (sl + 4 + 16 + 2200 + 2200 + 2200 + 23400 + 2200 + 2200 + 23400) + 2200 ≤ 229200) ∧ yIs H_14 r_11 14 ∧ yCal G (6, 1, 2200) kJ4_append_15ec4 [.ref r_11, .ref r_14] M_14 H_14 (yFR (fun (r_15 : Nat) (M_15 : eM) (H_15 : yH) => ((ca + 1 + 1 + 1 + 1 + 1 + 21 + 1 + 1 + 21 + 1) + 1 ≤ 194 ∧ (sl + 4 + 16 + 2200 + 2200 + 2200 + 23400 + 2200 + 2200 + 23400 + 2200) + 2200 ≤ 229200) ∧ yIs H_15 r_15 14 ∧ yCal G (6, 1, 2200) kJ4_append_15ec4 [.ref r_15, .ref (G.1 1729)] M_15 H_15 (yFR (fun (r_16 : Nat) (M_16 : eM) (H_16 : yH) => ∃ (b_17 : Nat), yG H_16 a0 12 2 (.ref b_17) ∧ (∃ (b_18 : Nat), yER G 7 H_16 b_17 2 b_18 ∧ (((ca + 1 + 1 + 1 + 1 + 1 + 21 + 1 + 1 + 21 + 1 + 1) + 21 ≤ 194 ∧ (sl + 4 + 16 + 2200 + 2200 + 2200 + 23400 + 2200 + 2200 + 23400 + 2200 + 2200) + 23400 ≤ 229200) ∧ yIs H_16 b_18 11 ∧ yCal G (8, 21, 23400) kX13_text [.ref b_18] M_16 H_16 (yFR (fun (r_19 : Nat) (M_19 : eM) (H_19 : yH) => ((ca + 1 + 1 + 1 + 1 + 1 + 21 + 1 + 1 + 21 + 1 + 1 + 21) + 1 ≤ 194 ∧ (sl + 4 + 16 + 2200 + 2200 + 2200 + 23400 + 2200 + 2200 + 23400 + 2200 + 2200 + 23400) + 2200 ≤ 229200) ∧ yIs H_19 r_16 14 ∧ yCal G (6, 1, 2200) kJ4_append_15ec4 [.ref r_16, .ref r_19] M_19 H_19 (yFR (fun (r_20 : Nat) (M_20 : eM) (H_20 : yH) => ((ca + 1 + 1 + 1 + 1 + 1 + 21 + 1 + 1 + 21 + 1 + 1 + 21 + 1) + 1 ≤ 194 ∧ (sl + 4 + 16 + 2200 + 2200 + 2200 + 23400 + 2200 + 2200 + 23400 + 2200 + 2200 + 23400 + 2200) + 2200 ≤ 229200) ∧ yIs H_20 r_20 14 ∧ yCal G (6, 1, 2200) kJ4_append_15ec4 [.ref r_20, .ref a1] M_20 H_20 (yFR (fun (r_21 : Nat) (M_21 : eM) (H_21 : yH) => ((ca + 1 + 1 + 1 + 1 + 1 + 21 + 1 + 1 + 21 + 1 + 1 + 21 + 1 + 1) + 2 ≤ 194 ∧ (sl + 4 + 16 + 2200 + 2200 + 2200 + 23400 + 2200 + 2200 + 23400 + 2200 + 2200 + 23400 + 2200 + 2200) + 1104 ≤ 229200) ∧ yIs H_21 r_21 14 ∧ yCal G (6, 2, 1104) kJ4_toString_0e30d [.ref r_21] M_21 H_21 (yFR (fun (r_22 : Nat) (M_22 : eM) (H_22 : yH) => (ca + 1 + 1 + 1 + 1 + 1 + 21 + 1 + 1 + 21 + 1 + 1 + 21 + 1 + 1 + 2 ≤ 194 ∧ sl + 4 + 16 + 2200 + 2200 + 2200 + 23400 + 2200 + 2200 + 23400 + 2200 + 2200 + 23400 + 2200 + 2200 + 1104 ≤ 229200) ∧ F r_22 M_22 H_22))))))))))))))))))))))))))))))))))))) :
    Yx (yX "text") (yZ G 194 229200 (yFR F)) G (eR (11, 194, 229200)) kX14_text 90 [(0, .ref a0), (1, .ref a1)] [] M H ca sl := by
  have hb := h.1
  replace h := h.2
  refine y_new dX14_text_90 clJ4 (tb7 _ (List.mem_of_getElem? (i := 84) rfl)) (tb7 _ (List.mem_of_getElem? (i := 85) rfl)) (tb1 _ (List.mem_of_getElem? (i := 16) rfl)) xd_J4 hb (fun q_1 hq => ?_)
  replace h := h q_1 hq
  refine y_dup dX14_text_93 rfl ?_
  have hb := h.1
  replace h := h.2
  refine y_callI yXn (b' := (3, 1, 16)) (K' := kJ4_init_da8c8) (As := []) (a := q_1) (S := [.ref q_1]) dX14_text_94 miJ4_init_da8c8 lMX14_45 rfl ⟨(by decide), hb⟩ (Nat.le_of_ble_eq_true rfl) h (fun v_ M_2 H_2 q_ => ?_) rfl
  obtain ⟨rfl, h⟩ := q_
  refine y_ldcS (j := 1726) dX14_text_97 (List.mem_of_getElem? (i := 26) rfl) ?_
  have hb := h.1
  replace h := h.2
  obtain ⟨⟨fs_3, hi⟩, h⟩ := h
  refine y_callV yXn (b' := (6, 1, 2200)) (K' := kJ4_append_15ec4) (As := [.ref (G.1 1726)]) (S := []) dX14_text_99 mJ4_append_15ec4 lMX14_48 clJ4 rfl hi rfl ⟨(by decide), hb⟩ (Nat.le_of_ble_eq_true rfl) h (fun v_ M_3 H_3 q_ => ?_) rfl
  obtain ⟨r_3, rfl, h⟩ := q_
  refine y_aload_n 0 dX14_text_102 rfl rfl ?_
  obtain ⟨x_4, ⟨fs_4, e1_4, e2_4⟩, h⟩ := h
  refine y_get (k := 1) dX14_text_103 clX14 lFX14_25 (by decide) e1_4 e2_4 ?_
  have hb := h.1
  replace h := h.2
  obtain ⟨⟨fs_5, hi⟩, h⟩ := h
  refine y_callV yXn (b' := (6, 1, 2200)) (K' := kJ4_append_bf812) (As := [.int x_4]) (S := []) dX14_text_106 mJ4_append_bf812 lMX14_63 clJ4 rfl hi rfl ⟨(by decide), hb⟩ (Nat.le_of_ble_eq_true rfl) h (fun v_ M_5 H_5 q_ => ?_) rfl
  obtain ⟨r_5, rfl, h⟩ := q_
  refine y_ldcS (j := 1727) dX14_text_109 (List.mem_of_getElem? (i := 27) rfl) ?_
  have hb := h.1
  replace h := h.2
  obtain ⟨⟨fs_6, hi⟩, h⟩ := h
  refine y_callV yXn (b' := (6, 1, 2200)) (K' := kJ4_append_15ec4) (As := [.ref (G.1 1727)]) (S := []) dX14_text_111 mJ4_append_15ec4 lMX14_48 clJ4 rfl hi rfl ⟨(by decide), hb⟩ (Nat.le_of_ble_eq_true rfl) h (fun v_ M_6 H_6 q_ => ?_) rfl
  obtain ⟨r_6, rfl, h⟩ := q_
  refine y_aload_n 0 dX14_text_114 rfl rfl ?_
  obtain ⟨b_7, ⟨fs_7, e1_7, e2_7⟩, h⟩ := h
  refine y_get (k := 2) dX14_text_115 clX14 lFX14_9 (by decide) e1_7 e2_7 ?_
  refine y_iconst (v := 0) dX14_text_118 rfl ?_
  obtain ⟨b_8, ⟨N_8, f_8, e1_8, e2_8, e3_8⟩, h⟩ := h
  refine y_aald (t := 7) (ty := .object "RingDominoLaw$Node") dX14_text_119 rfl rfl e1_8 e2_8 e3_8 ?_
  have hb := h.1
  replace h := h.2
  obtain ⟨⟨fs_9, hi⟩, h⟩ := h
  refine y_callV yXn (b' := (8, 21, 23400)) (K' := kX13_text) (As := []) (S := [.ref r_6]) dX14_text_120 mX13_text lMX14_52 clX13 rfl hi rfl ⟨(by decide), hb⟩ (Nat.le_of_ble_eq_true rfl) h (fun v_ M_9 H_9 q_ => ?_) rfl
  obtain ⟨r_9, rfl, h⟩ := q_
  have hb := h.1
  replace h := h.2
  obtain ⟨⟨fs_10, hi⟩, h⟩ := h
  refine y_callV yXn (b' := (6, 1, 2200)) (K' := kJ4_append_15ec4) (As := [.ref r_9]) (S := []) dX14_text_123 mJ4_append_15ec4 lMX14_48 clJ4 rfl hi rfl ⟨(by decide), hb⟩ (Nat.le_of_ble_eq_true rfl) h (fun v_ M_10 H_10 q_ => ?_) rfl
  obtain ⟨r_10, rfl, h⟩ := q_
  refine y_ldcS (j := 1728) dX14_text_126 (List.mem_of_getElem? (i := 28) rfl) ?_
  have hb := h.1
  replace h := h.2
  obtain ⟨⟨fs_11, hi⟩, h⟩ := h
  refine y_callV yXn (b' := (6, 1, 2200)) (K' := kJ4_append_15ec4) (As := [.ref (G.1 1728)]) (S := []) dX14_text_128 mJ4_append_15ec4 lMX14_48 clJ4 rfl hi rfl ⟨(by decide), hb⟩ (Nat.le_of_ble_eq_true rfl) h (fun v_ M_11 H_11 q_ => ?_) rfl
  obtain ⟨r_11, rfl, h⟩ := q_
  refine y_aload_n 0 dX14_text_131 rfl rfl ?_
  obtain ⟨b_12, ⟨fs_12, e1_12, e2_12⟩, h⟩ := h
  refine y_get (k := 2) dX14_text_132 clX14 lFX14_9 (by decide) e1_12 e2_12 ?_
  refine y_iconst (v := 1) dX14_text_135 rfl ?_
  obtain ⟨b_13, ⟨N_13, f_13, e1_13, e2_13, e3_13⟩, h⟩ := h
  refine y_aald (t := 7) (ty := .object "RingDominoLaw$Node") dX14_text_136 rfl rfl e1_13 e2_13 e3_13 ?_
  have hb := h.1
  replace h := h.2
  obtain ⟨⟨fs_14, hi⟩, h⟩ := h
  refine y_callV yXn (b' := (8, 21, 23400)) (K' := kX13_text) (As := []) (S := [.ref r_11]) dX14_text_137 mX13_text lMX14_52 clX13 rfl hi rfl ⟨(by decide), hb⟩ (Nat.le_of_ble_eq_true rfl) h (fun v_ M_14 H_14 q_ => ?_) rfl
  obtain ⟨r_14, rfl, h⟩ := q_
  have hb := h.1
  replace h := h.2
  obtain ⟨⟨fs_15, hi⟩, h⟩ := h
  refine y_callV yXn (b' := (6, 1, 2200)) (K' := kJ4_append_15ec4) (As := [.ref r_14]) (S := []) dX14_text_140 mJ4_append_15ec4 lMX14_48 clJ4 rfl hi rfl ⟨(by decide), hb⟩ (Nat.le_of_ble_eq_true rfl) h (fun v_ M_15 H_15 q_ => ?_) rfl
  obtain ⟨r_15, rfl, h⟩ := q_
  refine y_ldcS (j := 1729) dX14_text_143 (List.mem_of_getElem? (i := 29) rfl) ?_
  have hb := h.1
  replace h := h.2
  obtain ⟨⟨fs_16, hi⟩, h⟩ := h
  refine y_callV yXn (b' := (6, 1, 2200)) (K' := kJ4_append_15ec4) (As := [.ref (G.1 1729)]) (S := []) dX14_text_145 mJ4_append_15ec4 lMX14_48 clJ4 rfl hi rfl ⟨(by decide), hb⟩ (Nat.le_of_ble_eq_true rfl) h (fun v_ M_16 H_16 q_ => ?_) rfl
  obtain ⟨r_16, rfl, h⟩ := q_
  refine y_aload_n 0 dX14_text_148 rfl rfl ?_
  obtain ⟨b_17, ⟨fs_17, e1_17, e2_17⟩, h⟩ := h
  refine y_get (k := 2) dX14_text_149 clX14 lFX14_9 (by decide) e1_17 e2_17 ?_
  refine y_iconst (v := 2) dX14_text_152 rfl ?_
  obtain ⟨b_18, ⟨N_18, f_18, e1_18, e2_18, e3_18⟩, h⟩ := h
  refine y_aald (t := 7) (ty := .object "RingDominoLaw$Node") dX14_text_153 rfl rfl e1_18 e2_18 e3_18 ?_
  have hb := h.1
  replace h := h.2
  obtain ⟨⟨fs_19, hi⟩, h⟩ := h
  refine y_callV yXn (b' := (8, 21, 23400)) (K' := kX13_text) (As := []) (S := [.ref r_16]) dX14_text_154 mX13_text lMX14_52 clX13 rfl hi rfl ⟨(by decide), hb⟩ (Nat.le_of_ble_eq_true rfl) h (fun v_ M_19 H_19 q_ => ?_) rfl
  obtain ⟨r_19, rfl, h⟩ := q_
  have hb := h.1
  replace h := h.2
  obtain ⟨⟨fs_20, hi⟩, h⟩ := h
  refine y_callV yXn (b' := (6, 1, 2200)) (K' := kJ4_append_15ec4) (As := [.ref r_19]) (S := []) dX14_text_157 mJ4_append_15ec4 lMX14_48 clJ4 rfl hi rfl ⟨(by decide), hb⟩ (Nat.le_of_ble_eq_true rfl) h (fun v_ M_20 H_20 q_ => ?_) rfl
  obtain ⟨r_20, rfl, h⟩ := q_
  refine y_aload_n 1 dX14_text_160 rfl rfl ?_
  have hb := h.1
  replace h := h.2
  obtain ⟨⟨fs_21, hi⟩, h⟩ := h
  refine y_callV yXn (b' := (6, 1, 2200)) (K' := kJ4_append_15ec4) (As := [.ref a1]) (S := []) dX14_text_161 mJ4_append_15ec4 lMX14_48 clJ4 rfl hi rfl ⟨(by decide), hb⟩ (Nat.le_of_ble_eq_true rfl) h (fun v_ M_21 H_21 q_ => ?_) rfl
  obtain ⟨r_21, rfl, h⟩ := q_
  have hb := h.1
  replace h := h.2
  obtain ⟨⟨fs_22, hi⟩, h⟩ := h
  refine y_callV yXn (b' := (6, 2, 1104)) (K' := kJ4_toString_0e30d) (As := []) (S := []) dX14_text_164 mJ4_toString_0e30d lMX14_56 clJ4 rfl hi rfl ⟨(by decide), hb⟩ (Nat.le_of_ble_eq_true rfl) h (fun v_ M_22 H_22 q_ => ?_) rfl
  obtain ⟨r_22, rfl, h⟩ := q_
  have hb := h.1
  replace h := h.2
  exact y_aret dX14_text_167 rfl (Or.inl ⟨_, rfl⟩) hb.1 hb.2 ⟨_, rfl, h⟩
set_option maxHeartbeats 4000000 in
set_option maxRecDepth 100000 in
theorem B_X14_text_50 (G : eG) (ca sl : Nat) (M : eM) (H : yH) (F : Nat → eM → yH → Prop) (a0 : Nat) (a1 : Nat)
    (h : (ca + 1 ≤ 194 ∧ sl + 4 ≤ 229200) ∧ ∀ q_1 : Nat, H q_1 = none → (((ca + 1) + 1 ≤ 194 ∧ (sl + 4) + 16 ≤ 229200) ∧ yCal G (3, 1, 16) kJ4_init_da8c8 [.ref q_1] M (yU H q_1 (.inr (14, [.null, .int 0, .int 0, .int 0]))) (yFV (fun (M_2 : eM) (H_2 : yH) => ∃ (x_3 : Int32), yG H_2 a0 12 0 (.int x_3) ∧ (((¬ x_3 = (1 : Int32)) → ((ca + 1 + 1) + 1 ≤ 194 ∧ (sl + 4 + 16) + 2200 ≤ 229200) ∧ yIs H_2 q_1 14 ∧ yCal G (6, 1, 2200) kJ4_append_15ec4 [.ref q_1, .ref (G.1 1725)] M_2 H_2 (yFR (fun (r_4 : Nat) (M_4 : eM) (H_4 : yH) => ∃ (x_5 : Int32), yG H_4 a0 12 1 (.int x_5) ∧ (((ca + 1 + 1 + 1) + 1 ≤ 194 ∧ (sl + 4 + 16 + 2200) + 2200 ≤ 229200) ∧ yIs H_4 r_4 14 ∧ yCal G (6, 1, 2200) kJ4_append_bf812 [.ref r_4, .int x_5] M_4 H_4 (yFR (fun (r_6 : Nat) (M_6 : eM) (H_6 : yH) => ((ca + 1 + 1 + 1 + 1) + 1 ≤ 194 ∧ (sl + 4 + 16 + 2200 + 2200) + 2200 ≤ 229200) ∧ yIs H_6 r_6 14 ∧ yCal G (6, 1, 2200) kJ4_append_15ec4 [.ref r_6, .ref a1] M_6 H_6 (yFR (fun (r_7 : Nat) (M_7 : eM) (H_7 : yH) => ((ca + 1 + 1 + 1 + 1 + 1) + 2 ≤ 194 ∧ (sl + 4 + 16 + 2200 + 2200 + 2200) + 1104 ≤ 229200) ∧ yIs H_7 r_7 14 ∧ yCal G (6, 2, 1104) kJ4_toString_0e30d [.ref r_7] M_7 H_7 (yFR (fun (r_8 : Nat) (M_8 : eM) (H_8 : yH) => (ca + 1 + 1 + 1 + 1 + 1 + 2 ≤ 194 ∧ sl + 4 + 16 + 2200 + 2200 + 2200 + 1104 ≤ 229200) ∧ F r_8 M_8 H_8)))))))))) ∧ ((x_3 = (1 : Int32)) → ((ca + 1 + 1) + 1 ≤ 194 ∧ (sl + 4 + 16) + 2200 ≤ 229200) ∧ yIs H_2 q_1 14 ∧ yCal G (6, 1, 2200) kJ4_append_15ec4 [.ref q_1, .ref (G.1 1724)] M_2 H_2 (yFR (fun (r_4 : Nat) (M_4 : eM) (H_4 : yH) => ∃ (x_5 : Int32), yG H_4 a0 12 1 (.int x_5) ∧ (((ca + 1 + 1 + 1) + 1 ≤ 194 ∧ (sl + 4 + 16 + 2200) + 2200 ≤ 229200) ∧ yIs H_4 r_4 14 ∧ yCal G (6, 1, 2200) kJ4_append_bf812 [.ref r_4, .int x_5] M_4 H_4 (yFR (fun (r_6 : Nat) (M_6 : eM) (H_6 : yH) => ((ca + 1 + 1 + 1 + 1) + 1 ≤ 194 ∧ (sl + 4 + 16 + 2200 + 2200) + 2200 ≤ 229200) ∧ yIs H_6 r_6 14 ∧ yCal G (6, 1, 2200) kJ4_append_15ec4 [.ref r_6, .ref a1] M_6 H_6 (yFR (fun (r_7 : Nat) (M_7 : eM) (H_7 : yH) => ((ca + 1 + 1 + 1 + 1 + 1) + 2 ≤ 194 ∧ (sl + 4 + 16 + 2200 + 2200 + 2200) + 1104 ≤ 229200) ∧ yIs H_7 r_7 14 ∧ yCal G (6, 2, 1104) kJ4_toString_0e30d [.ref r_7] M_7 H_7 (yFR (fun (r_8 : Nat) (M_8 : eM) (H_8 : yH) => (ca + 1 + 1 + 1 + 1 + 1 + 2 ≤ 194 ∧ sl + 4 + 16 + 2200 + 2200 + 2200 + 1104 ≤ 229200) ∧ F r_8 M_8 H_8))))))))))))))) :
    Yx (yX "text") (yZ G 194 229200 (yFR F)) G (eR (11, 194, 229200)) kX14_text 50 [(0, .ref a0), (1, .ref a1)] [] M H ca sl := by
  have hb := h.1
  replace h := h.2
  refine y_new dX14_text_50 clJ4 (tb7 _ (List.mem_of_getElem? (i := 84) rfl)) (tb7 _ (List.mem_of_getElem? (i := 85) rfl)) (tb1 _ (List.mem_of_getElem? (i := 16) rfl)) xd_J4 hb (fun q_1 hq => ?_)
  replace h := h q_1 hq
  refine y_dup dX14_text_53 rfl ?_
  have hb := h.1
  replace h := h.2
  refine y_callI yXn (b' := (3, 1, 16)) (K' := kJ4_init_da8c8) (As := []) (a := q_1) (S := [.ref q_1]) dX14_text_54 miJ4_init_da8c8 lMX14_45 rfl ⟨(by decide), hb⟩ (Nat.le_of_ble_eq_true rfl) h (fun v_ M_2 H_2 q_ => ?_) rfl
  obtain ⟨rfl, h⟩ := q_
  refine y_aload_n 0 dX14_text_57 rfl rfl ?_
  obtain ⟨x_3, ⟨fs_3, e1_3, e2_3⟩, h⟩ := h
  refine y_get (k := 0) dX14_text_58 clX14 lFX14_21 (by decide) e1_3 e2_3 ?_
  refine y_iconst (v := 1) dX14_text_61 rfl ?_
  refine y_icmp_ne (t := 70) dX14_text_62 (by decide) (fun q => ?_) (fun q => ?_)
  · replace h := h.1 q
    refine y_ldcS (j := 1725) dX14_text_70 (List.mem_of_getElem? (i := 25) rfl) ?_
    have hb := h.1
    replace h := h.2
    obtain ⟨⟨fs_4, hi⟩, h⟩ := h
    refine y_callV yXn (b' := (6, 1, 2200)) (K' := kJ4_append_15ec4) (As := [.ref (G.1 1725)]) (S := []) dX14_text_72 mJ4_append_15ec4 lMX14_48 clJ4 rfl hi rfl ⟨(by decide), hb⟩ (Nat.le_of_ble_eq_true rfl) h (fun v_ M_4 H_4 q_ => ?_) rfl
    obtain ⟨r_4, rfl, h⟩ := q_
    refine y_aload_n 0 dX14_text_75 rfl rfl ?_
    obtain ⟨x_5, ⟨fs_5, e1_5, e2_5⟩, h⟩ := h
    refine y_get (k := 1) dX14_text_76 clX14 lFX14_25 (by decide) e1_5 e2_5 ?_
    have hb := h.1
    replace h := h.2
    obtain ⟨⟨fs_6, hi⟩, h⟩ := h
    refine y_callV yXn (b' := (6, 1, 2200)) (K' := kJ4_append_bf812) (As := [.int x_5]) (S := []) dX14_text_79 mJ4_append_bf812 lMX14_63 clJ4 rfl hi rfl ⟨(by decide), hb⟩ (Nat.le_of_ble_eq_true rfl) h (fun v_ M_6 H_6 q_ => ?_) rfl
    obtain ⟨r_6, rfl, h⟩ := q_
    refine y_aload_n 1 dX14_text_82 rfl rfl ?_
    have hb := h.1
    replace h := h.2
    obtain ⟨⟨fs_7, hi⟩, h⟩ := h
    refine y_callV yXn (b' := (6, 1, 2200)) (K' := kJ4_append_15ec4) (As := [.ref a1]) (S := []) dX14_text_83 mJ4_append_15ec4 lMX14_48 clJ4 rfl hi rfl ⟨(by decide), hb⟩ (Nat.le_of_ble_eq_true rfl) h (fun v_ M_7 H_7 q_ => ?_) rfl
    obtain ⟨r_7, rfl, h⟩ := q_
    have hb := h.1
    replace h := h.2
    obtain ⟨⟨fs_8, hi⟩, h⟩ := h
    refine y_callV yXn (b' := (6, 2, 1104)) (K' := kJ4_toString_0e30d) (As := []) (S := []) dX14_text_86 mJ4_toString_0e30d lMX14_56 clJ4 rfl hi rfl ⟨(by decide), hb⟩ (Nat.le_of_ble_eq_true rfl) h (fun v_ M_8 H_8 q_ => ?_) rfl
    obtain ⟨r_8, rfl, h⟩ := q_
    have hb := h.1
    replace h := h.2
    exact y_aret dX14_text_89 rfl (Or.inl ⟨_, rfl⟩) hb.1 hb.2 ⟨_, rfl, h⟩
  · replace h := h.2 q
    refine y_ldcS (j := 1724) dX14_text_65 (List.mem_of_getElem? (i := 24) rfl) ?_
    refine y_goto (t := 72) dX14_text_67 (by decide) ?_
    have hb := h.1
    replace h := h.2
    obtain ⟨⟨fs_4, hi⟩, h⟩ := h
    refine y_callV yXn (b' := (6, 1, 2200)) (K' := kJ4_append_15ec4) (As := [.ref (G.1 1724)]) (S := []) dX14_text_72 mJ4_append_15ec4 lMX14_48 clJ4 rfl hi rfl ⟨(by decide), hb⟩ (Nat.le_of_ble_eq_true rfl) h (fun v_ M_4 H_4 q_ => ?_) rfl
    obtain ⟨r_4, rfl, h⟩ := q_
    refine y_aload_n 0 dX14_text_75 rfl rfl ?_
    obtain ⟨x_5, ⟨fs_5, e1_5, e2_5⟩, h⟩ := h
    refine y_get (k := 1) dX14_text_76 clX14 lFX14_25 (by decide) e1_5 e2_5 ?_
    have hb := h.1
    replace h := h.2
    obtain ⟨⟨fs_6, hi⟩, h⟩ := h
    refine y_callV yXn (b' := (6, 1, 2200)) (K' := kJ4_append_bf812) (As := [.int x_5]) (S := []) dX14_text_79 mJ4_append_bf812 lMX14_63 clJ4 rfl hi rfl ⟨(by decide), hb⟩ (Nat.le_of_ble_eq_true rfl) h (fun v_ M_6 H_6 q_ => ?_) rfl
    obtain ⟨r_6, rfl, h⟩ := q_
    refine y_aload_n 1 dX14_text_82 rfl rfl ?_
    have hb := h.1
    replace h := h.2
    obtain ⟨⟨fs_7, hi⟩, h⟩ := h
    refine y_callV yXn (b' := (6, 1, 2200)) (K' := kJ4_append_15ec4) (As := [.ref a1]) (S := []) dX14_text_83 mJ4_append_15ec4 lMX14_48 clJ4 rfl hi rfl ⟨(by decide), hb⟩ (Nat.le_of_ble_eq_true rfl) h (fun v_ M_7 H_7 q_ => ?_) rfl
    obtain ⟨r_7, rfl, h⟩ := q_
    have hb := h.1
    replace h := h.2
    obtain ⟨⟨fs_8, hi⟩, h⟩ := h
    refine y_callV yXn (b' := (6, 2, 1104)) (K' := kJ4_toString_0e30d) (As := []) (S := []) dX14_text_86 mJ4_toString_0e30d lMX14_56 clJ4 rfl hi rfl ⟨(by decide), hb⟩ (Nat.le_of_ble_eq_true rfl) h (fun v_ M_8 H_8 q_ => ?_) rfl
    obtain ⟨r_8, rfl, h⟩ := q_
    have hb := h.1
    replace h := h.2
    exact y_aret dX14_text_89 rfl (Or.inl ⟨_, rfl⟩) hb.1 hb.2 ⟨_, rfl, h⟩
set_option maxHeartbeats 4000000 in
set_option maxRecDepth 100000 in
theorem B_X14_text_43 (G : eG) (ca sl : Nat) (M : eM) (H : yH) (F : Nat → eM → yH → Prop) (a0 : Nat) (a1 : Nat)
    (h : ∃ (x_1 : Int32), yG H a0 12 0 (.int x_1) ∧ (((x_1 ≤ (0 : Int32)) → Yx (yX "text") (yZ G 194 229200 (yFR F)) G (eR (11, 194, 229200)) kX14_text 90 [(0, .ref a0), (1, .ref a1)] [] M H ca sl) ∧ ((¬ x_1 ≤ (0 : Int32)) → Yx (yX "text") (yZ G 194 229200 (yFR F)) G (eR (11, 194, 229200)) kX14_text 50 [(0, .ref a0), (1, .ref a1)] [] M H ca sl))) :
    Yx (yX "text") (yZ G 194 229200 (yFR F)) G (eR (11, 194, 229200)) kX14_text 43 [(0, .ref a0), (1, .ref a1)] [] M H ca sl := by
  refine y_aload_n 0 dX14_text_43 rfl rfl ?_
  obtain ⟨x_1, ⟨fs_1, e1_1, e2_1⟩, h⟩ := h
  refine y_get (k := 0) dX14_text_44 clX14 lFX14_21 (by decide) e1_1 e2_1 ?_
  refine y_if_le (t := 90) dX14_text_47 (by decide) (fun q => ?_) (fun q => ?_)
  · replace h := h.1 q
    exact h
  · replace h := h.2 q
    exact h
set_option maxHeartbeats 4000000 in
set_option maxRecDepth 100000 in
theorem C_X14_text (G : eG) (M : eM) (H : yH) (F : Nat → eM → yH → Prop) (a0 : Nat)
    (h : (yG H a0 12 3 .null ∧ (Yx (yX "text") (yZ G 194 229200 (yFR F)) G (eR (11, 194, 229200)) kX14_text 43 [(0, .ref a0), (1, .ref (G.1 1706))] [] M H 0 0)) ∨ (∃ (b_1 : Nat), yG H a0 12 3 (.ref b_1) ∧ ((0 + 1 ≤ 194 ∧ 0 + 4 ≤ 229200) ∧ ∀ q_2 : Nat, H q_2 = none → (((0 + 1) + 1 ≤ 194 ∧ (0 + 4) + 16 ≤ 229200) ∧ yCal G (3, 1, 16) kJ4_init_da8c8 [.ref q_2] M (yU H q_2 (.inr (14, [.null, .int 0, .int 0, .int 0]))) (yFV (fun (M_3 : eM) (H_3 : yH) => ((0 + 1 + 1) + 1 ≤ 194 ∧ (0 + 4 + 16) + 2200 ≤ 229200) ∧ yIs H_3 q_2 14 ∧ yCal G (6, 1, 2200) kJ4_append_15ec4 [.ref q_2, .ref (G.1 1707)] M_3 H_3 (yFR (fun (r_4 : Nat) (M_4 : eM) (H_4 : yH) => ∃ (b_5 : Nat), yG H_4 a0 12 3 (.ref b_5) ∧ (((0 + 1 + 1 + 1) + 111 ≤ 194 ∧ (0 + 4 + 16 + 2200) + 130200 ≤ 229200) ∧ yIs H_4 b_5 11 ∧ yCal G (10, 111, 130200) kX13_text [.ref b_5] M_4 H_4 (yFR (fun (r_6 : Nat) (M_6 : eM) (H_6 : yH) => ((0 + 1 + 1 + 1 + 111) + 1 ≤ 194 ∧ (0 + 4 + 16 + 2200 + 130200) + 2200 ≤ 229200) ∧ yIs H_6 r_4 14 ∧ yCal G (6, 1, 2200) kJ4_append_15ec4 [.ref r_4, .ref r_6] M_6 H_6 (yFR (fun (r_7 : Nat) (M_7 : eM) (H_7 : yH) => ((0 + 1 + 1 + 1 + 111 + 1) + 1 ≤ 194 ∧ (0 + 4 + 16 + 2200 + 130200 + 2200) + 2200 ≤ 229200) ∧ yIs H_7 r_7 14 ∧ yCal G (6, 1, 2200) kJ4_append_15ec4 [.ref r_7, .ref (G.1 1706)] M_7 H_7 (yFR (fun (r_8 : Nat) (M_8 : eM) (H_8 : yH) => ((0 + 1 + 1 + 1 + 111 + 1 + 1) + 2 ≤ 194 ∧ (0 + 4 + 16 + 2200 + 130200 + 2200 + 2200) + 1104 ≤ 229200) ∧ yIs H_8 r_8 14 ∧ yCal G (6, 2, 1104) kJ4_toString_0e30d [.ref r_8] M_8 H_8 (yFR (fun (r_9 : Nat) (M_9 : eM) (H_9 : yH) => Yx (yX "text") (yZ G 194 229200 (yFR F)) G (eR (11, 194, 229200)) kX14_text 43 [(0, .ref a0), (1, .ref r_9)] [] M_9 H_9 (0 + 1 + 1 + 1 + 111 + 1 + 1 + 2) (0 + 4 + 16 + 2200 + 130200 + 2200 + 2200 + 1104)))))))))))))))))) :
    yCal G (11, 194, 229200) kX14_text [.ref a0] M H (yFR F) := by
  refine yCal.of (by decide +kernel) rfl (Nat.le_of_ble_eq_true rfl) ?_
  show Yx (yX "text") (yZ G 194 229200 (yFR F)) G (eR (11, 194, 229200)) kX14_text 0 [(0, .ref a0)] [] M H 0 0
  refine y_aload_n 0 dX14_text_0 rfl rfl ?_
  rcases h with ⟨⟨fs_1, e1_1, e2_1⟩, h⟩ | ⟨b_1, ⟨fs_1, e1_1, e2_1⟩, h⟩
  · refine y_get (k := 3) dX14_text_1 clX14 lFX14_38 (by decide) e1_1 e2_1 ?_
    refine y_ifnonnullN dX14_text_4 ?_
    refine y_ldcS (j := 1706) dX14_text_7 (List.mem_of_getElem? (i := 6) rfl) ?_
    refine y_goto (t := 42) dX14_text_9 (by decide) ?_
    refine y_astore_n (i := 1) (l' := [(1, .ref (G.1 1706)), (0, .ref a0)]) dX14_text_42 rfl (by decide) rfl ?_
    exact Yx.sub (ks := [1, 0]) rfl h
  · refine y_get (k := 3) dX14_text_1 clX14 lFX14_38 (by decide) e1_1 e2_1 ?_
    refine y_ifnonnullR (t := 12) dX14_text_4 (by decide) ?_
    have hb := h.1
    replace h := h.2
    refine y_new dX14_text_12 clJ4 (tb7 _ (List.mem_of_getElem? (i := 84) rfl)) (tb7 _ (List.mem_of_getElem? (i := 85) rfl)) (tb1 _ (List.mem_of_getElem? (i := 16) rfl)) xd_J4 hb (fun q_2 hq => ?_)
    replace h := h q_2 hq
    refine y_dup dX14_text_15 rfl ?_
    have hb := h.1
    replace h := h.2
    refine y_callI yXn (b' := (3, 1, 16)) (K' := kJ4_init_da8c8) (As := []) (a := q_2) (S := [.ref q_2]) dX14_text_16 miJ4_init_da8c8 lMX14_45 rfl ⟨(by decide), hb⟩ (Nat.le_of_ble_eq_true rfl) h (fun v_ M_3 H_3 q_ => ?_) rfl
    obtain ⟨rfl, h⟩ := q_
    refine y_ldcS (j := 1707) dX14_text_19 (List.mem_of_getElem? (i := 7) rfl) ?_
    have hb := h.1
    replace h := h.2
    obtain ⟨⟨fs_4, hi⟩, h⟩ := h
    refine y_callV yXn (b' := (6, 1, 2200)) (K' := kJ4_append_15ec4) (As := [.ref (G.1 1707)]) (S := []) dX14_text_21 mJ4_append_15ec4 lMX14_48 clJ4 rfl hi rfl ⟨(by decide), hb⟩ (Nat.le_of_ble_eq_true rfl) h (fun v_ M_4 H_4 q_ => ?_) rfl
    obtain ⟨r_4, rfl, h⟩ := q_
    refine y_aload_n 0 dX14_text_24 rfl rfl ?_
    obtain ⟨b_5, ⟨fs_5, e1_5, e2_5⟩, h⟩ := h
    refine y_get (k := 3) dX14_text_25 clX14 lFX14_38 (by decide) e1_5 e2_5 ?_
    have hb := h.1
    replace h := h.2
    obtain ⟨⟨fs_6, hi⟩, h⟩ := h
    refine y_callV yXn (b' := (10, 111, 130200)) (K' := kX13_text) (As := []) (S := [.ref r_4]) dX14_text_28 mX13_text lMX14_52 clX13 rfl hi rfl ⟨(by decide), hb⟩ (Nat.le_of_ble_eq_true rfl) h (fun v_ M_6 H_6 q_ => ?_) rfl
    obtain ⟨r_6, rfl, h⟩ := q_
    have hb := h.1
    replace h := h.2
    obtain ⟨⟨fs_7, hi⟩, h⟩ := h
    refine y_callV yXn (b' := (6, 1, 2200)) (K' := kJ4_append_15ec4) (As := [.ref r_6]) (S := []) dX14_text_31 mJ4_append_15ec4 lMX14_48 clJ4 rfl hi rfl ⟨(by decide), hb⟩ (Nat.le_of_ble_eq_true rfl) h (fun v_ M_7 H_7 q_ => ?_) rfl
    obtain ⟨r_7, rfl, h⟩ := q_
    refine y_ldcS (j := 1706) dX14_text_34 (List.mem_of_getElem? (i := 6) rfl) ?_
    have hb := h.1
    replace h := h.2
    obtain ⟨⟨fs_8, hi⟩, h⟩ := h
    refine y_callV yXn (b' := (6, 1, 2200)) (K' := kJ4_append_15ec4) (As := [.ref (G.1 1706)]) (S := []) dX14_text_36 mJ4_append_15ec4 lMX14_48 clJ4 rfl hi rfl ⟨(by decide), hb⟩ (Nat.le_of_ble_eq_true rfl) h (fun v_ M_8 H_8 q_ => ?_) rfl
    obtain ⟨r_8, rfl, h⟩ := q_
    have hb := h.1
    replace h := h.2
    obtain ⟨⟨fs_9, hi⟩, h⟩ := h
    refine y_callV yXn (b' := (6, 2, 1104)) (K' := kJ4_toString_0e30d) (As := []) (S := []) dX14_text_39 mJ4_toString_0e30d lMX14_56 clJ4 rfl hi rfl ⟨(by decide), hb⟩ (Nat.le_of_ble_eq_true rfl) h (fun v_ M_9 H_9 q_ => ?_) rfl
    obtain ⟨r_9, rfl, h⟩ := q_
    refine y_astore_n (i := 1) (l' := [(1, .ref r_9), (0, .ref a0)]) dX14_text_42 rfl (by decide) rfl ?_
    exact Yx.sub (ks := [1, 0]) rfl h
