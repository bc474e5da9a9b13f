set_option maxHeartbeats 4000000 in
set_option maxRecDepth 100000 in
theorem B_X13_text_1_536 (G : eG) (ca sl : Nat) (M : eM) (H : yH) (F : Nat → eM → yH → Prop) (a0 : Nat)
    (h : (ca + 1 ≤ 21 ∧ sl + 4 ≤ 23400) ∧ ∀ q_1 : Nat, H q_1 = none → (((ca + 1) + 1 ≤ 21 ∧ (sl + 4) + 16 ≤ 23400) ∧ yCal G (3, 1, 16) kJ4_init_da8c8 [.ref q_1] M (yU H q_1 (.inr (14, [.null, .int 0, .int 0, .int 0]))) (yFV (fun (M_2 : eM) (H_2 : yH) => ∃ (b_3 : Nat), yG H_2 a0 11 2 (.ref b_3) ∧ (((ca + 1 + 1) + 6 ≤ 21 ∧ (sl + 4 + 16) + 5600 ≤ 23400) ∧ yIs H_2 b_3 11 ∧ yCal G (7, 6, 5600) kX13_text [.ref b_3] M_2 H_2 (yFR (fun (r_4 : Nat) (M_4 : eM) (H_4 : yH) => ((ca + 1 + 1 + 6) + 1 ≤ 21 ∧ (sl + 4 + 16 + 5600) + 2200 ≤ 23400) ∧ yIs H_4 q_1 14 ∧ yCal G (6, 1, 2200) kJ4_append_15ec4 [.ref q_1, .ref r_4] M_4 H_4 (yFR (fun (r_5 : Nat) (M_5 : eM) (H_5 : yH) => ∃ (x_6 : Int32), yG H_5 a0 11 0 (.int x_6) ∧ (vp_in (x_6 - 11) 9 ∧ (((ca + 1 + 1 + 6 + 1) + 1 ≤ 21 ∧ (sl + 4 + 16 + 5600 + 2200) + 2200 ≤ 23400) ∧ yIs H_5 r_5 14 ∧ yCal G (6, 1, 2200) kJ4_append_15ec4 [.ref r_5, .ref (G.1 (1500 + (x_6 - 11).toNatClampNeg))] M_5 H_5 (yFR (fun (r_8 : Nat) (M_8 : eM) (H_8 : yH) => ∃ (b_9 : Nat), yG H_8 a0 11 3 (.ref b_9) ∧ (((ca + 1 + 1 + 6 + 1 + 1) + 6 ≤ 21 ∧ (sl + 4 + 16 + 5600 + 2200 + 2200) + 5600 ≤ 23400) ∧ yIs H_8 b_9 11 ∧ yCal G (7, 6, 5600) kX13_text [.ref b_9] M_8 H_8 (yFR (fun (r_10 : Nat) (M_10 : eM) (H_10 : yH) => ((ca + 1 + 1 + 6 + 1 + 1 + 6) + 1 ≤ 21 ∧ (sl + 4 + 16 + 5600 + 2200 + 2200 + 5600) + 2200 ≤ 23400) ∧ yIs H_10 r_8 14 ∧ yCal G (6, 1, 2200) kJ4_append_15ec4 [.ref r_8, .ref r_10] M_10 H_10 (yFR (fun (r_11 : Nat) (M_11 : eM) (H_11 : yH) => ((ca + 1 + 1 + 6 + 1 + 1 + 6 + 1) + 2 ≤ 21 ∧ (sl + 4 + 16 + 5600 + 2200 + 2200 + 5600 + 2200) + 1104 ≤ 23400) ∧ yIs H_11 r_11 14 ∧ yCal G (6, 2, 1104) kJ4_toString_0e30d [.ref r_11] M_11 H_11 (yFR (fun (r_12 : Nat) (M_12 : eM) (H_12 : yH) => (ca + 1 + 1 + 6 + 1 + 1 + 6 + 1 + 2 ≤ 21 ∧ sl + 4 + 16 + 5600 + 2200 + 2200 + 5600 + 2200 + 1104 ≤ 23400) ∧ F r_12 M_12 H_12)))))))))))))))))))) :
    Yx (yX "text") (yZ G 21 23400 (yFR F)) G (eR (8, 21, 23400)) kX13_text 536 [(0, .ref a0)] [] M H ca sl := by
  have hb := h.1
  replace h := h.2
  refine y_new dX13_text_536 clJ4 (tb7 _ (List.mem_of_getElem? (i := 111) rfl)) (tb7 _ (List.mem_of_getElem? (i := 85) rfl)) (tb1 _ (List.mem_of_getElem? (i := 16) rfl)) xd_J4 hb (fun q_1 hq => ?_)
  replace h := h q_1 hq
  refine y_dup dX13_text_539 rfl ?_
  have hb := h.1
  replace h := h.2
  refine y_callI yXn (b' := (3, 1, 16)) (K' := kJ4_init_da8c8) (As := []) (a := q_1) (S := [.ref q_1]) dX13_text_540 miJ4_init_da8c8 lMX13_42 rfl ⟨(by decide), hb⟩ (Nat.le_of_ble_eq_true rfl) h (fun v_ M_2 H_2 q_ => ?_) rfl
  obtain ⟨rfl, h⟩ := q_
  refine y_aload_n 0 dX13_text_543 rfl rfl ?_
  obtain ⟨b_3, ⟨fs_3, e1_3, e2_3⟩, h⟩ := h
  refine y_get (k := 2) dX13_text_544 clX13 lFX13_16 (by decide) e1_3 e2_3 ?_
  have hb := h.1
  replace h := h.2
  obtain ⟨⟨fs_4, hi⟩, h⟩ := h
  refine y_callV yXn (b' := (7, 6, 5600)) (K' := kX13_text) (As := []) (S := [.ref q_1]) dX13_text_547 mX13_text lMX13_60 clX13 rfl hi rfl ⟨(by decide), hb⟩ (Nat.le_of_ble_eq_true rfl) h (fun v_ M_4 H_4 q_ => ?_) rfl
  obtain ⟨r_4, rfl, h⟩ := q_
  have hb := h.1
  replace h := h.2
  obtain ⟨⟨fs_5, hi⟩, h⟩ := h
  refine y_callV yXn (b' := (6, 1, 2200)) (K' := kJ4_append_15ec4) (As := [.ref r_4]) (S := []) dX13_text_550 mJ4_append_15ec4 lMX13_45 clJ4 rfl hi rfl ⟨(by decide), hb⟩ (Nat.le_of_ble_eq_true rfl) h (fun v_ M_5 H_5 q_ => ?_) rfl
  obtain ⟨r_5, rfl, h⟩ := q_
  refine y_getsN (w := .ref (G.1 1304)) dX13_text_553 lFX13_95 (fun h => h.2.2.2.2.2.2.2.2.1.1) ?_
  refine y_aload_n 0 dX13_text_556 rfl rfl ?_
  obtain ⟨x_6, ⟨fs_6, e1_6, e2_6⟩, h⟩ := h
  refine y_get (k := 0) dX13_text_557 clX13 lFX13_7 (by decide) e1_6 e2_6 ?_
  refine y_bipush (v := 11) dX13_text_560 rfl ?_
  refine y_isub dX13_text_562 ?_
  have h1 := h.1
  replace h := h.2
  refine y_tqS (tc := 1304) (f := fun j => .ref (G.1 (1500 + j))) dX13_text_563 (fun h => h.2.2.2.2.2.2.2.2.1) h1 rfl ?_
  have hb := h.1
  replace h := h.2
  obtain ⟨⟨fs_8, hi⟩, h⟩ := h
  refine y_callV yXn (b' := (6, 1, 2200)) (K' := kJ4_append_15ec4) (As := [.ref (G.1 (1500 + (x_6 - 11).toNatClampNeg))]) (S := []) dX13_text_564 mJ4_append_15ec4 lMX13_45 clJ4 rfl hi rfl ⟨(by decide), hb⟩ (Nat.le_of_ble_eq_true rfl) h (fun v_ M_8 H_8 q_ => ?_) rfl
  obtain ⟨r_8, rfl, h⟩ := q_
  refine y_aload_n 0 dX13_text_567 rfl rfl ?_
  obtain ⟨b_9, ⟨fs_9, e1_9, e2_9⟩, h⟩ := h
  refine y_get (k := 3) dX13_text_568 clX13 lFX13_20 (by decide) e1_9 e2_9 ?_
  have hb := h.1
  replace h := h.2
  obtain ⟨⟨fs_10, hi⟩, h⟩ := h
  refine y_callV yXn (b' := (7, 6, 5600)) (K' := kX13_text) (As := []) (S := [.ref r_8]) dX13_text_571 mX13_text lMX13_60 clX13 rfl hi rfl ⟨(by decide), hb⟩ (Nat.le_of_ble_eq_true rfl) h (fun v_ M_10 H_10 q_ => ?_) rfl
  obtain ⟨r_10, rfl, h⟩ := q_
  have hb := h.1
  replace h := h.2
  obtain ⟨⟨fs_11, hi⟩, h⟩ := h
  refine y_callV yXn (b' := (6, 1, 2200)) (K' := kJ4_append_15ec4) (As := [.ref r_10]) (S := []) dX13_text_574 mJ4_append_15ec4 lMX13_45 clJ4 rfl hi rfl ⟨(by decide), hb⟩ (Nat.le_of_ble_eq_true rfl) h (fun v_ M_11 H_11 q_ => ?_) rfl
  obtain ⟨r_11, rfl, h⟩ := q_
  have hb := h.1
  replace h := h.2
  obtain ⟨⟨fs_12, hi⟩, h⟩ := h
  refine y_callV yXn (b' := (6, 2, 1104)) (K' := kJ4_toString_0e30d) (As := []) (S := []) dX13_text_577 mJ4_toString_0e30d lMX13_52 clJ4 rfl hi rfl ⟨(by decide), hb⟩ (Nat.le_of_ble_eq_true rfl) h (fun v_ M_12 H_12 q_ => ?_) rfl
  obtain ⟨r_12, rfl, h⟩ := q_
  have hb := h.1
  replace h := h.2
  exact y_aret dX13_text_580 rfl (Or.inl ⟨_, rfl⟩) hb.1 hb.2 ⟨_, rfl, h⟩
set_option maxHeartbeats 4000000 in
set_option maxRecDepth 100000 in
theorem B_X13_text_1_479 (G : eG) (ca sl : Nat) (M : eM) (H : yH) (F : Nat → eM → yH → Prop) (a0 : Nat)
    (h : (ca + 1 ≤ 21 ∧ sl + 4 ≤ 23400) ∧ ∀ q_1 : Nat, H q_1 = none → (((ca + 1) + 1 ≤ 21 ∧ (sl + 4) + 16 ≤ 23400) ∧ yCal G (3, 1, 16) kJ4_init_da8c8 [.ref q_1] M (yU H q_1 (.inr (14, [.null, .int 0, .int 0, .int 0]))) (yFV (fun (M_2 : eM) (H_2 : yH) => ((ca + 1 + 1) + 1 ≤ 21 ∧ (sl + 4 + 16) + 2200 ≤ 23400) ∧ yIs H_2 q_1 14 ∧ yCal G (6, 1, 2200) kJ4_append_15ec4 [.ref q_1, .ref (G.1 1723)] M_2 H_2 (yFR (fun (r_3 : Nat) (M_3 : eM) (H_3 : yH) => ∃ (b_4 : Nat), yG H_3 a0 11 2 (.ref b_4) ∧ (((ca + 1 + 1 + 1) + 6 ≤ 21 ∧ (sl + 4 + 16 + 2200) + 5600 ≤ 23400) ∧ yIs H_3 b_4 11 ∧ yCal G (7, 6, 5600) kX13_text [.ref b_4] M_3 H_3 (yFR (fun (r_5 : Nat) (M_5 : eM) (H_5 : yH) => ((ca + 1 + 1 + 1 + 6) + 1 ≤ 21 ∧ (sl + 4 + 16 + 2200 + 5600) + 2200 ≤ 23400) ∧ yIs H_5 r_3 14 ∧ yCal G (6, 1, 2200) kJ4_append_15ec4 [.ref r_3, .ref r_5] M_5 H_5 (yFR (fun (r_6 : Nat) (M_6 : eM) (H_6 : yH) => ∃ (x_7 : Int32), yG H_6 a0 11 0 (.int x_7) ∧ (vp_in (x_7 - 11) 9 ∧ (((ca + 1 + 1 + 1 + 6 + 1) + 1 ≤ 21 ∧ (sl + 4 + 16 + 2200 + 5600 + 2200) + 2200 ≤ 23400) ∧ yIs H_6 r_6 14 ∧ yCal G (6, 1, 2200) kJ4_append_15ec4 [.ref r_6, .ref (G.1 (1500 + (x_7 - 11).toNatClampNeg))] M_6 H_6 (yFR (fun (r_9 : Nat) (M_9 : eM) (H_9 : yH) => ∃ (b_10 : Nat), yG H_9 a0 11 3 (.ref b_10) ∧ (((ca + 1 + 1 + 1 + 6 + 1 + 1) + 6 ≤ 21 ∧ (sl + 4 + 16 + 2200 + 5600 + 2200 + 2200) + 5600 ≤ 23400) ∧ yIs H_9 b_10 11 ∧ yCal G (7, 6, 5600) kX13_text [.ref b_10] M_9 H_9 (yFR (fun (r_11 : Nat) (M_11 : eM) (H_11 : yH) => ((ca + 1 + 1 + 1 + 6 + 1 + 1 + 6) + 1 ≤ 21 ∧ (sl + 4 + 16 + 2200 + 5600 + 2200 + 2200 + 5600) + 2200 ≤ 23400) ∧ yIs H_11 r_9 14 ∧ yCal G (6, 1, 2200) kJ4_append_15ec4 [.ref r_9, .ref r_11] M_11 H_11 (yFR (fun (r_12 : Nat) (M_12 : eM) (H_12 : yH) => ((ca + 1 + 1 + 1 + 6 + 1 + 1 + 6 + 1) + 1 ≤ 21 ∧ (sl + 4 + 16 + 2200 + 5600 + 2200 + 2200 + 5600 + 2200) + 2200 ≤ 23400) ∧ yIs H_12 r_12 14 ∧ yCal G (6, 1, 2200) kJ4_append_15ec4 [.ref r_12, .ref (G.1 1713)] M_12 H_12 (yFR (fun (r_13 : Nat) (M_13 : eM) (H_13 : yH) => ((ca + 1 + 1 + 1 + 6 + 1 + 1 + 6 + 1 + 1) + 2 ≤ 21 ∧ (sl + 4 + 16 + 2200 + 5600 + 2200 + 2200 + 5600 + 2200 + 2200) + 1104 ≤ 23400) ∧ yIs H_13 r_13 14 ∧ yCal G (6, 2, 1104) kJ4_toString_0e30d [.ref r_13] M_13 H_13 (yFR (fun (r_14 : Nat) (M_14 : eM) (H_14 : yH) => (ca + 1 + 1 + 1 + 6 + 1 + 1 + 6 + 1 + 1 + 2 ≤ 21 ∧ sl + 4 + 16 + 2200 + 5600 + 2200 + 2200 + 5600 + 2200 + 2200 + 1104 ≤ 23400) ∧ F r_14 M_14 H_14)))))))))))))))))))))))) :
    Yx (yX "text") (yZ G 21 23400 (yFR F)) G (eR (8, 21, 23400)) kX13_text 479 [(0, .ref a0)] [] M H ca sl := by
  have hb := h.1
  replace h := h.2
  refine y_new dX13_text_479 clJ4 (tb7 _ (List.mem_of_getElem? (i := 111) rfl)) (tb7 _ (List.mem_of_getElem? (i := 85) rfl)) (tb1 _ (List.mem_of_getElem? (i := 16) rfl)) xd_J4 hb (fun q_1 hq => ?_)
  replace h := h q_1 hq
  refine y_dup dX13_text_482 rfl ?_
  have hb := h.1
  replace h := h.2
  refine y_callI yXn (b' := (3, 1, 16)) (K' := kJ4_init_da8c8) (As := []) (a := q_1) (S := [.ref q_1]) dX13_text_483 miJ4_init_da8c8 lMX13_42 rfl ⟨(by decide), hb⟩ (Nat.le_of_ble_eq_true rfl) h (fun v_ M_2 H_2 q_ => ?_) rfl
  obtain ⟨rfl, h⟩ := q_
  refine y_ldcS (j := 1723) dX13_text_486 (List.mem_of_getElem? (i := 23) rfl) ?_
  have hb := h.1
  replace h := h.2
  obtain ⟨⟨fs_3, hi⟩, h⟩ := h
  refine y_callV yXn (b' := (6, 1, 2200)) (K' := kJ4_append_15ec4) (As := [.ref (G.1 1723)]) (S := []) dX13_text_488 mJ4_append_15ec4 lMX13_45 clJ4 rfl hi rfl ⟨(by decide), hb⟩ (Nat.le_of_ble_eq_true rfl) h (fun v_ M_3 H_3 q_ => ?_) rfl
  obtain ⟨r_3, rfl, h⟩ := q_
  refine y_aload_n 0 dX13_text_491 rfl rfl ?_
  obtain ⟨b_4, ⟨fs_4, e1_4, e2_4⟩, h⟩ := h
  refine y_get (k := 2) dX13_text_492 clX13 lFX13_16 (by decide) e1_4 e2_4 ?_
  have hb := h.1
  replace h := h.2
  obtain ⟨⟨fs_5, hi⟩, h⟩ := h
  refine y_callV yXn (b' := (7, 6, 5600)) (K' := kX13_text) (As := []) (S := [.ref r_3]) dX13_text_495 mX13_text lMX13_60 clX13 rfl hi rfl ⟨(by decide), hb⟩ (Nat.le_of_ble_eq_true rfl) h (fun v_ M_5 H_5 q_ => ?_) rfl
  obtain ⟨r_5, rfl, h⟩ := q_
  have hb := h.1
  replace h := h.2
  obtain ⟨⟨fs_6, hi⟩, h⟩ := h
  refine y_callV yXn (b' := (6, 1, 2200)) (K' := kJ4_append_15ec4) (As := [.ref r_5]) (S := []) dX13_text_498 mJ4_append_15ec4 lMX13_45 clJ4 rfl hi rfl ⟨(by decide), hb⟩ (Nat.le_of_ble_eq_true rfl) h (fun v_ M_6 H_6 q_ => ?_) rfl
  obtain ⟨r_6, rfl, h⟩ := q_
  refine y_getsN (w := .ref (G.1 1304)) dX13_text_501 lFX13_95 (fun h => h.2.2.2.2.2.2.2.2.1.1) ?_
  refine y_aload_n 0 dX13_text_504 rfl rfl ?_
  obtain ⟨x_7, ⟨fs_7, e1_7, e2_7⟩, h⟩ := h
  refine y_get (k := 0) dX13_text_505 clX13 lFX13_7 (by decide) e1_7 e2_7 ?_
  refine y_bipush (v := 11) dX13_text_508 rfl ?_
  refine y_isub dX13_text_510 ?_
  have h1 := h.1
  replace h := h.2
  refine y_tqS (tc := 1304) (f := fun j => .ref (G.1 (1500 + j))) dX13_text_511 (fun h => h.2.2.2.2.2.2.2.2.1) h1 rfl ?_
  have hb := h.1
  replace h := h.2
  obtain ⟨⟨fs_9, hi⟩, h⟩ := h
  refine y_callV yXn (b' := (6, 1, 2200)) (K' := kJ4_append_15ec4) (As := [.ref (G.1 (1500 + (x_7 - 11).toNatClampNeg))]) (S := []) dX13_text_512 mJ4_append_15ec4 lMX13_45 clJ4 rfl hi rfl ⟨(by decide), hb⟩ (Nat.le_of_ble_eq_true rfl) h (fun v_ M_9 H_9 q_ => ?_) rfl
  obtain ⟨r_9, rfl, h⟩ := q_
  refine y_aload_n 0 dX13_text_515 rfl rfl ?_
  obtain ⟨b_10, ⟨fs_10, e1_10, e2_10⟩, h⟩ := h
  refine y_get (k := 3) dX13_text_516 clX13 lFX13_20 (by decide) e1_10 e2_10 ?_
  have hb := h.1
  replace h := h.2
  obtain ⟨⟨fs_11, hi⟩, h⟩ := h
  refine y_callV yXn (b' := (7, 6, 5600)) (K' := kX13_text) (As := []) (S := [.ref r_9]) dX13_text_519 mX13_text lMX13_60 clX13 rfl hi rfl ⟨(by decide), hb⟩ (Nat.le_of_ble_eq_true rfl) h (fun v_ M_11 H_11 q_ => ?_) rfl
  obtain ⟨r_11, rfl, h⟩ := q_
  have hb := h.1
  replace h := h.2
  obtain ⟨⟨fs_12, hi⟩, h⟩ := h
  refine y_callV yXn (b' := (6, 1, 2200)) (K' := kJ4_append_15ec4) (As := [.ref r_11]) (S := []) dX13_text_522 mJ4_append_15ec4 lMX13_45 clJ4 rfl hi rfl ⟨(by decide), hb⟩ (Nat.le_of_ble_eq_true rfl) h (fun v_ M_12 H_12 q_ => ?_) rfl
  obtain ⟨r_12, rfl, h⟩ := q_
  refine y_ldcS (j := 1713) dX13_text_525 (List.mem_of_getElem? (i := 13) rfl) ?_
  have hb := h.1
  replace h := h.2
  obtain ⟨⟨fs_13, hi⟩, h⟩ := h
  refine y_callV yXn (b' := (6, 1, 2200)) (K' := kJ4_append_15ec4) (As := [.ref (G.1 1713)]) (S := []) dX13_text_527 mJ4_append_15ec4 lMX13_45 clJ4 rfl hi rfl ⟨(by decide), hb⟩ (Nat.le_of_ble_eq_true rfl) h (fun v_ M_13 H_13 q_ => ?_) rfl
  obtain ⟨r_13, rfl, h⟩ := q_
  have hb := h.1
  replace h := h.2
  obtain ⟨⟨fs_14, hi⟩, h⟩ := h
  refine y_callV yXn (b' := (6, 2, 1104)) (K' := kJ4_toString_0e30d) (As := []) (S := []) dX13_text_530 mJ4_toString_0e30d lMX13_52 clJ4 rfl hi rfl ⟨(by decide), hb⟩ (Nat.le_of_ble_eq_true rfl) h (fun v_ M_14 H_14 q_ => ?_) rfl
  obtain ⟨r_14, rfl, h⟩ := q_
  refine y_goto (t := 580) dX13_text_533 (by decide) ?_
  have hb := h.1
  replace h := h.2
  exact y_aret dX13_text_580 rfl (Or.inl ⟨_, rfl⟩) hb.1 hb.2 ⟨_, rfl, h⟩
set_option maxHeartbeats 4000000 in
set_option maxRecDepth 100000 in
theorem B_X13_text_1_448 (G : eG) (ca sl : Nat) (M : eM) (H : yH) (F : Nat → eM → yH → Prop) (a0 : Nat)
    (h : ∃ (x_1 : Int32), yG H a0 11 0 (.int x_1) ∧ ((((7 : Int32) ≤ x_1) → ∃ (x_2 : Int32), yG H a0 11 0 (.int x_2) ∧ ((((15 : Int32) ≤ x_2) → Yx (yX "text") (yZ G 21 23400 (yFR F)) G (eR (8, 21, 23400)) kX13_text 536 [(0, .ref a0)] [] M H ca sl) ∧ ((¬ (15 : Int32) ≤ x_2) → Yx (yX "text") (yZ G 21 23400 (yFR F)) G (eR (8, 21, 23400)) kX13_text 479 [(0, .ref a0)] [] M H ca sl))) ∧ ((¬ (7 : Int32) ≤ x_1) → ∃ (x_2 : Int32), yG H a0 11 0 (.int x_2) ∧ (vp_in (x_2 - 1) 7 ∧ ((ca ≤ 21 ∧ sl ≤ 23400) ∧ F (G.1 (1400 + (x_2 - 1).toNatClampNeg)) M H))))) :
    Yx (yX "text") (yZ G 21 23400 (yFR F)) G (eR (8, 21, 23400)) kX13_text 448 [(0, .ref a0)] [] M H ca sl := by
  refine y_aload_n 0 dX13_text_448 rfl rfl ?_
  obtain ⟨x_1, ⟨fs_1, e1_1, e2_1⟩, h⟩ := h
  refine y_get (k := 0) dX13_text_449 clX13 lFX13_7 (by decide) e1_1 e2_1 ?_
  refine y_bipush (v := 7) dX13_text_452 rfl ?_
  refine y_icmp_ge (t := 470) dX13_text_454 (by decide) (fun q => ?_) (fun q => ?_)
  · replace h := h.1 q
    refine y_aload_n 0 dX13_text_470 rfl rfl ?_
    obtain ⟨x_2, ⟨fs_2, e1_2, e2_2⟩, h⟩ := h
    refine y_get (k := 0) dX13_text_471 clX13 lFX13_7 (by decide) e1_2 e2_2 ?_
    refine y_bipush (v := 15) dX13_text_474 rfl ?_
    refine y_icmp_ge (t := 536) dX13_text_476 (by decide) (fun q => ?_) (fun q => ?_)
    · replace h := h.1 q
      exact h
    · replace h := h.2 q
      exact h
  · replace h := h.2 q
    refine y_getsN (w := .ref (G.1 1305)) dX13_text_457 lFX13_87 (fun h => h.2.2.2.2.2.2.2.2.2.1.1) ?_
    refine y_aload_n 0 dX13_text_460 rfl rfl ?_
    obtain ⟨x_2, ⟨fs_2, e1_2, e2_2⟩, h⟩ := h
    refine y_get (k := 0) dX13_text_461 clX13 lFX13_7 (by decide) e1_2 e2_2 ?_
    refine y_iconst (v := 1) dX13_text_464 rfl ?_
    refine y_isub dX13_text_465 ?_
    have h1 := h.1
    replace h := h.2
    refine y_tqS (tc := 1305) (f := fun j => .ref (G.1 (1400 + j))) dX13_text_466 (fun h => h.2.2.2.2.2.2.2.2.2.1) h1 rfl ?_
    refine y_goto (t := 580) dX13_text_467 (by decide) ?_
    have hb := h.1
    replace h := h.2
    exact y_aret dX13_text_580 rfl (Or.inl ⟨_, rfl⟩) hb.1 hb.2 ⟨_, rfl, h⟩
set_option maxHeartbeats 4000000 in
set_option maxRecDepth 100000 in
theorem B_X13_text_1_402 (G : eG) (ca sl : Nat) (M : eM) (H : yH) (F : Nat → eM → yH → Prop) (a0 : Nat)
    (h : (ca + 1 ≤ 21 ∧ sl + 4 ≤ 23400) ∧ ∀ q_1 : Nat, H q_1 = none → (((ca + 1) + 1 ≤ 21 ∧ (sl + 4) + 16 ≤ 23400) ∧ yCal G (3, 1, 16) kJ4_init_da8c8 [.ref q_1] M (yU H q_1 (.inr (14, [.null, .int 0, .int 0, .int 0]))) (yFV (fun (M_2 : eM) (H_2 : yH) => ((ca + 1 + 1) + 1 ≤ 21 ∧ (sl + 4 + 16) + 2200 ≤ 23400) ∧ yIs H_2 q_1 14 ∧ yCal G (6, 1, 2200) kJ4_append_15ec4 [.ref q_1, .ref (G.1 1719)] M_2 H_2 (yFR (fun (r_3 : Nat) (M_3 : eM) (H_3 : yH) => ∃ (b_4 : Nat), yG H_3 a0 11 2 (.ref b_4) ∧ (((ca + 1 + 1 + 1) + 6 ≤ 21 ∧ (sl + 4 + 16 + 2200) + 5600 ≤ 23400) ∧ yIs H_3 b_4 11 ∧ yCal G (7, 6, 5600) kX13_text [.ref b_4] M_3 H_3 (yFR (fun (r_5 : Nat) (M_5 : eM) (H_5 : yH) => ((ca + 1 + 1 + 1 + 6) + 1 ≤ 21 ∧ (sl + 4 + 16 + 2200 + 5600) + 2200 ≤ 23400) ∧ yIs H_5 r_3 14 ∧ yCal G (6, 1, 2200) kJ4_append_15ec4 [.ref r_3, .ref r_5] M_5 H_5 (yFR (fun (r_6 : Nat) (M_6 : eM) (H_6 : yH) => ((ca + 1 + 1 + 1 + 6 + 1) + 1 ≤ 21 ∧ (sl + 4 + 16 + 2200 + 5600 + 2200) + 2200 ≤ 23400) ∧ yIs H_6 r_6 14 ∧ yCal G (6, 1, 2200) kJ4_append_15ec4 [.ref r_6, .ref (G.1 1722)] M_6 H_6 (yFR (fun (r_7 : Nat) (M_7 : eM) (H_7 : yH) => ∃ (b_8 : Nat), yG H_7 a0 11 3 (.ref b_8) ∧ (((ca + 1 + 1 + 1 + 6 + 1 + 1) + 6 ≤ 21 ∧ (sl + 4 + 16 + 2200 + 5600 + 2200 + 2200) + 5600 ≤ 23400) ∧ yIs H_7 b_8 11 ∧ yCal G (7, 6, 5600) kX13_text [.ref b_8] M_7 H_7 (yFR (fun (r_9 : Nat) (M_9 : eM) (H_9 : yH) => ((ca + 1 + 1 + 1 + 6 + 1 + 1 + 6) + 1 ≤ 21 ∧ (sl + 4 + 16 + 2200 + 5600 + 2200 + 2200 + 5600) + 2200 ≤ 23400) ∧ yIs H_9 r_7 14 ∧ yCal G (6, 1, 2200) kJ4_append_15ec4 [.ref r_7, .ref r_9] M_9 H_9 (yFR (fun (r_10 : Nat) (M_10 : eM) (H_10 : yH) => ((ca + 1 + 1 + 1 + 6 + 1 + 1 + 6 + 1) + 1 ≤ 21 ∧ (sl + 4 + 16 + 2200 + 5600 + 2200 + 2200 + 5600 + 2200) + 2200 ≤ 23400) ∧ yIs H_10 r_10 14 ∧ yCal G (6, 1, 2200) kJ4_append_15ec4 [.ref r_10, .ref (G.1 1721)] M_10 H_10 (yFR (fun (r_11 : Nat) (M_11 : eM) (H_11 : yH) => ((ca + 1 + 1 + 1 + 6 + 1 + 1 + 6 + 1 + 1) + 2 ≤ 21 ∧ (sl + 4 + 16 + 2200 + 5600 + 2200 + 2200 + 5600 + 2200 + 2200) + 1104 ≤ 23400) ∧ yIs H_11 r_11 14 ∧ yCal G (6, 2, 1104) kJ4_toString_0e30d [.ref r_11] M_11 H_11 (yFR (fun (r_12 : Nat) (M_12 : eM) (H_12 : yH) => (ca + 1 + 1 + 1 + 6 + 1 + 1 + 6 + 1 + 1 + 2 ≤ 21 ∧ sl + 4 + 16 + 2200 + 5600 + 2200 + 2200 + 5600 + 2200 + 2200 + 1104 ≤ 23400) ∧ F r_12 M_12 H_12)))))))))))))))))))))) :
    Yx (yX "text") (yZ G 21 23400 (yFR F)) G (eR (8, 21, 23400)) kX13_text 402 [(0, .ref a0)] [] M H ca sl := by
  have hb := h.1
  replace h := h.2
  refine y_new dX13_text_402 clJ4 (tb7 _ (List.mem_of_getElem? (i := 111) rfl)) (tb7 _ (List.mem_of_getElem? (i := 85) rfl)) (tb1 _ (List.mem_of_getElem? (i := 16) rfl)) xd_J4 hb (fun q_1 hq => ?_)
  replace h := h q_1 hq
  refine y_dup dX13_text_405 rfl ?_
  have hb := h.1
  replace h := h.2
  refine y_callI yXn (b' := (3, 1, 16)) (K' := kJ4_init_da8c8) (As := []) (a := q_1) (S := [.ref q_1]) dX13_text_406 miJ4_init_da8c8 lMX13_42 rfl ⟨(by decide), hb⟩ (Nat.le_of_ble_eq_true rfl) h (fun v_ M_2 H_2 q_ => ?_) rfl
  obtain ⟨rfl, h⟩ := q_
  refine y_ldcS (j := 1719) dX13_text_409 (List.mem_of_getElem? (i := 19) rfl) ?_
  have hb := h.1
  replace h := h.2
  obtain ⟨⟨fs_3, hi⟩, h⟩ := h
  refine y_callV yXn (b' := (6, 1, 2200)) (K' := kJ4_append_15ec4) (As := [.ref (G.1 1719)]) (S := []) dX13_text_411 mJ4_append_15ec4 lMX13_45 clJ4 rfl hi rfl ⟨(by decide), hb⟩ (Nat.le_of_ble_eq_true rfl) h (fun v_ M_3 H_3 q_ => ?_) rfl
  obtain ⟨r_3, rfl, h⟩ := q_
  refine y_aload_n 0 dX13_text_414 rfl rfl ?_
  obtain ⟨b_4, ⟨fs_4, e1_4, e2_4⟩, h⟩ := h
  refine y_get (k := 2) dX13_text_415 clX13 lFX13_16 (by decide) e1_4 e2_4 ?_
  have hb := h.1
  replace h := h.2
  obtain ⟨⟨fs_5, hi⟩, h⟩ := h
  refine y_callV yXn (b' := (7, 6, 5600)) (K' := kX13_text) (As := []) (S := [.ref r_3]) dX13_text_418 mX13_text lMX13_60 clX13 rfl hi rfl ⟨(by decide), hb⟩ (Nat.le_of_ble_eq_true rfl) h (fun v_ M_5 H_5 q_ => ?_) rfl
  obtain ⟨r_5, rfl, h⟩ := q_
  have hb := h.1
  replace h := h.2
  obtain ⟨⟨fs_6, hi⟩, h⟩ := h
  refine y_callV yXn (b' := (6, 1, 2200)) (K' := kJ4_append_15ec4) (As := [.ref r_5]) (S := []) dX13_text_421 mJ4_append_15ec4 lMX13_45 clJ4 rfl hi rfl ⟨(by decide), hb⟩ (Nat.le_of_ble_eq_true rfl) h (fun v_ M_6 H_6 q_ => ?_) rfl
  obtain ⟨r_6, rfl, h⟩ := q_
  refine y_ldcS (j := 1722) dX13_text_424 (List.mem_of_getElem? (i := 22) rfl) ?_
  have hb := h.1
  replace h := h.2
  obtain ⟨⟨fs_7, hi⟩, h⟩ := h
  refine y_callV yXn (b' := (6, 1, 2200)) (K' := kJ4_append_15ec4) (As := [.ref (G.1 1722)]) (S := []) dX13_text_426 mJ4_append_15ec4 lMX13_45 clJ4 rfl hi rfl ⟨(by decide), hb⟩ (Nat.le_of_ble_eq_true rfl) h (fun v_ M_7 H_7 q_ => ?_) rfl
  obtain ⟨r_7, rfl, h⟩ := q_
  refine y_aload_n 0 dX13_text_429 rfl rfl ?_
  obtain ⟨b_8, ⟨fs_8, e1_8, e2_8⟩, h⟩ := h
  refine y_get (k := 3) dX13_text_430 clX13 lFX13_20 (by decide) e1_8 e2_8 ?_
  have hb := h.1
  replace h := h.2
  obtain ⟨⟨fs_9, hi⟩, h⟩ := h
  refine y_callV yXn (b' := (7, 6, 5600)) (K' := kX13_text) (As := []) (S := [.ref r_7]) dX13_text_433 mX13_text lMX13_60 clX13 rfl hi rfl ⟨(by decide), hb⟩ (Nat.le_of_ble_eq_true rfl) h (fun v_ M_9 H_9 q_ => ?_) rfl
  obtain ⟨r_9, rfl, h⟩ := q_
  have hb := h.1
  replace h := h.2
  obtain ⟨⟨fs_10, hi⟩, h⟩ := h
  refine y_callV yXn (b' := (6, 1, 2200)) (K' := kJ4_append_15ec4) (As := [.ref r_9]) (S := []) dX13_text_436 mJ4_append_15ec4 lMX13_45 clJ4 rfl hi rfl ⟨(by decide), hb⟩ (Nat.le_of_ble_eq_true rfl) h (fun v_ M_10 H_10 q_ => ?_) rfl
  obtain ⟨r_10, rfl, h⟩ := q_
  refine y_ldcS (j := 1721) dX13_text_439 (List.mem_of_getElem? (i := 21) rfl) ?_
  have hb := h.1
  replace h := h.2
  obtain ⟨⟨fs_11, hi⟩, h⟩ := h
  refine y_callV yXn (b' := (6, 1, 2200)) (K' := kJ4_append_15ec4) (As := [.ref (G.1 1721)]) (S := []) dX13_text_441 mJ4_append_15ec4 lMX13_45 clJ4 rfl hi rfl ⟨(by decide), hb⟩ (Nat.le_of_ble_eq_true rfl) h (fun v_ M_11 H_11 q_ => ?_) rfl
  obtain ⟨r_11, rfl, h⟩ := q_
  have hb := h.1
  replace h := h.2
  obtain ⟨⟨fs_12, hi⟩, h⟩ := h
  refine y_callV yXn (b' := (6, 2, 1104)) (K' := kJ4_toString_0e30d) (As := []) (S := []) dX13_text_444 mJ4_toString_0e30d lMX13_52 clJ4 rfl hi rfl ⟨(by decide), hb⟩ (Nat.le_of_ble_eq_true rfl) h (fun v_ M_12 H_12 q_ => ?_) rfl
  obtain ⟨r_12, rfl, h⟩ := q_
  have hb := h.1
  replace h := h.2
  exact y_aret dX13_text_447 rfl (Or.inl ⟨_, rfl⟩) hb.1 hb.2 ⟨_, rfl, h⟩
set_option maxHeartbeats 4000000 in
set_option maxRecDepth 100000 in
theorem B_X13_text_1_356 (G : eG) (ca sl : Nat) (M : eM) (H : yH) (F : Nat → eM → yH → Prop) (a0 : Nat)
    (h : (ca + 1 ≤ 21 ∧ sl + 4 ≤ 23400) ∧ ∀ q_1 : Nat, H q_1 = none → (((ca + 1) + 1 ≤ 21 ∧ (sl + 4) + 16 ≤ 23400) ∧ yCal G (3, 1, 16) kJ4_init_da8c8 [.ref q_1] M (yU H q_1 (.inr (14, [.null, .int 0, .int 0, .int 0]))) (yFV (fun (M_2 : eM) (H_2 : yH) => ((ca + 1 + 1) + 1 ≤ 21 ∧ (sl + 4 + 16) + 2200 ≤ 23400) ∧ yIs H_2 q_1 14 ∧ yCal G (6, 1, 2200) kJ4_append_15ec4 [.ref q_1, .ref (G.1 1719)] M_2 H_2 (yFR (fun (r_3 : Nat) (M_3 : eM) (H_3 : yH) => ∃ (b_4 : Nat), yG H_3 a0 11 2 (.ref b_4) ∧ (((ca + 1 + 1 + 1) + 6 ≤ 21 ∧ (sl + 4 + 16 + 2200) + 5600 ≤ 23400) ∧ yIs H_3 b_4 11 ∧ yCal G (7, 6, 5600) kX13_text [.ref b_4] M_3 H_3 (yFR (fun (r_5 : Nat) (M_5 : eM) (H_5 : yH) => ((ca + 1 + 1 + 1 + 6) + 1 ≤ 21 ∧ (sl + 4 + 16 + 2200 + 5600) + 2200 ≤ 23400) ∧ yIs H_5 r_3 14 ∧ yCal G (6, 1, 2200) kJ4_append_15ec4 [.ref r_3, .ref r_5] M_5 H_5 (yFR (fun (r_6 : Nat) (M_6 : eM) (H_6 : yH) => ((ca + 1 + 1 + 1 + 6 + 1) + 1 ≤ 21 ∧ (sl + 4 + 16 + 2200 + 5600 + 2200) + 2200 ≤ 23400) ∧ yIs H_6 r_6 14 ∧ yCal G (6, 1, 2200) kJ4_append_15ec4 [.ref r_6, .ref (G.1 1720)] M_6 H_6 (yFR (fun (r_7 : Nat) (M_7 : eM) (H_7 : yH) => ∃ (b_8 : Nat), yG H_7 a0 11 3 (.ref b_8) ∧ (((ca + 1 + 1 + 1 + 6 + 1 + 1) + 6 ≤ 21 ∧ (sl + 4 + 16 + 2200 + 5600 + 2200 + 2200) + 5600 ≤ 23400) ∧ yIs H_7 b_8 11 ∧ yCal G (7, 6, 5600) kX13_text [.ref b_8] M_7 H_7 (yFR (fun (r_9 : Nat) (M_9 : eM) (H_9 : yH) => ((ca + 1 + 1 + 1 + 6 + 1 + 1 + 6) + 1 ≤ 21 ∧ (sl + 4 + 16 + 2200 + 5600 + 2200 + 2200 + 5600) + 2200 ≤ 23400) ∧ yIs H_9 r_7 14 ∧ yCal G (6, 1, 2200) kJ4_append_15ec4 [.ref r_7, .ref r_9] M_9 H_9 (yFR (fun (r_10 : Nat) (M_10 : eM) (H_10 : yH) => ((ca + 1 + 1 + 1 + 6 + 1 + 1 + 6 + 1) + 1 ≤ 21 ∧ (sl + 4 + 16 + 2200 + 5600 + 2200 + 2200 + 5600 + 2200) + 2200 ≤ 23400) ∧ yIs H_10 r_10 14 ∧ yCal G (6, 1, 2200) kJ4_append_15ec4 [.ref r_10, .ref (G.1 1721)] M_10 H_10 (yFR (fun (r_11 : Nat) (M_11 : eM) (H_11 : yH) => ((ca + 1 + 1 + 1 + 6 + 1 + 1 + 6 + 1 + 1) + 2 ≤ 21 ∧ (sl + 4 + 16 + 2200 + 5600 + 2200 + 2200 + 5600 + 2200 + 2200) + 1104 ≤ 23400) ∧ yIs H_11 r_11 14 ∧ yCal G (6, 2, 1104) kJ4_toString_0e30d [.ref r_11] M_11 H_11 (yFR (fun (r_12 : Nat) (M_12 : eM) (H_12 : yH) => (ca + 1 + 1 + 1 + 6 + 1 + 1 + 6 + 1 + 1 + 2 ≤ 21 ∧ sl + 4 + 16 + 2200 + 5600 + 2200 + 2200 + 5600 + 2200 + 2200 + 1104 ≤ 23400) ∧ F r_12 M_12 H_12)))))))))))))))))))))) :
    Yx (yX "text") (yZ G 21 23400 (yFR F)) G (eR (8, 21, 23400)) kX13_text 356 [(0, .ref a0)] [] M H ca sl := by
  have hb := h.1
  replace h := h.2
  refine y_new dX13_text_356 clJ4 (tb7 _ (List.mem_of_getElem? (i := 111) rfl)) (tb7 _ (List.mem_of_getElem? (i := 85) rfl)) (tb1 _ (List.mem_of_getElem? (i := 16) rfl)) xd_J4 hb (fun q_1 hq => ?_)
  replace h := h q_1 hq
  refine y_dup dX13_text_359 rfl ?_
  have hb := h.1
  replace h := h.2
  refine y_callI yXn (b' := (3, 1, 16)) (K' := kJ4_init_da8c8) (As := []) (a := q_1) (S := [.ref q_1]) dX13_text_360 miJ4_init_da8c8 lMX13_42 rfl ⟨(by decide), hb⟩ (Nat.le_of_ble_eq_true rfl) h (fun v_ M_2 H_2 q_ => ?_) rfl
  obtain ⟨rfl, h⟩ := q_
  refine y_ldcS (j := 1719) dX13_text_363 (List.mem_of_getElem? (i := 19) rfl) ?_
  have hb := h.1
  replace h := h.2
  obtain ⟨⟨fs_3, hi⟩, h⟩ := h
  refine y_callV yXn (b' := (6, 1, 2200)) (K' := kJ4_append_15ec4) (As := [.ref (G.1 1719)]) (S := []) dX13_text_365 mJ4_append_15ec4 lMX13_45 clJ4 rfl hi rfl ⟨(by decide), hb⟩ (Nat.le_of_ble_eq_true rfl) h (fun v_ M_3 H_3 q_ => ?_) rfl
  obtain ⟨r_3, rfl, h⟩ := q_
  refine y_aload_n 0 dX13_text_368 rfl rfl ?_
  obtain ⟨b_4, ⟨fs_4, e1_4, e2_4⟩, h⟩ := h
  refine y_get (k := 2) dX13_text_369 clX13 lFX13_16 (by decide) e1_4 e2_4 ?_
  have hb := h.1
  replace h := h.2
  obtain ⟨⟨fs_5, hi⟩, h⟩ := h
  refine y_callV yXn (b' := (7, 6, 5600)) (K' := kX13_text) (As := []) (S := [.ref r_3]) dX13_text_372 mX13_text lMX13_60 clX13 rfl hi rfl ⟨(by decide), hb⟩ (Nat.le_of_ble_eq_true rfl) h (fun v_ M_5 H_5 q_ => ?_) rfl
  obtain ⟨r_5, rfl, h⟩ := q_
  have hb := h.1
  replace h := h.2
  obtain ⟨⟨fs_6, hi⟩, h⟩ := h
  refine y_callV yXn (b' := (6, 1, 2200)) (K' := kJ4_append_15ec4) (As := [.ref r_5]) (S := []) dX13_text_375 mJ4_append_15ec4 lMX13_45 clJ4 rfl hi rfl ⟨(by decide), hb⟩ (Nat.le_of_ble_eq_true rfl) h (fun v_ M_6 H_6 q_ => ?_) rfl
  obtain ⟨r_6, rfl, h⟩ := q_
  refine y_ldcS (j := 1720) dX13_text_378 (List.mem_of_getElem? (i := 20) rfl) ?_
  have hb := h.1
  replace h := h.2
  obtain ⟨⟨fs_7, hi⟩, h⟩ := h
  refine y_callV yXn (b' := (6, 1, 2200)) (K' := kJ4_append_15ec4) (As := [.ref (G.1 1720)]) (S := []) dX13_text_380 mJ4_append_15ec4 lMX13_45 clJ4 rfl hi rfl ⟨(by decide), hb⟩ (Nat.le_of_ble_eq_true rfl) h (fun v_ M_7 H_7 q_ => ?_) rfl
  obtain ⟨r_7, rfl, h⟩ := q_
  refine y_aload_n 0 dX13_text_383 rfl rfl ?_
  obtain ⟨b_8, ⟨fs_8, e1_8, e2_8⟩, h⟩ := h
  refine y_get (k := 3) dX13_text_384 clX13 lFX13_20 (by decide) e1_8 e2_8 ?_
  have hb := h.1
  replace h := h.2
  obtain ⟨⟨fs_9, hi⟩, h⟩ := h
  refine y_callV yXn (b' := (7, 6, 5600)) (K' := kX13_text) (As := []) (S := [.ref r_7]) dX13_text_387 mX13_text lMX13_60 clX13 rfl hi rfl ⟨(by decide), hb⟩ (Nat.le_of_ble_eq_true rfl) h (fun v_ M_9 H_9 q_ => ?_) rfl
  obtain ⟨r_9, rfl, h⟩ := q_
  have hb := h.1
  replace h := h.2
  obtain ⟨⟨fs_10, hi⟩, h⟩ := h
  refine y_callV yXn (b' := (6, 1, 2200)) (K' := kJ4_append_15ec4) (As := [.ref r_9]) (S := []) dX13_text_390 mJ4_append_15ec4 lMX13_45 clJ4 rfl hi rfl ⟨(by decide), hb⟩ (Nat.le_of_ble_eq_true rfl) h (fun v_ M_10 H_10 q_ => ?_) rfl
  obtain ⟨r_10, rfl, h⟩ := q_
  refine y_ldcS (j := 1721) dX13_text_393 (List.mem_of_getElem? (i := 21) rfl) ?_
  have hb := h.1
  replace h := h.2
  obtain ⟨⟨fs_11, hi⟩, h⟩ := h
  refine y_callV yXn (b' := (6, 1, 2200)) (K' := kJ4_append_15ec4) (As := [.ref (G.1 1721)]) (S := []) dX13_text_395 mJ4_append_15ec4 lMX13_45 clJ4 rfl hi rfl ⟨(by decide), hb⟩ (Nat.le_of_ble_eq_true rfl) h (fun v_ M_11 H_11 q_ => ?_) rfl
  obtain ⟨r_11, rfl, h⟩ := q_
  have hb := h.1
  replace h := h.2
  obtain ⟨⟨fs_12, hi⟩, h⟩ := h
  refine y_callV yXn (b' := (6, 2, 1104)) (K' := kJ4_toString_0e30d) (As := []) (S := []) dX13_text_398 mJ4_toString_0e30d lMX13_52 clJ4 rfl hi rfl ⟨(by decide), hb⟩ (Nat.le_of_ble_eq_true rfl) h (fun v_ M_12 H_12 q_ => ?_) rfl
  obtain ⟨r_12, rfl, h⟩ := q_
  have hb := h.1
  replace h := h.2
  exact y_aret dX13_text_401 rfl (Or.inl ⟨_, rfl⟩) hb.1 hb.2 ⟨_, rfl, h⟩
set_option maxHeartbeats 4000000 in
set_option maxRecDepth 100000 in
theorem B_X13_text_1_330 (G : eG) (ca sl : Nat) (M : eM) (H : yH) (F : Nat → eM → yH → Prop) (a0 : Nat)
    (h : (ca + 1 ≤ 21 ∧ sl + 4 ≤ 23400) ∧ ∀ q_1 : Nat, H q_1 = none → (((ca + 1) + 1 ≤ 21 ∧ (sl + 4) + 16 ≤ 23400) ∧ yCal G (3, 1, 16) kJ4_init_da8c8 [.ref q_1] M (yU H q_1 (.inr (14, [.null, .int 0, .int 0, .int 0]))) (yFV (fun (M_2 : eM) (H_2 : yH) => ((ca + 1 + 1) + 1 ≤ 21 ∧ (sl + 4 + 16) + 2200 ≤ 23400) ∧ yIs H_2 q_1 14 ∧ yCal G (6, 1, 2200) kJ4_append_15ec4 [.ref q_1, .ref (G.1 1718)] M_2 H_2 (yFR (fun (r_3 : Nat) (M_3 : eM) (H_3 : yH) => ∃ (b_4 : Nat), yG H_3 a0 11 2 (.ref b_4) ∧ (((ca + 1 + 1 + 1) + 6 ≤ 21 ∧ (sl + 4 + 16 + 2200) + 5600 ≤ 23400) ∧ yIs H_3 b_4 11 ∧ yCal G (7, 6, 5600) kX13_text [.ref b_4] M_3 H_3 (yFR (fun (r_5 : Nat) (M_5 : eM) (H_5 : yH) => ((ca + 1 + 1 + 1 + 6) + 1 ≤ 21 ∧ (sl + 4 + 16 + 2200 + 5600) + 2200 ≤ 23400) ∧ yIs H_5 r_3 14 ∧ yCal G (6, 1, 2200) kJ4_append_15ec4 [.ref r_3, .ref r_5] M_5 H_5 (yFR (fun (r_6 : Nat) (M_6 : eM) (H_6 : yH) => ((ca + 1 + 1 + 1 + 6 + 1) + 2 ≤ 21 ∧ (sl + 4 + 16 + 2200 + 5600 + 2200) + 1104 ≤ 23400) ∧ yIs H_6 r_6 14 ∧ yCal G (6, 2, 1104) kJ4_toString_0e30d [.ref r_6] M_6 H_6 (yFR (fun (r_7 : Nat) (M_7 : eM) (H_7 : yH) => (ca + 1 + 1 + 1 + 6 + 1 + 2 ≤ 21 ∧ sl + 4 + 16 + 2200 + 5600 + 2200 + 1104 ≤ 23400) ∧ F r_7 M_7 H_7))))))))))))) :
    Yx (yX "text") (yZ G 21 23400 (yFR F)) G (eR (8, 21, 23400)) kX13_text 330 [(0, .ref a0)] [] M H ca sl := by
  have hb := h.1
  replace h := h.2
  refine y_new dX13_text_330 clJ4 (tb7 _ (List.mem_of_getElem? (i := 111) rfl)) (tb7 _ (List.mem_of_getElem? (i := 85) rfl)) (tb1 _ (List.mem_of_getElem? (i := 16) rfl)) xd_J4 hb (fun q_1 hq => ?_)
  replace h := h q_1 hq
  refine y_dup dX13_text_333 rfl ?_
  have hb := h.1
  replace h := h.2
  refine y_callI yXn (b' := (3, 1, 16)) (K' := kJ4_init_da8c8) (As := []) (a := q_1) (S := [.ref q_1]) dX13_text_334 miJ4_init_da8c8 lMX13_42 rfl ⟨(by decide), hb⟩ (Nat.le_of_ble_eq_true rfl) h (fun v_ M_2 H_2 q_ => ?_) rfl
  obtain ⟨rfl, h⟩ := q_
  refine y_ldcS (j := 1718) dX13_text_337 (List.mem_of_getElem? (i := 18) rfl) ?_
  have hb := h.1
  replace h := h.2
  obtain ⟨⟨fs_3, hi⟩, h⟩ := h
  refine y_callV yXn (b' := (6, 1, 2200)) (K' := kJ4_append_15ec4) (As := [.ref (G.1 1718)]) (S := []) dX13_text_339 mJ4_append_15ec4 lMX13_45 clJ4 rfl hi rfl ⟨(by decide), hb⟩ (Nat.le_of_ble_eq_true rfl) h (fun v_ M_3 H_3 q_ => ?_) rfl
  obtain ⟨r_3, rfl, h⟩ := q_
  refine y_aload_n 0 dX13_text_342 rfl rfl ?_
  obtain ⟨b_4, ⟨fs_4, e1_4, e2_4⟩, h⟩ := h
  refine y_get (k := 2) dX13_text_343 clX13 lFX13_16 (by decide) e1_4 e2_4 ?_
  have hb := h.1
  replace h := h.2
  obtain ⟨⟨fs_5, hi⟩, h⟩ := h
  refine y_callV yXn (b' := (7, 6, 5600)) (K' := kX13_text) (As := []) (S := [.ref r_3]) dX13_text_346 mX13_text lMX13_60 clX13 rfl hi rfl ⟨(by decide), hb⟩ (Nat.le_of_ble_eq_true rfl) h (fun v_ M_5 H_5 q_ => ?_) rfl
  obtain ⟨r_5, rfl, h⟩ := q_
  have hb := h.1
  replace h := h.2
  obtain ⟨⟨fs_6, hi⟩, h⟩ := h
  refine y_callV yXn (b' := (6, 1, 2200)) (K' := kJ4_append_15ec4) (As := [.ref r_5]) (S := []) dX13_text_349 mJ4_append_15ec4 lMX13_45 clJ4 rfl hi rfl ⟨(by decide), hb⟩ (Nat.le_of_ble_eq_true rfl) h (fun v_ M_6 H_6 q_ => ?_) rfl
  obtain ⟨r_6, rfl, h⟩ := q_
  have hb := h.1
  replace h := h.2
  obtain ⟨⟨fs_7, hi⟩, h⟩ := h
  refine y_callV yXn (b' := (6, 2, 1104)) (K' := kJ4_toString_0e30d) (As := []) (S := []) dX13_text_352 mJ4_toString_0e30d lMX13_52 clJ4 rfl hi rfl ⟨(by decide), hb⟩ (Nat.le_of_ble_eq_true rfl) h (fun v_ M_7 H_7 q_ => ?_) rfl
  obtain ⟨r_7, rfl, h⟩ := q_
  have hb := h.1
  replace h := h.2
  exact y_aret dX13_text_355 rfl (Or.inl ⟨_, rfl⟩) hb.1 hb.2 ⟨_, rfl, h⟩
set_option maxHeartbeats 4000000 in
set_option maxRecDepth 100000 in
theorem B_X13_text_1_307 (G : eG) (ca sl : Nat) (M : eM) (H : yH) (F : Nat → eM → yH → Prop) (a0 : Nat)
    (h : (ca + 1 ≤ 21 ∧ sl + 4 ≤ 23400) ∧ ∀ q_1 : Nat, H q_1 = none → (((ca + 1) + 1 ≤ 21 ∧ (sl + 4) + 16 ≤ 23400) ∧ yCal G (3, 1, 16) kJ4_init_da8c8 [.ref q_1] M (yU H q_1 (.inr (14, [.null, .int 0, .int 0, .int 0]))) (yFV (fun (M_2 : eM) (H_2 : yH) => ((ca + 1 + 1) + 1 ≤ 21 ∧ (sl + 4 + 16) + 2200 ≤ 23400) ∧ yIs H_2 q_1 14 ∧ yCal G (6, 1, 2200) kJ4_append_15ec4 [.ref q_1, .ref (G.1 1717)] M_2 H_2 (yFR (fun (r_3 : Nat) (M_3 : eM) (H_3 : yH) => ∃ (x_4 : Int32), yG H_3 a0 11 1 (.int x_4) ∧ (((ca + 1 + 1 + 1) + 1 ≤ 21 ∧ (sl + 4 + 16 + 2200) + 2200 ≤ 23400) ∧ yIs H_3 r_3 14 ∧ yCal G (6, 1, 2200) kJ4_append_bf812 [.ref r_3, .int x_4] M_3 H_3 (yFR (fun (r_5 : Nat) (M_5 : eM) (H_5 : yH) => ((ca + 1 + 1 + 1 + 1) + 2 ≤ 21 ∧ (sl + 4 + 16 + 2200 + 2200) + 1104 ≤ 23400) ∧ yIs H_5 r_5 14 ∧ yCal G (6, 2, 1104) kJ4_toString_0e30d [.ref r_5] M_5 H_5 (yFR (fun (r_6 : Nat) (M_6 : eM) (H_6 : yH) => (ca + 1 + 1 + 1 + 1 + 2 ≤ 21 ∧ sl + 4 + 16 + 2200 + 2200 + 1104 ≤ 23400) ∧ F r_6 M_6 H_6))))))))))) :
    Yx (yX "text") (yZ G 21 23400 (yFR F)) G (eR (8, 21, 23400)) kX13_text 307 [(0, .ref a0)] [] M H ca sl := by
  have hb := h.1
  replace h := h.2
  refine y_new dX13_text_307 clJ4 (tb7 _ (List.mem_of_getElem? (i := 111) rfl)) (tb7 _ (List.mem_of_getElem? (i := 85) rfl)) (tb1 _ (List.mem_of_getElem? (i := 16) rfl)) xd_J4 hb (fun q_1 hq => ?_)
  replace h := h q_1 hq
  refine y_dup dX13_text_310 rfl ?_
  have hb := h.1
  replace h := h.2
  refine y_callI yXn (b' := (3, 1, 16)) (K' := kJ4_init_da8c8) (As := []) (a := q_1) (S := [.ref q_1]) dX13_text_311 miJ4_init_da8c8 lMX13_42 rfl ⟨(by decide), hb⟩ (Nat.le_of_ble_eq_true rfl) h (fun v_ M_2 H_2 q_ => ?_) rfl
  obtain ⟨rfl, h⟩ := q_
  refine y_ldcS (j := 1717) dX13_text_314 (List.mem_of_getElem? (i := 17) rfl) ?_
  have hb := h.1
  replace h := h.2
  obtain ⟨⟨fs_3, hi⟩, h⟩ := h
  refine y_callV yXn (b' := (6, 1, 2200)) (K' := kJ4_append_15ec4) (As := [.ref (G.1 1717)]) (S := []) dX13_text_316 mJ4_append_15ec4 lMX13_45 clJ4 rfl hi rfl ⟨(by decide), hb⟩ (Nat.le_of_ble_eq_true rfl) h (fun v_ M_3 H_3 q_ => ?_) rfl
  obtain ⟨r_3, rfl, h⟩ := q_
  refine y_aload_n 0 dX13_text_319 rfl rfl ?_
  obtain ⟨x_4, ⟨fs_4, e1_4, e2_4⟩, h⟩ := h
  refine y_get (k := 1) dX13_text_320 clX13 lFX13_13 (by decide) e1_4 e2_4 ?_
  have hb := h.1
  replace h := h.2
  obtain ⟨⟨fs_5, hi⟩, h⟩ := h
  refine y_callV yXn (b' := (6, 1, 2200)) (K' := kJ4_append_bf812) (As := [.int x_4]) (S := []) dX13_text_323 mJ4_append_bf812 lMX13_49 clJ4 rfl hi rfl ⟨(by decide), hb⟩ (Nat.le_of_ble_eq_true rfl) h (fun v_ M_5 H_5 q_ => ?_) rfl
  obtain ⟨r_5, rfl, h⟩ := q_
  have hb := h.1
  replace h := h.2
  obtain ⟨⟨fs_6, hi⟩, h⟩ := h
  refine y_callV yXn (b' := (6, 2, 1104)) (K' := kJ4_toString_0e30d) (As := []) (S := []) dX13_text_326 mJ4_toString_0e30d lMX13_52 clJ4 rfl hi rfl ⟨(by decide), hb⟩ (Nat.le_of_ble_eq_true rfl) h (fun v_ M_6 H_6 q_ => ?_) rfl
  obtain ⟨r_6, rfl, h⟩ := q_
  have hb := h.1
  replace h := h.2
  exact y_aret dX13_text_329 rfl (Or.inl ⟨_, rfl⟩) hb.1 hb.2 ⟨_, rfl, h⟩
set_option maxHeartbeats 4000000 in
set_option maxRecDepth 100000 in
theorem B_X13_text_1_284 (G : eG) (ca sl : Nat) (M : eM) (H : yH) (F : Nat → eM → yH → Prop) (a0 : Nat)
    (h : (ca + 1 ≤ 21 ∧ sl + 4 ≤ 23400) ∧ ∀ q_1 : Nat, H q_1 = none → (((ca + 1) + 1 ≤ 21 ∧ (sl + 4) + 16 ≤ 23400) ∧ yCal G (3, 1, 16) kJ4_init_da8c8 [.ref q_1] M (yU H q_1 (.inr (14, [.null, .int 0, .int 0, .int 0]))) (yFV (fun (M_2 : eM) (H_2 : yH) => ((ca + 1 + 1) + 1 ≤ 21 ∧ (sl + 4 + 16) + 2200 ≤ 23400) ∧ yIs H_2 q_1 14 ∧ yCal G (6, 1, 2200) kJ4_append_15ec4 [.ref q_1, .ref (G.1 1716)] M_2 H_2 (yFR (fun (r_3 : Nat) (M_3 : eM) (H_3 : yH) => ∃ (x_4 : Int32), yG H_3 a0 11 1 (.int x_4) ∧ (((ca + 1 + 1 + 1) + 1 ≤ 21 ∧ (sl + 4 + 16 + 2200) + 2200 ≤ 23400) ∧ yIs H_3 r_3 14 ∧ yCal G (6, 1, 2200) kJ4_append_bf812 [.ref r_3, .int x_4] M_3 H_3 (yFR (fun (r_5 : Nat) (M_5 : eM) (H_5 : yH) => ((ca + 1 + 1 + 1 + 1) + 2 ≤ 21 ∧ (sl + 4 + 16 + 2200 + 2200) + 1104 ≤ 23400) ∧ yIs H_5 r_5 14 ∧ yCal G (6, 2, 1104) kJ4_toString_0e30d [.ref r_5] M_5 H_5 (yFR (fun (r_6 : Nat) (M_6 : eM) (H_6 : yH) => (ca + 1 + 1 + 1 + 1 + 2 ≤ 21 ∧ sl + 4 + 16 + 2200 + 2200 + 1104 ≤ 23400) ∧ F r_6 M_6 H_6))))))))))) :
    Yx (yX "text") (yZ G 21 23400 (yFR F)) G (eR (8, 21, 23400)) kX13_text 284 [(0, .ref a0)] [] M H ca sl := by
  have hb := h.1
  replace h := h.2
  refine y_new dX13_text_284 clJ4 (tb7 _ (List.mem_of_getElem? (i := 111) rfl)) (tb7 _ (List.mem_of_getElem? (i := 85) rfl)) (tb1 _ (List.mem_of_getElem? (i := 16) rfl)) xd_J4 hb (fun q_1 hq => ?_)
  replace h := h q_1 hq
  refine y_dup dX13_text_287 rfl ?_
  have hb := h.1
  replace h := h.2
  refine y_callI yXn (b' := (3, 1, 16)) (K' := kJ4_init_da8c8) (As := []) (a := q_1) (S := [.ref q_1]) dX13_text_288 miJ4_init_da8c8 lMX13_42 rfl ⟨(by decide), hb⟩ (Nat.le_of_ble_eq_true rfl) h (fun v_ M_2 H_2 q_ => ?_) rfl
  obtain ⟨rfl, h⟩ := q_
  refine y_ldcS (j := 1716) dX13_text_291 (List.mem_of_getElem? (i := 16) rfl) ?_
  have hb := h.1
  replace h := h.2
  obtain ⟨⟨fs_3, hi⟩, h⟩ := h
  refine y_callV yXn (b' := (6, 1, 2200)) (K' := kJ4_append_15ec4) (As := [.ref (G.1 1716)]) (S := []) dX13_text_293 mJ4_append_15ec4 lMX13_45 clJ4 rfl hi rfl ⟨(by decide), hb⟩ (Nat.le_of_ble_eq_true rfl) h (fun v_ M_3 H_3 q_ => ?_) rfl
  obtain ⟨r_3, rfl, h⟩ := q_
  refine y_aload_n 0 dX13_text_296 rfl rfl ?_
  obtain ⟨x_4, ⟨fs_4, e1_4, e2_4⟩, h⟩ := h
  refine y_get (k := 1) dX13_text_297 clX13 lFX13_13 (by decide) e1_4 e2_4 ?_
  have hb := h.1
  replace h := h.2
  obtain ⟨⟨fs_5, hi⟩, h⟩ := h
  refine y_callV yXn (b' := (6, 1, 2200)) (K' := kJ4_append_bf812) (As := [.int x_4]) (S := []) dX13_text_300 mJ4_append_bf812 lMX13_49 clJ4 rfl hi rfl ⟨(by decide), hb⟩ (Nat.le_of_ble_eq_true rfl) h (fun v_ M_5 H_5 q_ => ?_) rfl
  obtain ⟨r_5, rfl, h⟩ := q_
  have hb := h.1
  replace h := h.2
  obtain ⟨⟨fs_6, hi⟩, h⟩ := h
  refine y_callV yXn (b' := (6, 2, 1104)) (K' := kJ4_toString_0e30d) (As := []) (S := []) dX13_text_303 mJ4_toString_0e30d lMX13_52 clJ4 rfl hi rfl ⟨(by decide), hb⟩ (Nat.le_of_ble_eq_true rfl) h (fun v_ M_6 H_6 q_ => ?_) rfl
  obtain ⟨r_6, rfl, h⟩ := q_
  have hb := h.1
  replace h := h.2
  exact y_aret dX13_text_306 rfl (Or.inl ⟨_, rfl⟩) hb.1 hb.2 ⟨_, rfl, h⟩
set_option maxHeartbeats 4000000 in
set_option maxRecDepth 100000 in
theorem B_X13_text_1_238 (G : eG) (ca sl : Nat) (M : eM) (H : yH) (F : Nat → eM → yH → Prop) (a0 : Nat)
    (h : (ca + 1 ≤ 21 ∧ sl + 4 ≤ 23400) ∧ ∀ q_1 : Nat, H q_1 = none → (((ca + 1) + 1 ≤ 21 ∧ (sl + 4) + 16 ≤ 23400) ∧ yCal G (3, 1, 16) kJ4_init_da8c8 [.ref q_1] M (yU H q_1 (.inr (14, [.null, .int 0, .int 0, .int 0]))) (yFV (fun (M_2 : eM) (H_2 : yH) => ((ca + 1 + 1) + 1 ≤ 21 ∧ (sl + 4 + 16) + 2200 ≤ 23400) ∧ yIs H_2 q_1 14 ∧ yCal G (6, 1, 2200) kJ4_append_15ec4 [.ref q_1, .ref (G.1 1714)] M_2 H_2 (yFR (fun (r_3 : Nat) (M_3 : eM) (H_3 : yH) => ∃ (b_4 : Nat), yG H_3 a0 11 2 (.ref b_4) ∧ (((ca + 1 + 1 + 1) + 6 ≤ 21 ∧ (sl + 4 + 16 + 2200) + 5600 ≤ 23400) ∧ yIs H_3 b_4 11 ∧ yCal G (7, 6, 5600) kX13_text [.ref b_4] M_3 H_3 (yFR (fun (r_5 : Nat) (M_5 : eM) (H_5 : yH) => ((ca + 1 + 1 + 1 + 6) + 1 ≤ 21 ∧ (sl + 4 + 16 + 2200 + 5600) + 2200 ≤ 23400) ∧ yIs H_5 r_3 14 ∧ yCal G (6, 1, 2200) kJ4_append_15ec4 [.ref r_3, .ref r_5] M_5 H_5 (yFR (fun (r_6 : Nat) (M_6 : eM) (H_6 : yH) => ((ca + 1 + 1 + 1 + 6 + 1) + 1 ≤ 21 ∧ (sl + 4 + 16 + 2200 + 5600 + 2200) + 2200 ≤ 23400) ∧ yIs H_6 r_6 14 ∧ yCal G (6, 1, 2200) kJ4_append_15ec4 [.ref r_6, .ref (G.1 1715)] M_6 H_6 (yFR (fun (r_7 : Nat) (M_7 : eM) (H_7 : yH) => ∃ (b_8 : Nat), yG H_7 a0 11 3 (.ref b_8) ∧ (((ca + 1 + 1 + 1 + 6 + 1 + 1) + 6 ≤ 21 ∧ (sl + 4 + 16 + 2200 + 5600 + 2200 + 2200) + 5600 ≤ 23400) ∧ yIs H_7 b_8 11 ∧ yCal G (7, 6, 5600) kX13_text [.ref b_8] M_7 H_7 (yFR (fun (r_9 : Nat) (M_9 : eM) (H_9 : yH) => ((ca + 1 + 1 + 1 + 6 + 1 + 1 + 6) + 1 ≤ 21 ∧ (sl + 4 + 16 + 2200 + 5600 + 2200 + 2200 + 5600) + 2200 ≤ 23400) ∧ yIs H_9 r_7 14 ∧ yCal G (6, 1, 2200) kJ4_append_15ec4 [.ref r_7, .ref r_9] M_9 H_9 (yFR (fun (r_10 : Nat) (M_10 : eM) (H_10 : yH) => ((ca + 1 + 1 + 1 + 6 + 1 + 1 + 6 + 1) + 1 ≤ 21 ∧ (sl + 4 + 16 + 2200 + 5600 + 2200 + 2200 + 5600 + 2200) + 2200 ≤ 23400) ∧ yIs H_10 r_10 14 ∧ yCal G (6, 1, 2200) kJ4_append_15ec4 [.ref r_10, .ref (G.1 1713)] M_10 H_10 (yFR (fun (r_11 : Nat) (M_11 : eM) (H_11 : yH) => ((ca + 1 + 1 + 1 + 6 + 1 + 1 + 6 + 1 + 1) + 2 ≤ 21 ∧ (sl + 4 + 16 + 2200 + 5600 + 2200 + 2200 + 5600 + 2200 + 2200) + 1104 ≤ 23400) ∧ yIs H_11 r_11 14 ∧ yCal G (6, 2, 1104) kJ4_toString_0e30d [.ref r_11] M_11 H_11 (yFR (fun (r_12 : Nat) (M_12 : eM) (H_12 : yH) => (ca + 1 + 1 + 1 + 6 + 1 + 1 + 6 + 1 + 1 + 2 ≤ 21 ∧ sl + 4 + 16 + 2200 + 5600 + 2200 + 2200 + 5600 + 2200 + 2200 + 1104 ≤ 23400) ∧ F r_12 M_12 H_12)))))))))))))))))))))) :
    Yx (yX "text") (yZ G 21 23400 (yFR F)) G (eR (8, 21, 23400)) kX13_text 238 [(0, .ref a0)] [] M H ca sl := by
  have hb := h.1
  replace h := h.2
  refine y_new dX13_text_238 clJ4 (tb7 _ (List.mem_of_getElem? (i := 111) rfl)) (tb7 _ (List.mem_of_getElem? (i := 85) rfl)) (tb1 _ (List.mem_of_getElem? (i := 16) rfl)) xd_J4 hb (fun q_1 hq => ?_)
  replace h := h q_1 hq
  refine y_dup dX13_text_241 rfl ?_
  have hb := h.1
  replace h := h.2
  refine y_callI yXn (b' := (3, 1, 16)) (K' := kJ4_init_da8c8) (As := []) (a := q_1) (S := [.ref q_1]) dX13_text_242 miJ4_init_da8c8 lMX13_42 rfl ⟨(by decide), hb⟩ (Nat.le_of_ble_eq_true rfl) h (fun v_ M_2 H_2 q_ => ?_) rfl
  obtain ⟨rfl, h⟩ := q_
  refine y_ldcS (j := 1714) dX13_text_245 (List.mem_of_getElem? (i := 14) rfl) ?_
  have hb := h.1
  replace h := h.2
  obtain ⟨⟨fs_3, hi⟩, h⟩ := h
  refine y_callV yXn (b' := (6, 1, 2200)) (K' := kJ4_append_15ec4) (As := [.ref (G.1 1714)]) (S := []) dX13_text_247 mJ4_append_15ec4 lMX13_45 clJ4 rfl hi rfl ⟨(by decide), hb⟩ (Nat.le_of_ble_eq_true rfl) h (fun v_ M_3 H_3 q_ => ?_) rfl
  obtain ⟨r_3, rfl, h⟩ := q_
  refine y_aload_n 0 dX13_text_250 rfl rfl ?_
  obtain ⟨b_4, ⟨fs_4, e1_4, e2_4⟩, h⟩ := h
  refine y_get (k := 2) dX13_text_251 clX13 lFX13_16 (by decide) e1_4 e2_4 ?_
  have hb := h.1
  replace h := h.2
  obtain ⟨⟨fs_5, hi⟩, h⟩ := h
  refine y_callV yXn (b' := (7, 6, 5600)) (K' := kX13_text) (As := []) (S := [.ref r_3]) dX13_text_254 mX13_text lMX13_60 clX13 rfl hi rfl ⟨(by decide), hb⟩ (Nat.le_of_ble_eq_true rfl) h (fun v_ M_5 H_5 q_ => ?_) rfl
  obtain ⟨r_5, rfl, h⟩ := q_
  have hb := h.1
  replace h := h.2
  obtain ⟨⟨fs_6, hi⟩, h⟩ := h
  refine y_callV yXn (b' := (6, 1, 2200)) (K' := kJ4_append_15ec4) (As := [.ref r_5]) (S := []) dX13_text_257 mJ4_append_15ec4 lMX13_45 clJ4 rfl hi rfl ⟨(by decide), hb⟩ (Nat.le_of_ble_eq_true rfl) h (fun v_ M_6 H_6 q_ => ?_) rfl
  obtain ⟨r_6, rfl, h⟩ := q_
  refine y_ldcS (j := 1715) dX13_text_260 (List.mem_of_getElem? (i := 15) rfl) ?_
  have hb := h.1
  replace h := h.2
  obtain ⟨⟨fs_7, hi⟩, h⟩ := h
  refine y_callV yXn (b' := (6, 1, 2200)) (K' := kJ4_append_15ec4) (As := [.ref (G.1 1715)]) (S := []) dX13_text_262 mJ4_append_15ec4 lMX13_45 clJ4 rfl hi rfl ⟨(by decide), hb⟩ (Nat.le_of_ble_eq_true rfl) h (fun v_ M_7 H_7 q_ => ?_) rfl
  obtain ⟨r_7, rfl, h⟩ := q_
  refine y_aload_n 0 dX13_text_265 rfl rfl ?_
  obtain ⟨b_8, ⟨fs_8, e1_8, e2_8⟩, h⟩ := h
  refine y_get (k := 3) dX13_text_266 clX13 lFX13_20 (by decide) e1_8 e2_8 ?_
  have hb := h.1
  replace h := h.2
  obtain ⟨⟨fs_9, hi⟩, h⟩ := h
  refine y_callV yXn (b' := (7, 6, 5600)) (K' := kX13_text) (As := []) (S := [.ref r_7]) dX13_text_269 mX13_text lMX13_60 clX13 rfl hi rfl ⟨(by decide), hb⟩ (Nat.le_of_ble_eq_true rfl) h (fun v_ M_9 H_9 q_ => ?_) rfl
  obtain ⟨r_9, rfl, h⟩ := q_
  have hb := h.1
  replace h := h.2
  obtain ⟨⟨fs_10, hi⟩, h⟩ := h
  refine y_callV yXn (b' := (6, 1, 2200)) (K' := kJ4_append_15ec4) (As := [.ref r_9]) (S := []) dX13_text_272 mJ4_append_15ec4 lMX13_45 clJ4 rfl hi rfl ⟨(by decide), hb⟩ (Nat.le_of_ble_eq_true rfl) h (fun v_ M_10 H_10 q_ => ?_) rfl
  obtain ⟨r_10, rfl, h⟩ := q_
  refine y_ldcS (j := 1713) dX13_text_275 (List.mem_of_getElem? (i := 13) rfl) ?_
  have hb := h.1
  replace h := h.2
  obtain ⟨⟨fs_11, hi⟩, h⟩ := h
  refine y_callV yXn (b' := (6, 1, 2200)) (K' := kJ4_append_15ec4) (As := [.ref (G.1 1713)]) (S := []) dX13_text_277 mJ4_append_15ec4 lMX13_45 clJ4 rfl hi rfl ⟨(by decide), hb⟩ (Nat.le_of_ble_eq_true rfl) h (fun v_ M_11 H_11 q_ => ?_) rfl
  obtain ⟨r_11, rfl, h⟩ := q_
  have hb := h.1
  replace h := h.2
  obtain ⟨⟨fs_12, hi⟩, h⟩ := h
  refine y_callV yXn (b' := (6, 2, 1104)) (K' := kJ4_toString_0e30d) (As := []) (S := []) dX13_text_280 mJ4_toString_0e30d lMX13_52 clJ4 rfl hi rfl ⟨(by decide), hb⟩ (Nat.le_of_ble_eq_true rfl) h (fun v_ M_12 H_12 q_ => ?_) rfl
  obtain ⟨r_12, rfl, h⟩ := q_
  have hb := h.1
  replace h := h.2
  exact y_aret dX13_text_283 rfl (Or.inl ⟨_, rfl⟩) hb.1 hb.2 ⟨_, rfl, h⟩
set_option maxHeartbeats 4000000 in
set_option maxRecDepth 100000 in
theorem B_X13_text_1_192 (G : eG) (ca sl : Nat) (M : eM) (H : yH) (F : Nat → eM → yH → Prop) (a0 : Nat)
    (h : (ca + 1 ≤ 21 ∧ sl + 4 ≤ 23400) ∧ ∀ q_1 : Nat, H q_1 = none → (((ca + 1) + 1 ≤ 21 ∧ (sl + 4) + 16 ≤ 23400) ∧ yCal G (3, 1, 16) kJ4_init_da8c8 [.ref q_1] M (yU H q_1 (.inr (14, [.null, .int 0, .int 0, .int 0]))) (yFV (fun (M_2 : eM) (H_2 : yH) => ((ca + 1 + 1) + 1 ≤ 21 ∧ (sl + 4 + 16) + 2200 ≤ 23400) ∧ yIs H_2 q_1 14 ∧ yCal G (6, 1, 2200) kJ4_append_15ec4 [.ref q_1, .ref (G.1 1711)] M_2 H_2 (yFR (fun (r_3 : Nat) (M_3 : eM) (H_3 : yH) => ∃ (b_4 : Nat), yG H_3 a0 11 2 (.ref b_4) ∧ (((ca + 1 + 1 + 1) + 6 ≤ 21 ∧ (sl + 4 + 16 + 2200) + 5600 ≤ 23400) ∧ yIs H_3 b_4 11 ∧ yCal G (7, 6, 5600) kX13_text [.ref b_4] M_3 H_3 (yFR (fun (r_5 : Nat) (M_5 : eM) (H_5 : yH) => ((ca + 1 + 1 + 1 + 6) + 1 ≤ 21 ∧ (sl + 4 + 16 + 2200 + 5600) + 2200 ≤ 23400) ∧ yIs H_5 r_3 14 ∧ yCal G (6, 1, 2200) kJ4_append_15ec4 [.ref r_3, .ref r_5] M_5 H_5 (yFR (fun (r_6 : Nat) (M_6 : eM) (H_6 : yH) => ((ca + 1 + 1 + 1 + 6 + 1) + 1 ≤ 21 ∧ (sl + 4 + 16 + 2200 + 5600 + 2200) + 2200 ≤ 23400) ∧ yIs H_6 r_6 14 ∧ yCal G (6, 1, 2200) kJ4_append_15ec4 [.ref r_6, .ref (G.1 1712)] M_6 H_6 (yFR (fun (r_7 : Nat) (M_7 : eM) (H_7 : yH) => ∃ (b_8 : Nat), yG H_7 a0 11 3 (.ref b_8) ∧ (((ca + 1 + 1 + 1 + 6 + 1 + 1) + 6 ≤ 21 ∧ (sl + 4 + 16 + 2200 + 5600 + 2200 + 2200) + 5600 ≤ 23400) ∧ yIs H_7 b_8 11 ∧ yCal G (7, 6, 5600) kX13_text [.ref b_8] M_7 H_7 (yFR (fun (r_9 : Nat) (M_9 : eM) (H_9 : yH) => ((ca + 1 + 1 + 1 + 6 + 1 + 1 + 6) + 1 ≤ 21 ∧ (sl + 4 + 16 + 2200 + 5600 + 2200 + 2200 + 5600) + 2200 ≤ 23400) ∧ yIs H_9 r_7 14 ∧ yCal G (6, 1, 2200) kJ4_append_15ec4 [.ref r_7, .ref r_9] M_9 H_9 (yFR (fun (r_10 : Nat) (M_10 : eM) (H_10 : yH) => ((ca + 1 + 1 + 1 + 6 + 1 + 1 + 6 + 1) + 1 ≤ 21 ∧ (sl + 4 + 16 + 2200 + 5600 + 2200 + 2200 + 5600 + 2200) + 2200 ≤ 23400) ∧ yIs H_10 r_10 14 ∧ yCal G (6, 1, 2200) kJ4_append_15ec4 [.ref r_10, .ref (G.1 1713)] M_10 H_10 (yFR (fun (r_11 : Nat) (M_11 : eM) (H_11 : yH) => ((ca + 1 + 1 + 1 + 6 + 1 + 1 + 6 + 1 + 1) + 2 ≤ 21 ∧ (sl + 4 + 16 + 2200 + 5600 + 2200 + 2200 + 5600 + 2200 + 2200) + 1104 ≤ 23400) ∧ yIs H_11 r_11 14 ∧ yCal G (6, 2, 1104) kJ4_toString_0e30d [.ref r_11] M_11 H_11 (yFR (fun (r_12 : Nat) (M_12 : eM) (H_12 : yH) => (ca + 1 + 1 + 1 + 6 + 1 + 1 + 6 + 1 + 1 + 2 ≤ 21 ∧ sl + 4 + 16 + 2200 + 5600 + 2200 + 2200 + 5600 + 2200 + 2200 + 1104 ≤ 23400) ∧ F r_12 M_12 H_12)))))))))))))))))))))) :
    Yx (yX "text") (yZ G 21 23400 (yFR F)) G (eR (8, 21, 23400)) kX13_text 192 [(0, .ref a0)] [] M H ca sl := by
  have hb := h.1
  replace h := h.2
  refine y_new dX13_text_192 clJ4 (tb7 _ (List.mem_of_getElem? (i := 111) rfl)) (tb7 _ (List.mem_of_getElem? (i := 85) rfl)) (tb1 _ (List.mem_of_getElem? (i := 16) rfl)) xd_J4 hb (fun q_1 hq => ?_)
  replace h := h q_1 hq
  refine y_dup dX13_text_195 rfl ?_
  have hb := h.1
  replace h := h.2
  refine y_callI yXn (b' := (3, 1, 16)) (K' := kJ4_init_da8c8) (As := []) (a := q_1) (S := [.ref q_1]) dX13_text_196 miJ4_init_da8c8 lMX13_42 rfl ⟨(by decide), hb⟩ (Nat.le_of_ble_eq_true rfl) h (fun v_ M_2 H_2 q_ => ?_) rfl
  obtain ⟨rfl, h⟩ := q_
  refine y_ldcS (j := 1711) dX13_text_199 (List.mem_of_getElem? (i := 11) rfl) ?_
  have hb := h.1
  replace h := h.2
  obtain ⟨⟨fs_3, hi⟩, h⟩ := h
  refine y_callV yXn (b' := (6, 1, 2200)) (K' := kJ4_append_15ec4) (As := [.ref (G.1 1711)]) (S := []) dX13_text_201 mJ4_append_15ec4 lMX13_45 clJ4 rfl hi rfl ⟨(by decide), hb⟩ (Nat.le_of_ble_eq_true rfl) h (fun v_ M_3 H_3 q_ => ?_) rfl
  obtain ⟨r_3, rfl, h⟩ := q_
  refine y_aload_n 0 dX13_text_204 rfl rfl ?_
  obtain ⟨b_4, ⟨fs_4, e1_4, e2_4⟩, h⟩ := h
  refine y_get (k := 2) dX13_text_205 clX13 lFX13_16 (by decide) e1_4 e2_4 ?_
  have hb := h.1
  replace h := h.2
  obtain ⟨⟨fs_5, hi⟩, h⟩ := h
  refine y_callV yXn (b' := (7, 6, 5600)) (K' := kX13_text) (As := []) (S := [.ref r_3]) dX13_text_208 mX13_text lMX13_60 clX13 rfl hi rfl ⟨(by decide), hb⟩ (Nat.le_of_ble_eq_true rfl) h (fun v_ M_5 H_5 q_ => ?_) rfl
  obtain ⟨r_5, rfl, h⟩ := q_
  have hb := h.1
  replace h := h.2
  obtain ⟨⟨fs_6, hi⟩, h⟩ := h
  refine y_callV yXn (b' := (6, 1, 2200)) (K' := kJ4_append_15ec4) (As := [.ref r_5]) (S := []) dX13_text_211 mJ4_append_15ec4 lMX13_45 clJ4 rfl hi rfl ⟨(by decide), hb⟩ (Nat.le_of_ble_eq_true rfl) h (fun v_ M_6 H_6 q_ => ?_) rfl
  obtain ⟨r_6, rfl, h⟩ := q_
  refine y_ldcS (j := 1712) dX13_text_214 (List.mem_of_getElem? (i := 12) rfl) ?_
  have hb := h.1
  replace h := h.2
  obtain ⟨⟨fs_7, hi⟩, h⟩ := h
  refine y_callV yXn (b' := (6, 1, 2200)) (K' := kJ4_append_15ec4) (As := [.ref (G.1 1712)]) (S := []) dX13_text_216 mJ4_append_15ec4 lMX13_45 clJ4 rfl hi rfl ⟨(by decide), hb⟩ (Nat.le_of_ble_eq_true rfl) h (fun v_ M_7 H_7 q_ => ?_) rfl
  obtain ⟨r_7, rfl, h⟩ := q_
  refine y_aload_n 0 dX13_text_219 rfl rfl ?_
  obtain ⟨b_8, ⟨fs_8, e1_8, e2_8⟩, h⟩ := h
  refine y_get (k := 3) dX13_text_220 clX13 lFX13_20 (by decide) e1_8 e2_8 ?_
  have hb := h.1
  replace h := h.2
  obtain ⟨⟨fs_9, hi⟩, h⟩ := h
  refine y_callV yXn (b' := (7, 6, 5600)) (K' := kX13_text) (As := []) (S := [.ref r_7]) dX13_text_223 mX13_text lMX13_60 clX13 rfl hi rfl ⟨(by decide), hb⟩ (Nat.le_of_ble_eq_true rfl) h (fun v_ M_9 H_9 q_ => ?_) rfl
  obtain ⟨r_9, rfl, h⟩ := q_
  have hb := h.1
  replace h := h.2
  obtain ⟨⟨fs_10, hi⟩, h⟩ := h
  refine y_callV yXn (b' := (6, 1, 2200)) (K' := kJ4_append_15ec4) (As := [.ref r_9]) (S := []) dX13_text_226 mJ4_append_15ec4 lMX13_45 clJ4 rfl hi rfl ⟨(by decide), hb⟩ (Nat.le_of_ble_eq_true rfl) h (fun v_ M_10 H_10 q_ => ?_) rfl
  obtain ⟨r_10, rfl, h⟩ := q_
  refine y_ldcS (j := 1713) dX13_text_229 (List.mem_of_getElem? (i := 13) rfl) ?_
  have hb := h.1
  replace h := h.2
  obtain ⟨⟨fs_11, hi⟩, h⟩ := h
  refine y_callV yXn (b' := (6, 1, 2200)) (K' := kJ4_append_15ec4) (As := [.ref (G.1 1713)]) (S := []) dX13_text_231 mJ4_append_15ec4 lMX13_45 clJ4 rfl hi rfl ⟨(by decide), hb⟩ (Nat.le_of_ble_eq_true rfl) h (fun v_ M_11 H_11 q_ => ?_) rfl
  obtain ⟨r_11, rfl, h⟩ := q_
  have hb := h.1
  replace h := h.2
  obtain ⟨⟨fs_12, hi⟩, h⟩ := h
  refine y_callV yXn (b' := (6, 2, 1104)) (K' := kJ4_toString_0e30d) (As := []) (S := []) dX13_text_234 mJ4_toString_0e30d lMX13_52 clJ4 rfl hi rfl ⟨(by decide), hb⟩ (Nat.le_of_ble_eq_true rfl) h (fun v_ M_12 H_12 q_ => ?_) rfl
  obtain ⟨r_12, rfl, h⟩ := q_
  have hb := h.1
  replace h := h.2
  exact y_aret dX13_text_237 rfl (Or.inl ⟨_, rfl⟩) hb.1 hb.2 ⟨_, rfl, h⟩
set_option maxHeartbeats 4000000 in
set_option maxRecDepth 100000 in
theorem B_X13_text_1_166 (G : eG) (ca sl : Nat) (M : eM) (H : yH) (F : Nat → eM → yH → Prop) (a0 : Nat)
    (h : (ca + 1 ≤ 21 ∧ sl + 4 ≤ 23400) ∧ ∀ q_1 : Nat, H q_1 = none → (((ca + 1) + 1 ≤ 21 ∧ (sl + 4) + 16 ≤ 23400) ∧ yCal G (3, 1, 16) kJ4_init_da8c8 [.ref q_1] M (yU H q_1 (.inr (14, [.null, .int 0, .int 0, .int 0]))) (yFV (fun (M_2 : eM) (H_2 : yH) => ((ca + 1 + 1) + 1 ≤ 21 ∧ (sl + 4 + 16) + 2200 ≤ 23400) ∧ yIs H_2 q_1 14 ∧ yCal G (6, 1, 2200) kJ4_append_15ec4 [.ref q_1, .ref (G.1 1710)] M_2 H_2 (yFR (fun (r_3 : Nat) (M_3 : eM) (H_3 : yH) => ∃ (b_4 : Nat), yG H_3 a0 11 2 (.ref b_4) ∧ (((ca + 1 + 1 + 1) + 6 ≤ 21 ∧ (sl + 4 + 16 + 2200) + 5600 ≤ 23400) ∧ yIs H_3 b_4 11 ∧ yCal G (7, 6, 5600) kX13_text [.ref b_4] M_3 H_3 (yFR (fun (r_5 : Nat) (M_5 : eM) (H_5 : yH) => ((ca + 1 + 1 + 1 + 6) + 1 ≤ 21 ∧ (sl + 4 + 16 + 2200 + 5600) + 2200 ≤ 23400) ∧ yIs H_5 r_3 14 ∧ yCal G (6, 1, 2200) kJ4_append_15ec4 [.ref r_3, .ref r_5] M_5 H_5 (yFR (fun (r_6 : Nat) (M_6 : eM) (H_6 : yH) => ((ca + 1 + 1 + 1 + 6 + 1) + 2 ≤ 21 ∧ (sl + 4 + 16 + 2200 + 5600 + 2200) + 1104 ≤ 23400) ∧ yIs H_6 r_6 14 ∧ yCal G (6, 2, 1104) kJ4_toString_0e30d [.ref r_6] M_6 H_6 (yFR (fun (r_7 : Nat) (M_7 : eM) (H_7 : yH) => (ca + 1 + 1 + 1 + 6 + 1 + 2 ≤ 21 ∧ sl + 4 + 16 + 2200 + 5600 + 2200 + 1104 ≤ 23400) ∧ F r_7 M_7 H_7))))))))))))) :
    Yx (yX "text") (yZ G 21 23400 (yFR F)) G (eR (8, 21, 23400)) kX13_text 166 [(0, .ref a0)] [] M H ca sl := by
  have hb := h.1
  replace h := h.2
  refine y_new dX13_text_166 clJ4 (tb7 _ (List.mem_of_getElem? (i := 111) rfl)) (tb7 _ (List.mem_of_getElem? (i := 85) rfl)) (tb1 _ (List.mem_of_getElem? (i := 16) rfl)) xd_J4 hb (fun q_1 hq => ?_)
  replace h := h q_1 hq
  refine y_dup dX13_text_169 rfl ?_
  have hb := h.1
  replace h := h.2
  refine y_callI yXn (b' := (3, 1, 16)) (K' := kJ4_init_da8c8) (As := []) (a := q_1) (S := [.ref q_1]) dX13_text_170 miJ4_init_da8c8 lMX13_42 rfl ⟨(by decide), hb⟩ (Nat.le_of_ble_eq_true rfl) h (fun v_ M_2 H_2 q_ => ?_) rfl
  obtain ⟨rfl, h⟩ := q_
  refine y_ldcS (j := 1710) dX13_text_173 (List.mem_of_getElem? (i := 10) rfl) ?_
  have hb := h.1
  replace h := h.2
  obtain ⟨⟨fs_3, hi⟩, h⟩ := h
  refine y_callV yXn (b' := (6, 1, 2200)) (K' := kJ4_append_15ec4) (As := [.ref (G.1 1710)]) (S := []) dX13_text_175 mJ4_append_15ec4 lMX13_45 clJ4 rfl hi rfl ⟨(by decide), hb⟩ (Nat.le_of_ble_eq_true rfl) h (fun v_ M_3 H_3 q_ => ?_) rfl
  obtain ⟨r_3, rfl, h⟩ := q_
  refine y_aload_n 0 dX13_text_178 rfl rfl ?_
  obtain ⟨b_4, ⟨fs_4, e1_4, e2_4⟩, h⟩ := h
  refine y_get (k := 2) dX13_text_179 clX13 lFX13_16 (by decide) e1_4 e2_4 ?_
  have hb := h.1
  replace h := h.2
  obtain ⟨⟨fs_5, hi⟩, h⟩ := h
  refine y_callV yXn (b' := (7, 6, 5600)) (K' := kX13_text) (As := []) (S := [.ref r_3]) dX13_text_182 mX13_text lMX13_60 clX13 rfl hi rfl ⟨(by decide), hb⟩ (Nat.le_of_ble_eq_true rfl) h (fun v_ M_5 H_5 q_ => ?_) rfl
  obtain ⟨r_5, rfl, h⟩ := q_
  have hb := h.1
  replace h := h.2
  obtain ⟨⟨fs_6, hi⟩, h⟩ := h
  refine y_callV yXn (b' := (6, 1, 2200)) (K' := kJ4_append_15ec4) (As := [.ref r_5]) (S := []) dX13_text_185 mJ4_append_15ec4 lMX13_45 clJ4 rfl hi rfl ⟨(by decide), hb⟩ (Nat.le_of_ble_eq_true rfl) h (fun v_ M_6 H_6 q_ => ?_) rfl
  obtain ⟨r_6, rfl, h⟩ := q_
  have hb := h.1
  replace h := h.2
  obtain ⟨⟨fs_7, hi⟩, h⟩ := h
  refine y_callV yXn (b' := (6, 2, 1104)) (K' := kJ4_toString_0e30d) (As := []) (S := []) dX13_text_188 mJ4_toString_0e30d lMX13_52 clJ4 rfl hi rfl ⟨(by decide), hb⟩ (Nat.le_of_ble_eq_true rfl) h (fun v_ M_7 H_7 q_ => ?_) rfl
  obtain ⟨r_7, rfl, h⟩ := q_
  have hb := h.1
  replace h := h.2
  exact y_aret dX13_text_191 rfl (Or.inl ⟨_, rfl⟩) hb.1 hb.2 ⟨_, rfl, h⟩
set_option maxHeartbeats 4000000 in
set_option maxRecDepth 100000 in
theorem B_X13_text_1_143 (G : eG) (ca sl : Nat) (M : eM) (H : yH) (F : Nat → eM → yH → Prop) (a0 : Nat)
    (h : (ca + 1 ≤ 21 ∧ sl + 4 ≤ 23400) ∧ ∀ q_1 : Nat, H q_1 = none → (((ca + 1) + 1 ≤ 21 ∧ (sl + 4) + 16 ≤ 23400) ∧ yCal G (3, 1, 16) kJ4_init_da8c8 [.ref q_1] M (yU H q_1 (.inr (14, [.null, .int 0, .int 0, .int 0]))) (yFV (fun (M_2 : eM) (H_2 : yH) => ((ca + 1 + 1) + 1 ≤ 21 ∧ (sl + 4 + 16) + 2200 ≤ 23400) ∧ yIs H_2 q_1 14 ∧ yCal G (6, 1, 2200) kJ4_append_15ec4 [.ref q_1, .ref (G.1 1709)] M_2 H_2 (yFR (fun (r_3 : Nat) (M_3 : eM) (H_3 : yH) => ∃ (x_4 : Int32), yG H_3 a0 11 1 (.int x_4) ∧ (((ca + 1 + 1 + 1) + 1 ≤ 21 ∧ (sl + 4 + 16 + 2200) + 2200 ≤ 23400) ∧ yIs H_3 r_3 14 ∧ yCal G (6, 1, 2200) kJ4_append_bf812 [.ref r_3, .int x_4] M_3 H_3 (yFR (fun (r_5 : Nat) (M_5 : eM) (H_5 : yH) => ((ca + 1 + 1 + 1 + 1) + 2 ≤ 21 ∧ (sl + 4 + 16 + 2200 + 2200) + 1104 ≤ 23400) ∧ yIs H_5 r_5 14 ∧ yCal G (6, 2, 1104) kJ4_toString_0e30d [.ref r_5] M_5 H_5 (yFR (fun (r_6 : Nat) (M_6 : eM) (H_6 : yH) => (ca + 1 + 1 + 1 + 1 + 2 ≤ 21 ∧ sl + 4 + 16 + 2200 + 2200 + 1104 ≤ 23400) ∧ F r_6 M_6 H_6))))))))))) :
    Yx (yX "text") (yZ G 21 23400 (yFR F)) G (eR (8, 21, 23400)) kX13_text 143 [(0, .ref a0)] [] M H ca sl := by
  have hb := h.1
  replace h := h.2
  refine y_new dX13_text_143 clJ4 (tb7 _ (List.mem_of_getElem? (i := 111) rfl)) (tb7 _ (List.mem_of_getElem? (i := 85) rfl)) (tb1 _ (List.mem_of_getElem? (i := 16) rfl)) xd_J4 hb (fun q_1 hq => ?_)
  replace h := h q_1 hq
  refine y_dup dX13_text_146 rfl ?_
  have hb := h.1
  replace h := h.2
  refine y_callI yXn (b' := (3, 1, 16)) (K' := kJ4_init_da8c8) (As := []) (a := q_1) (S := [.ref q_1]) dX13_text_147 miJ4_init_da8c8 lMX13_42 rfl ⟨(by decide), hb⟩ (Nat.le_of_ble_eq_true rfl) h (fun v_ M_2 H_2 q_ => ?_) rfl
  obtain ⟨rfl, h⟩ := q_
  refine y_ldcS (j := 1709) dX13_text_150 (List.mem_of_getElem? (i := 9) rfl) ?_
  have hb := h.1
  replace h := h.2
  obtain ⟨⟨fs_3, hi⟩, h⟩ := h
  refine y_callV yXn (b' := (6, 1, 2200)) (K' := kJ4_append_15ec4) (As := [.ref (G.1 1709)]) (S := []) dX13_text_152 mJ4_append_15ec4 lMX13_45 clJ4 rfl hi rfl ⟨(by decide), hb⟩ (Nat.le_of_ble_eq_true rfl) h (fun v_ M_3 H_3 q_ => ?_) rfl
  obtain ⟨r_3, rfl, h⟩ := q_
  refine y_aload_n 0 dX13_text_155 rfl rfl ?_
  obtain ⟨x_4, ⟨fs_4, e1_4, e2_4⟩, h⟩ := h
  refine y_get (k := 1) dX13_text_156 clX13 lFX13_13 (by decide) e1_4 e2_4 ?_
  have hb := h.1
  replace h := h.2
  obtain ⟨⟨fs_5, hi⟩, h⟩ := h
  refine y_callV yXn (b' := (6, 1, 2200)) (K' := kJ4_append_bf812) (As := [.int x_4]) (S := []) dX13_text_159 mJ4_append_bf812 lMX13_49 clJ4 rfl hi rfl ⟨(by decide), hb⟩ (Nat.le_of_ble_eq_true rfl) h (fun v_ M_5 H_5 q_ => ?_) rfl
  obtain ⟨r_5, rfl, h⟩ := q_
  have hb := h.1
  replace h := h.2
  obtain ⟨⟨fs_6, hi⟩, h⟩ := h
  refine y_callV yXn (b' := (6, 2, 1104)) (K' := kJ4_toString_0e30d) (As := []) (S := []) dX13_text_162 mJ4_toString_0e30d lMX13_52 clJ4 rfl hi rfl ⟨(by decide), hb⟩ (Nat.le_of_ble_eq_true rfl) h (fun v_ M_6 H_6 q_ => ?_) rfl
  obtain ⟨r_6, rfl, h⟩ := q_
  have hb := h.1
  replace h := h.2
  exact y_aret dX13_text_165 rfl (Or.inl ⟨_, rfl⟩) hb.1 hb.2 ⟨_, rfl, h⟩
set_option maxHeartbeats 4000000 in
set_option maxRecDepth 100000 in
theorem B_X13_text_1_120 (G : eG) (ca sl : Nat) (M : eM) (H : yH) (F : Nat → eM → yH → Prop) (a0 : Nat)
    (h : (ca + 1 ≤ 21 ∧ sl + 4 ≤ 23400) ∧ ∀ q_1 : Nat, H q_1 = none → (((ca + 1) + 1 ≤ 21 ∧ (sl + 4) + 16 ≤ 23400) ∧ yCal G (3, 1, 16) kJ4_init_da8c8 [.ref q_1] M (yU H q_1 (.inr (14, [.null, .int 0, .int 0, .int 0]))) (yFV (fun (M_2 : eM) (H_2 : yH) => ((ca + 1 + 1) + 1 ≤ 21 ∧ (sl + 4 + 16) + 2200 ≤ 23400) ∧ yIs H_2 q_1 14 ∧ yCal G (6, 1, 2200) kJ4_append_15ec4 [.ref q_1, .ref (G.1 1708)] M_2 H_2 (yFR (fun (r_3 : Nat) (M_3 : eM) (H_3 : yH) => ∃ (x_4 : Int32), yG H_3 a0 11 1 (.int x_4) ∧ (((ca + 1 + 1 + 1) + 1 ≤ 21 ∧ (sl + 4 + 16 + 2200) + 2200 ≤ 23400) ∧ yIs H_3 r_3 14 ∧ yCal G (6, 1, 2200) kJ4_append_bf812 [.ref r_3, .int x_4] M_3 H_3 (yFR (fun (r_5 : Nat) (M_5 : eM) (H_5 : yH) => ((ca + 1 + 1 + 1 + 1) + 2 ≤ 21 ∧ (sl + 4 + 16 + 2200 + 2200) + 1104 ≤ 23400) ∧ yIs H_5 r_5 14 ∧ yCal G (6, 2, 1104) kJ4_toString_0e30d [.ref r_5] M_5 H_5 (yFR (fun (r_6 : Nat) (M_6 : eM) (H_6 : yH) => (ca + 1 + 1 + 1 + 1 + 2 ≤ 21 ∧ sl + 4 + 16 + 2200 + 2200 + 1104 ≤ 23400) ∧ F r_6 M_6 H_6))))))))))) :
    Yx (yX "text") (yZ G 21 23400 (yFR F)) G (eR (8, 21, 23400)) kX13_text 120 [(0, .ref a0)] [] M H ca sl := by
  have hb := h.1
  replace h := h.2
  refine y_new dX13_text_120 clJ4 (tb7 _ (List.mem_of_getElem? (i := 111) rfl)) (tb7 _ (List.mem_of_getElem? (i := 85) rfl)) (tb1 _ (List.mem_of_getElem? (i := 16) rfl)) xd_J4 hb (fun q_1 hq => ?_)
  replace h := h q_1 hq
  refine y_dup dX13_text_123 rfl ?_
  have hb := h.1
  replace h := h.2
  refine y_callI yXn (b' := (3, 1, 16)) (K' := kJ4_init_da8c8) (As := []) (a := q_1) (S := [.ref q_1]) dX13_text_124 miJ4_init_da8c8 lMX13_42 rfl ⟨(by decide), hb⟩ (Nat.le_of_ble_eq_true rfl) h (fun v_ M_2 H_2 q_ => ?_) rfl
  obtain ⟨rfl, h⟩ := q_
  refine y_ldcS (j := 1708) dX13_text_127 (List.mem_of_getElem? (i := 8) rfl) ?_
  have hb := h.1
  replace h := h.2
  obtain ⟨⟨fs_3, hi⟩, h⟩ := h
  refine y_callV yXn (b' := (6, 1, 2200)) (K' := kJ4_append_15ec4) (As := [.ref (G.1 1708)]) (S := []) dX13_text_129 mJ4_append_15ec4 lMX13_45 clJ4 rfl hi rfl ⟨(by decide), hb⟩ (Nat.le_of_ble_eq_true rfl) h (fun v_ M_3 H_3 q_ => ?_) rfl
  obtain ⟨r_3, rfl, h⟩ := q_
  refine y_aload_n 0 dX13_text_132 rfl rfl ?_
  obtain ⟨x_4, ⟨fs_4, e1_4, e2_4⟩, h⟩ := h
  refine y_get (k := 1) dX13_text_133 clX13 lFX13_13 (by decide) e1_4 e2_4 ?_
  have hb := h.1
  replace h := h.2
  obtain ⟨⟨fs_5, hi⟩, h⟩ := h
  refine y_callV yXn (b' := (6, 1, 2200)) (K' := kJ4_append_bf812) (As := [.int x_4]) (S := []) dX13_text_136 mJ4_append_bf812 lMX13_49 clJ4 rfl hi rfl ⟨(by decide), hb⟩ (Nat.le_of_ble_eq_true rfl) h (fun v_ M_5 H_5 q_ => ?_) rfl
  obtain ⟨r_5, rfl, h⟩ := q_
  have hb := h.1
  replace h := h.2
  obtain ⟨⟨fs_6, hi⟩, h⟩ := h
  refine y_callV yXn (b' := (6, 2, 1104)) (K' := kJ4_toString_0e30d) (As := []) (S := []) dX13_text_139 mJ4_toString_0e30d lMX13_52 clJ4 rfl hi rfl ⟨(by decide), hb⟩ (Nat.le_of_ble_eq_true rfl) h (fun v_ M_6 H_6 q_ => ?_) rfl
  obtain ⟨r_6, rfl, h⟩ := q_
  have hb := h.1
  replace h := h.2
  exact y_aret dX13_text_142 rfl (Or.inl ⟨_, rfl⟩) hb.1 hb.2 ⟨_, rfl, h⟩
set_option maxHeartbeats 4000000 in
set_option maxRecDepth 100000 in
theorem C_X13_text_1 (G : eG) (M : eM) (H : yH) (F : Nat → eM → yH → Prop) (a0 : Nat)
    (h : ∃ (x_1 : Int32), yG H a0 11 0 (.int x_1) ∧ ((((x_1 : Int32).toInt < 0 ∨ 24 < (x_1 : Int32).toInt) → Yx (yX "text") (yZ G 21 23400 (yFR F)) G (eR (8, 21, 23400)) kX13_text 448 [(0, .ref a0)] [] M H 0 0) ∧ ((x_1 : Int32) = 0 → Yx (yX "text") (yZ G 21 23400 (yFR F)) G (eR (8, 21, 23400)) kX13_text 120 [(0, .ref a0)] [] M H 0 0) ∧ ((x_1 : Int32) = 1 → Yx (yX "text") (yZ G 21 23400 (yFR F)) G (eR (8, 21, 23400)) kX13_text 448 [(0, .ref a0)] [] M H 0 0) ∧ ((x_1 : Int32) = 2 → Yx (yX "text") (yZ G 21 23400 (yFR F)) G (eR (8, 21, 23400)) kX13_text 448 [(0, .ref a0)] [] M H 0 0) ∧ ((x_1 : Int32) = 3 → Yx (yX "text") (yZ G 21 23400 (yFR F)) G (eR (8, 21, 23400)) kX13_text 448 [(0, .ref a0)] [] M H 0 0) ∧ ((x_1 : Int32) = 4 → Yx (yX "text") (yZ G 21 23400 (yFR F)) G (eR (8, 21, 23400)) kX13_text 448 [(0, .ref a0)] [] M H 0 0) ∧ ((x_1 : Int32) = 5 → Yx (yX "text") (yZ G 21 23400 (yFR F)) G (eR (8, 21, 23400)) kX13_text 448 [(0, .ref a0)] [] M H 0 0) ∧ ((x_1 : Int32) = 6 → Yx (yX "text") (yZ G 21 23400 (yFR F)) G (eR (8, 21, 23400)) kX13_text 448 [(0, .ref a0)] [] M H 0 0) ∧ ((x_1 : Int32) = 7 → Yx (yX "text") (yZ G 21 23400 (yFR F)) G (eR (8, 21, 23400)) kX13_text 143 [(0, .ref a0)] [] M H 0 0) ∧ ((x_1 : Int32) = 8 → Yx (yX "text") (yZ G 21 23400 (yFR F)) G (eR (8, 21, 23400)) kX13_text 166 [(0, .ref a0)] [] M H 0 0) ∧ ((x_1 : Int32) = 9 → Yx (yX "text") (yZ G 21 23400 (yFR F)) G (eR (8, 21, 23400)) kX13_text 192 [(0, .ref a0)] [] M H 0 0) ∧ ((x_1 : Int32) = 10 → Yx (yX "text") (yZ G 21 23400 (yFR F)) G (eR (8, 21, 23400)) kX13_text 238 [(0, .ref a0)] [] M H 0 0) ∧ ((x_1 : Int32) = 11 → Yx (yX "text") (yZ G 21 23400 (yFR F)) G (eR (8, 21, 23400)) kX13_text 448 [(0, .ref a0)] [] M H 0 0) ∧ ((x_1 : Int32) = 12 → Yx (yX "text") (yZ G 21 23400 (yFR F)) G (eR (8, 21, 23400)) kX13_text 448 [(0, .ref a0)] [] M H 0 0) ∧ ((x_1 : Int32) = 13 → Yx (yX "text") (yZ G 21 23400 (yFR F)) G (eR (8, 21, 23400)) kX13_text 448 [(0, .ref a0)] [] M H 0 0) ∧ ((x_1 : Int32) = 14 → Yx (yX "text") (yZ G 21 23400 (yFR F)) G (eR (8, 21, 23400)) kX13_text 448 [(0, .ref a0)] [] M H 0 0) ∧ ((x_1 : Int32) = 15 → Yx (yX "text") (yZ G 21 23400 (yFR F)) G (eR (8, 21, 23400)) kX13_text 448 [(0, .ref a0)] [] M H 0 0) ∧ ((x_1 : Int32) = 16 → Yx (yX "text") (yZ G 21 23400 (yFR F)) G (eR (8, 21, 23400)) kX13_text 448 [(0, .ref a0)] [] M H 0 0) ∧ ((x_1 : Int32) = 17 → Yx (yX "text") (yZ G 21 23400 (yFR F)) G (eR (8, 21, 23400)) kX13_text 448 [(0, .ref a0)] [] M H 0 0) ∧ ((x_1 : Int32) = 18 → Yx (yX "text") (yZ G 21 23400 (yFR F)) G (eR (8, 21, 23400)) kX13_text 448 [(0, .ref a0)] [] M H 0 0) ∧ ((x_1 : Int32) = 19 → Yx (yX "text") (yZ G 21 23400 (yFR F)) G (eR (8, 21, 23400)) kX13_text 448 [(0, .ref a0)] [] M H 0 0) ∧ ((x_1 : Int32) = 20 → Yx (yX "text") (yZ G 21 23400 (yFR F)) G (eR (8, 21, 23400)) kX13_text 284 [(0, .ref a0)] [] M H 0 0) ∧ ((x_1 : Int32) = 21 → Yx (yX "text") (yZ G 21 23400 (yFR F)) G (eR (8, 21, 23400)) kX13_text 307 [(0, .ref a0)] [] M H 0 0) ∧ ((x_1 : Int32) = 22 → Yx (yX "text") (yZ G 21 23400 (yFR F)) G (eR (8, 21, 23400)) kX13_text 330 [(0, .ref a0)] [] M H 0 0) ∧ ((x_1 : Int32) = 23 → Yx (yX "text") (yZ G 21 23400 (yFR F)) G (eR (8, 21, 23400)) kX13_text 356 [(0, .ref a0)] [] M H 0 0) ∧ ((x_1 : Int32) = 24 → Yx (yX "text") (yZ G 21 23400 (yFR F)) G (eR (8, 21, 23400)) kX13_text 402 [(0, .ref a0)] [] M H 0 0))) :
    yCal G (8, 21, 23400) kX13_text [.ref a0] M H (yFR F) := by
  refine yCal.of (by decide +kernel) rfl (Nat.le_of_ble_eq_true rfl) ?_
  show Yx (yX "text") (yZ G 21 23400 (yFR F)) G (eR (8, 21, 23400)) kX13_text 0 [(0, .ref a0)] [] M H 0 0
  refine y_aload_n 0 dX13_text_0 rfl rfl ?_
  obtain ⟨x_1, ⟨fs_1, e1_1, e2_1⟩, h⟩ := h
  refine y_get (k := 0) dX13_text_1 clX13 lFX13_7 (by decide) e1_1 e2_1 ?_
  by_cases q : (x_1 : Int32).toInt < 0 ∨ 24 < (x_1 : Int32).toInt
  · replace h := h.1 q
    refine y_tableOut (tg := 448) dX13_text_4 q (by decide) ?_
    exact h
  · replace h := h.2
    refine eTabCases (N := 25) q (by decide) (fun i9 hi hx => ?_)
    match i9, hi, hx with
    | 0, hi, hx =>
      have q3 : (x_1 : Int32) = 0 := eToI (hx.trans (by decide))
      replace h := h.1 q3
      refine y_tableAt (tg := 120) dX13_text_4 q3 (by decide) (by decide) rfl (by decide) ?_
      exact h
    | 1, hi, hx =>
      have q3 : (x_1 : Int32) = 1 := eToI (hx.trans (by decide))
      replace h := h.2.1 q3
      refine y_tableAt (tg := 448) dX13_text_4 q3 (by decide) (by decide) rfl (by decide) ?_
      exact h
    | 2, hi, hx =>
      have q3 : (x_1 : Int32) = 2 := eToI (hx.trans (by decide))
      replace h := h.2.2.1 q3
      refine y_tableAt (tg := 448) dX13_text_4 q3 (by decide) (by decide) rfl (by decide) ?_
      exact h
    | 3, hi, hx =>
      have q3 : (x_1 : Int32) = 3 := eToI (hx.trans (by decide))
      replace h := h.2.2.2.1 q3
      refine y_tableAt (tg := 448) dX13_text_4 q3 (by decide) (by decide) rfl (by decide) ?_
      exact h
    | 4, hi, hx =>
      have q3 : (x_1 : Int32) = 4 := eToI (hx.trans (by decide))
      replace h := h.2.2.2.2.1 q3
      refine y_tableAt (tg := 448) dX13_text_4 q3 (by decide) (by decide) rfl (by decide) ?_
      exact h
    | 5, hi, hx =>
      have q3 : (x_1 : Int32) = 5 := eToI (hx.trans (by decide))
      replace h := h.2.2.2.2.2.1 q3
      refine y_tableAt (tg := 448) dX13_text_4 q3 (by decide) (by decide) rfl (by decide) ?_
      exact h
    | 6, hi, hx =>
      have q3 : (x_1 : Int32) = 6 := eToI (hx.trans (by decide))
      replace h := h.2.2.2.2.2.2.1 q3
      refine y_tableAt (tg := 448) dX13_text_4 q3 (by decide) (by decide) rfl (by decide) ?_
      exact h
    | 7, hi, hx =>
      have q3 : (x_1 : Int32) = 7 := eToI (hx.trans (by decide))
      replace h := h.2.2.2.2.2.2.2.1 q3
      refine y_tableAt (tg := 143) dX13_text_4 q3 (by decide) (by decide) rfl (by decide) ?_
      exact h
    | 8, hi, hx =>
      have q3 : (x_1 : Int32) = 8 := eToI (hx.trans (by decide))
      replace h := h.2.2.2.2.2.2.2.2.1 q3
      refine y_tableAt (tg := 166) dX13_text_4 q3 (by decide) (by decide) rfl (by decide) ?_
      exact h
    | 9, hi, hx =>
      have q3 : (x_1 : Int32) = 9 := eToI (hx.trans (by decide))
      replace h := h.2.2.2.2.2.2.2.2.2.1 q3
      refine y_tableAt (tg := 192) dX13_text_4 q3 (by decide) (by decide) rfl (by decide) ?_
      exact h
    | 10, hi, hx =>
      have q3 : (x_1 : Int32) = 10 := eToI (hx.trans (by decide))
      replace h := h.2.2.2.2.2.2.2.2.2.2.1 q3
      refine y_tableAt (tg := 238) dX13_text_4 q3 (by decide) (by decide) rfl (by decide) ?_
      exact h
    | 11, hi, hx =>
      have q3 : (x_1 : Int32) = 11 := eToI (hx.trans (by decide))
      replace h := h.2.2.2.2.2.2.2.2.2.2.2.1 q3
      refine y_tableAt (tg := 448) dX13_text_4 q3 (by decide) (by decide) rfl (by decide) ?_
      exact h
    | 12, hi, hx =>
      have q3 : (x_1 : Int32) = 12 := eToI (hx.trans (by decide))
      replace h := h.2.2.2.2.2.2.2.2.2.2.2.2.1 q3
      refine y_tableAt (tg := 448) dX13_text_4 q3 (by decide) (by decide) rfl (by decide) ?_
      exact h
    | 13, hi, hx =>
      have q3 : (x_1 : Int32) = 13 := eToI (hx.trans (by decide))
      replace h := h.2.2.2.2.2.2.2.2.2.2.2.2.2.1 q3
      refine y_tableAt (tg := 448) dX13_text_4 q3 (by decide) (by decide) rfl (by decide) ?_
      exact h
    | 14, hi, hx =>
      have q3 : (x_1 : Int32) = 14 := eToI (hx.trans (by decide))
      replace h := h.2.2.2.2.2.2.2.2.2.2.2.2.2.2.1 q3
      refine y_tableAt (tg := 448) dX13_text_4 q3 (by decide) (by decide) rfl (by decide) ?_
      exact h
    | 15, hi, hx =>
      have q3 : (x_1 : Int32) = 15 := eToI (hx.trans (by decide))
      replace h := h.2.2.2.2.2.2.2.2.2.2.2.2.2.2.2.1 q3
      refine y_tableAt (tg := 448) dX13_text_4 q3 (by decide) (by decide) rfl (by decide) ?_
      exact h
    | 16, hi, hx =>
      have q3 : (x_1 : Int32) = 16 := eToI (hx.trans (by decide))
      replace h := h.2.2.2.2.2.2.2.2.2.2.2.2.2.2.2.2.1 q3
      refine y_tableAt (tg := 448) dX13_text_4 q3 (by decide) (by decide) rfl (by decide) ?_
      exact h
    | 17, hi, hx =>
      have q3 : (x_1 : Int32) = 17 := eToI (hx.trans (by decide))
      replace h := h.2.2.2.2.2.2.2.2.2.2.2.2.2.2.2.2.2.1 q3
      refine y_tableAt (tg := 448) dX13_text_4 q3 (by decide) (by decide) rfl (by decide) ?_
      exact h
    | 18, hi, hx =>
      have q3 : (x_1 : Int32) = 18 := eToI (hx.trans (by decide))
      replace h := h.2.2.2.2.2.2.2.2.2.2.2.2.2.2.2.2.2.2.1 q3
      refine y_tableAt (tg := 448) dX13_text_4 q3 (by decide) (by decide) rfl (by decide) ?_
      exact h
    | 19, hi, hx =>
      have q3 : (x_1 : Int32) = 19 := eToI (hx.trans (by decide))
      replace h := h.2.2.2.2.2.2.2.2.2.2.2.2.2.2.2.2.2.2.2.1 q3
      refine y_tableAt (tg := 448) dX13_text_4 q3 (by decide) (by decide) rfl (by decide) ?_
      exact h
    | 20, hi, hx =>
      have q3 : (x_1 : Int32) = 20 := eToI (hx.trans (by decide))
      replace h := h.2.2.2.2.2.2.2.2.2.2.2.2.2.2.2.2.2.2.2.2.1 q3
      refine y_tableAt (tg := 284) dX13_text_4 q3 (by decide) (by decide) rfl (by decide) ?_
      exact h
    | 21, hi, hx =>
      have q3 : (x_1 : Int32) = 21 := eToI (hx.trans (by decide))
      replace h := h.2.2.2.2.2.2.2.2.2.2.2.2.2.2.2.2.2.2.2.2.2.1 q3
      refine y_tableAt (tg := 307) dX13_text_4 q3 (by decide) (by decide) rfl (by decide) ?_
      exact h
    | 22, hi, hx =>
      have q3 : (x_1 : Int32) = 22 := eToI (hx.trans (by decide))
      replace h := h.2.2.2.2.2.2.2.2.2.2.2.2.2.2.2.2.2.2.2.2.2.2.1 q3
      refine y_tableAt (tg := 330) dX13_text_4 q3 (by decide) (by decide) rfl (by decide) ?_
      exact h
    | 23, hi, hx =>
      have q3 : (x_1 : Int32) = 23 := eToI (hx.trans (by decide))
      replace h := h.2.2.2.2.2.2.2.2.2.2.2.2.2.2.2.2.2.2.2.2.2.2.2.1 q3
      refine y_tableAt (tg := 356) dX13_text_4 q3 (by decide) (by decide) rfl (by decide) ?_
      exact h
    | 24, hi, hx =>
      have q3 : (x_1 : Int32) = 24 := eToI (hx.trans (by decide))
      replace h := h.2.2.2.2.2.2.2.2.2.2.2.2.2.2.2.2.2.2.2.2.2.2.2.2 q3
      refine y_tableAt (tg := 402) dX13_text_4 q3 (by decide) (by decide) rfl (by decide) ?_
      exact h
    | i + 25, hi, hx => exact absurd hi (by omega)
