set_option maxHeartbeats 4000000 in
set_option maxRecDepth 100000 in
theorem C_L_cell (G : eG) (M : eM) (H : yH) (F : Int32 → eM → yH → Prop) (a0 : Nat) (x1 : Int32)
    (h : ∃ (n_1 : Nat), yLn G 0 H a0 n_1 ∧ ((((nI n_1) ≤ x1) → F ((790386105 : Int32) * (x1 + 3)) M H) ∧ ((¬ (nI n_1) ≤ x1) → ∃ (x_2 : Int32), yEI G H a0 x1 x_2 ∧ (F x_2 M H)))) :
    yCal G (1, 0, 0) kL_cell [.ref a0, .int x1] M H (yFI F) := by
  refine yCal.of (by decide +kernel) rfl (Nat.le_of_ble_eq_true rfl) ?_
  show Yx (yX "cell") (yZ G 0 0 (yFI F)) G (eR (1, 0, 0)) kL_cell 0 [(0, .ref a0), (1, .int x1)] [] M H 0 0
  refine y_iload_n 1 dL_cell_0 rfl rfl ?_
  refine y_aload_n 0 dL_cell_1 rfl rfl ?_
  obtain ⟨n_1, ⟨v_1, e1_1, e2_1⟩, h⟩ := h
  refine y_alenx (t := 0) (ty := .int) dL_cell_2 rfl e1_1 e2_1 ?_
  refine y_icmp_ge (t := 12) dL_cell_3 (by decide) (fun q => ?_) (fun q => ?_)
  · replace h := h.1 q
    refine y_ldc dL_cell_12 lCL_8 ?_
    refine y_iload_n 1 dL_cell_14 rfl rfl ?_
    refine y_iconst (v := 3) dL_cell_15 rfl ?_
    refine y_iadd dL_cell_16 ?_
    refine y_imul dL_cell_17 ?_
    exact y_iret dL_cell_18 rfl (Nat.zero_le _) (Nat.zero_le _) ⟨_, rfl, h⟩
  · replace h := h.2 q
    refine y_aload_n 0 dL_cell_6 rfl rfl ?_
    refine y_iload_n 1 dL_cell_7 rfl rfl ?_
    obtain ⟨x_2, ⟨N_2, f_2, e1_2, e2_2, e3_2⟩, h⟩ := h
    refine y_ialdx dL_cell_8 e1_2 e2_2 e3_2 ?_
    refine y_goto (t := 18) dL_cell_9 (by decide) ?_
    exact y_iret dL_cell_18 rfl (Nat.zero_le _) (Nat.zero_le _) ⟨_, rfl, h⟩
set_option maxHeartbeats 4000000 in
set_option maxRecDepth 100000 in
theorem B_L_taught_81 (G : eG) (ca sl : Nat) (M : eM) (H : yH) (F : Int32 → eM → yH → Prop) (a1 : Nat) (a2 : Nat) (x3 : Int32) (x4 : Int32) (x5 : Int32)
    (h : Yx (yX "taught") (yZ G 1 5 (yFI F)) G (eR (104, 1, 5)) kL_taught 36 [(0, .ref (G.1 0)), (1, .ref a1), (2, .ref a2), (3, .int x3), (4, .int x4), (5, .int (x5 + 1))] [] M H ca sl) :
    Yx (yX "taught") (yZ G 1 5 (yFI F)) G (eR (104, 1, 5)) kL_taught 81 [(0, .ref (G.1 0)), (1, .ref a1), (2, .ref a2), (3, .int x3), (4, .int x4), (5, .int x5)] [] M H ca sl := by
  refine y_iinc (v := x5 + 1) (l' := [(5, .int (x5 + 1)), (0, .ref (G.1 0)), (1, .ref a1), (2, .ref a2), (3, .int x3), (4, .int x4)]) 5 dL_taught_81 rfl rfl (by decide) rfl ?_
  refine y_goto (t := 36) dL_taught_84 (by decide) ?_
  exact Yx.sub (ks := [1, 2, 3, 4, 5, 0]) rfl h
set_option maxHeartbeats 4000000 in
set_option maxRecDepth 100000 in
theorem B_L_taught_36 (G : eG) (ca sl : Nat) (M : eM) (H : yH) (F : Int32 → eM → yH → Prop) (a1 : Nat) (a2 : Nat) (x3 : Int32) (x4 : Int32) (x5 : Int32)
    (h : ((((x3 + ((4 : Int32) * x4)) + 4) ≤ x5) → Yx (yX "taught") (yZ G 1 5 (yFI F)) G (eR (104, 1, 5)) kL_taught 17 [(0, .ref (G.1 0)), (1, .ref a1), (2, .ref a2), (3, .int x3), (4, .int (x4 + 1))] [] M H ca sl) ∧ ((¬ ((x3 + ((4 : Int32) * x4)) + 4) ≤ x5) → ∃ (x_1 : Int32), yEI G H a2 x4 x_1 ∧ ((ca + 0 ≤ 1 ∧ sl + 0 ≤ 5) ∧ yIs H a1 13 ∧ ∃ r_2 : Int32, yRd G (2, 0, 0) kJ0_length_8abf5 [.ref a1] M H (.int r_2) ∧ (((r_2 ≤ x5) → ∃ (N_3 : Nat) (f_3 : Nat → Int32), H a2 = some (.inl (G.2.2.2 0, (N_3, .inl f_3))) ∧ vp_in x4 N_3 ∧ (Yx (yX "taught") (yZ G 1 5 (yFI F)) G (eR (104, 1, 5)) kL_taught 81 [(0, .ref (G.1 0)), (1, .ref a1), (2, .ref a2), (3, .int x3), (4, .int x4), (5, .int x5)] [] M (yU H a2 (.inl (G.2.2.2 0, (N_3, .inl (upd f_3 x4.toNatClampNeg ((x_1 <<< ((8 : Int32) &&& 31)) ||| 32)))))) ca sl)) ∧ ((¬ r_2 ≤ x5) → (ca + 0 ≤ 1 ∧ sl + 0 ≤ 5) ∧ yIs H a1 13 ∧ ∃ r_3 : Int32, yRd G (4, 0, 0) kJ0_charAt_5068e [.ref a1, .int x5] M H (.int r_3) ∧ (∃ (N_4 : Nat) (f_4 : Nat → Int32), H a2 = some (.inl (G.2.2.2 0, (N_4, .inl f_4))) ∧ vp_in x4 N_4 ∧ (Yx (yX "taught") (yZ G 1 5 (yFI F)) G (eR (104, 1, 5)) kL_taught 81 [(0, .ref (G.1 0)), (1, .ref a1), (2, .ref a2), (3, .int x3), (4, .int x4), (5, .int x5)] [] M (yU H a2 (.inl (G.2.2.2 0, (N_4, .inl (upd f_4 x4.toNatClampNeg ((x_1 <<< ((8 : Int32) &&& 31)) ||| r_3)))))) ca sl))))))) :
    Yx (yX "taught") (yZ G 1 5 (yFI F)) G (eR (104, 1, 5)) kL_taught 36 [(0, .ref (G.1 0)), (1, .ref a1), (2, .ref a2), (3, .int x3), (4, .int x4), (5, .int x5)] [] M H ca sl := by
  refine y_iload 5 dL_taught_36 rfl ?_
  refine y_iload_n 3 dL_taught_38 rfl rfl ?_
  refine y_iconst (v := 4) dL_taught_39 rfl ?_
  refine y_iload 4 dL_taught_40 rfl ?_
  refine y_imul dL_taught_42 ?_
  refine y_iadd dL_taught_43 ?_
  refine y_iconst (v := 4) dL_taught_44 rfl ?_
  refine y_iadd dL_taught_45 ?_
  refine y_icmp_ge (t := 87) dL_taught_46 (by decide) (fun q => ?_) (fun q => ?_)
  · replace h := h.1 q
    refine y_iinc (v := x4 + 1) (l' := [(4, .int (x4 + 1)), (0, .ref (G.1 0)), (1, .ref a1), (2, .ref a2), (3, .int x3), (5, .int x5)]) 4 dL_taught_87 rfl rfl (by decide) rfl ?_
    refine y_goto (t := 17) dL_taught_90 (by decide) ?_
    exact Yx.sub (ks := [1, 2, 3, 4, 0]) rfl h
  · replace h := h.2 q
    refine y_aload_n 2 dL_taught_49 rfl rfl ?_
    refine y_iload 4 dL_taught_50 rfl ?_
    refine y_aload_n 2 dL_taught_52 rfl rfl ?_
    refine y_iload 4 dL_taught_53 rfl ?_
    obtain ⟨x_1, ⟨N_1, f_1, e1_1, e2_1, e3_1⟩, h⟩ := h
    refine y_ialdx dL_taught_55 e1_1 e2_1 e3_1 ?_
    refine y_bipush (v := 8) dL_taught_56 rfl ?_
    refine y_ishl dL_taught_58 ?_
    refine y_iload 5 dL_taught_59 rfl ?_
    refine y_aload_n 1 dL_taught_61 rfl rfl ?_
    have hb := h.1
    replace h := h.2
    obtain ⟨⟨fs_2, hi⟩, h⟩ := h
    obtain ⟨r_2, hc, h⟩ := h
    refine y_callV yXn (b' := (2, 0, 0)) (K' := kJ0_length_8abf5) (As := []) (S := [.int x5, .int (x_1 <<< ((8 : Int32) &&& 31)), .int x4, .ref a2]) dL_taught_62 mJ0_length_8abf5 lML_9 clJ0 rfl hi rfl ⟨(by decide), hb⟩ (Nat.le_of_ble_eq_true rfl) hc (fun v_ M_ H_ q_ => ?_) rfl
    obtain ⟨rfl, rfl, rfl⟩ := q_
    refine y_icmp_ge (t := 77) dL_taught_65 (by decide) (fun q => ?_) (fun q => ?_)
    · replace h := h.1 q
      refine y_bipush (v := 32) dL_taught_77 rfl ?_
      refine y_ior dL_taught_79 ?_
      obtain ⟨N_3, f_3, e1_3, e2_3, h⟩ := h
      refine y_iast yXn dL_taught_80 e1_3 e2_3 ?_
      exact h
    · replace h := h.2 q
      refine y_aload_n 1 dL_taught_68 rfl rfl ?_
      refine y_iload 5 dL_taught_69 rfl ?_
      have hb := h.1
      replace h := h.2
      obtain ⟨⟨fs_3, hi⟩, h⟩ := h
      obtain ⟨r_3, hc, h⟩ := h
      refine y_callV yXn (b' := (4, 0, 0)) (K' := kJ0_charAt_5068e) (As := [.int x5]) (S := [.int (x_1 <<< ((8 : Int32) &&& 31)), .int x4, .ref a2]) dL_taught_71 mJ0_charAt_5068e lML_15 clJ0 rfl hi rfl ⟨(by decide), hb⟩ (Nat.le_of_ble_eq_true rfl) hc (fun v_ M_ H_ q_ => ?_) rfl
      obtain ⟨rfl, rfl, rfl⟩ := q_
      refine y_goto (t := 79) dL_taught_74 (by decide) ?_
      refine y_ior dL_taught_79 ?_
      obtain ⟨N_4, f_4, e1_4, e2_4, h⟩ := h
      refine y_iast yXn dL_taught_80 e1_4 e2_4 ?_
      exact h
set_option maxHeartbeats 4000000 in
set_option maxRecDepth 100000 in
theorem B_L_taught_17 (G : eG) (ca sl : Nat) (M : eM) (H : yH) (F : Int32 → eM → yH → Prop) (a1 : Nat) (a2 : Nat) (x3 : Int32) (x4 : Int32)
    (h : (((5 : Int32) ≤ x4) → ∃ (x_1 : Int32), yEI G H a2 0 x_1 ∧ (∃ (x_2 : Int32), yEI G H a2 1 x_2 ∧ (∃ (x_3 : Int32), yEI G H a2 2 x_3 ∧ (∃ (x_4 : Int32), yEI G H a2 3 x_4 ∧ (∃ (x_5 : Int32), yEI G H a2 4 x_5 ∧ ((ca + 0 ≤ 1 ∧ sl + 0 ≤ 5) ∧ Cal G 0 68 (2, 0, 0) kX10_feed [.ref (G.1 0), .int x_1, .int x_2, .int x_3, .int x_4, .int x_5] M (eFI (fun (r_6 : Int32) (M_6 : eM) => Yx (yX "taught") (yZ G 1 5 (yFI F)) G (eR (104, 1, 5)) kL_taught 6 [(0, .ref (G.1 0)), (1, .ref a1), (2, .ref a2), (3, .int (x3 + 20))] [] M_6 H ca sl)))))))) ∧ ((¬ (5 : Int32) ≤ x4) → ∃ (N_1 : Nat) (f_1 : Nat → Int32), H a2 = some (.inl (G.2.2.2 0, (N_1, .inl f_1))) ∧ vp_in x4 N_1 ∧ (Yx (yX "taught") (yZ G 1 5 (yFI F)) G (eR (104, 1, 5)) kL_taught 36 [(0, .ref (G.1 0)), (1, .ref a1), (2, .ref a2), (3, .int x3), (4, .int x4), (5, .int (x3 + ((4 : Int32) * x4)))] [] M (yU H a2 (.inl (G.2.2.2 0, (N_1, .inl (upd f_1 x4.toNatClampNeg 0))))) ca sl))) :
    Yx (yX "taught") (yZ G 1 5 (yFI F)) G (eR (104, 1, 5)) kL_taught 17 [(0, .ref (G.1 0)), (1, .ref a1), (2, .ref a2), (3, .int x3), (4, .int x4)] [] M H ca sl := by
  refine y_iload 4 dL_taught_17 rfl ?_
  refine y_iconst (v := 5) dL_taught_19 rfl ?_
  refine y_icmp_ge (t := 93) dL_taught_20 (by decide) (fun q => ?_) (fun q => ?_)
  · replace h := h.1 q
    refine y_aload_n 0 dL_taught_93 rfl rfl ?_
    refine y_aload_n 2 dL_taught_94 rfl rfl ?_
    refine y_iconst (v := 0) dL_taught_95 rfl ?_
    obtain ⟨x_1, ⟨N_1, f_1, e1_1, e2_1, e3_1⟩, h⟩ := h
    refine y_ialdx dL_taught_96 e1_1 e2_1 e3_1 ?_
    refine y_aload_n 2 dL_taught_97 rfl rfl ?_
    refine y_iconst (v := 1) dL_taught_98 rfl ?_
    obtain ⟨x_2, ⟨N_2, f_2, e1_2, e2_2, e3_2⟩, h⟩ := h
    refine y_ialdx dL_taught_99 e1_2 e2_2 e3_2 ?_
    refine y_aload_n 2 dL_taught_100 rfl rfl ?_
    refine y_iconst (v := 2) dL_taught_101 rfl ?_
    obtain ⟨x_3, ⟨N_3, f_3, e1_3, e2_3, e3_3⟩, h⟩ := h
    refine y_ialdx dL_taught_102 e1_3 e2_3 e3_3 ?_
    refine y_aload_n 2 dL_taught_103 rfl rfl ?_
    refine y_iconst (v := 3) dL_taught_104 rfl ?_
    obtain ⟨x_4, ⟨N_4, f_4, e1_4, e2_4, e3_4⟩, h⟩ := h
    refine y_ialdx dL_taught_105 e1_4 e2_4 e3_4 ?_
    refine y_aload_n 2 dL_taught_106 rfl rfl ?_
    refine y_iconst (v := 4) dL_taught_107 rfl ?_
    obtain ⟨x_5, ⟨N_5, f_5, e1_5, e2_5, e3_5⟩, h⟩ := h
    refine y_ialdx dL_taught_108 e1_5 e2_5 e3_5 ?_
    have hb := h.1
    replace h := h.2
    refine y_callM yXn (b' := (2, 0, 0)) (K' := kX10_feed) (As := [.int x_1, .int x_2, .int x_3, .int x_4, .int x_5]) (S := []) dL_taught_109 mX10_feed lML_19 rfl rfl ⟨(by decide), hb⟩ (Nat.le_of_ble_eq_true rfl) (yCal.cls h) (fun v_ M_ H_ q_ => ?_) rfl
    obtain ⟨⟨r_6, rfl, h⟩, rfl⟩ := q_
    revert h
    generalize M_ = M_6
    intro h
    refine y_pop dL_taught_112 rfl ?_
    refine y_iinc (v := x3 + 20) (l' := [(3, .int (x3 + 20)), (0, .ref (G.1 0)), (1, .ref a1), (2, .ref a2), (4, .int x4)]) 3 dL_taught_113 rfl rfl (by decide) rfl ?_
    refine y_goto (t := 6) dL_taught_116 (by decide) ?_
    exact Yx.sub (ks := [1, 2, 3, 0]) rfl h
  · replace h := h.2 q
    refine y_aload_n 2 dL_taught_23 rfl rfl ?_
    refine y_iload 4 dL_taught_24 rfl ?_
    refine y_iconst (v := 0) dL_taught_26 rfl ?_
    obtain ⟨N_1, f_1, e1_1, e2_1, h⟩ := h
    refine y_iast yXn dL_taught_27 e1_1 e2_1 ?_
    refine y_iload_n 3 dL_taught_28 rfl rfl ?_
    refine y_iconst (v := 4) dL_taught_29 rfl ?_
    refine y_iload 4 dL_taught_30 rfl ?_
    refine y_imul dL_taught_32 ?_
    refine y_iadd dL_taught_33 ?_
    refine y_istore (i := 5) (l' := [(5, .int (x3 + ((4 : Int32) * x4))), (0, .ref (G.1 0)), (1, .ref a1), (2, .ref a2), (3, .int x3), (4, .int x4)]) dL_taught_34 (by decide) rfl ?_
    exact Yx.sub (ks := [1, 2, 3, 4, 5, 0]) rfl h
set_option maxHeartbeats 4000000 in
set_option maxRecDepth 100000 in
theorem B_L_taught_6 (G : eG) (ca sl : Nat) (M : eM) (H : yH) (F : Int32 → eM → yH → Prop) (a1 : Nat) (a2 : Nat) (x3 : Int32)
    (h : (ca + 0 ≤ 1 ∧ sl + 0 ≤ 5) ∧ yIs H a1 13 ∧ ∃ r_1 : Int32, yRd G (2, 0, 0) kJ0_length_8abf5 [.ref a1] M H (.int r_1) ∧ (((r_1 ≤ x3) → (ca + 0 ≤ 1 ∧ sl + 0 ≤ 5) ∧ yIs H a1 13 ∧ ∃ r_2 : Int32, yRd G (2, 0, 0) kJ0_length_8abf5 [.ref a1] M H (.int r_2) ∧ ((ca + 0 ≤ 1 ∧ sl + 0 ≤ 5) ∧ Cal G 0 68 (1, 0, 0) kX10_trim [.ref (G.1 0), .int r_2] M (eFI (fun (r_3 : Int32) (M_3 : eM) => (ca + 0 ≤ 1 ∧ sl + 0 ≤ 5) ∧ Cal G 0 68 (103, 0, 0) kX10_teach [.ref (G.1 0)] M_3 (eFI (fun (r_4 : Int32) (M_4 : eM) => (ca ≤ 1 ∧ sl ≤ 5) ∧ F r_4 M_4 H)))))) ∧ ((¬ r_1 ≤ x3) → Yx (yX "taught") (yZ G 1 5 (yFI F)) G (eR (104, 1, 5)) kL_taught 17 [(0, .ref (G.1 0)), (1, .ref a1), (2, .ref a2), (3, .int x3), (4, .int 0)] [] M H ca sl))) :
    Yx (yX "taught") (yZ G 1 5 (yFI F)) G (eR (104, 1, 5)) kL_taught 6 [(0, .ref (G.1 0)), (1, .ref a1), (2, .ref a2), (3, .int x3)] [] M H ca sl := by
  refine y_iload_n 3 dL_taught_6 rfl rfl ?_
  refine y_aload_n 1 dL_taught_7 rfl rfl ?_
  have hb := h.1
  replace h := h.2
  obtain ⟨⟨fs_1, hi⟩, h⟩ := h
  obtain ⟨r_1, hc, h⟩ := h
  refine y_callV yXn (b' := (2, 0, 0)) (K' := kJ0_length_8abf5) (As := []) (S := [.int x3]) dL_taught_8 mJ0_length_8abf5 lML_9 clJ0 rfl hi rfl ⟨(by decide), hb⟩ (Nat.le_of_ble_eq_true rfl) hc (fun v_ M_ H_ q_ => ?_) rfl
  obtain ⟨rfl, rfl, rfl⟩ := q_
  refine y_icmp_ge (t := 119) dL_taught_11 (by decide) (fun q => ?_) (fun q => ?_)
  · replace h := h.1 q
    refine y_aload_n 0 dL_taught_119 rfl rfl ?_
    refine y_aload_n 1 dL_taught_120 rfl rfl ?_
    have hb := h.1
    replace h := h.2
    obtain ⟨⟨fs_2, hi⟩, h⟩ := h
    obtain ⟨r_2, hc, h⟩ := h
    refine y_callV yXn (b' := (2, 0, 0)) (K' := kJ0_length_8abf5) (As := []) (S := [.ref (G.1 0)]) dL_taught_121 mJ0_length_8abf5 lML_9 clJ0 rfl hi rfl ⟨(by decide), hb⟩ (Nat.le_of_ble_eq_true rfl) hc (fun v_ M_ H_ q_ => ?_) rfl
    obtain ⟨rfl, rfl, rfl⟩ := q_
    have hb := h.1
    replace h := h.2
    refine y_callM yXn (b' := (1, 0, 0)) (K' := kX10_trim) (As := [.int r_2]) (S := []) dL_taught_124 mX10_trim lML_25 rfl rfl ⟨(by decide), hb⟩ (Nat.le_of_ble_eq_true rfl) (yCal.cls h) (fun v_ M_ H_ q_ => ?_) rfl
    obtain ⟨⟨r_3, rfl, h⟩, rfl⟩ := q_
    revert h
    generalize M_ = M_3
    intro h
    refine y_pop dL_taught_127 rfl ?_
    refine y_aload_n 0 dL_taught_128 rfl rfl ?_
    have hb := h.1
    replace h := h.2
    refine y_callM yXn (b' := (103, 0, 0)) (K' := kX10_teach) (As := []) (S := []) dL_taught_129 mX10_teach lML_29 rfl rfl ⟨(by decide), hb⟩ (Nat.le_of_ble_eq_true rfl) (yCal.cls h) (fun v_ M_ H_ q_ => ?_) rfl
    obtain ⟨⟨r_4, rfl, h⟩, rfl⟩ := q_
    revert h
    generalize M_ = M_4
    intro h
    have hb := h.1
    replace h := h.2
    exact y_iret dL_taught_132 rfl hb.1 hb.2 ⟨_, rfl, h⟩
  · replace h := h.2 q
    refine y_iconst (v := 0) dL_taught_14 rfl ?_
    refine y_istore (i := 4) (l' := [(4, .int 0), (0, .ref (G.1 0)), (1, .ref a1), (2, .ref a2), (3, .int x3)]) dL_taught_15 (by decide) rfl ?_
    exact Yx.sub (ks := [1, 2, 3, 4, 0]) rfl h
set_option maxHeartbeats 4000000 in
set_option maxRecDepth 100000 in
theorem C_L_taught (G : eG) (M : eM) (H : yH) (F : Int32 → eM → yH → Prop) (a1 : Nat)
    (h : ∃ N_1 : Nat, (¬ (5 : Int32) < 0) ∧ (5 : Int32).toNatClampNeg = N_1 ∧ N_1 * 4 ≤ 536870912 ∧ (0 + 1 ≤ 1 ∧ 0 + N_1 ≤ 5) ∧ ∀ q_1 : Nat, H q_1 = none → (Yx (yX "taught") (yZ G 1 5 (yFI F)) G (eR (104, 1, 5)) kL_taught 6 [(0, .ref (G.1 0)), (1, .ref a1), (2, .ref q_1), (3, .int 0)] [] M (yU H q_1 (.inl (G.2.2.2 0, (N_1, .inl (fun _ => 0))))) (0 + 1) (0 + N_1))) :
    yCal G (104, 1, 5) kL_taught [.ref (G.1 0), .ref a1] M H (yFI F) := by
  refine yCal.of (by decide +kernel) rfl (Nat.le_of_ble_eq_true rfl) ?_
  show Yx (yX "taught") (yZ G 1 5 (yFI F)) G (eR (104, 1, 5)) kL_taught 0 [(0, .ref (G.1 0)), (1, .ref a1)] [] M H 0 0
  refine y_iconst (v := 5) dL_taught_0 rfl ?_
  obtain ⟨N_1, z1_1, z2_1, z3_1, hb, h⟩ := h
  refine y_newi dL_taught_1 z1_1 z2_1 z3_1 hb (fun q_1 hq => ?_)
  replace h := h q_1 hq
  refine y_astore_n (i := 2) (l' := [(2, .ref q_1), (0, .ref (G.1 0)), (1, .ref a1)]) dL_taught_3 rfl (by decide) rfl ?_
  refine y_iconst (v := 0) dL_taught_4 rfl ?_
  refine y_istore_n (i := 3) (l' := [(3, .int 0), (2, .ref q_1), (0, .ref (G.1 0)), (1, .ref a1)]) dL_taught_5 rfl (by decide) rfl ?_
  exact Yx.sub (ks := [2, 3, 1, 0]) rfl h
set_option maxHeartbeats 4000000 in
set_option maxRecDepth 100000 in
theorem B_L_drawn_285 (G : eG) (ca sl : Nat) (M : eM) (H : yH) (F : Nat → eM → yH → Prop) (a0 : Nat) (a1 : Nat) (a4 : Nat) (x5 : Int32) (x7 : Int32) (x8 : Int32)
    (h : ((x7 ≤ x8) → (ca ≤ 1000 ∧ sl ≤ 1180000) ∧ F a4 M H) ∧ ((¬ x7 ≤ x8) → ∃ (b_1 : Nat), yG H a4 10 4 (.ref b_1) ∧ ((ca + 1 ≤ 1000 ∧ sl + 4 ≤ 1180000) ∧ ∀ q_2 : Nat, H q_2 = none → (((ca + 1) + 21 ≤ 1000 ∧ (sl + 4) + 83 ≤ 1180000) ∧ yCal G (7, 21, 83) kX14_init [.ref q_2, .ref a0, .int x5] M (yU H q_2 (.inr (12, [.int 0, .int 0, .null, .null]))) (yFV (fun (M_3 : eM) (H_3 : yH) => ∃ (N_4 : Nat) (f_4 : Nat → Option Nat) (fs_4 : List Value), H_3 b_1 = some (.inl (G.2.2.2 6, (N_4, .inr (.inr (.inr (.inr f_4)))))) ∧ vp_in x8 N_4 ∧ H_3 q_2 = some (.inr (12, fs_4)) ∧ (∃ (b_5 : Nat), yG (yU H_3 b_1 (.inl (G.2.2.2 6, (N_4, .inr (.inr (.inr (.inr (va_up f_4 x8.toNatClampNeg (some q_2))))))))) a4 10 4 (.ref b_5) ∧ (∃ (b_6 : Nat), yER G 6 (yU H_3 b_1 (.inl (G.2.2.2 6, (N_4, .inr (.inr (.inr (.inr (va_up f_4 x8.toNatClampNeg (some q_2))))))))) b_5 x8 b_6 ∧ (((ca + 1 + 21) + 194 ≤ 1000 ∧ (sl + 4 + 83) + 229200 ≤ 1180000) ∧ yIs (yU H_3 b_1 (.inl (G.2.2.2 6, (N_4, .inr (.inr (.inr (.inr (va_up f_4 x8.toNatClampNeg (some q_2))))))))) b_6 12 ∧ yCal G (11, 194, 229200) kX14_text [.ref b_6] M_3 (yU H_3 b_1 (.inl (G.2.2.2 6, (N_4, .inr (.inr (.inr (.inr (va_up f_4 x8.toNatClampNeg (some q_2))))))))) (yFR (fun (r_7 : Nat) (M_7 : eM) (H_7 : yH) => ((ca + 1 + 21 + 194) + 1 ≤ 1000 ∧ (sl + 4 + 83 + 229200) + 2200 ≤ 1180000) ∧ yIs H_7 a1 14 ∧ yCal G (6, 1, 2200) kJ4_append_15ec4 [.ref a1, .ref r_7] M_7 H_7 (yFR (fun (r_8 : Nat) (M_8 : eM) (H_8 : yH) => Yx (yX "drawn") (yZ G 1000 1180000 (yFR F)) G (eR (12, 1000, 1180000)) kL_drawn 285 [(0, .ref a0), (1, .ref a1), (4, .ref a4), (5, .int x5), (7, .int x7), (8, .int (x8 + 1))] [] M_8 H_8 (ca + 1 + 21 + 194 + 1) (sl + 4 + 83 + 229200 + 2200)))))))))))))) :
    Yx (yX "drawn") (yZ G 1000 1180000 (yFR F)) G (eR (12, 1000, 1180000)) kL_drawn 285 [(0, .ref a0), (1, .ref a1), (4, .ref a4), (5, .int x5), (7, .int x7), (8, .int x8)] [] M H ca sl := by
  refine y_iload 5 dL_drawn_285 rfl ?_
  refine y_iload 4 dL_drawn_287 rfl ?_
  refine y_icmp_ge (t := 332) dL_drawn_289 (by decide) (fun q => ?_) (fun q => ?_)
  · replace h := h.1 q
    refine y_aload 2 dL_drawn_332 rfl ?_
    have hb := h.1
    replace h := h.2
    exact y_aret dL_drawn_334 rfl (Or.inl ⟨_, rfl⟩) hb.1 hb.2 ⟨_, rfl, h⟩
  · replace h := h.2 q
    refine y_aload 2 dL_drawn_292 rfl ?_
    obtain ⟨b_1, ⟨fs_1, e1_1, e2_1⟩, h⟩ := h
    refine y_get (k := 4) dL_drawn_294 clX12 lFL_76 (by decide) e1_1 e2_1 ?_
    refine y_iload 5 dL_drawn_297 rfl ?_
    have hb := h.1
    replace h := h.2
    refine y_new dL_drawn_299 clX14 (tb7 _ (List.mem_of_getElem? (i := 27) rfl)) (tb7 _ (List.mem_of_getElem? (i := 28) rfl)) (tb1 _ (List.mem_of_getElem? (i := 26) rfl)) xd_X14 hb (fun q_2 hq => ?_)
    replace h := h q_2 hq
    refine y_dup dL_drawn_302 rfl ?_
    refine y_aload_n 0 dL_drawn_303 rfl rfl ?_
    refine y_iload 3 dL_drawn_304 rfl ?_
    have hb := h.1
    replace h := h.2
    refine y_callI yXn (b' := (7, 21, 83)) (K' := kX14_init) (As := [.ref a0, .int x5]) (a := q_2) (S := [.ref q_2, .int x8, .ref b_1]) dL_drawn_306 miX14_init lML_80 rfl ⟨(by decide), hb⟩ (Nat.le_of_ble_eq_true rfl) h (fun v_ M_3 H_3 q_ => ?_) rfl
    obtain ⟨rfl, h⟩ := q_
    obtain ⟨N_4, f_4, fs_4, e1_4, e2_4, e3_4, h⟩ := h
    refine y_astq yXn (t := 6) (ci := 12) dL_drawn_309 e1_4 rfl e3_4 rfl e2_4 ?_
    refine y_aload_n 1 dL_drawn_310 rfl rfl ?_
    refine y_aload 2 dL_drawn_311 rfl ?_
    obtain ⟨b_5, ⟨fs_5, e1_5, e2_5⟩, h⟩ := h
    refine y_get (k := 4) dL_drawn_313 clX12 lFL_76 (by decide) e1_5 e2_5 ?_
    refine y_iload 5 dL_drawn_316 rfl ?_
    obtain ⟨b_6, ⟨N_6, f_6, e1_6, e2_6, e3_6⟩, h⟩ := h
    refine y_aald (t := 6) (ty := .object "RingDominoLaw$Order") dL_drawn_318 rfl rfl e1_6 e2_6 e3_6 ?_
    have hb := h.1
    replace h := h.2
    obtain ⟨⟨fs_7, hi⟩, h⟩ := h
    refine y_callV yXn (b' := (11, 194, 229200)) (K' := kX14_text) (As := []) (S := [.ref a1]) dL_drawn_319 mX14_text lML_83 clX14 rfl hi rfl ⟨(by decide), hb⟩ (Nat.le_of_ble_eq_true rfl) h (fun v_ M_7 H_7 q_ => ?_) rfl
    obtain ⟨r_7, rfl, h⟩ := q_
    have hb := h.1
    replace h := h.2
    obtain ⟨⟨fs_8, hi⟩, h⟩ := h
    refine y_callV yXn (b' := (6, 1, 2200)) (K' := kJ4_append_15ec4) (As := [.ref r_7]) (S := []) dL_drawn_322 mJ4_append_15ec4 lML_49 clJ4 rfl hi rfl ⟨(by decide), hb⟩ (Nat.le_of_ble_eq_true rfl) h (fun v_ M_8 H_8 q_ => ?_) rfl
    obtain ⟨r_8, rfl, h⟩ := q_
    refine y_pop dL_drawn_325 rfl ?_
    refine y_iinc (v := x8 + 1) (l' := [(8, .int (x8 + 1)), (0, .ref a0), (1, .ref a1), (4, .ref a4), (5, .int x5), (7, .int x7)]) 5 dL_drawn_326 rfl rfl (by decide) rfl ?_
    refine y_goto (t := 285) dL_drawn_329 (by decide) ?_
    exact Yx.sub (ks := [1, 2, 3, 4, 5, 0]) rfl h
set_option maxHeartbeats 4000000 in
set_option maxRecDepth 100000 in
theorem B_L_drawn_272 (G : eG) (ca sl : Nat) (M : eM) (H : yH) (F : Nat → eM → yH → Prop) (a0 : Nat) (a1 : Nat) (a4 : Nat) (x5 : Int32) (x7 : Int32)
    (h : ∃ N_1 : Nat, (¬ x7 < 0) ∧ x7.toNatClampNeg = N_1 ∧ N_1 * 4 ≤ 536870912 ∧ (ca + 1 ≤ 1000 ∧ sl + N_1 ≤ 1180000) ∧ ∀ q_1 : Nat, H q_1 = none → (∃ (fs_2 : List Value), (yU H q_1 (.inl (G.2.2.2 6, (N_1, .inr (.inr (.inr (.inr (fun _ => none)))))))) a4 = some (.inr (10, fs_2)) ∧ 4 < fs_2.length ∧ (Yx (yX "drawn") (yZ G 1000 1180000 (yFR F)) G (eR (12, 1000, 1180000)) kL_drawn 285 [(0, .ref a0), (1, .ref a1), (4, .ref a4), (5, .int x5), (7, .int x7), (8, .int 0)] [] M (yU (yU H q_1 (.inl (G.2.2.2 6, (N_1, .inr (.inr (.inr (.inr (fun _ => none)))))))) a4 (.inr (10, fs_2.set 4 (.ref q_1)))) (ca + 1) (sl + N_1)))) :
    Yx (yX "drawn") (yZ G 1000 1180000 (yFR F)) G (eR (12, 1000, 1180000)) kL_drawn 272 [(0, .ref a0), (1, .ref a1), (4, .ref a4), (5, .int x5), (7, .int x7)] [] M H ca sl := by
  refine y_aload 2 dL_drawn_272 rfl ?_
  refine y_iload 4 dL_drawn_274 rfl ?_
  obtain ⟨N_1, z1_1, z2_1, z3_1, hb, h⟩ := h
  refine y_newq (t := 6) (fun s m c A z => (yXn s m c A z).2.2.1) dL_drawn_276 (tb7 _ (List.mem_of_getElem? (i := 27) rfl)) rfl z1_1 z2_1 z3_1 hb (fun q_1 hq => ?_)
  replace h := h q_1 hq
  obtain ⟨fs_2, e1_2, e2_2, h⟩ := h
  refine y_put (k := 4) (ft := tyX12 4) dL_drawn_279 clX12 lFL_76 (by decide) e1_2 e2_2 rfl (clX12.2.2.1 4 (by decide)) rfl rfl ?_
  refine y_iconst (v := 0) dL_drawn_282 rfl ?_
  refine y_istore (i := 8) (l' := [(8, .int 0), (0, .ref a0), (1, .ref a1), (4, .ref a4), (5, .int x5), (7, .int x7)]) dL_drawn_283 (by decide) rfl ?_
  exact Yx.sub (ks := [1, 2, 3, 4, 5, 0]) rfl h
set_option maxHeartbeats 4000000 in
set_option maxRecDepth 100000 in
theorem B_L_drawn_177 (G : eG) (ca sl : Nat) (M : eM) (H : yH) (F : Nat → eM → yH → Prop) (a0 : Nat) (a1 : Nat) (x3 : Int32) (a4 : Nat) (x5 : Int32) (x6 : Int32) (x7 : Int32)
    (h : (ca + 1 ≤ 1000 ∧ sl + 2200 ≤ 1180000) ∧ yIs H a1 14 ∧ yCal G (6, 1, 2200) kJ4_append_15ec4 [.ref a1, .ref (G.1 1703)] M H (yFR (fun (r_1 : Nat) (M_1 : eM) (H_1 : yH) => ((ca + 1) + 1 ≤ 1000 ∧ (sl + 2200) + 2200 ≤ 1180000) ∧ yIs H_1 r_1 14 ∧ yCal G (6, 1, 2200) kJ4_append_bf812 [.ref r_1, .int x7] M_1 H_1 (yFR (fun (r_2 : Nat) (M_2 : eM) (H_2 : yH) => ((ca + 1 + 1) + 1 ≤ 1000 ∧ (sl + 2200 + 2200) + 2200 ≤ 1180000) ∧ yIs H_2 r_2 14 ∧ yCal G (6, 1, 2200) kJ4_append_15ec4 [.ref r_2, .ref (G.1 1704)] M_2 H_2 (yFR (fun (r_3 : Nat) (M_3 : eM) (H_3 : yH) => ∃ (b_4 : Nat), yG H_3 a4 10 2 (.ref b_4) ∧ (∃ (b_5 : Nat), yER G 5 H_3 b_4 x7 b_5 ∧ (∃ (x_6 : Int32), yEI G H_3 b_5 0 x_6 ∧ (((ca + 1 + 1 + 1) + 1 ≤ 1000 ∧ (sl + 2200 + 2200 + 2200) + 2200 ≤ 1180000) ∧ yIs H_3 r_3 14 ∧ yCal G (6, 1, 2200) kJ4_append_bf812 [.ref r_3, .int x_6] M_3 H_3 (yFR (fun (r_7 : Nat) (M_7 : eM) (H_7 : yH) => ((ca + 1 + 1 + 1 + 1) + 1 ≤ 1000 ∧ (sl + 2200 + 2200 + 2200 + 2200) + 2200 ≤ 1180000) ∧ yIs H_7 r_7 14 ∧ yCal G (6, 1, 2200) kJ4_append_15ec4 [.ref r_7, .ref (G.1 1704)] M_7 H_7 (yFR (fun (r_8 : Nat) (M_8 : eM) (H_8 : yH) => ∃ (b_9 : Nat), yG H_8 a4 10 2 (.ref b_9) ∧ (∃ (b_10 : Nat), yER G 5 H_8 b_9 x7 b_10 ∧ (∃ (x_11 : Int32), yEI G H_8 b_10 1 x_11 ∧ (((ca + 1 + 1 + 1 + 1 + 1) + 1 ≤ 1000 ∧ (sl + 2200 + 2200 + 2200 + 2200 + 2200) + 2200 ≤ 1180000) ∧ yIs H_8 r_8 14 ∧ yCal G (6, 1, 2200) kJ4_append_bf812 [.ref r_8, .int x_11] M_8 H_8 (yFR (fun (r_12 : Nat) (M_12 : eM) (H_12 : yH) => ((ca + 1 + 1 + 1 + 1 + 1 + 1) + 1 ≤ 1000 ∧ (sl + 2200 + 2200 + 2200 + 2200 + 2200 + 2200) + 2200 ≤ 1180000) ∧ yIs H_12 r_12 14 ∧ yCal G (6, 1, 2200) kJ4_append_15ec4 [.ref r_12, .ref (G.1 1704)] M_12 H_12 (yFR (fun (r_13 : Nat) (M_13 : eM) (H_13 : yH) => ∃ (b_14 : Nat), yG H_13 a4 10 2 (.ref b_14) ∧ (∃ (b_15 : Nat), yER G 5 H_13 b_14 x7 b_15 ∧ (∃ (x_16 : Int32), yEI G H_13 b_15 2 x_16 ∧ (((ca + 1 + 1 + 1 + 1 + 1 + 1 + 1) + 1 ≤ 1000 ∧ (sl + 2200 + 2200 + 2200 + 2200 + 2200 + 2200 + 2200) + 2200 ≤ 1180000) ∧ yIs H_13 r_13 14 ∧ yCal G (6, 1, 2200) kJ4_append_bf812 [.ref r_13, .int x_16] M_13 H_13 (yFR (fun (r_17 : Nat) (M_17 : eM) (H_17 : yH) => ((ca + 1 + 1 + 1 + 1 + 1 + 1 + 1 + 1) + 1 ≤ 1000 ∧ (sl + 2200 + 2200 + 2200 + 2200 + 2200 + 2200 + 2200 + 2200) + 2200 ≤ 1180000) ∧ yIs H_17 r_17 14 ∧ yCal G (6, 1, 2200) kJ4_append_15ec4 [.ref r_17, .ref (G.1 1705)] M_17 H_17 (yFR (fun (r_18 : Nat) (M_18 : eM) (H_18 : yH) => Yx (yX "drawn") (yZ G 1000 1180000 (yFR F)) G (eR (12, 1000, 1180000)) kL_drawn 108 [(0, .ref a0), (1, .ref a1), (3, .int x3), (4, .ref a4), (5, .int x5), (6, .int x6), (7, .int (x7 + 1))] [] M_18 H_18 (ca + 1 + 1 + 1 + 1 + 1 + 1 + 1 + 1 + 1) (sl + 2200 + 2200 + 2200 + 2200 + 2200 + 2200 + 2200 + 2200 + 2200))))))))))))))))))))))))))))) :
    Yx (yX "drawn") (yZ G 1000 1180000 (yFR F)) G (eR (12, 1000, 1180000)) kL_drawn 177 [(0, .ref a0), (1, .ref a1), (3, .int x3), (4, .ref a4), (5, .int x5), (6, .int x6), (7, .int x7)] [] M H ca sl := by
  refine y_aload_n 1 dL_drawn_177 rfl rfl ?_
  refine y_ldcS (j := 1703) dL_drawn_178 (List.mem_of_getElem? (i := 3) rfl) ?_
  have hb := h.1
  replace h := h.2
  obtain ⟨⟨fs_1, hi⟩, h⟩ := h
  refine y_callV yXn (b' := (6, 1, 2200)) (K' := kJ4_append_15ec4) (As := [.ref (G.1 1703)]) (S := []) dL_drawn_180 mJ4_append_15ec4 lML_49 clJ4 rfl hi rfl ⟨(by decide), hb⟩ (Nat.le_of_ble_eq_true rfl) h (fun v_ M_1 H_1 q_ => ?_) rfl
  obtain ⟨r_1, rfl, h⟩ := q_
  refine y_iload 6 dL_drawn_183 rfl ?_
  have hb := h.1
  replace h := h.2
  obtain ⟨⟨fs_2, hi⟩, h⟩ := h
  refine y_callV yXn (b' := (6, 1, 2200)) (K' := kJ4_append_bf812) (As := [.int x7]) (S := []) dL_drawn_185 mJ4_append_bf812 lML_55 clJ4 rfl hi rfl ⟨(by decide), hb⟩ (Nat.le_of_ble_eq_true rfl) h (fun v_ M_2 H_2 q_ => ?_) rfl
  obtain ⟨r_2, rfl, h⟩ := q_
  refine y_ldcS (j := 1704) dL_drawn_188 (List.mem_of_getElem? (i := 4) rfl) ?_
  have hb := h.1
  replace h := h.2
  obtain ⟨⟨fs_3, hi⟩, h⟩ := h
  refine y_callV yXn (b' := (6, 1, 2200)) (K' := kJ4_append_15ec4) (As := [.ref (G.1 1704)]) (S := []) dL_drawn_190 mJ4_append_15ec4 lML_49 clJ4 rfl hi rfl ⟨(by decide), hb⟩ (Nat.le_of_ble_eq_true rfl) h (fun v_ M_3 H_3 q_ => ?_) rfl
  obtain ⟨r_3, rfl, h⟩ := q_
  refine y_aload 3 dL_drawn_193 rfl ?_
  obtain ⟨b_4, ⟨fs_4, e1_4, e2_4⟩, h⟩ := h
  refine y_get (k := 2) dL_drawn_195 clX12 lFL_64 (by decide) e1_4 e2_4 ?_
  refine y_iload 6 dL_drawn_198 rfl ?_
  obtain ⟨b_5, ⟨N_5, f_5, e1_5, e2_5, e3_5⟩, h⟩ := h
  refine y_aald (t := 5) (ty := .array .int) dL_drawn_200 rfl rfl e1_5 e2_5 e3_5 ?_
  refine y_iconst (v := 0) dL_drawn_201 rfl ?_
  obtain ⟨x_6, ⟨N_6, f_6, e1_6, e2_6, e3_6⟩, h⟩ := h
  refine y_ialdx dL_drawn_202 e1_6 e2_6 e3_6 ?_
  have hb := h.1
  replace h := h.2
  obtain ⟨⟨fs_7, hi⟩, h⟩ := h
  refine y_callV yXn (b' := (6, 1, 2200)) (K' := kJ4_append_bf812) (As := [.int x_6]) (S := []) dL_drawn_203 mJ4_append_bf812 lML_55 clJ4 rfl hi rfl ⟨(by decide), hb⟩ (Nat.le_of_ble_eq_true rfl) h (fun v_ M_7 H_7 q_ => ?_) rfl
  obtain ⟨r_7, rfl, h⟩ := q_
  refine y_ldcS (j := 1704) dL_drawn_206 (List.mem_of_getElem? (i := 4) rfl) ?_
  have hb := h.1
  replace h := h.2
  obtain ⟨⟨fs_8, hi⟩, h⟩ := h
  refine y_callV yXn (b' := (6, 1, 2200)) (K' := kJ4_append_15ec4) (As := [.ref (G.1 1704)]) (S := []) dL_drawn_208 mJ4_append_15ec4 lML_49 clJ4 rfl hi rfl ⟨(by decide), hb⟩ (Nat.le_of_ble_eq_true rfl) h (fun v_ M_8 H_8 q_ => ?_) rfl
  obtain ⟨r_8, rfl, h⟩ := q_
  refine y_aload 3 dL_drawn_211 rfl ?_
  obtain ⟨b_9, ⟨fs_9, e1_9, e2_9⟩, h⟩ := h
  refine y_get (k := 2) dL_drawn_213 clX12 lFL_64 (by decide) e1_9 e2_9 ?_
  refine y_iload 6 dL_drawn_216 rfl ?_
  obtain ⟨b_10, ⟨N_10, f_10, e1_10, e2_10, e3_10⟩, h⟩ := h
  refine y_aald (t := 5) (ty := .array .int) dL_drawn_218 rfl rfl e1_10 e2_10 e3_10 ?_
  refine y_iconst (v := 1) dL_drawn_219 rfl ?_
  obtain ⟨x_11, ⟨N_11, f_11, e1_11, e2_11, e3_11⟩, h⟩ := h
  refine y_ialdx dL_drawn_220 e1_11 e2_11 e3_11 ?_
  have hb := h.1
  replace h := h.2
  obtain ⟨⟨fs_12, hi⟩, h⟩ := h
  refine y_callV yXn (b' := (6, 1, 2200)) (K' := kJ4_append_bf812) (As := [.int x_11]) (S := []) dL_drawn_221 mJ4_append_bf812 lML_55 clJ4 rfl hi rfl ⟨(by decide), hb⟩ (Nat.le_of_ble_eq_true rfl) h (fun v_ M_12 H_12 q_ => ?_) rfl
  obtain ⟨r_12, rfl, h⟩ := q_
  refine y_ldcS (j := 1704) dL_drawn_224 (List.mem_of_getElem? (i := 4) rfl) ?_
  have hb := h.1
  replace h := h.2
  obtain ⟨⟨fs_13, hi⟩, h⟩ := h
  refine y_callV yXn (b' := (6, 1, 2200)) (K' := kJ4_append_15ec4) (As := [.ref (G.1 1704)]) (S := []) dL_drawn_226 mJ4_append_15ec4 lML_49 clJ4 rfl hi rfl ⟨(by decide), hb⟩ (Nat.le_of_ble_eq_true rfl) h (fun v_ M_13 H_13 q_ => ?_) rfl
  obtain ⟨r_13, rfl, h⟩ := q_
  refine y_aload 3 dL_drawn_229 rfl ?_
  obtain ⟨b_14, ⟨fs_14, e1_14, e2_14⟩, h⟩ := h
  refine y_get (k := 2) dL_drawn_231 clX12 lFL_64 (by decide) e1_14 e2_14 ?_
  refine y_iload 6 dL_drawn_234 rfl ?_
  obtain ⟨b_15, ⟨N_15, f_15, e1_15, e2_15, e3_15⟩, h⟩ := h
  refine y_aald (t := 5) (ty := .array .int) dL_drawn_236 rfl rfl e1_15 e2_15 e3_15 ?_
  refine y_iconst (v := 2) dL_drawn_237 rfl ?_
  obtain ⟨x_16, ⟨N_16, f_16, e1_16, e2_16, e3_16⟩, h⟩ := h
  refine y_ialdx dL_drawn_238 e1_16 e2_16 e3_16 ?_
  have hb := h.1
  replace h := h.2
  obtain ⟨⟨fs_17, hi⟩, h⟩ := h
  refine y_callV yXn (b' := (6, 1, 2200)) (K' := kJ4_append_bf812) (As := [.int x_16]) (S := []) dL_drawn_239 mJ4_append_bf812 lML_55 clJ4 rfl hi rfl ⟨(by decide), hb⟩ (Nat.le_of_ble_eq_true rfl) h (fun v_ M_17 H_17 q_ => ?_) rfl
  obtain ⟨r_17, rfl, h⟩ := q_
  refine y_ldcS (j := 1705) dL_drawn_242 (List.mem_of_getElem? (i := 5) rfl) ?_
  have hb := h.1
  replace h := h.2
  obtain ⟨⟨fs_18, hi⟩, h⟩ := h
  refine y_callV yXn (b' := (6, 1, 2200)) (K' := kJ4_append_15ec4) (As := [.ref (G.1 1705)]) (S := []) dL_drawn_244 mJ4_append_15ec4 lML_49 clJ4 rfl hi rfl ⟨(by decide), hb⟩ (Nat.le_of_ble_eq_true rfl) h (fun v_ M_18 H_18 q_ => ?_) rfl
  obtain ⟨r_18, rfl, h⟩ := q_
  refine y_pop dL_drawn_247 rfl ?_
  refine y_iinc (v := x7 + 1) (l' := [(7, .int (x7 + 1)), (0, .ref a0), (1, .ref a1), (3, .int x3), (4, .ref a4), (5, .int x5), (6, .int x6)]) 6 dL_drawn_248 rfl rfl (by decide) rfl ?_
  refine y_goto (t := 108) dL_drawn_251 (by decide) ?_
  exact Yx.sub (ks := [1, 2, 3, 4, 5, 6, 0]) rfl h
set_option maxHeartbeats 4000000 in
set_option maxRecDepth 100000 in
theorem B_L_drawn_108 (G : eG) (ca sl : Nat) (M : eM) (H : yH) (F : Nat → eM → yH → Prop) (a0 : Nat) (a1 : Nat) (x3 : Int32) (a4 : Nat) (x5 : Int32) (x6 : Int32) (x7 : Int32)
    (h : ((x5 ≤ x7) → ((¬ x5 = (0 : Int32)) → (ca + 0 ≤ 1000 ∧ sl + 0 ≤ 1180000) ∧ yIs H a0 9 ∧ yCal G (2, 0, 0) kX11_next [.ref a0, .int (x3 + 1)] M H (yFI (fun (r_1 : Int32) (M_1 : eM) (H_1 : yH) => Yx (yX "drawn") (yZ G 1000 1180000 (yFR F)) G (eR (12, 1000, 1180000)) kL_drawn 272 [(0, .ref a0), (1, .ref a1), (4, .ref a4), (5, .int x5), (7, .int r_1)] [] M_1 H_1 ca sl))) ∧ ((x5 = (0 : Int32)) → Yx (yX "drawn") (yZ G 1000 1180000 (yFR F)) G (eR (12, 1000, 1180000)) kL_drawn 272 [(0, .ref a0), (1, .ref a1), (4, .ref a4), (5, .int x5), (7, .int 0)] [] M H ca sl)) ∧ ((¬ x5 ≤ x7) → ∃ (b_1 : Nat), yG H a4 10 2 (.ref b_1) ∧ (∃ N_2 : Nat, (¬ (5 : Int32) < 0) ∧ (5 : Int32).toNatClampNeg = N_2 ∧ N_2 * 4 ≤ 536870912 ∧ (ca + 1 ≤ 1000 ∧ sl + N_2 ≤ 1180000) ∧ ∀ q_2 : Nat, H q_2 = none → (((ca + 1) + 0 ≤ 1000 ∧ (sl + N_2) + 0 ≤ 1180000) ∧ yIs (yU H q_2 (.inl (G.2.2.2 0, (N_2, .inl (fun _ => 0))))) a0 9 ∧ yCal G (2, 0, 0) kX11_next [.ref a0, .int x6] M (yU H q_2 (.inl (G.2.2.2 0, (N_2, .inl (fun _ => 0))))) (yFI (fun (r_3 : Int32) (M_3 : eM) (H_3 : yH) => ((ca + 1) + 0 ≤ 1000 ∧ (sl + N_2) + 0 ≤ 1180000) ∧ yIs H_3 a0 9 ∧ yCal G (2, 0, 0) kX11_next [.ref a0, .int 9] M_3 H_3 (yFI (fun (r_4 : Int32) (M_4 : eM) (H_4 : yH) => ((¬ r_4 = (0 : Int32)) → ∃ (N_5 : Nat) (f_5 : Nat → Int32), H_4 q_2 = some (.inl (G.2.2.2 0, (N_5, .inl f_5))) ∧ vp_in 0 N_5 ∧ (((ca + 1) + 0 ≤ 1000 ∧ (sl + N_2) + 0 ≤ 1180000) ∧ yIs (yU H_4 q_2 (.inl (G.2.2.2 0, (N_5, .inl (upd f_5 (0 : Int32).toNatClampNeg (r_3 + 0)))))) a0 9 ∧ yCal G (2, 0, 0) kX11_next [.ref a0, .int x6] M_4 (yU H_4 q_2 (.inl (G.2.2.2 0, (N_5, .inl (upd f_5 (0 : Int32).toNatClampNeg (r_3 + 0)))))) (yFI (fun (r_6 : Int32) (M_6 : eM) (H_6 : yH) => ∃ (N_7 : Nat) (f_7 : Nat → Int32), H_6 q_2 = some (.inl (G.2.2.2 0, (N_7, .inl f_7))) ∧ vp_in 1 N_7 ∧ (((ca + 1) + 0 ≤ 1000 ∧ (sl + N_2) + 0 ≤ 1180000) ∧ yIs (yU H_6 q_2 (.inl (G.2.2.2 0, (N_7, .inl (upd f_7 (1 : Int32).toNatClampNeg r_6))))) a0 9 ∧ yCal G (2, 0, 0) kX11_next [.ref a0, .int x6] M_6 (yU H_6 q_2 (.inl (G.2.2.2 0, (N_7, .inl (upd f_7 (1 : Int32).toNatClampNeg r_6))))) (yFI (fun (r_8 : Int32) (M_8 : eM) (H_8 : yH) => ∃ (N_9 : Nat) (f_9 : Nat → Int32), H_8 q_2 = some (.inl (G.2.2.2 0, (N_9, .inl f_9))) ∧ vp_in 2 N_9 ∧ (∃ (N_10 : Nat) (f_10 : Nat → Int32), (yU H_8 q_2 (.inl (G.2.2.2 0, (N_9, .inl (upd f_9 (2 : Int32).toNatClampNeg r_8))))) q_2 = some (.inl (G.2.2.2 0, (N_10, .inl f_10))) ∧ vp_in 3 N_10 ∧ (∃ (N_11 : Nat) (f_11 : Nat → Int32), (yU (yU H_8 q_2 (.inl (G.2.2.2 0, (N_9, .inl (upd f_9 (2 : Int32).toNatClampNeg r_8))))) q_2 (.inl (G.2.2.2 0, (N_10, .inl (upd f_10 (3 : Int32).toNatClampNeg (-1)))))) q_2 = some (.inl (G.2.2.2 0, (N_11, .inl f_11))) ∧ vp_in 4 N_11 ∧ (∃ (N_12 : Nat) (f_12 : Nat → Option Nat) (m_12 : Nat) (g_12 : Nat → Int32), (yU (yU (yU H_8 q_2 (.inl (G.2.2.2 0, (N_9, .inl (upd f_9 (2 : Int32).toNatClampNeg r_8))))) q_2 (.inl (G.2.2.2 0, (N_10, .inl (upd f_10 (3 : Int32).toNatClampNeg (-1)))))) q_2 (.inl (G.2.2.2 0, (N_11, .inl (upd f_11 (4 : Int32).toNatClampNeg 0))))) b_1 = some (.inl (G.2.2.2 5, (N_12, .inr (.inr (.inr (.inr f_12)))))) ∧ vp_in x7 N_12 ∧ (yU (yU (yU H_8 q_2 (.inl (G.2.2.2 0, (N_9, .inl (upd f_9 (2 : Int32).toNatClampNeg r_8))))) q_2 (.inl (G.2.2.2 0, (N_10, .inl (upd f_10 (3 : Int32).toNatClampNeg (-1)))))) q_2 (.inl (G.2.2.2 0, (N_11, .inl (upd f_11 (4 : Int32).toNatClampNeg 0))))) q_2 = some (.inl (G.2.2.2 0, (m_12, .inl g_12))) ∧ (Yx (yX "drawn") (yZ G 1000 1180000 (yFR F)) G (eR (12, 1000, 1180000)) kL_drawn 177 [(0, .ref a0), (1, .ref a1), (3, .int x3), (4, .ref a4), (5, .int x5), (6, .int x6), (7, .int x7)] [] M_8 (yU (yU (yU (yU H_8 q_2 (.inl (G.2.2.2 0, (N_9, .inl (upd f_9 (2 : Int32).toNatClampNeg r_8))))) q_2 (.inl (G.2.2.2 0, (N_10, .inl (upd f_10 (3 : Int32).toNatClampNeg (-1)))))) q_2 (.inl (G.2.2.2 0, (N_11, .inl (upd f_11 (4 : Int32).toNatClampNeg 0))))) b_1 (.inl (G.2.2.2 5, (N_12, .inr (.inr (.inr (.inr (va_up f_12 x7.toNatClampNeg (some q_2))))))))) (ca + 1) (sl + N_2)))))))))))) ∧ ((r_4 = (0 : Int32)) → ∃ (N_5 : Nat) (f_5 : Nat → Int32), H_4 q_2 = some (.inl (G.2.2.2 0, (N_5, .inl f_5))) ∧ vp_in 0 N_5 ∧ (((ca + 1) + 0 ≤ 1000 ∧ (sl + N_2) + 0 ≤ 1180000) ∧ yIs (yU H_4 q_2 (.inl (G.2.2.2 0, (N_5, .inl (upd f_5 (0 : Int32).toNatClampNeg (r_3 + 7)))))) a0 9 ∧ yCal G (2, 0, 0) kX11_next [.ref a0, .int x6] M_4 (yU H_4 q_2 (.inl (G.2.2.2 0, (N_5, .inl (upd f_5 (0 : Int32).toNatClampNeg (r_3 + 7)))))) (yFI (fun (r_6 : Int32) (M_6 : eM) (H_6 : yH) => ∃ (N_7 : Nat) (f_7 : Nat → Int32), H_6 q_2 = some (.inl (G.2.2.2 0, (N_7, .inl f_7))) ∧ vp_in 1 N_7 ∧ (((ca + 1) + 0 ≤ 1000 ∧ (sl + N_2) + 0 ≤ 1180000) ∧ yIs (yU H_6 q_2 (.inl (G.2.2.2 0, (N_7, .inl (upd f_7 (1 : Int32).toNatClampNeg r_6))))) a0 9 ∧ yCal G (2, 0, 0) kX11_next [.ref a0, .int x6] M_6 (yU H_6 q_2 (.inl (G.2.2.2 0, (N_7, .inl (upd f_7 (1 : Int32).toNatClampNeg r_6))))) (yFI (fun (r_8 : Int32) (M_8 : eM) (H_8 : yH) => ∃ (N_9 : Nat) (f_9 : Nat → Int32), H_8 q_2 = some (.inl (G.2.2.2 0, (N_9, .inl f_9))) ∧ vp_in 2 N_9 ∧ (∃ (N_10 : Nat) (f_10 : Nat → Int32), (yU H_8 q_2 (.inl (G.2.2.2 0, (N_9, .inl (upd f_9 (2 : Int32).toNatClampNeg r_8))))) q_2 = some (.inl (G.2.2.2 0, (N_10, .inl f_10))) ∧ vp_in 3 N_10 ∧ (∃ (N_11 : Nat) (f_11 : Nat → Int32), (yU (yU H_8 q_2 (.inl (G.2.2.2 0, (N_9, .inl (upd f_9 (2 : Int32).toNatClampNeg r_8))))) q_2 (.inl (G.2.2.2 0, (N_10, .inl (upd f_10 (3 : Int32).toNatClampNeg (-1)))))) q_2 = some (.inl (G.2.2.2 0, (N_11, .inl f_11))) ∧ vp_in 4 N_11 ∧ (∃ (N_12 : Nat) (f_12 : Nat → Option Nat) (m_12 : Nat) (g_12 : Nat → Int32), (yU (yU (yU H_8 q_2 (.inl (G.2.2.2 0, (N_9, .inl (upd f_9 (2 : Int32).toNatClampNeg r_8))))) q_2 (.inl (G.2.2.2 0, (N_10, .inl (upd f_10 (3 : Int32).toNatClampNeg (-1)))))) q_2 (.inl (G.2.2.2 0, (N_11, .inl (upd f_11 (4 : Int32).toNatClampNeg 0))))) b_1 = some (.inl (G.2.2.2 5, (N_12, .inr (.inr (.inr (.inr f_12)))))) ∧ vp_in x7 N_12 ∧ (yU (yU (yU H_8 q_2 (.inl (G.2.2.2 0, (N_9, .inl (upd f_9 (2 : Int32).toNatClampNeg r_8))))) q_2 (.inl (G.2.2.2 0, (N_10, .inl (upd f_10 (3 : Int32).toNatClampNeg (-1)))))) q_2 (.inl (G.2.2.2 0, (N_11, .inl (upd f_11 (4 : Int32).toNatClampNeg 0))))) q_2 = some (.inl (G.2.2.2 0, (m_12, .inl g_12))) ∧ (Yx (yX "drawn") (yZ G 1000 1180000 (yFR F)) G (eR (12, 1000, 1180000)) kL_drawn 177 [(0, .ref a0), (1, .ref a1), (3, .int x3), (4, .ref a4), (5, .int x5), (6, .int x6), (7, .int x7)] [] M_8 (yU (yU (yU (yU H_8 q_2 (.inl (G.2.2.2 0, (N_9, .inl (upd f_9 (2 : Int32).toNatClampNeg r_8))))) q_2 (.inl (G.2.2.2 0, (N_10, .inl (upd f_10 (3 : Int32).toNatClampNeg (-1)))))) q_2 (.inl (G.2.2.2 0, (N_11, .inl (upd f_11 (4 : Int32).toNatClampNeg 0))))) b_1 (.inl (G.2.2.2 5, (N_12, .inr (.inr (.inr (.inr (va_up f_12 x7.toNatClampNeg (some q_2))))))))) (ca + 1) (sl + N_2)))))))))))))))))))) :
    Yx (yX "drawn") (yZ G 1000 1180000 (yFR F)) G (eR (12, 1000, 1180000)) kL_drawn 108 [(0, .ref a0), (1, .ref a1), (3, .int x3), (4, .ref a4), (5, .int x5), (6, .int x6), (7, .int x7)] [] M H ca sl := by
  refine y_iload 6 dL_drawn_108 rfl ?_
  refine y_iload 4 dL_drawn_110 rfl ?_
  refine y_icmp_ge (t := 254) dL_drawn_112 (by decide) (fun q => ?_) (fun q => ?_)
  · replace h := h.1 q
    refine y_iload 4 dL_drawn_254 rfl ?_
    refine y_if_ne (t := 263) dL_drawn_256 (by decide) (fun q => ?_) (fun q => ?_)
    · replace h := h.1 q
      refine y_aload_n 0 dL_drawn_263 rfl rfl ?_
      refine y_iload_n 2 dL_drawn_264 rfl rfl ?_
      refine y_iconst (v := 1) dL_drawn_265 rfl ?_
      refine y_iadd dL_drawn_266 ?_
      have hb := h.1
      replace h := h.2
      obtain ⟨⟨fs_1, hi⟩, h⟩ := h
      refine y_callV yXn (b' := (2, 0, 0)) (K' := kX11_next) (As := [.int (x3 + 1)]) (S := []) dL_drawn_267 mX11_next lML_35 clX11 rfl hi rfl ⟨(by decide), hb⟩ (Nat.le_of_ble_eq_true rfl) h (fun v_ M_1 H_1 q_ => ?_) rfl
      obtain ⟨r_1, rfl, h⟩ := q_
      refine y_istore (i := 7) (l' := [(7, .int r_1), (0, .ref a0), (1, .ref a1), (3, .int x3), (4, .ref a4), (5, .int x5), (6, .int x6)]) dL_drawn_270 (by decide) rfl ?_
      exact Yx.sub (ks := [1, 2, 4, 5, 0]) rfl h
    · replace h := h.2 q
      refine y_iconst (v := 0) dL_drawn_259 rfl ?_
      refine y_goto (t := 270) dL_drawn_260 (by decide) ?_
      refine y_istore (i := 7) (l' := [(7, .int 0), (0, .ref a0), (1, .ref a1), (3, .int x3), (4, .ref a4), (5, .int x5), (6, .int x6)]) dL_drawn_270 (by decide) rfl ?_
      exact Yx.sub (ks := [1, 2, 4, 5, 0]) rfl h
  · replace h := h.2 q
    refine y_aload 3 dL_drawn_115 rfl ?_
    obtain ⟨b_1, ⟨fs_1, e1_1, e2_1⟩, h⟩ := h
    refine y_get (k := 2) dL_drawn_117 clX12 lFL_64 (by decide) e1_1 e2_1 ?_
    refine y_iload 6 dL_drawn_120 rfl ?_
    refine y_iconst (v := 5) dL_drawn_122 rfl ?_
    obtain ⟨N_2, z1_2, z2_2, z3_2, hb, h⟩ := h
    refine y_newi dL_drawn_123 z1_2 z2_2 z3_2 hb (fun q_2 hq => ?_)
    replace h := h q_2 hq
    refine y_dup dL_drawn_125 rfl ?_
    refine y_iconst (v := 0) dL_drawn_126 rfl ?_
    refine y_aload_n 0 dL_drawn_127 rfl rfl ?_
    refine y_iload 5 dL_drawn_128 rfl ?_
    have hb := h.1
    replace h := h.2
    obtain ⟨⟨fs_3, hi⟩, h⟩ := h
    refine y_callV yXn (b' := (2, 0, 0)) (K' := kX11_next) (As := [.int x6]) (S := [.int 0, .ref q_2, .ref q_2, .int x7, .ref b_1]) dL_drawn_130 mX11_next lML_35 clX11 rfl hi rfl ⟨(by decide), hb⟩ (Nat.le_of_ble_eq_true rfl) h (fun v_ M_3 H_3 q_ => ?_) rfl
    obtain ⟨r_3, rfl, h⟩ := q_
    refine y_aload_n 0 dL_drawn_133 rfl rfl ?_
    refine y_bipush (v := 9) dL_drawn_134 rfl ?_
    have hb := h.1
    replace h := h.2
    obtain ⟨⟨fs_4, hi⟩, h⟩ := h
    refine y_callV yXn (b' := (2, 0, 0)) (K' := kX11_next) (As := [.int 9]) (S := [.int r_3, .int 0, .ref q_2, .ref q_2, .int x7, .ref b_1]) dL_drawn_136 mX11_next lML_35 clX11 rfl hi rfl ⟨(by decide), hb⟩ (Nat.le_of_ble_eq_true rfl) h (fun v_ M_4 H_4 q_ => ?_) rfl
    obtain ⟨r_4, rfl, h⟩ := q_
    refine y_if_ne (t := 147) dL_drawn_139 (by decide) (fun q => ?_) (fun q => ?_)
    · replace h := h.1 q
      refine y_iconst (v := 0) dL_drawn_147 rfl ?_
      refine y_iadd dL_drawn_148 ?_
      obtain ⟨N_5, f_5, e1_5, e2_5, h⟩ := h
      refine y_iast yXn dL_drawn_149 e1_5 e2_5 ?_
      refine y_dup dL_drawn_150 rfl ?_
      refine y_iconst (v := 1) dL_drawn_151 rfl ?_
      refine y_aload_n 0 dL_drawn_152 rfl rfl ?_
      refine y_iload 5 dL_drawn_153 rfl ?_
      have hb := h.1
      replace h := h.2
      obtain ⟨⟨fs_6, hi⟩, h⟩ := h
      refine y_callV yXn (b' := (2, 0, 0)) (K' := kX11_next) (As := [.int x6]) (S := [.int 1, .ref q_2, .ref q_2, .int x7, .ref b_1]) dL_drawn_155 mX11_next lML_35 clX11 rfl hi rfl ⟨(by decide), hb⟩ (Nat.le_of_ble_eq_true rfl) h (fun v_ M_6 H_6 q_ => ?_) rfl
      obtain ⟨r_6, rfl, h⟩ := q_
      obtain ⟨N_7, f_7, e1_7, e2_7, h⟩ := h
      refine y_iast yXn dL_drawn_158 e1_7 e2_7 ?_
      refine y_dup dL_drawn_159 rfl ?_
      refine y_iconst (v := 2) dL_drawn_160 rfl ?_
      refine y_aload_n 0 dL_drawn_161 rfl rfl ?_
      refine y_iload 5 dL_drawn_162 rfl ?_
      have hb := h.1
      replace h := h.2
      obtain ⟨⟨fs_8, hi⟩, h⟩ := h
      refine y_callV yXn (b' := (2, 0, 0)) (K' := kX11_next) (As := [.int x6]) (S := [.int 2, .ref q_2, .ref q_2, .int x7, .ref b_1]) dL_drawn_164 mX11_next lML_35 clX11 rfl hi rfl ⟨(by decide), hb⟩ (Nat.le_of_ble_eq_true rfl) h (fun v_ M_8 H_8 q_ => ?_) rfl
      obtain ⟨r_8, rfl, h⟩ := q_
      obtain ⟨N_9, f_9, e1_9, e2_9, h⟩ := h
      refine y_iast yXn dL_drawn_167 e1_9 e2_9 ?_
      refine y_dup dL_drawn_168 rfl ?_
      refine y_iconst (v := 3) dL_drawn_169 rfl ?_
      refine y_iconst (v := (-1)) dL_drawn_170 rfl ?_
      obtain ⟨N_10, f_10, e1_10, e2_10, h⟩ := h
      refine y_iast yXn dL_drawn_171 e1_10 e2_10 ?_
      refine y_dup dL_drawn_172 rfl ?_
      refine y_iconst (v := 4) dL_drawn_173 rfl ?_
      refine y_iconst (v := 0) dL_drawn_174 rfl ?_
      obtain ⟨N_11, f_11, e1_11, e2_11, h⟩ := h
      refine y_iast yXn dL_drawn_175 e1_11 e2_11 ?_
      obtain ⟨N_12, f_12, m_12, g_12, e1_12, e2_12, e3_12, h⟩ := h
      refine y_astI yXn dL_drawn_176 e1_12 e3_12 e2_12 ?_
      exact h
    · replace h := h.2 q
      refine y_bipush (v := 7) dL_drawn_142 rfl ?_
      refine y_goto (t := 148) dL_drawn_144 (by decide) ?_
      refine y_iadd dL_drawn_148 ?_
      obtain ⟨N_5, f_5, e1_5, e2_5, h⟩ := h
      refine y_iast yXn dL_drawn_149 e1_5 e2_5 ?_
      refine y_dup dL_drawn_150 rfl ?_
      refine y_iconst (v := 1) dL_drawn_151 rfl ?_
      refine y_aload_n 0 dL_drawn_152 rfl rfl ?_
      refine y_iload 5 dL_drawn_153 rfl ?_
      have hb := h.1
      replace h := h.2
      obtain ⟨⟨fs_6, hi⟩, h⟩ := h
      refine y_callV yXn (b' := (2, 0, 0)) (K' := kX11_next) (As := [.int x6]) (S := [.int 1, .ref q_2, .ref q_2, .int x7, .ref b_1]) dL_drawn_155 mX11_next lML_35 clX11 rfl hi rfl ⟨(by decide), hb⟩ (Nat.le_of_ble_eq_true rfl) h (fun v_ M_6 H_6 q_ => ?_) rfl
      obtain ⟨r_6, rfl, h⟩ := q_
      obtain ⟨N_7, f_7, e1_7, e2_7, h⟩ := h
      refine y_iast yXn dL_drawn_158 e1_7 e2_7 ?_
      refine y_dup dL_drawn_159 rfl ?_
      refine y_iconst (v := 2) dL_drawn_160 rfl ?_
      refine y_aload_n 0 dL_drawn_161 rfl rfl ?_
      refine y_iload 5 dL_drawn_162 rfl ?_
      have hb := h.1
      replace h := h.2
      obtain ⟨⟨fs_8, hi⟩, h⟩ := h
      refine y_callV yXn (b' := (2, 0, 0)) (K' := kX11_next) (As := [.int x6]) (S := [.int 2, .ref q_2, .ref q_2, .int x7, .ref b_1]) dL_drawn_164 mX11_next lML_35 clX11 rfl hi rfl ⟨(by decide), hb⟩ (Nat.le_of_ble_eq_true rfl) h (fun v_ M_8 H_8 q_ => ?_) rfl
      obtain ⟨r_8, rfl, h⟩ := q_
      obtain ⟨N_9, f_9, e1_9, e2_9, h⟩ := h
      refine y_iast yXn dL_drawn_167 e1_9 e2_9 ?_
      refine y_dup dL_drawn_168 rfl ?_
      refine y_iconst (v := 3) dL_drawn_169 rfl ?_
      refine y_iconst (v := (-1)) dL_drawn_170 rfl ?_
      obtain ⟨N_10, f_10, e1_10, e2_10, h⟩ := h
      refine y_iast yXn dL_drawn_171 e1_10 e2_10 ?_
      refine y_dup dL_drawn_172 rfl ?_
      refine y_iconst (v := 4) dL_drawn_173 rfl ?_
      refine y_iconst (v := 0) dL_drawn_174 rfl ?_
      obtain ⟨N_11, f_11, e1_11, e2_11, h⟩ := h
      refine y_iast yXn dL_drawn_175 e1_11 e2_11 ?_
      obtain ⟨N_12, f_12, m_12, g_12, e1_12, e2_12, e3_12, h⟩ := h
      refine y_astI yXn dL_drawn_176 e1_12 e3_12 e2_12 ?_
      exact h
set_option maxHeartbeats 4000000 in
set_option maxRecDepth 100000 in
theorem B_L_drawn_74 (G : eG) (ca sl : Nat) (M : eM) (H : yH) (F : Nat → eM → yH → Prop) (a0 : Nat) (a1 : Nat) (x2 : Int32) (x3 : Int32) (a4 : Nat)
    (h : (ca + 0 ≤ 1000 ∧ sl + 0 ≤ 1180000) ∧ yIs H a0 9 ∧ yCal G (2, 0, 0) kX11_next [.ref a0, .int ((13 : Int32) - x2)] M H (yFI (fun (r_1 : Int32) (M_1 : eM) (H_1 : yH) => (ca + 0 ≤ 1000 ∧ sl + 0 ≤ 1180000) ∧ yIs H_1 a0 9 ∧ yCal G (2, 0, 0) kX11_next [.ref a0, .int 3] M_1 H_1 (yFI (fun (r_2 : Int32) (M_2 : eM) (H_2 : yH) => ∃ N_3 : Nat, (¬ (x2 + r_1) < 0) ∧ (x2 + r_1).toNatClampNeg = N_3 ∧ N_3 * 4 ≤ 536870912 ∧ (ca + 1 ≤ 1000 ∧ sl + N_3 ≤ 1180000) ∧ ∀ q_3 : Nat, H_2 q_3 = none → (∃ (fs_4 : List Value), (yU H_2 q_3 (.inl (G.2.2.2 5, (N_3, .inr (.inr (.inr (.inr (fun _ => none)))))))) a4 = some (.inr (10, fs_4)) ∧ 2 < fs_4.length ∧ (Yx (yX "drawn") (yZ G 1000 1180000 (yFR F)) G (eR (12, 1000, 1180000)) kL_drawn 108 [(0, .ref a0), (1, .ref a1), (3, .int x3), (4, .ref a4), (5, .int (x2 + r_1)), (6, .int ((1 : Int32) + r_2)), (7, .int 0)] [] M_2 (yU (yU H_2 q_3 (.inl (G.2.2.2 5, (N_3, .inr (.inr (.inr (.inr (fun _ => none)))))))) a4 (.inr (10, fs_4.set 2 (.ref q_3)))) (ca + 1) (sl + N_3)))))))) :
    Yx (yX "drawn") (yZ G 1000 1180000 (yFR F)) G (eR (12, 1000, 1180000)) kL_drawn 74 [(0, .ref a0), (1, .ref a1), (2, .int x2), (3, .int x3), (4, .ref a4)] [] M H ca sl := by
  refine y_iload_n 2 dL_drawn_74 rfl rfl ?_
  refine y_aload_n 0 dL_drawn_75 rfl rfl ?_
  refine y_bipush (v := 13) dL_drawn_76 rfl ?_
  refine y_iload_n 2 dL_drawn_78 rfl rfl ?_
  refine y_isub dL_drawn_79 ?_
  have hb := h.1
  replace h := h.2
  obtain ⟨⟨fs_1, hi⟩, h⟩ := h
  refine y_callV yXn (b' := (2, 0, 0)) (K' := kX11_next) (As := [.int ((13 : Int32) - x2)]) (S := [.int x2]) dL_drawn_80 mX11_next lML_35 clX11 rfl hi rfl ⟨(by decide), hb⟩ (Nat.le_of_ble_eq_true rfl) h (fun v_ M_1 H_1 q_ => ?_) rfl
  obtain ⟨r_1, rfl, h⟩ := q_
  refine y_iadd dL_drawn_83 ?_
  refine y_istore (i := 5) (l' := [(5, .int (x2 + r_1)), (0, .ref a0), (1, .ref a1), (2, .int x2), (3, .int x3), (4, .ref a4)]) dL_drawn_84 (by decide) rfl ?_
  refine y_iconst (v := 1) dL_drawn_86 rfl ?_
  refine y_aload_n 1 dL_drawn_87 rfl rfl ?_
  refine y_iconst (v := 3) dL_drawn_88 rfl ?_
  have hb := h.1
  replace h := h.2
  obtain ⟨⟨fs_2, hi⟩, h⟩ := h
  refine y_callV yXn (b' := (2, 0, 0)) (K' := kX11_next) (As := [.int 3]) (S := [.int 1]) dL_drawn_89 mX11_next lML_35 clX11 rfl hi rfl ⟨(by decide), hb⟩ (Nat.le_of_ble_eq_true rfl) h (fun v_ M_2 H_2 q_ => ?_) rfl
  obtain ⟨r_2, rfl, h⟩ := q_
  refine y_iadd dL_drawn_92 ?_
  refine y_istore (i := 6) (l' := [(6, .int ((1 : Int32) + r_2)), (5, .int (x2 + r_1)), (0, .ref a0), (1, .ref a1), (2, .int x2), (3, .int x3), (4, .ref a4)]) dL_drawn_93 (by decide) rfl ?_
  refine y_aload 6 dL_drawn_95 rfl ?_
  refine y_iload 1 dL_drawn_97 rfl ?_
  obtain ⟨N_3, z1_3, z2_3, z3_3, hb, h⟩ := h
  refine y_newA yXn dL_drawn_99 (tb7 _ (List.mem_of_getElem? (i := 23) rfl)) z1_3 z2_3 z3_3 hb (fun q_3 hq => ?_)
  replace h := h q_3 hq
  obtain ⟨fs_4, e1_4, e2_4, h⟩ := h
  refine y_put (k := 2) (ft := tyX12 2) dL_drawn_102 clX12 lFL_64 (by decide) e1_4 e2_4 rfl (clX12.2.2.1 2 (by decide)) rfl rfl ?_
  refine y_iconst (v := 0) dL_drawn_105 rfl ?_
  refine y_istore (i := 7) (l' := [(7, .int 0), (6, .int ((1 : Int32) + r_2)), (5, .int (x2 + r_1)), (0, .ref a0), (1, .ref a1), (2, .int x2), (3, .int x3), (4, .ref a4)]) dL_drawn_106 (by decide) rfl ?_
  exact Yx.sub (ks := [3, 4, 6, 7, 2, 1, 0]) rfl h
set_option maxHeartbeats 4000000 in
set_option maxRecDepth 100000 in
theorem C_L_drawn (G : eG) (M : eM) (H : yH) (F : Nat → eM → yH → Prop) (a0 : Nat) (a1 : Nat)
    (h : (0 + 1 ≤ 1000 ∧ 0 + 5 ≤ 1180000) ∧ ∀ q_1 : Nat, H q_1 = none → (((0 + 1) + 2 ≤ 1000 ∧ (0 + 5) + 0 ≤ 1180000) ∧ yCal G (2, 2, 0) kX12_init [.ref q_1] M (yU H q_1 (.inr (10, [.int 0, .int 0, .null, .int 0, .null]))) (yFV (fun (M_2 : eM) (H_2 : yH) => ((0 + 1 + 2) + 0 ≤ 1000 ∧ (0 + 5) + 0 ≤ 1180000) ∧ yIs H_2 a0 9 ∧ yCal G (2, 0, 0) kX11_next [.ref a0, .int 3] M_2 H_2 (yFI (fun (r_3 : Int32) (M_3 : eM) (H_3 : yH) => ((r_3 ≤ (0 : Int32)) → Yx (yX "drawn") (yZ G 1000 1180000 (yFR F)) G (eR (12, 1000, 1180000)) kL_drawn 74 [(0, .ref a0), (1, .ref a1), (2, .int 1), (3, .int 4), (4, .ref q_1)] [] M_3 H_3 (0 + 1 + 2) (0 + 5)) ∧ ((¬ r_3 ≤ (0 : Int32)) → ((0 + 1 + 2) + 0 ≤ 1000 ∧ (0 + 5) + 0 ≤ 1180000) ∧ yIs H_3 a0 9 ∧ yCal G (2, 0, 0) kX11_next [.ref a0, .int 4] M_3 H_3 (yFI (fun (r_4 : Int32) (M_4 : eM) (H_4 : yH) => ∃ (fs_5 : List Value), H_4 q_1 = some (.inr (10, fs_5)) ∧ 0 < fs_5.length ∧ (((0 + 1 + 2) + 0 ≤ 1000 ∧ (0 + 5) + 0 ≤ 1180000) ∧ yIs (yU H_4 q_1 (.inr (10, fs_5.set 0 (.int ((3 : Int32) + r_4))))) a0 9 ∧ yCal G (2, 0, 0) kX11_next [.ref a0, .int 3] M_4 (yU H_4 q_1 (.inr (10, fs_5.set 0 (.int ((3 : Int32) + r_4))))) (yFI (fun (r_6 : Int32) (M_6 : eM) (H_6 : yH) => ∃ (fs_7 : List Value), H_6 q_1 = some (.inr (10, fs_7)) ∧ 1 < fs_7.length ∧ (((0 + 1 + 2) + 1 ≤ 1000 ∧ (0 + 5) + 2200 ≤ 1180000) ∧ yIs (yU H_6 q_1 (.inr (10, fs_7.set 1 (.int ((3 : Int32) + r_6))))) a1 14 ∧ yCal G (6, 1, 2200) kJ4_append_15ec4 [.ref a1, .ref (G.1 1700)] M_6 (yU H_6 q_1 (.inr (10, fs_7.set 1 (.int ((3 : Int32) + r_6))))) (yFR (fun (r_8 : Nat) (M_8 : eM) (H_8 : yH) => ∃ (x_9 : Int32), yG H_8 q_1 10 0 (.int x_9) ∧ (((0 + 1 + 2 + 1) + 1 ≤ 1000 ∧ (0 + 5 + 2200) + 2200 ≤ 1180000) ∧ yIs H_8 r_8 14 ∧ yCal G (6, 1, 2200) kJ4_append_bf812 [.ref r_8, .int x_9] M_8 H_8 (yFR (fun (r_10 : Nat) (M_10 : eM) (H_10 : yH) => ((0 + 1 + 2 + 1 + 1) + 1 ≤ 1000 ∧ (0 + 5 + 2200 + 2200) + 2200 ≤ 1180000) ∧ yIs H_10 r_10 14 ∧ yCal G (6, 1, 2200) kJ4_append_15ec4 [.ref r_10, .ref (G.1 1701)] M_10 H_10 (yFR (fun (r_11 : Nat) (M_11 : eM) (H_11 : yH) => ∃ (x_12 : Int32), yG H_11 q_1 10 1 (.int x_12) ∧ (((0 + 1 + 2 + 1 + 1 + 1) + 1 ≤ 1000 ∧ (0 + 5 + 2200 + 2200 + 2200) + 2200 ≤ 1180000) ∧ yIs H_11 r_11 14 ∧ yCal G (6, 1, 2200) kJ4_append_bf812 [.ref r_11, .int x_12] M_11 H_11 (yFR (fun (r_13 : Nat) (M_13 : eM) (H_13 : yH) => ((0 + 1 + 2 + 1 + 1 + 1 + 1) + 1 ≤ 1000 ∧ (0 + 5 + 2200 + 2200 + 2200 + 2200) + 2200 ≤ 1180000) ∧ yIs H_13 r_13 14 ∧ yCal G (6, 1, 2200) kJ4_append_15ec4 [.ref r_13, .ref (G.1 1702)] M_13 H_13 (yFR (fun (r_14 : Nat) (M_14 : eM) (H_14 : yH) => Yx (yX "drawn") (yZ G 1000 1180000 (yFR F)) G (eR (12, 1000, 1180000)) kL_drawn 74 [(0, .ref a0), (1, .ref a1), (2, .int 1), (3, .int 4), (4, .ref q_1)] [] M_14 H_14 (0 + 1 + 2 + 1 + 1 + 1 + 1 + 1) (0 + 5 + 2200 + 2200 + 2200 + 2200 + 2200)))))))))))))))))))))))))) :
    yCal G (12, 1000, 1180000) kL_drawn [.ref a0, .ref a1, .int 1, .int 4] M H (yFR F) := by
  refine yCal.of (by decide +kernel) rfl (Nat.le_of_ble_eq_true rfl) ?_
  show Yx (yX "drawn") (yZ G 1000 1180000 (yFR F)) G (eR (12, 1000, 1180000)) kL_drawn 0 [(0, .ref a0), (1, .ref a1), (2, .int 1), (3, .int 4)] [] M H 0 0
  have hb := h.1
  replace h := h.2
  refine y_new dL_drawn_0 clX12 (tb6 _ (List.mem_of_getElem? (i := 94) rfl)) (tb6 _ (List.mem_of_getElem? (i := 95) rfl)) (tb1 _ (List.mem_of_getElem? (i := 19) rfl)) xd_X12 hb (fun q_1 hq => ?_)
  replace h := h q_1 hq
  refine y_dup dL_drawn_3 rfl ?_
  have hb := h.1
  replace h := h.2
  refine y_callIN yXn (b' := (2, 2, 0)) (K' := kX12_init) (As := []) (a := q_1) (S := [.ref q_1]) dL_drawn_4 miX12_init lML_34 rfl ⟨(by decide), hb⟩ (Nat.le_of_ble_eq_true rfl) h (fun v_ M_2 H_2 q_ => ?_) rfl
  obtain ⟨rfl, h⟩ := q_
  refine y_astore (i := 4) (l' := [(4, .ref q_1), (0, .ref a0), (1, .ref a1), (2, .int 1), (3, .int 4)]) dL_drawn_7 (by decide) rfl ?_
  refine y_aload_n 1 dL_drawn_9 rfl rfl ?_
  refine y_iconst (v := 3) dL_drawn_10 rfl ?_
  have hb := h.1
  replace h := h.2
  obtain ⟨⟨fs_3, hi⟩, h⟩ := h
  refine y_callV yXn (b' := (2, 0, 0)) (K' := kX11_next) (As := [.int 3]) (S := []) dL_drawn_11 mX11_next lML_35 clX11 rfl hi rfl ⟨(by decide), hb⟩ (Nat.le_of_ble_eq_true rfl) h (fun v_ M_3 H_3 q_ => ?_) rfl
  obtain ⟨r_3, rfl, h⟩ := q_
  refine y_if_le (t := 74) dL_drawn_14 (by decide) (fun q => ?_) (fun q => ?_)
  · replace h := h.1 q
    exact Yx.sub (ks := [1, 2, 3, 4, 0]) rfl h
  · replace h := h.2 q
    refine y_aload 0 dL_drawn_17 rfl ?_
    refine y_iconst (v := 3) dL_drawn_19 rfl ?_
    refine y_aload_n 1 dL_drawn_20 rfl rfl ?_
    refine y_iconst (v := 4) dL_drawn_21 rfl ?_
    have hb := h.1
    replace h := h.2
    obtain ⟨⟨fs_4, hi⟩, h⟩ := h
    refine y_callV yXn (b' := (2, 0, 0)) (K' := kX11_next) (As := [.int 4]) (S := [.int 3, .ref q_1]) dL_drawn_22 mX11_next lML_35 clX11 rfl hi rfl ⟨(by decide), hb⟩ (Nat.le_of_ble_eq_true rfl) h (fun v_ M_4 H_4 q_ => ?_) rfl
    obtain ⟨r_4, rfl, h⟩ := q_
    refine y_iadd dL_drawn_25 ?_
    obtain ⟨fs_5, e1_5, e2_5, h⟩ := h
    refine y_put (k := 0) (ft := tyX12 0) dL_drawn_26 clX12 lFL_40 (by decide) e1_5 e2_5 rfl (clX12.2.2.1 0 (by decide)) rfl rfl ?_
    refine y_aload 0 dL_drawn_29 rfl ?_
    refine y_iconst (v := 3) dL_drawn_31 rfl ?_
    refine y_aload_n 1 dL_drawn_32 rfl rfl ?_
    refine y_iconst (v := 3) dL_drawn_33 rfl ?_
    have hb := h.1
    replace h := h.2
    obtain ⟨⟨fs_6, hi⟩, h⟩ := h
    refine y_callV yXn (b' := (2, 0, 0)) (K' := kX11_next) (As := [.int 3]) (S := [.int 3, .ref q_1]) dL_drawn_34 mX11_next lML_35 clX11 rfl hi rfl ⟨(by decide), hb⟩ (Nat.le_of_ble_eq_true rfl) h (fun v_ M_6 H_6 q_ => ?_) rfl
    obtain ⟨r_6, rfl, h⟩ := q_
    refine y_iadd dL_drawn_37 ?_
    obtain ⟨fs_7, e1_7, e2_7, h⟩ := h
    refine y_put (k := 1) (ft := tyX12 1) dL_drawn_38 clX12 lFL_44 (by decide) e1_7 e2_7 rfl (clX12.2.2.1 1 (by decide)) rfl rfl ?_
    refine y_aload_n 2 dL_drawn_41 rfl rfl ?_
    refine y_ldcS (j := 1700) dL_drawn_42 (List.mem_of_getElem? (i := 0) rfl) ?_
    have hb := h.1
    replace h := h.2
    obtain ⟨⟨fs_8, hi⟩, h⟩ := h
    refine y_callV yXn (b' := (6, 1, 2200)) (K' := kJ4_append_15ec4) (As := [.ref (G.1 1700)]) (S := []) dL_drawn_44 mJ4_append_15ec4 lML_49 clJ4 rfl hi rfl ⟨(by decide), hb⟩ (Nat.le_of_ble_eq_true rfl) h (fun v_ M_8 H_8 q_ => ?_) rfl
    obtain ⟨r_8, rfl, h⟩ := q_
    refine y_aload 0 dL_drawn_47 rfl ?_
    obtain ⟨x_9, ⟨fs_9, e1_9, e2_9⟩, h⟩ := h
    refine y_get (k := 0) dL_drawn_49 clX12 lFL_40 (by decide) e1_9 e2_9 ?_
    have hb := h.1
    replace h := h.2
    obtain ⟨⟨fs_10, hi⟩, h⟩ := h
    refine y_callV yXn (b' := (6, 1, 2200)) (K' := kJ4_append_bf812) (As := [.int x_9]) (S := []) dL_drawn_52 mJ4_append_bf812 lML_55 clJ4 rfl hi rfl ⟨(by decide), hb⟩ (Nat.le_of_ble_eq_true rfl) h (fun v_ M_10 H_10 q_ => ?_) rfl
    obtain ⟨r_10, rfl, h⟩ := q_
    refine y_ldcS (j := 1701) dL_drawn_55 (List.mem_of_getElem? (i := 1) rfl) ?_
    have hb := h.1
    replace h := h.2
    obtain ⟨⟨fs_11, hi⟩, h⟩ := h
    refine y_callV yXn (b' := (6, 1, 2200)) (K' := kJ4_append_15ec4) (As := [.ref (G.1 1701)]) (S := []) dL_drawn_57 mJ4_append_15ec4 lML_49 clJ4 rfl hi rfl ⟨(by decide), hb⟩ (Nat.le_of_ble_eq_true rfl) h (fun v_ M_11 H_11 q_ => ?_) rfl
    obtain ⟨r_11, rfl, h⟩ := q_
    refine y_aload 0 dL_drawn_60 rfl ?_
    obtain ⟨x_12, ⟨fs_12, e1_12, e2_12⟩, h⟩ := h
    refine y_get (k := 1) dL_drawn_62 clX12 lFL_44 (by decide) e1_12 e2_12 ?_
    have hb := h.1
    replace h := h.2
    obtain ⟨⟨fs_13, hi⟩, h⟩ := h
    refine y_callV yXn (b' := (6, 1, 2200)) (K' := kJ4_append_bf812) (As := [.int x_12]) (S := []) dL_drawn_65 mJ4_append_bf812 lML_55 clJ4 rfl hi rfl ⟨(by decide), hb⟩ (Nat.le_of_ble_eq_true rfl) h (fun v_ M_13 H_13 q_ => ?_) rfl
    obtain ⟨r_13, rfl, h⟩ := q_
    refine y_ldcS (j := 1702) dL_drawn_68 (List.mem_of_getElem? (i := 2) rfl) ?_
    have hb := h.1
    replace h := h.2
    obtain ⟨⟨fs_14, hi⟩, h⟩ := h
    refine y_callV yXn (b' := (6, 1, 2200)) (K' := kJ4_append_15ec4) (As := [.ref (G.1 1702)]) (S := []) dL_drawn_70 mJ4_append_15ec4 lML_49 clJ4 rfl hi rfl ⟨(by decide), hb⟩ (Nat.le_of_ble_eq_true rfl) h (fun v_ M_14 H_14 q_ => ?_) rfl
    obtain ⟨r_14, rfl, h⟩ := q_
    refine y_pop dL_drawn_73 rfl ?_
    exact Yx.sub (ks := [1, 2, 3, 4, 0]) rfl h
