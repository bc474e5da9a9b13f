set_option maxHeartbeats 4000000 in
set_option maxRecDepth 100000 in
theorem B_L_law_1137 (G : eG) {b L : Nat} {xs : Nat → Int32} (ca sl : Nat) (M : eM) (H : yH) 
    (h : ca ≤ room_1.cells ∧ sl ≤ room_1.slots) :
    Yx (yXL b L xs) lwZ G room_1 kL_law 1137 [] [] M H ca sl := by
  refine y_iconst (v := 1) dL_law_1137 rfl ?_
  exact yl_true h.1 h.2
set_option maxHeartbeats 4000000 in
set_option maxRecDepth 100000 in
theorem B_L_law_1083 (G : eG) {b L : Nat} {xs : Nat → Int32} (ca sl : Nat) (M : eM) (H : yH) (x2 : Int32) (a3 : Nat) (a5 : Nat) (x6 : Int32) (x7 : Int32) (x8 : Int32) (x20 : Int32) (x21 : Int32) (x22 : Int32) (x23 : Int32) (x24 : Int32)
    (h : (((0 : Int32) ≤ x20) → Yx (yXL b L xs) lwZ G room_1 kL_law 992 [(0, .ref b), (1, .ref (G.1 0)), (2, .int x2), (3, .ref a3), (5, .ref a5), (6, .int x6), (7, .int x7), (8, .int x8), (20, .int x20), (21, .int x21), (22, .int x22), (23, .int x23), (24, .int (x24 + 1))] [] M H ca sl) ∧ ((¬ (0 : Int32) ≤ x20) → (ca + 0 ≤ room_1.cells ∧ sl + 0 ≤ room_1.slots) ∧ Cal G 0 68 (3, 0, 0) kX10_rings [.ref (G.1 0)] M (eFI (fun (r_1 : Int32) (M_1 : eM) => ((r_1 ≤ (0 : Int32)) → Yx (yXL b L xs) lwZ G room_1 kL_law 992 [(0, .ref b), (1, .ref (G.1 0)), (2, .int x2), (3, .ref a3), (5, .ref a5), (6, .int x6), (7, .int x7), (8, .int x8), (20, .int x20), (21, .int x21), (22, .int x22), (23, .int x23), (24, .int (x24 + 1))] [] M_1 H ca sl) ∧ ((¬ r_1 ≤ (0 : Int32)) → False))))) :
    Yx (yXL b L xs) lwZ G room_1 kL_law 1083 [(0, .ref b), (1, .ref (G.1 0)), (2, .int x2), (3, .ref a3), (5, .ref a5), (6, .int x6), (7, .int x7), (8, .int x8), (20, .int x20), (21, .int x21), (22, .int x22), (23, .int x23), (24, .int x24)] [] M H ca sl := by
  refine y_iload 8 dL_law_1083 rfl ?_
  refine y_if_ge (t := 1097) dL_law_1085 (by decide) (fun q => ?_) (fun q => ?_)
  · replace h := h.1 q
    refine y_iinc (v := x24 + 1) (l' := [(24, .int (x24 + 1)), (0, .ref b), (1, .ref (G.1 0)), (2, .int x2), (3, .ref a3), (5, .ref a5), (6, .int x6), (7, .int x7), (8, .int x8), (20, .int x20), (21, .int x21), (22, .int x22), (23, .int x23)]) 12 dL_law_1097 rfl rfl (by decide) rfl ?_
    refine y_goto (t := 992) dL_law_1100 (by decide) ?_
    exact Yx.sub (ks := [1, 2, 3, 4, 5, 6, 7, 8, 9, 10, 11, 12, 0]) rfl h
  · replace h := h.2 q
    refine y_aload_n 1 dL_law_1088 rfl rfl ?_
    have hb := h.1
    replace h := h.2
    refine y_callM yXLk (b' := (3, 0, 0)) (K' := kX10_rings) (As := []) (S := []) dL_law_1089 mX10_rings lML_190 rfl rfl ⟨(by decide), hb⟩ (Nat.le_of_ble_eq_true rfl) (yCal.cls h) (fun v_ M_ H_ q_ => ?_) rfl
    obtain ⟨⟨r_1, rfl, h⟩, rfl⟩ := q_
    revert h
    generalize M_ = M_1
    intro h
    refine y_if_le (t := 1097) dL_law_1092 (by decide) (fun q => ?_) (fun q => ?_)
    · replace h := h.1 q
      refine y_iinc (v := x24 + 1) (l' := [(24, .int (x24 + 1)), (0, .ref b), (1, .ref (G.1 0)), (2, .int x2), (3, .ref a3), (5, .ref a5), (6, .int x6), (7, .int x7), (8, .int x8), (20, .int x20), (21, .int x21), (22, .int x22), (23, .int x23)]) 12 dL_law_1097 rfl rfl (by decide) rfl ?_
      refine y_goto (t := 992) dL_law_1100 (by decide) ?_
      exact Yx.sub (ks := [1, 2, 3, 4, 5, 6, 7, 8, 9, 10, 11, 12, 0]) rfl h
    · replace h := h.2 q
      refine y_iconst (v := 0) dL_law_1095 rfl ?_
      exact h.elim
set_option maxHeartbeats 4000000 in
set_option maxRecDepth 100000 in
theorem B_L_law_1049 (G : eG) {b L : Nat} {xs : Nat → Int32} (ca sl : Nat) (M : eM) (H : yH) (x2 : Int32) (a3 : Nat) (a5 : Nat) (x6 : Int32) (x7 : Int32) (x8 : Int32) (x20 : Int32) (x21 : Int32) (x22 : Int32) (x23 : Int32) (x24 : Int32)
    (h : ((x20 < x24) → Yx (yXL b L xs) lwZ G room_1 kL_law 1083 [(0, .ref b), (1, .ref (G.1 0)), (2, .int x2), (3, .ref a3), (5, .ref a5), (6, .int x6), (7, .int x7), (8, .int x8), (20, .int x20), (21, .int x21), (22, .int x22), (23, .int x23), (24, .int x24)] [] M H ca sl) ∧ ((¬ x20 < x24) → (ca + 0 ≤ room_1.cells ∧ sl + 0 ≤ room_1.slots) ∧ Cal G 0 68 (3, 0, 0) kX10_rings [.ref (G.1 0)] M (eFI (fun (r_1 : Int32) (M_1 : eM) => ((r_1 ≤ (0 : Int32)) → ((¬ x24 = x20) → Yx (yXL b L xs) lwZ G room_1 kL_law 1083 [(0, .ref b), (1, .ref (G.1 0)), (2, .int x2), (3, .ref a3), (5, .ref a5), (6, .int x6), (7, .int x7), (8, .int x8), (20, .int x20), (21, .int x21), (22, .int x22), (23, .int x23), (24, .int x24)] [] M_1 H ca sl) ∧ ((x24 = x20) → False)) ∧ ((¬ r_1 ≤ (0 : Int32)) → ((¬ x24 = x20) → False) ∧ ((x24 = x20) → Yx (yXL b L xs) lwZ G room_1 kL_law 1083 [(0, .ref b), (1, .ref (G.1 0)), (2, .int x2), (3, .ref a3), (5, .ref a5), (6, .int x6), (7, .int x7), (8, .int x8), (20, .int x20), (21, .int x21), (22, .int x22), (23, .int x23), (24, .int x24)] [] M_1 H ca sl)))))) :
    Yx (yXL b L xs) lwZ G room_1 kL_law 1049 [(0, .ref b), (1, .ref (G.1 0)), (2, .int x2), (3, .ref a3), (5, .ref a5), (6, .int x6), (7, .int x7), (8, .int x8), (20, .int x20), (21, .int x21), (22, .int x22), (23, .int x23), (24, .int x24)] [] M H ca sl := by
  refine y_iload 12 dL_law_1049 rfl ?_
  refine y_iload 8 dL_law_1051 rfl ?_
  refine y_icmp_gt (t := 1083) dL_law_1053 (by decide) (fun q => ?_) (fun q => ?_)
  · replace h := h.1 q
    exact h
  · replace h := h.2 q
    refine y_aload_n 1 dL_law_1056 rfl rfl ?_
    have hb := h.1
    replace h := h.2
    refine y_callM yXLk (b' := (3, 0, 0)) (K' := kX10_rings) (As := []) (S := []) dL_law_1057 mX10_rings lML_190 rfl rfl ⟨(by decide), hb⟩ (Nat.le_of_ble_eq_true rfl) (yCal.cls h) (fun v_ M_ H_ q_ => ?_) rfl
    obtain ⟨⟨r_1, rfl, h⟩, rfl⟩ := q_
    revert h
    generalize M_ = M_1
    intro h
    refine y_if_le (t := 1067) dL_law_1060 (by decide) (fun q => ?_) (fun q => ?_)
    · replace h := h.1 q
      refine y_iconst (v := 0) dL_law_1067 rfl ?_
      refine y_iload 12 dL_law_1068 rfl ?_
      refine y_iload 8 dL_law_1070 rfl ?_
      refine y_icmp_ne (t := 1079) dL_law_1072 (by decide) (fun q => ?_) (fun q => ?_)
      · replace h := h.1 q
        refine y_iconst (v := 0) dL_law_1079 rfl ?_
        refine y_icmp_ne (t := 1095) dL_law_1080 (by decide) (fun q => ?_) (fun q => ?_)
        · exact absurd q (by decide)
        · exact h
      · replace h := h.2 q
        refine y_iconst (v := 1) dL_law_1075 rfl ?_
        refine y_goto (t := 1080) dL_law_1076 (by decide) ?_
        refine y_icmp_ne (t := 1095) dL_law_1080 (by decide) (fun q => ?_) (fun q => ?_)
        · refine y_iconst (v := 0) dL_law_1095 rfl ?_
          exact h.elim
        · exact absurd q (by decide)
    · replace h := h.2 q
      refine y_iconst (v := 1) dL_law_1063 rfl ?_
      refine y_goto (t := 1068) dL_law_1064 (by decide) ?_
      refine y_iload 12 dL_law_1068 rfl ?_
      refine y_iload 8 dL_law_1070 rfl ?_
      refine y_icmp_ne (t := 1079) dL_law_1072 (by decide) (fun q => ?_) (fun q => ?_)
      · replace h := h.1 q
        refine y_iconst (v := 0) dL_law_1079 rfl ?_
        refine y_icmp_ne (t := 1095) dL_law_1080 (by decide) (fun q => ?_) (fun q => ?_)
        · refine y_iconst (v := 0) dL_law_1095 rfl ?_
          exact h.elim
        · exact absurd q (by decide)
      · replace h := h.2 q
        refine y_iconst (v := 1) dL_law_1075 rfl ?_
        refine y_goto (t := 1080) dL_law_1076 (by decide) ?_
        refine y_icmp_ne (t := 1095) dL_law_1080 (by decide) (fun q => ?_) (fun q => ?_)
        · exact absurd q (by decide)
        · exact h
set_option maxHeartbeats 4000000 in
set_option maxRecDepth 100000 in
theorem B_L_law_992 (G : eG) {b L : Nat} {xs : Nat → Int32} (ca sl : Nat) (M : eM) (H : yH) (x2 : Int32) (a3 : Nat) (a5 : Nat) (x6 : Int32) (x7 : Int32) (x8 : Int32) (x20 : Int32) (x21 : Int32) (x22 : Int32) (x23 : Int32) (x24 : Int32)
    (h : ((x21 < x24) → (ca + 0 ≤ room_1.cells ∧ sl + 0 ≤ room_1.slots) ∧ Cal G 0 68 (4, 0, 0) kX10_points [.ref (G.1 0)] M (eFI (fun (r_1 : Int32) (M_1 : eM) => ((r_1 = x22) → Yx (yXL b L xs) lwZ G room_1 kL_law 105 [(0, .ref b), (1, .ref (G.1 0)), (2, .int x2), (3, .ref a3), (5, .ref a5), (6, .int x6), (7, .int x7), (8, .int (x8 + 1))] [] M_1 H ca sl) ∧ ((¬ r_1 = x22) → False)))) ∧ ((¬ x21 < x24) → (ca + 0 ≤ room_1.cells ∧ sl + 0 ≤ room_1.slots) ∧ Cal G 0 68 (8, 0, 0) kX10_playRounds [.ref (G.1 0), .int 1] M (eFI (fun (r_1 : Int32) (M_1 : eM) => (ca + 116 ≤ room_1.cells ∧ sl + 3240 ≤ room_1.slots) ∧ yIs H a5 10 ∧ yCal G (11, 116, 3240) kX12_play [.ref a5] M_1 H (yFI (fun (r_2 : Int32) (M_2 : eM) (H_2 : yH) => ((¬ r_1 = r_2) → False) ∧ ((r_1 = r_2) → ((r_1 < (0 : Int32)) → False) ∧ ((¬ r_1 < (0 : Int32)) → ∃ (b_3 : Nat), yG H_2 a5 10 4 (.ref b_3) ∧ (∃ (n_4 : Nat), yLn G 6 H_2 b_3 n_4 ∧ ((((nI n_4) < r_1) → False) ∧ ((¬ (nI n_4) < r_1) → ((ca + 116) + 0 ≤ room_1.cells ∧ (sl + 3240) + 0 ≤ room_1.slots) ∧ Cal G 0 68 (1, 0, 0) kX10_rounds [.ref (G.1 0)] M_2 (eFI (fun (r_5 : Int32) (M_5 : eM) => ((¬ r_5 = (x23 + x24)) → False) ∧ ((r_5 = (x23 + x24)) → ((x20 ≤ (0 : Int32)) → Yx (yXL b L xs) lwZ G room_1 kL_law 1083 [(0, .ref b), (1, .ref (G.1 0)), (2, .int x2), (3, .ref a3), (5, .ref a5), (6, .int x6), (7, .int x7), (8, .int x8), (20, .int x20), (21, .int x21), (22, .int x22), (23, .int x23), (24, .int x24)] [] M_5 H_2 (ca + 116) (sl + 3240)) ∧ ((¬ x20 ≤ (0 : Int32)) → Yx (yXL b L xs) lwZ G room_1 kL_law 1049 [(0, .ref b), (1, .ref (G.1 0)), (2, .int x2), (3, .ref a3), (5, .ref a5), (6, .int x6), (7, .int x7), (8, .int x8), (20, .int x20), (21, .int x21), (22, .int x22), (23, .int x23), (24, .int x24)] [] M_5 H_2 (ca + 116) (sl + 3240)))))))))))))))) :
    Yx (yXL b L xs) lwZ G room_1 kL_law 992 [(0, .ref b), (1, .ref (G.1 0)), (2, .int x2), (3, .ref a3), (5, .ref a5), (6, .int x6), (7, .int x7), (8, .int x8), (20, .int x20), (21, .int x21), (22, .int x22), (23, .int x23), (24, .int x24)] [] M H ca sl := by
  refine y_iload 12 dL_law_992 rfl ?_
  refine y_iload 9 dL_law_994 rfl ?_
  refine y_icmp_gt (t := 1103) dL_law_996 (by decide) (fun q => ?_) (fun q => ?_)
  · replace h := h.1 q
    refine y_aload_n 1 dL_law_1103 rfl rfl ?_
    have hb := h.1
    replace h := h.2
    refine y_callM yXLk (b' := (4, 0, 0)) (K' := kX10_points) (As := []) (S := []) dL_law_1104 mX10_points lML_193 rfl rfl ⟨(by decide), hb⟩ (Nat.le_of_ble_eq_true rfl) (yCal.cls h) (fun v_ M_ H_ q_ => ?_) rfl
    obtain ⟨⟨r_1, rfl, h⟩, rfl⟩ := q_
    revert h
    generalize M_ = M_1
    intro h
    refine y_iload 10 dL_law_1107 rfl ?_
    refine y_icmp_eq (t := 1114) dL_law_1109 (by decide) (fun q => ?_) (fun q => ?_)
    · replace h := h.1 q
      refine y_iinc (v := x8 + 1) (l' := [(8, .int (x8 + 1)), (0, .ref b), (1, .ref (G.1 0)), (2, .int x2), (3, .ref a3), (5, .ref a5), (6, .int x6), (7, .int x7), (20, .int x20), (21, .int x21), (22, .int x22), (23, .int x23), (24, .int x24)]) 7 dL_law_1114 rfl rfl (by decide) rfl ?_
      refine y_goto (t := 105) dL_law_1117 (by decide) ?_
      exact Yx.sub (ks := [1, 2, 3, 4, 5, 6, 7, 0]) rfl h
    · replace h := h.2 q
      refine y_iconst (v := 0) dL_law_1112 rfl ?_
      exact h.elim
  · replace h := h.2 q
    refine y_aload_n 1 dL_law_999 rfl rfl ?_
    refine y_iconst (v := 1) dL_law_1000 rfl ?_
    have hb := h.1
    replace h := h.2
    refine y_callM yXLk (b' := (8, 0, 0)) (K' := kX10_playRounds) (As := [.int 1]) (S := []) dL_law_1001 mX10_playRounds lML_87 rfl rfl ⟨(by decide), hb⟩ (Nat.le_of_ble_eq_true rfl) (yCal.cls h) (fun v_ M_ H_ q_ => ?_) rfl
    obtain ⟨⟨r_1, rfl, h⟩, rfl⟩ := q_
    revert h
    generalize M_ = M_1
    intro h
    refine y_istore (i := 25) (l' := [(25, .int r_1), (0, .ref b), (1, .ref (G.1 0)), (2, .int x2), (3, .ref a3), (5, .ref a5), (6, .int x6), (7, .int x7), (8, .int x8), (20, .int x20), (21, .int x21), (22, .int x22), (23, .int x23), (24, .int x24)]) dL_law_1004 (by decide) rfl ?_
    refine y_iload 0 dL_law_1006 rfl ?_
    refine y_aload 5 dL_law_1008 rfl ?_
    have hb := h.1
    replace h := h.2
    obtain ⟨⟨fs_2, hi⟩, h⟩ := h
    refine y_callV yXLk (b' := (11, 116, 3240)) (K' := kX12_play) (As := []) (S := [.int r_1]) dL_law_1010 mX12_play lML_232 clX12 rfl hi rfl ⟨(by decide), hb⟩ (Nat.le_of_ble_eq_true rfl) h (fun v_ M_2 H_2 q_ => ?_) rfl
    obtain ⟨r_2, rfl, h⟩ := q_
    refine y_icmp_ne (t := 1095) dL_law_1013 (by decide) (fun q => ?_) (fun q => ?_)
    · replace h := h.1 q
      refine y_iconst (v := 0) dL_law_1095 rfl ?_
      exact h.elim
    · replace h := h.2 q
      refine y_iload 0 dL_law_1016 rfl ?_
      refine y_if_lt (t := 1095) dL_law_1018 (by decide) (fun q => ?_) (fun q => ?_)
      · replace h := h.1 q
        refine y_iconst (v := 0) dL_law_1095 rfl ?_
        exact h.elim
      · replace h := h.2 q
        refine y_iload 0 dL_law_1021 rfl ?_
        refine y_aload 5 dL_law_1023 rfl ?_
        obtain ⟨b_3, ⟨fs_3, e1_3, e2_3⟩, h⟩ := h
        refine y_get (k := 4) dL_law_1025 clX12 lFL_76 (by decide) e1_3 e2_3 ?_
        obtain ⟨n_4, ⟨v_4, e1_4, e2_4⟩, h⟩ := h
        refine y_alenx (t := 6) (ty := .object "RingDominoLaw$Order") dL_law_1028 rfl e1_4 e2_4 ?_
        refine y_icmp_gt (t := 1095) dL_law_1029 (by decide) (fun q => ?_) (fun q => ?_)
        · replace h := h.1 q
          refine y_iconst (v := 0) dL_law_1095 rfl ?_
          exact h.elim
        · replace h := h.2 q
          refine y_aload_n 2 dL_law_1032 rfl rfl ?_
          have hb := h.1
          replace h := h.2
          refine y_callM yXLk (b' := (1, 0, 0)) (K' := kX10_rounds) (As := []) (S := []) dL_law_1033 mX10_rounds lML_229 rfl rfl ⟨(by decide), hb⟩ (Nat.le_of_ble_eq_true rfl) (yCal.cls h) (fun v_ M_ H_ q_ => ?_) rfl
          obtain ⟨⟨r_5, rfl, h⟩, rfl⟩ := q_
          revert h
          generalize M_ = M_5
          intro h
          refine y_iload 12 dL_law_1036 rfl ?_
          refine y_iload 13 dL_law_1038 rfl ?_
          refine y_iadd dL_law_1040 ?_
          refine y_icmp_ne (t := 1095) dL_law_1041 (by decide) (fun q => ?_) (fun q => ?_)
          · replace h := h.1 q
            refine y_iconst (v := 0) dL_law_1095 rfl ?_
            exact h.elim
          · replace h := h.2 q
            refine y_iload 9 dL_law_1044 rfl ?_
            refine y_if_le (t := 1083) dL_law_1046 (by decide) (fun q => ?_) (fun q => ?_)
            · replace h := h.1 q
              exact Yx.sub (ks := [1, 2, 3, 4, 5, 6, 7, 8, 9, 10, 11, 12, 13]) rfl h
            · replace h := h.2 q
              exact Yx.sub (ks := [1, 2, 3, 4, 5, 6, 7, 8, 9, 10, 11, 12, 13]) rfl h
set_option maxHeartbeats 4000000 in
set_option maxRecDepth 100000 in
theorem B_L_law_983 (G : eG) {b L : Nat} {xs : Nat → Int32} (ca sl : Nat) (M : eM) (H : yH) (x2 : Int32) (a3 : Nat) (a5 : Nat) (x6 : Int32) (x7 : Int32) (x8 : Int32) (x20 : Int32) (x21 : Int32) (x22 : Int32)
    (h : (ca + 0 ≤ room_1.cells ∧ sl + 0 ≤ room_1.slots) ∧ Cal G 0 68 (1, 0, 0) kX10_rounds [.ref (G.1 0)] M (eFI (fun (r_1 : Int32) (M_1 : eM) => Yx (yXL b L xs) lwZ G room_1 kL_law 992 [(0, .ref b), (1, .ref (G.1 0)), (2, .int x2), (3, .ref a3), (5, .ref a5), (6, .int x6), (7, .int x7), (8, .int x8), (20, .int x20), (21, .int x21), (22, .int x22), (23, .int r_1), (24, .int 1)] [] M_1 H ca sl))) :
    Yx (yXL b L xs) lwZ G room_1 kL_law 983 [(0, .ref b), (1, .ref (G.1 0)), (2, .int x2), (3, .ref a3), (5, .ref a5), (6, .int x6), (7, .int x7), (8, .int x8), (20, .int x20), (21, .int x21), (22, .int x22)] [] M H ca sl := by
  refine y_aload_n 1 dL_law_983 rfl rfl ?_
  have hb := h.1
  replace h := h.2
  refine y_callM yXLk (b' := (1, 0, 0)) (K' := kX10_rounds) (As := []) (S := []) dL_law_984 mX10_rounds lML_229 rfl rfl ⟨(by decide), hb⟩ (Nat.le_of_ble_eq_true rfl) (yCal.cls h) (fun v_ M_ H_ q_ => ?_) rfl
  obtain ⟨⟨r_1, rfl, h⟩, rfl⟩ := q_
  revert h
  generalize M_ = M_1
  intro h
  refine y_istore (i := 23) (l' := [(23, .int r_1), (0, .ref b), (1, .ref (G.1 0)), (2, .int x2), (3, .ref a3), (5, .ref a5), (6, .int x6), (7, .int x7), (8, .int x8), (20, .int x20), (21, .int x21), (22, .int x22)]) dL_law_987 (by decide) rfl ?_
  refine y_iconst (v := 1) dL_law_989 rfl ?_
  refine y_istore (i := 24) (l' := [(24, .int 1), (23, .int r_1), (0, .ref b), (1, .ref (G.1 0)), (2, .int x2), (3, .ref a3), (5, .ref a5), (6, .int x6), (7, .int x7), (8, .int x8), (20, .int x20), (21, .int x21), (22, .int x22)]) dL_law_990 (by decide) rfl ?_
  exact Yx.sub (ks := [2, 3, 4, 5, 6, 7, 8, 9, 10, 11, 12, 1, 0]) rfl h
set_option maxHeartbeats 4000000 in
set_option maxRecDepth 100000 in
theorem B_L_law_922 (G : eG) {b L : Nat} {xs : Nat → Int32} (ca sl : Nat) (M : eM) (H : yH) (x2 : Int32) (a3 : Nat) (a5 : Nat) (x6 : Int32) (x7 : Int32) (x8 : Int32) (x9 : Int64)
    (h : (ca + 0 ≤ room_1.cells ∧ sl + 0 ≤ room_1.slots) ∧ Cal G 0 68 (8, 0, 0) kX10_roundsUntilRing [.ref (G.1 0)] M (eFI (fun (r_1 : Int32) (M_1 : eM) => (ca + 0 ≤ room_1.cells ∧ sl + 0 ≤ room_1.slots) ∧ yIs H a3 9 ∧ yCal G (2, 0, 0) kX11_next [.ref a3, .int 6] M_1 H (yFI (fun (r_2 : Int32) (M_2 : eM) (H_2 : yH) => (ca + 0 ≤ room_1.cells ∧ sl + 0 ≤ room_1.slots) ∧ Cal G 0 68 (8, 0, 0) kX10_pointsAfter [.ref (G.1 0), .int ((1 : Int32) + r_2)] M_2 (eFI (fun (r_3 : Int32) (M_3 : eM) => (ca + 0 ≤ room_1.cells ∧ sl + 0 ≤ room_1.slots) ∧ Cal G 0 68 (6, 0, 0) kX10_digest [.ref (G.1 0)] M_3 (eFL (fun (r_4 : Int64) (M_4 : eM) => ((¬ (lg_cmp r_4 x9) = (0 : Int32)) → False) ∧ (((lg_cmp r_4 x9) = (0 : Int32)) → ((¬ r_1 = (0 : Int32)) → (ca + 0 ≤ room_1.cells ∧ sl + 0 ≤ room_1.slots) ∧ Cal G 0 68 (3, 0, 0) kX10_rings [.ref (G.1 0)] M_4 (eFI (fun (r_5 : Int32) (M_5 : eM) => ((r_5 ≤ (0 : Int32)) → Yx (yXL b L xs) lwZ G room_1 kL_law 983 [(0, .ref b), (1, .ref (G.1 0)), (2, .int x2), (3, .ref a3), (5, .ref a5), (6, .int x6), (7, .int x7), (8, .int x8), (20, .int r_1), (21, .int ((1 : Int32) + r_2)), (22, .int r_3)] [] M_5 H_2 ca sl) ∧ ((¬ r_5 ≤ (0 : Int32)) → False)))) ∧ ((r_1 = (0 : Int32)) → (ca + 0 ≤ room_1.cells ∧ sl + 0 ≤ room_1.slots) ∧ Cal G 0 68 (3, 0, 0) kX10_rings [.ref (G.1 0)] M_4 (eFI (fun (r_5 : Int32) (M_5 : eM) => ((r_5 ≤ (0 : Int32)) → False) ∧ ((¬ r_5 ≤ (0 : Int32)) → Yx (yXL b L xs) lwZ G room_1 kL_law 983 [(0, .ref b), (1, .ref (G.1 0)), (2, .int x2), (3, .ref a3), (5, .ref a5), (6, .int x6), (7, .int x7), (8, .int x8), (20, .int r_1), (21, .int ((1 : Int32) + r_2)), (22, .int r_3)] [] M_5 H_2 ca sl)))))))))))))) :
    Yx (yXL b L xs) lwZ G room_1 kL_law 922 [(0, .ref b), (1, .ref (G.1 0)), (2, .int x2), (3, .ref a3), (5, .ref a5), (6, .int x6), (7, .int x7), (8, .int x8), (9, .long x9)] [] M H ca sl := by
  refine y_aload_n 1 dL_law_922 rfl rfl ?_
  have hb := h.1
  replace h := h.2
  refine y_callM yXLk (b' := (8, 0, 0)) (K' := kX10_roundsUntilRing) (As := []) (S := []) dL_law_923 mX10_roundsUntilRing lML_223 rfl rfl ⟨(by decide), hb⟩ (Nat.le_of_ble_eq_true rfl) (yCal.cls h) (fun v_ M_ H_ q_ => ?_) rfl
  obtain ⟨⟨r_1, rfl, h⟩, rfl⟩ := q_
  revert h
  generalize M_ = M_1
  intro h
  refine y_istore (i := 20) (l' := [(20, .int r_1), (0, .ref b), (1, .ref (G.1 0)), (2, .int x2), (3, .ref a3), (5, .ref a5), (6, .int x6), (7, .int x7), (8, .int x8), (9, .long x9)]) dL_law_926 (by decide) rfl ?_
  refine y_iconst (v := 1) dL_law_928 rfl ?_
  refine y_aload_n 4 dL_law_929 rfl rfl ?_
  refine y_bipush (v := 6) dL_law_930 rfl ?_
  have hb := h.1
  replace h := h.2
  obtain ⟨⟨fs_2, hi⟩, h⟩ := h
  refine y_callV yXLk (b' := (2, 0, 0)) (K' := kX11_next) (As := [.int 6]) (S := [.int 1]) dL_law_932 mX11_next lML_35 clX11 rfl hi rfl ⟨(by decide), hb⟩ (Nat.le_of_ble_eq_true rfl) h (fun v_ M_2 H_2 q_ => ?_) rfl
  obtain ⟨r_2, rfl, h⟩ := q_
  refine y_iadd dL_law_935 ?_
  refine y_istore (i := 21) (l' := [(21, .int ((1 : Int32) + r_2)), (20, .int r_1), (0, .ref b), (1, .ref (G.1 0)), (2, .int x2), (3, .ref a3), (5, .ref a5), (6, .int x6), (7, .int x7), (8, .int x8), (9, .long x9)]) dL_law_936 (by decide) rfl ?_
  refine y_aload_n 3 dL_law_938 rfl rfl ?_
  refine y_iload 0 dL_law_939 rfl ?_
  have hb := h.1
  replace h := h.2
  refine y_callM yXLk (b' := (8, 0, 0)) (K' := kX10_pointsAfter) (As := [.int ((1 : Int32) + r_2)]) (S := []) dL_law_941 mX10_pointsAfter lML_226 rfl rfl ⟨(by decide), hb⟩ (Nat.le_of_ble_eq_true rfl) (yCal.cls h) (fun v_ M_ H_ q_ => ?_) rfl
  obtain ⟨⟨r_3, rfl, h⟩, rfl⟩ := q_
  revert h
  generalize M_ = M_3
  intro h
  refine y_istore (i := 22) (l' := [(22, .int r_3), (21, .int ((1 : Int32) + r_2)), (20, .int r_1), (0, .ref b), (1, .ref (G.1 0)), (2, .int x2), (3, .ref a3), (5, .ref a5), (6, .int x6), (7, .int x7), (8, .int x8), (9, .long x9)]) dL_law_944 (by decide) rfl ?_
  refine y_aload_n 4 dL_law_946 rfl rfl ?_
  have hb := h.1
  replace h := h.2
  refine y_callM yXLk (b' := (6, 0, 0)) (K' := kX10_digest) (As := []) (S := []) dL_law_947 mX10_digest lML_152 rfl rfl ⟨(by decide), hb⟩ (Nat.le_of_ble_eq_true rfl) (yCal.cls h) (fun v_ M_ H_ q_ => ?_) rfl
  obtain ⟨⟨r_4, rfl, h⟩, rfl⟩ := q_
  revert h
  generalize M_ = M_4
  intro h
  refine y_lload 11 dL_law_950 rfl ?_
  refine y_lcmp dL_law_952 ?_
  refine y_if_ne (t := 981) dL_law_953 (by decide) (fun q => ?_) (fun q => ?_)
  · replace h := h.1 q
    refine y_iconst (v := 0) dL_law_981 rfl ?_
    exact h.elim
  · replace h := h.2 q
    refine y_iload 2 dL_law_956 rfl ?_
    refine y_if_ne (t := 965) dL_law_958 (by decide) (fun q => ?_) (fun q => ?_)
    · replace h := h.1 q
      refine y_iconst (v := 0) dL_law_965 rfl ?_
      refine y_aload_n 4 dL_law_966 rfl rfl ?_
      have hb := h.1
      replace h := h.2
      refine y_callM yXLk (b' := (3, 0, 0)) (K' := kX10_rings) (As := []) (S := [.int 0]) dL_law_967 mX10_rings lML_190 rfl rfl ⟨(by decide), hb⟩ (Nat.le_of_ble_eq_true rfl) (yCal.cls h) (fun v_ M_ H_ q_ => ?_) rfl
      obtain ⟨⟨r_5, rfl, h⟩, rfl⟩ := q_
      revert h
      generalize M_ = M_5
      intro h
      refine y_if_le (t := 977) dL_law_970 (by decide) (fun q => ?_) (fun q => ?_)
      · replace h := h.1 q
        refine y_iconst (v := 0) dL_law_977 rfl ?_
        refine y_icmp_eq (t := 983) dL_law_978 (by decide) (fun q => ?_) (fun q => ?_)
        · exact Yx.sub (ks := [3, 4, 5, 6, 7, 8, 9, 10, 2, 1, 0]) rfl h
        · exact absurd q (by decide)
      · replace h := h.2 q
        refine y_iconst (v := 1) dL_law_973 rfl ?_
        refine y_goto (t := 978) dL_law_974 (by decide) ?_
        refine y_icmp_eq (t := 983) dL_law_978 (by decide) (fun q => ?_) (fun q => ?_)
        · exact absurd q (by decide)
        · refine y_iconst (v := 0) dL_law_981 rfl ?_
          exact h.elim
    · replace h := h.2 q
      refine y_iconst (v := 1) dL_law_961 rfl ?_
      refine y_goto (t := 966) dL_law_962 (by decide) ?_
      refine y_aload_n 4 dL_law_966 rfl rfl ?_
      have hb := h.1
      replace h := h.2
      refine y_callM yXLk (b' := (3, 0, 0)) (K' := kX10_rings) (As := []) (S := [.int 1]) dL_law_967 mX10_rings lML_190 rfl rfl ⟨(by decide), hb⟩ (Nat.le_of_ble_eq_true rfl) (yCal.cls h) (fun v_ M_ H_ q_ => ?_) rfl
      obtain ⟨⟨r_5, rfl, h⟩, rfl⟩ := q_
      revert h
      generalize M_ = M_5
      intro h
      refine y_if_le (t := 977) dL_law_970 (by decide) (fun q => ?_) (fun q => ?_)
      · replace h := h.1 q
        refine y_iconst (v := 0) dL_law_977 rfl ?_
        refine y_icmp_eq (t := 983) dL_law_978 (by decide) (fun q => ?_) (fun q => ?_)
        · exact absurd q (by decide)
        · refine y_iconst (v := 0) dL_law_981 rfl ?_
          exact h.elim
      · replace h := h.2 q
        refine y_iconst (v := 1) dL_law_973 rfl ?_
        refine y_goto (t := 978) dL_law_974 (by decide) ?_
        refine y_icmp_eq (t := 983) dL_law_978 (by decide) (fun q => ?_) (fun q => ?_)
        · exact Yx.sub (ks := [3, 4, 5, 6, 7, 8, 9, 10, 2, 1, 0]) rfl h
        · exact absurd q (by decide)
set_option maxHeartbeats 4000000 in
set_option maxRecDepth 100000 in
theorem B_L_law_883 (G : eG) {b L : Nat} {xs : Nat → Int32} (ca sl : Nat) (M : eM) (H : yH) (x2 : Int32) (a3 : Nat) (a5 : Nat) (x6 : Int32) (x7 : Int32) (x8 : Int32) (x9 : Int64) (x22 : Int32) (x23 : Int32) (x24 : Int32)
    (h : (ca + 0 ≤ room_1.cells ∧ sl + 0 ≤ room_1.slots) ∧ Cal G 0 68 (4, 0, 0) kX10_takeTile [.ref (G.1 0), .int x24] M (eFI (fun (r_1 : Int32) (M_1 : eM) => ((x22 < r_1) → False) ∧ ((¬ x22 < r_1) → (ca + 0 ≤ room_1.cells ∧ sl + 0 ≤ room_1.slots) ∧ Cal G 0 68 (6, 0, 0) kX10_digest [.ref (G.1 0)] M_1 (eFL (fun (r_2 : Int64) (M_2 : eM) => (((lg_cmp r_2 x9) = (0 : Int32)) → Yx (yXL b L xs) lwZ G room_1 kL_law 821 [(0, .ref b), (1, .ref (G.1 0)), (2, .int x2), (3, .ref a3), (5, .ref a5), (6, .int x6), (7, .int x7), (8, .int x8), (9, .long x9), (22, .int x22), (23, .int (x23 + 1))] [] M_2 H ca sl) ∧ ((¬ (lg_cmp r_2 x9) = (0 : Int32)) → False))))))) :
    Yx (yXL b L xs) lwZ G room_1 kL_law 883 [(0, .ref b), (1, .ref (G.1 0)), (2, .int x2), (3, .ref a3), (5, .ref a5), (6, .int x6), (7, .int x7), (8, .int x8), (9, .long x9), (22, .int x22), (23, .int x23), (24, .int x24)] [] M H ca sl := by
  refine y_aload_n 1 dL_law_883 rfl rfl ?_
  refine y_iload 11 dL_law_884 rfl ?_
  have hb := h.1
  replace h := h.2
  refine y_callM yXLk (b' := (4, 0, 0)) (K' := kX10_takeTile) (As := [.int x24]) (S := []) dL_law_886 mX10_takeTile lML_115 rfl rfl ⟨(by decide), hb⟩ (Nat.le_of_ble_eq_true rfl) (yCal.cls h) (fun v_ M_ H_ q_ => ?_) rfl
  obtain ⟨⟨r_1, rfl, h⟩, rfl⟩ := q_
  revert h
  generalize M_ = M_1
  intro h
  refine y_iload 9 dL_law_889 rfl ?_
  refine y_icmp_gt (t := 904) dL_law_891 (by decide) (fun q => ?_) (fun q => ?_)
  · replace h := h.1 q
    refine y_iconst (v := 0) dL_law_904 rfl ?_
    exact h.elim
  · replace h := h.2 q
    refine y_aload_n 1 dL_law_894 rfl rfl ?_
    have hb := h.1
    replace h := h.2
    refine y_callM yXLk (b' := (6, 0, 0)) (K' := kX10_digest) (As := []) (S := []) dL_law_895 mX10_digest lML_152 rfl rfl ⟨(by decide), hb⟩ (Nat.le_of_ble_eq_true rfl) (yCal.cls h) (fun v_ M_ H_ q_ => ?_) rfl
    obtain ⟨⟨r_2, rfl, h⟩, rfl⟩ := q_
    revert h
    generalize M_ = M_2
    intro h
    refine y_lload 8 dL_law_898 rfl ?_
    refine y_lcmp dL_law_900 ?_
    refine y_if_eq (t := 906) dL_law_901 (by decide) (fun q => ?_) (fun q => ?_)
    · replace h := h.1 q
      refine y_iinc (v := x23 + 1) (l' := [(23, .int (x23 + 1)), (0, .ref b), (1, .ref (G.1 0)), (2, .int x2), (3, .ref a3), (5, .ref a5), (6, .int x6), (7, .int x7), (8, .int x8), (9, .long x9), (22, .int x22), (24, .int x24)]) 10 dL_law_906 rfl rfl (by decide) rfl ?_
      refine y_goto (t := 821) dL_law_909 (by decide) ?_
      exact Yx.sub (ks := [1, 2, 3, 4, 5, 6, 7, 8, 9, 10, 0]) rfl h
    · replace h := h.2 q
      refine y_iconst (v := 0) dL_law_904 rfl ?_
      exact h.elim
set_option maxHeartbeats 4000000 in
set_option maxRecDepth 100000 in
theorem B_L_law_821 (G : eG) {b L : Nat} {xs : Nat → Int32} (ca sl : Nat) (M : eM) (H : yH) (x2 : Int32) (a3 : Nat) (a5 : Nat) (x6 : Int32) (x7 : Int32) (x8 : Int32) (x9 : Int64) (x22 : Int32) (x23 : Int32)
    (h : (((20 : Int32) ≤ x23) → Yx (yXL b L xs) lwZ G room_1 kL_law 922 [(0, .ref b), (1, .ref (G.1 0)), (2, .int x2), (3, .ref a3), (5, .ref a5), (6, .int x6), (7, .int x7), (8, .int x8), (9, .long x9)] [] M H ca sl) ∧ ((¬ (20 : Int32) ≤ x23) → (ca + 0 ≤ room_1.cells ∧ sl + 0 ≤ room_1.slots) ∧ yIs H a3 9 ∧ yCal G (2, 0, 0) kX11_next [.ref a3, .int x6] M H (yFI (fun (r_1 : Int32) (M_1 : eM) (H_1 : yH) => (ca + 0 ≤ room_1.cells ∧ sl + 0 ≤ room_1.slots) ∧ yIs H_1 a3 9 ∧ yCal G (2, 0, 0) kX11_next [.ref a3, .int x7] M_1 H_1 (yFI (fun (r_2 : Int32) (M_2 : eM) (H_2 : yH) => (ca + 0 ≤ room_1.cells ∧ sl + 0 ≤ room_1.slots) ∧ yIs H_2 a3 9 ∧ yCal G (2, 0, 0) kX11_next [.ref a3, .int 6] M_2 H_2 (yFI (fun (r_3 : Int32) (M_3 : eM) (H_3 : yH) => (ca + 0 ≤ room_1.cells ∧ sl + 0 ≤ room_1.slots) ∧ Cal G 0 68 (4, 0, 0) kX10_fits [.ref (G.1 0), .int r_1, .int r_2, .int r_3] M_3 (eFZ (fun (r_4 : Bool) (M_4 : eM) => ((r_4 = true) → (ca + 0 ≤ room_1.cells ∧ sl + 0 ≤ room_1.slots) ∧ Cal G 0 68 (4, 0, 0) kX10_putTile [.ref (G.1 0), .int r_1, .int r_2, .int r_3] M_4 (eFI (fun (r_5 : Int32) (M_5 : eM) => ((x22 < r_5) → False) ∧ ((¬ x22 < r_5) → Yx (yXL b L xs) lwZ G room_1 kL_law 883 [(0, .ref b), (1, .ref (G.1 0)), (2, .int x2), (3, .ref a3), (5, .ref a5), (6, .int x6), (7, .int x7), (8, .int x8), (9, .long x9), (22, .int x22), (23, .int x23), (24, .int r_1)] [] M_5 H_3 ca sl)))) ∧ ((r_4 = false) → Yx (yXL b L xs) lwZ G room_1 kL_law 821 [(0, .ref b), (1, .ref (G.1 0)), (2, .int x2), (3, .ref a3), (5, .ref a5), (6, .int x6), (7, .int x7), (8, .int x8), (9, .long x9), (22, .int x22), (23, .int (x23 + 1))] [] M_4 H_3 ca sl))))))))))) :
    Yx (yXL b L xs) lwZ G room_1 kL_law 821 [(0, .ref b), (1, .ref (G.1 0)), (2, .int x2), (3, .ref a3), (5, .ref a5), (6, .int x6), (7, .int x7), (8, .int x8), (9, .long x9), (22, .int x22), (23, .int x23)] [] M H ca sl := by
  refine y_iload 10 dL_law_821 rfl ?_
  refine y_bipush (v := 20) dL_law_823 rfl ?_
  refine y_icmp_ge (t := 912) dL_law_825 (by decide) (fun q => ?_) (fun q => ?_)
  · replace h := h.1 q
    refine y_goto (t := 922) dL_law_912 (by decide) ?_
    exact Yx.sub (ks := [0, 1, 2, 3, 4, 5, 6, 7, 8]) rfl h
  · replace h := h.2 q
    refine y_aload_n 3 dL_law_828 rfl rfl ?_
    refine y_iload 5 dL_law_829 rfl ?_
    have hb := h.1
    replace h := h.2
    obtain ⟨⟨fs_1, hi⟩, h⟩ := h
    refine y_callV yXLk (b' := (2, 0, 0)) (K' := kX11_next) (As := [.int x6]) (S := []) dL_law_831 mX11_next lML_35 clX11 rfl hi rfl ⟨(by decide), hb⟩ (Nat.le_of_ble_eq_true rfl) h (fun v_ M_1 H_1 q_ => ?_) rfl
    obtain ⟨r_1, rfl, h⟩ := q_
    refine y_istore (i := 24) (l' := [(24, .int r_1), (0, .ref b), (1, .ref (G.1 0)), (2, .int x2), (3, .ref a3), (5, .ref a5), (6, .int x6), (7, .int x7), (8, .int x8), (9, .long x9), (22, .int x22), (23, .int x23)]) dL_law_834 (by decide) rfl ?_
    refine y_aload_n 4 dL_law_836 rfl rfl ?_
    refine y_iload 7 dL_law_837 rfl ?_
    have hb := h.1
    replace h := h.2
    obtain ⟨⟨fs_2, hi⟩, h⟩ := h
    refine y_callV yXLk (b' := (2, 0, 0)) (K' := kX11_next) (As := [.int x7]) (S := []) dL_law_839 mX11_next lML_35 clX11 rfl hi rfl ⟨(by decide), hb⟩ (Nat.le_of_ble_eq_true rfl) h (fun v_ M_2 H_2 q_ => ?_) rfl
    obtain ⟨r_2, rfl, h⟩ := q_
    refine y_istore (i := 25) (l' := [(25, .int r_2), (24, .int r_1), (0, .ref b), (1, .ref (G.1 0)), (2, .int x2), (3, .ref a3), (5, .ref a5), (6, .int x6), (7, .int x7), (8, .int x8), (9, .long x9), (22, .int x22), (23, .int x23)]) dL_law_842 (by decide) rfl ?_
    refine y_aload_n 5 dL_law_844 rfl rfl ?_
    refine y_bipush (v := 6) dL_law_845 rfl ?_
    have hb := h.1
    replace h := h.2
    obtain ⟨⟨fs_3, hi⟩, h⟩ := h
    refine y_callV yXLk (b' := (2, 0, 0)) (K' := kX11_next) (As := [.int 6]) (S := []) dL_law_847 mX11_next lML_35 clX11 rfl hi rfl ⟨(by decide), hb⟩ (Nat.le_of_ble_eq_true rfl) h (fun v_ M_3 H_3 q_ => ?_) rfl
    obtain ⟨r_3, rfl, h⟩ := q_
    refine y_istore (i := 26) (l' := [(26, .int r_3), (25, .int r_2), (24, .int r_1), (0, .ref b), (1, .ref (G.1 0)), (2, .int x2), (3, .ref a3), (5, .ref a5), (6, .int x6), (7, .int x7), (8, .int x8), (9, .long x9), (22, .int x22), (23, .int x23)]) dL_law_850 (by decide) rfl ?_
    refine y_aload_n 4 dL_law_852 rfl rfl ?_
    refine y_iload 2 dL_law_853 rfl ?_
    refine y_iload 1 dL_law_855 rfl ?_
    refine y_iload 0 dL_law_857 rfl ?_
    have hb := h.1
    replace h := h.2
    refine y_callM yXLk (b' := (4, 0, 0)) (K' := kX10_fits) (As := [.int r_1, .int r_2, .int r_3]) (S := []) dL_law_859 mX10_fits lML_199 rfl rfl ⟨(by decide), hb⟩ (Nat.le_of_ble_eq_true rfl) (yCal.cls h) (fun v_ M_ H_ q_ => ?_) rfl
    obtain ⟨⟨r_4, rfl, h⟩, rfl⟩ := q_
    revert h
    generalize M_ = M_4
    intro h
    refine y_zif_ne (t := 868) dL_law_862 (by decide) (fun q => ?_) (fun q => ?_)
    · replace h := h.1 q
      refine y_aload_n 4 dL_law_868 rfl rfl ?_
      refine y_iload 2 dL_law_869 rfl ?_
      refine y_iload 1 dL_law_871 rfl ?_
      refine y_iload 0 dL_law_873 rfl ?_
      have hb := h.1
      replace h := h.2
      refine y_callM yXLk (b' := (4, 0, 0)) (K' := kX10_putTile) (As := [.int r_1, .int r_2, .int r_3]) (S := []) dL_law_875 mX10_putTile lML_111 rfl rfl ⟨(by decide), hb⟩ (Nat.le_of_ble_eq_true rfl) (yCal.cls h) (fun v_ M_ H_ q_ => ?_) rfl
      obtain ⟨⟨r_5, rfl, h⟩, rfl⟩ := q_
      revert h
      generalize M_ = M_5
      intro h
      refine y_iload 12 dL_law_878 rfl ?_
      refine y_icmp_gt (t := 904) dL_law_880 (by decide) (fun q => ?_) (fun q => ?_)
      · replace h := h.1 q
        refine y_iconst (v := 0) dL_law_904 rfl ?_
        exact h.elim
      · replace h := h.2 q
        exact Yx.sub (ks := [3, 4, 5, 6, 7, 8, 9, 10, 11, 12, 13, 2]) rfl h
    · replace h := h.2 q
      refine y_goto (t := 906) dL_law_865 (by decide) ?_
      refine y_iinc (v := x23 + 1) (l' := [(23, .int (x23 + 1)), (26, .int r_3), (25, .int r_2), (24, .int r_1), (0, .ref b), (1, .ref (G.1 0)), (2, .int x2), (3, .ref a3), (5, .ref a5), (6, .int x6), (7, .int x7), (8, .int x8), (9, .long x9), (22, .int x22)]) 13 dL_law_906 rfl rfl (by decide) rfl ?_
      refine y_goto (t := 821) dL_law_909 (by decide) ?_
      exact Yx.sub (ks := [4, 5, 6, 7, 8, 9, 10, 11, 12, 13, 0]) rfl h
set_option maxHeartbeats 4000000 in
set_option maxRecDepth 100000 in
theorem B_L_law_783 (G : eG) {b L : Nat} {xs : Nat → Int32} (ca sl : Nat) (M : eM) (H : yH) (x2 : Int32) (a3 : Nat) (a5 : Nat) (x6 : Int32) (x7 : Int32) (x8 : Int32) (x9 : Int64) (x18 : Int32) (x19 : Int32) (x22 : Int32)
    (h : (ca + 0 ≤ room_1.cells ∧ sl + 0 ≤ room_1.slots) ∧ Cal G 0 68 (4, 0, 0) kX10_points [.ref (G.1 0)] M (eFI (fun (r_1 : Int32) (M_1 : eM) => ((¬ r_1 = (x19 + x22)) → False) ∧ ((r_1 = (x19 + x22)) → (ca + 0 ≤ room_1.cells ∧ sl + 0 ≤ room_1.slots) ∧ Cal G 0 68 (4, 0, 0) kX10_takeTile [.ref (G.1 0), .int x18] M_1 (eFI (fun (r_2 : Int32) (M_2 : eM) => ((¬ r_2 = x22) → False) ∧ ((r_2 = x22) → (ca + 0 ≤ room_1.cells ∧ sl + 0 ≤ room_1.slots) ∧ Cal G 0 68 (6, 0, 0) kX10_digest [.ref (G.1 0)] M_2 (eFL (fun (r_3 : Int64) (M_3 : eM) => (((lg_cmp r_3 x9) = (0 : Int32)) → Yx (yXL b L xs) lwZ G room_1 kL_law 821 [(0, .ref b), (1, .ref (G.1 0)), (2, .int x2), (3, .ref a3), (5, .ref a5), (6, .int x6), (7, .int x7), (8, .int x8), (9, .long x9), (22, .int x22), (23, .int 0)] [] M_3 H ca sl) ∧ ((¬ (lg_cmp r_3 x9) = (0 : Int32)) → False)))))))))) :
    Yx (yXL b L xs) lwZ G room_1 kL_law 783 [(0, .ref b), (1, .ref (G.1 0)), (2, .int x2), (3, .ref a3), (5, .ref a5), (6, .int x6), (7, .int x7), (8, .int x8), (9, .long x9), (18, .int x18), (19, .int x19), (22, .int x22)] [] M H ca sl := by
  refine y_aload_n 1 dL_law_783 rfl rfl ?_
  have hb := h.1
  replace h := h.2
  refine y_callM yXLk (b' := (4, 0, 0)) (K' := kX10_points) (As := []) (S := []) dL_law_784 mX10_points lML_193 rfl rfl ⟨(by decide), hb⟩ (Nat.le_of_ble_eq_true rfl) (yCal.cls h) (fun v_ M_ H_ q_ => ?_) rfl
  obtain ⟨⟨r_1, rfl, h⟩, rfl⟩ := q_
  revert h
  generalize M_ = M_1
  intro h
  refine y_iload 10 dL_law_787 rfl ?_
  refine y_iload 11 dL_law_789 rfl ?_
  refine y_iadd dL_law_791 ?_
  refine y_icmp_ne (t := 816) dL_law_792 (by decide) (fun q => ?_) (fun q => ?_)
  · replace h := h.1 q
    refine y_iconst (v := 0) dL_law_816 rfl ?_
    exact h.elim
  · replace h := h.2 q
    refine y_aload_n 1 dL_law_795 rfl rfl ?_
    refine y_iload 9 dL_law_796 rfl ?_
    have hb := h.1
    replace h := h.2
    refine y_callM yXLk (b' := (4, 0, 0)) (K' := kX10_takeTile) (As := [.int x18]) (S := []) dL_law_798 mX10_takeTile lML_115 rfl rfl ⟨(by decide), hb⟩ (Nat.le_of_ble_eq_true rfl) (yCal.cls h) (fun v_ M_ H_ q_ => ?_) rfl
    obtain ⟨⟨r_2, rfl, h⟩, rfl⟩ := q_
    revert h
    generalize M_ = M_2
    intro h
    refine y_iload 11 dL_law_801 rfl ?_
    refine y_icmp_ne (t := 816) dL_law_803 (by decide) (fun q => ?_) (fun q => ?_)
    · replace h := h.1 q
      refine y_iconst (v := 0) dL_law_816 rfl ?_
      exact h.elim
    · replace h := h.2 q
      refine y_aload_n 1 dL_law_806 rfl rfl ?_
      have hb := h.1
      replace h := h.2
      refine y_callM yXLk (b' := (6, 0, 0)) (K' := kX10_digest) (As := []) (S := []) dL_law_807 mX10_digest lML_152 rfl rfl ⟨(by decide), hb⟩ (Nat.le_of_ble_eq_true rfl) (yCal.cls h) (fun v_ M_ H_ q_ => ?_) rfl
      obtain ⟨⟨r_3, rfl, h⟩, rfl⟩ := q_
      revert h
      generalize M_ = M_3
      intro h
      refine y_lload 8 dL_law_810 rfl ?_
      refine y_lcmp dL_law_812 ?_
      refine y_if_eq (t := 818) dL_law_813 (by decide) (fun q => ?_) (fun q => ?_)
      · replace h := h.1 q
        refine y_iconst (v := 0) dL_law_818 rfl ?_
        refine y_istore (i := 23) (l' := [(23, .int 0), (0, .ref b), (1, .ref (G.1 0)), (2, .int x2), (3, .ref a3), (5, .ref a5), (6, .int x6), (7, .int x7), (8, .int x8), (9, .long x9), (18, .int x18), (19, .int x19), (22, .int x22)]) dL_law_819 (by decide) rfl ?_
        exact Yx.sub (ks := [1, 2, 3, 4, 5, 6, 7, 8, 9, 12, 0]) rfl h
      · replace h := h.2 q
        refine y_iconst (v := 0) dL_law_816 rfl ?_
        exact h.elim
set_option maxHeartbeats 4000000 in
set_option maxRecDepth 100000 in
theorem B_L_law_723 (G : eG) {b L : Nat} {xs : Nat → Int32} (ca sl : Nat) (M : eM) (H : yH) (x2 : Int32) (a3 : Nat) (a5 : Nat) (x6 : Int32) (x7 : Int32) (x8 : Int32) (x9 : Int64) (x17 : Int32)
    (h : (ca + 0 ≤ room_1.cells ∧ sl + 0 ≤ room_1.slots) ∧ Cal G 0 68 (5, 0, 0) kX10_bestTile [.ref (G.1 0)] M (eFI (fun (r_1 : Int32) (M_1 : eM) => (ca + 0 ≤ room_1.cells ∧ sl + 0 ≤ room_1.slots) ∧ Cal G 0 68 (4, 0, 0) kX10_points [.ref (G.1 0)] M_1 (eFI (fun (r_2 : Int32) (M_2 : eM) => ((r_1 < (0 : Int32)) → ((x17 ≤ (0 : Int32)) → Yx (yXL b L xs) lwZ G room_1 kL_law 922 [(0, .ref b), (1, .ref (G.1 0)), (2, .int x2), (3, .ref a3), (5, .ref a5), (6, .int x6), (7, .int x7), (8, .int x8), (9, .long x9)] [] M_2 H ca sl) ∧ ((¬ x17 ≤ (0 : Int32)) → False)) ∧ ((¬ r_1 < (0 : Int32)) → (ca + 0 ≤ room_1.cells ∧ sl + 0 ≤ room_1.slots) ∧ Cal G 0 68 (4, 0, 0) kX10_bestCell [.ref (G.1 0), .int r_1] M_2 (eFI (fun (r_3 : Int32) (M_3 : eM) => (ca + 0 ≤ room_1.cells ∧ sl + 0 ≤ room_1.slots) ∧ Cal G 0 68 (4, 0, 0) kX10_bestTurn [.ref (G.1 0), .int r_1] M_3 (eFI (fun (r_4 : Int32) (M_4 : eM) => (ca + 0 ≤ room_1.cells ∧ sl + 0 ≤ room_1.slots) ∧ Cal G 0 68 (4, 0, 0) kX10_fits [.ref (G.1 0), .int r_1, .int r_3, .int r_4] M_4 (eFZ (fun (r_5 : Bool) (M_5 : eM) => ((r_5 = true) → (ca + 0 ≤ room_1.cells ∧ sl + 0 ≤ room_1.slots) ∧ Cal G 0 68 (4, 0, 0) kX10_putTile [.ref (G.1 0), .int r_1, .int r_3, .int r_4] M_5 (eFI (fun (r_6 : Int32) (M_6 : eM) => Yx (yXL b L xs) lwZ G room_1 kL_law 783 [(0, .ref b), (1, .ref (G.1 0)), (2, .int x2), (3, .ref a3), (5, .ref a5), (6, .int x6), (7, .int x7), (8, .int x8), (9, .long x9), (18, .int r_1), (19, .int r_2), (22, .int r_6)] [] M_6 H ca sl))) ∧ ((r_5 = false) → False))))))))))))) :
    Yx (yXL b L xs) lwZ G room_1 kL_law 723 [(0, .ref b), (1, .ref (G.1 0)), (2, .int x2), (3, .ref a3), (5, .ref a5), (6, .int x6), (7, .int x7), (8, .int x8), (9, .long x9), (17, .int x17)] [] M H ca sl := by
  refine y_aload_n 1 dL_law_723 rfl rfl ?_
  have hb := h.1
  replace h := h.2
  refine y_callM yXLk (b' := (5, 0, 0)) (K' := kX10_bestTile) (As := []) (S := []) dL_law_724 mX10_bestTile lML_214 rfl rfl ⟨(by decide), hb⟩ (Nat.le_of_ble_eq_true rfl) (yCal.cls h) (fun v_ M_ H_ q_ => ?_) rfl
  obtain ⟨⟨r_1, rfl, h⟩, rfl⟩ := q_
  revert h
  generalize M_ = M_1
  intro h
  refine y_istore (i := 18) (l' := [(18, .int r_1), (0, .ref b), (1, .ref (G.1 0)), (2, .int x2), (3, .ref a3), (5, .ref a5), (6, .int x6), (7, .int x7), (8, .int x8), (9, .long x9), (17, .int x17)]) dL_law_727 (by decide) rfl ?_
  refine y_aload_n 2 dL_law_729 rfl rfl ?_
  have hb := h.1
  replace h := h.2
  refine y_callM yXLk (b' := (4, 0, 0)) (K' := kX10_points) (As := []) (S := []) dL_law_730 mX10_points lML_193 rfl rfl ⟨(by decide), hb⟩ (Nat.le_of_ble_eq_true rfl) (yCal.cls h) (fun v_ M_ H_ q_ => ?_) rfl
  obtain ⟨⟨r_2, rfl, h⟩, rfl⟩ := q_
  revert h
  generalize M_ = M_2
  intro h
  refine y_istore (i := 19) (l' := [(19, .int r_2), (18, .int r_1), (0, .ref b), (1, .ref (G.1 0)), (2, .int x2), (3, .ref a3), (5, .ref a5), (6, .int x6), (7, .int x7), (8, .int x8), (9, .long x9), (17, .int x17)]) dL_law_733 (by decide) rfl ?_
  refine y_iload 1 dL_law_735 rfl ?_
  refine y_if_lt (t := 915) dL_law_737 (by decide) (fun q => ?_) (fun q => ?_)
  · replace h := h.1 q
    refine y_iload 11 dL_law_915 rfl ?_
    refine y_if_le (t := 922) dL_law_917 (by decide) (fun q => ?_) (fun q => ?_)
    · replace h := h.1 q
      exact Yx.sub (ks := [2, 3, 4, 5, 6, 7, 8, 9, 10]) rfl h
    · replace h := h.2 q
      refine y_iconst (v := 0) dL_law_920 rfl ?_
      exact h.elim
  · replace h := h.2 q
    refine y_aload_n 3 dL_law_740 rfl rfl ?_
    refine y_iload 1 dL_law_741 rfl ?_
    have hb := h.1
    replace h := h.2
    refine y_callM yXLk (b' := (4, 0, 0)) (K' := kX10_bestCell) (As := [.int r_1]) (S := []) dL_law_743 mX10_bestCell lML_217 rfl rfl ⟨(by decide), hb⟩ (Nat.le_of_ble_eq_true rfl) (yCal.cls h) (fun v_ M_ H_ q_ => ?_) rfl
    obtain ⟨⟨r_3, rfl, h⟩, rfl⟩ := q_
    revert h
    generalize M_ = M_3
    intro h
    refine y_istore (i := 20) (l' := [(20, .int r_3), (19, .int r_2), (18, .int r_1), (0, .ref b), (1, .ref (G.1 0)), (2, .int x2), (3, .ref a3), (5, .ref a5), (6, .int x6), (7, .int x7), (8, .int x8), (9, .long x9), (17, .int x17)]) dL_law_746 (by decide) rfl ?_
    refine y_aload_n 4 dL_law_748 rfl rfl ?_
    refine y_iload 2 dL_law_749 rfl ?_
    have hb := h.1
    replace h := h.2
    refine y_callM yXLk (b' := (4, 0, 0)) (K' := kX10_bestTurn) (As := [.int r_1]) (S := []) dL_law_751 mX10_bestTurn lML_220 rfl rfl ⟨(by decide), hb⟩ (Nat.le_of_ble_eq_true rfl) (yCal.cls h) (fun v_ M_ H_ q_ => ?_) rfl
    obtain ⟨⟨r_4, rfl, h⟩, rfl⟩ := q_
    revert h
    generalize M_ = M_4
    intro h
    refine y_istore (i := 21) (l' := [(21, .int r_4), (20, .int r_3), (19, .int r_2), (18, .int r_1), (0, .ref b), (1, .ref (G.1 0)), (2, .int x2), (3, .ref a3), (5, .ref a5), (6, .int x6), (7, .int x7), (8, .int x8), (9, .long x9), (17, .int x17)]) dL_law_754 (by decide) rfl ?_
    refine y_aload_n 5 dL_law_756 rfl rfl ?_
    refine y_iload 3 dL_law_757 rfl ?_
    refine y_iload 1 dL_law_759 rfl ?_
    refine y_iload 0 dL_law_761 rfl ?_
    have hb := h.1
    replace h := h.2
    refine y_callM yXLk (b' := (4, 0, 0)) (K' := kX10_fits) (As := [.int r_1, .int r_3, .int r_4]) (S := []) dL_law_763 mX10_fits lML_199 rfl rfl ⟨(by decide), hb⟩ (Nat.le_of_ble_eq_true rfl) (yCal.cls h) (fun v_ M_ H_ q_ => ?_) rfl
    obtain ⟨⟨r_5, rfl, h⟩, rfl⟩ := q_
    revert h
    generalize M_ = M_5
    intro h
    refine y_zif_ne (t := 771) dL_law_766 (by decide) (fun q => ?_) (fun q => ?_)
    · replace h := h.1 q
      refine y_aload_n 5 dL_law_771 rfl rfl ?_
      refine y_iload 3 dL_law_772 rfl ?_
      refine y_iload 1 dL_law_774 rfl ?_
      refine y_iload 0 dL_law_776 rfl ?_
      have hb := h.1
      replace h := h.2
      refine y_callM yXLk (b' := (4, 0, 0)) (K' := kX10_putTile) (As := [.int r_1, .int r_3, .int r_4]) (S := []) dL_law_778 mX10_putTile lML_111 rfl rfl ⟨(by decide), hb⟩ (Nat.le_of_ble_eq_true rfl) (yCal.cls h) (fun v_ M_ H_ q_ => ?_) rfl
      obtain ⟨⟨r_6, rfl, h⟩, rfl⟩ := q_
      revert h
      generalize M_ = M_6
      intro h
      refine y_istore (i := 22) (l' := [(22, .int r_6), (21, .int r_4), (20, .int r_3), (19, .int r_2), (18, .int r_1), (0, .ref b), (1, .ref (G.1 0)), (2, .int x2), (3, .ref a3), (5, .ref a5), (6, .int x6), (7, .int x7), (8, .int x8), (9, .long x9), (17, .int x17)]) dL_law_781 (by decide) rfl ?_
      exact Yx.sub (ks := [5, 6, 7, 8, 9, 10, 11, 12, 13, 4, 3, 0]) rfl h
    · replace h := h.2 q
      refine y_iconst (v := 0) dL_law_769 rfl ?_
      exact h.elim
set_option maxHeartbeats 4000000 in
set_option maxRecDepth 100000 in
theorem B_L_law_707 (G : eG) {b L : Nat} {xs : Nat → Int32} (ca sl : Nat) (M : eM) (H : yH) (x2 : Int32) (a3 : Nat) (a5 : Nat) (x6 : Int32) (x7 : Int32) (x8 : Int32) (x9 : Int64) (x16 : Int32) (x17 : Int32)
    (h : (ca + 0 ≤ room_1.cells ∧ sl + 0 ≤ room_1.slots) ∧ Cal G 0 68 (3, 0, 0) kX10_isPlaced [.ref (G.1 0), .int x16] M (eFZ (fun (r_1 : Bool) (M_1 : eM) => ((r_1 = false) → Yx (yXL b L xs) lwZ G room_1 kL_law 723 [(0, .ref b), (1, .ref (G.1 0)), (2, .int x2), (3, .ref a3), (5, .ref a5), (6, .int x6), (7, .int x7), (8, .int x8), (9, .long x9), (17, .int x17)] [] M_1 H ca sl) ∧ ((r_1 = true) → ((x17 ≤ (0 : Int32)) → Yx (yXL b L xs) lwZ G room_1 kL_law 723 [(0, .ref b), (1, .ref (G.1 0)), (2, .int x2), (3, .ref a3), (5, .ref a5), (6, .int x6), (7, .int x7), (8, .int x8), (9, .long x9), (17, .int x17)] [] M_1 H ca sl) ∧ ((¬ x17 ≤ (0 : Int32)) → False))))) :
    Yx (yXL b L xs) lwZ G room_1 kL_law 707 [(0, .ref b), (1, .ref (G.1 0)), (2, .int x2), (3, .ref a3), (5, .ref a5), (6, .int x6), (7, .int x7), (8, .int x8), (9, .long x9), (16, .int x16), (17, .int x17)] [] M H ca sl := by
  refine y_aload_n 1 dL_law_707 rfl rfl ?_
  refine y_iload 9 dL_law_708 rfl ?_
  have hb := h.1
  replace h := h.2
  refine y_callM yXLk (b' := (3, 0, 0)) (K' := kX10_isPlaced) (As := [.int x16]) (S := []) dL_law_710 mX10_isPlaced lML_168 rfl rfl ⟨(by decide), hb⟩ (Nat.le_of_ble_eq_true rfl) (yCal.cls h) (fun v_ M_ H_ q_ => ?_) rfl
  obtain ⟨⟨r_1, rfl, h⟩, rfl⟩ := q_
  revert h
  generalize M_ = M_1
  intro h
  refine y_zif_eq (t := 723) dL_law_713 (by decide) (fun q => ?_) (fun q => ?_)
  · replace h := h.1 q
    exact Yx.sub (ks := [0, 1, 2, 3, 4, 5, 6, 7, 8, 10]) rfl h
  · replace h := h.2 q
    refine y_iload 10 dL_law_716 rfl ?_
    refine y_if_le (t := 723) dL_law_718 (by decide) (fun q => ?_) (fun q => ?_)
    · replace h := h.1 q
      exact Yx.sub (ks := [0, 1, 2, 3, 4, 5, 6, 7, 8, 10]) rfl h
    · replace h := h.2 q
      refine y_iconst (v := 0) dL_law_721 rfl ?_
      exact h.elim
set_option maxHeartbeats 4000000 in
set_option maxRecDepth 100000 in
theorem B_L_law_656 (G : eG) {b L : Nat} {xs : Nat → Int32} (ca sl : Nat) (M : eM) (H : yH) (x2 : Int32) (a3 : Nat) (a5 : Nat) (x6 : Int32) (x7 : Int32) (x8 : Int32) (x9 : Int64) (x11 : Int32) (x16 : Int32) (x17 : Int32) (x18 : Int32) (x19 : Int32)
    (h : Yx (yXL b L xs) lwZ G room_1 kL_law 564 [(0, .ref b), (1, .ref (G.1 0)), (2, .int x2), (3, .ref a3), (5, .ref a5), (6, .int x6), (7, .int x7), (8, .int x8), (9, .long x9), (11, .int x11), (16, .int x16), (17, .int x17), (18, .int x18), (19, .int (x19 + 1))] [] M H ca sl) :
    Yx (yXL b L xs) lwZ G room_1 kL_law 656 [(0, .ref b), (1, .ref (G.1 0)), (2, .int x2), (3, .ref a3), (5, .ref a5), (6, .int x6), (7, .int x7), (8, .int x8), (9, .long x9), (11, .int x11), (16, .int x16), (17, .int x17), (18, .int x18), (19, .int x19)] [] M H ca sl := by
  refine y_iinc (v := x19 + 1) (l' := [(19, .int (x19 + 1)), (0, .ref b), (1, .ref (G.1 0)), (2, .int x2), (3, .ref a3), (5, .ref a5), (6, .int x6), (7, .int x7), (8, .int x8), (9, .long x9), (11, .int x11), (16, .int x16), (17, .int x17), (18, .int x18)]) 13 dL_law_656 rfl rfl (by decide) rfl ?_
  refine y_goto (t := 564) dL_law_659 (by decide) ?_
  exact Yx.sub (ks := [1, 2, 3, 4, 5, 6, 7, 8, 9, 10, 11, 12, 13, 0]) rfl h
set_option maxHeartbeats 4000000 in
set_option maxRecDepth 100000 in
theorem B_L_law_598 (G : eG) {b L : Nat} {xs : Nat → Int32} (ca sl : Nat) (M : eM) (H : yH) (x2 : Int32) (a3 : Nat) (a5 : Nat) (x6 : Int32) (x7 : Int32) (x8 : Int32) (x9 : Int64) (x11 : Int32) (x16 : Int32) (x17 : Int32) (x18 : Int32) (x19 : Int32) (x20 : Bool)
    (h : ((x20 = false) → Yx (yXL b L xs) lwZ G room_1 kL_law 656 [(0, .ref b), (1, .ref (G.1 0)), (2, .int x2), (3, .ref a3), (5, .ref a5), (6, .int x6), (7, .int x7), (8, .int x8), (9, .long x9), (11, .int x11), (16, .int x16), (17, .int x17), (18, .int x18), (19, .int x19)] [] M H ca sl) ∧ ((x20 = true) → (ca + 0 ≤ room_1.cells ∧ sl + 0 ≤ room_1.slots) ∧ Cal G 0 68 (3, 0, 0) kX10_isPlaced [.ref (G.1 0), .int x16] M (eFZ (fun (r_1 : Bool) (M_1 : eM) => ((r_1 = true) → False) ∧ ((r_1 = false) → (ca + 0 ≤ room_1.cells ∧ sl + 0 ≤ room_1.slots) ∧ Cal G 0 68 (2, 0, 0) kX10_hasTile [.ref (G.1 0), .int x18] M_1 (eFZ (fun (r_2 : Bool) (M_2 : eM) => ((r_2 = true) → False) ∧ ((r_2 = false) → (ca + 0 ≤ room_1.cells ∧ sl + 0 ≤ room_1.slots) ∧ Cal G 0 68 (4, 0, 0) kX10_edgeAgainst [.ref (G.1 0), .int x16, .int x18, .int x19] M_2 (eFI (fun (r_3 : Int32) (M_3 : eM) => (((0 : Int32) ≤ r_3) → False) ∧ ((¬ (0 : Int32) ≤ r_3) → ((x11 ≤ (0 : Int32)) → Yx (yXL b L xs) lwZ G room_1 kL_law 656 [(0, .ref b), (1, .ref (G.1 0)), (2, .int x2), (3, .ref a3), (5, .ref a5), (6, .int x6), (7, .int x7), (8, .int x8), (9, .long x9), (11, .int x11), (16, .int x16), (17, .int x17), (18, .int x18), (19, .int x19)] [] M_3 H ca sl) ∧ ((¬ x11 ≤ (0 : Int32)) → (ca + 1 ≤ room_1.cells ∧ sl + 49 ≤ room_1.slots) ∧ yIs H a5 10 ∧ yCal G (1, 1, 49) kX12_board [.ref a5] M_3 H (yFR (fun (r_4 : Nat) (M_4 : eM) (H_4 : yH) => ((ca + 1) + 0 ≤ room_1.cells ∧ (sl + 49) + 0 ≤ room_1.slots) ∧ yIs H_4 a5 10 ∧ ∃ r_5 : Int32, yRd G (2, 0, 0) kX12_many [.ref a5, .ref r_4, .int x18] M_4 H_4 (.int r_5) ∧ (((¬ r_5 = (0 : Int32)) → Yx (yXL b L xs) lwZ G room_1 kL_law 656 [(0, .ref b), (1, .ref (G.1 0)), (2, .int x2), (3, .ref a3), (5, .ref a5), (6, .int x6), (7, .int x7), (8, .int x8), (9, .long x9), (11, .int x11), (16, .int x16), (17, .int x17), (18, .int x18), (19, .int x19)] [] M_4 H_4 (ca + 1) (sl + 49)) ∧ ((r_5 = (0 : Int32)) → False)))))))))))))))) :
    Yx (yXL b L xs) lwZ G room_1 kL_law 598 [(0, .ref b), (1, .ref (G.1 0)), (2, .int x2), (3, .ref a3), (5, .ref a5), (6, .int x6), (7, .int x7), (8, .int x8), (9, .long x9), (11, .int x11), (16, .int x16), (17, .int x17), (18, .int x18), (19, .int x19), (20, .int (eZi x20))] [] M H ca sl := by
  refine y_iload 14 dL_law_598 rfl ?_
  refine y_zif_eq (t := 656) dL_law_600 (by decide) (fun q => ?_) (fun q => ?_)
  · replace h := h.1 q
    exact Yx.sub (ks := [0, 1, 2, 3, 4, 5, 6, 7, 8, 9, 10, 11, 12, 13]) rfl h
  · replace h := h.2 q
    refine y_aload_n 1 dL_law_603 rfl rfl ?_
    refine y_iload 10 dL_law_604 rfl ?_
    have hb := h.1
    replace h := h.2
    refine y_callM yXLk (b' := (3, 0, 0)) (K' := kX10_isPlaced) (As := [.int x16]) (S := []) dL_law_606 mX10_isPlaced lML_168 rfl rfl ⟨(by decide), hb⟩ (Nat.le_of_ble_eq_true rfl) (yCal.cls h) (fun v_ M_ H_ q_ => ?_) rfl
    obtain ⟨⟨r_1, rfl, h⟩, rfl⟩ := q_
    revert h
    generalize M_ = M_1
    intro h
    refine y_zif_ne (t := 654) dL_law_609 (by decide) (fun q => ?_) (fun q => ?_)
    · replace h := h.1 q
      refine y_iconst (v := 0) dL_law_654 rfl ?_
      exact h.elim
    · replace h := h.2 q
      refine y_aload_n 1 dL_law_612 rfl rfl ?_
      refine y_iload 12 dL_law_613 rfl ?_
      have hb := h.1
      replace h := h.2
      refine y_callM yXLk (b' := (2, 0, 0)) (K' := kX10_hasTile) (As := [.int x18]) (S := []) dL_law_615 mX10_hasTile lML_162 rfl rfl ⟨(by decide), hb⟩ (Nat.le_of_ble_eq_true rfl) (yCal.cls h) (fun v_ M_ H_ q_ => ?_) rfl
      obtain ⟨⟨r_2, rfl, h⟩, rfl⟩ := q_
      revert h
      generalize M_ = M_2
      intro h
      refine y_zif_ne (t := 654) dL_law_618 (by decide) (fun q => ?_) (fun q => ?_)
      · replace h := h.1 q
        refine y_iconst (v := 0) dL_law_654 rfl ?_
        exact h.elim
      · replace h := h.2 q
        refine y_aload_n 1 dL_law_621 rfl rfl ?_
        refine y_iload 10 dL_law_622 rfl ?_
        refine y_iload 12 dL_law_624 rfl ?_
        refine y_iload 13 dL_law_626 rfl ?_
        have hb := h.1
        replace h := h.2
        refine y_callM yXLk (b' := (4, 0, 0)) (K' := kX10_edgeAgainst) (As := [.int x16, .int x18, .int x19]) (S := []) dL_law_628 mX10_edgeAgainst lML_202 rfl rfl ⟨(by decide), hb⟩ (Nat.le_of_ble_eq_true rfl) (yCal.cls h) (fun v_ M_ H_ q_ => ?_) rfl
        obtain ⟨⟨r_3, rfl, h⟩, rfl⟩ := q_
        revert h
        generalize M_ = M_3
        intro h
        refine y_if_ge (t := 654) dL_law_631 (by decide) (fun q => ?_) (fun q => ?_)
        · replace h := h.1 q
          refine y_iconst (v := 0) dL_law_654 rfl ?_
          exact h.elim
        · replace h := h.2 q
          refine y_iload 9 dL_law_634 rfl ?_
          refine y_if_le (t := 656) dL_law_636 (by decide) (fun q => ?_) (fun q => ?_)
          · replace h := h.1 q
            exact Yx.sub (ks := [0, 1, 2, 3, 4, 5, 6, 7, 8, 9, 10, 11, 12, 13]) rfl h
          · replace h := h.2 q
            refine y_aload 4 dL_law_639 rfl ?_
            refine y_aload 4 dL_law_641 rfl ?_
            have hb := h.1
            replace h := h.2
            obtain ⟨⟨fs_4, hi⟩, h⟩ := h
            refine y_callV yXLk (b' := (1, 1, 49)) (K' := kX12_board) (As := []) (S := [.ref a5]) dL_law_643 mX12_board lML_104 clX12 rfl hi rfl ⟨(by decide), hb⟩ (Nat.le_of_ble_eq_true rfl) h (fun v_ M_4 H_4 q_ => ?_) rfl
            obtain ⟨r_4, rfl, h⟩ := q_
            refine y_iload 12 dL_law_646 rfl ?_
            have hb := h.1
            replace h := h.2
            obtain ⟨⟨fs_5, hi⟩, h⟩ := h
            obtain ⟨r_5, hc, h⟩ := h
            refine y_callV yXLk (b' := (2, 0, 0)) (K' := kX12_many) (As := [.ref r_4, .int x18]) (S := []) dL_law_648 mX12_many lML_205 clX12 rfl hi rfl ⟨(by decide), hb⟩ (Nat.le_of_ble_eq_true rfl) hc (fun v_ M_ H_ q_ => ?_) rfl
            obtain ⟨rfl, rfl, rfl⟩ := q_
            refine y_if_ne (t := 656) dL_law_651 (by decide) (fun q => ?_) (fun q => ?_)
            · replace h := h.1 q
              exact Yx.sub (ks := [0, 1, 2, 3, 4, 5, 6, 7, 8, 9, 10, 11, 12, 13]) rfl h
            · replace h := h.2 q
              refine y_iconst (v := 0) dL_law_654 rfl ?_
              exact h.elim
set_option maxHeartbeats 4000000 in
set_option maxRecDepth 100000 in
theorem B_L_law_564 (G : eG) {b L : Nat} {xs : Nat → Int32} (ca sl : Nat) (M : eM) (H : yH) (x2 : Int32) (a3 : Nat) (a5 : Nat) (x6 : Int32) (x7 : Int32) (x8 : Int32) (x9 : Int64) (x11 : Int32) (x16 : Int32) (x17 : Int32) (x18 : Int32) (x19 : Int32)
    (h : (((6 : Int32) ≤ x19) → Yx (yXL b L xs) lwZ G room_1 kL_law 554 [(0, .ref b), (1, .ref (G.1 0)), (2, .int x2), (3, .ref a3), (5, .ref a5), (6, .int x6), (7, .int x7), (8, .int x8), (9, .long x9), (11, .int x11), (16, .int x16), (17, .int x17), (18, .int (x18 + 1))] [] M H ca sl) ∧ ((¬ (6 : Int32) ≤ x19) → (ca + 0 ≤ room_1.cells ∧ sl + 0 ≤ room_1.slots) ∧ Cal G 0 68 (4, 0, 0) kX10_fits [.ref (G.1 0), .int x16, .int x18, .int x19] M (eFZ (fun (r_1 : Bool) (M_1 : eM) => ((r_1 = false) → Yx (yXL b L xs) lwZ G room_1 kL_law 598 [(0, .ref b), (1, .ref (G.1 0)), (2, .int x2), (3, .ref a3), (5, .ref a5), (6, .int x6), (7, .int x7), (8, .int x8), (9, .long x9), (11, .int x11), (16, .int x16), (17, .int (x17 + 0)), (18, .int x18), (19, .int x19), (20, .int (eZi r_1))] [] M_1 H ca sl) ∧ ((r_1 = true) → Yx (yXL b L xs) lwZ G room_1 kL_law 598 [(0, .ref b), (1, .ref (G.1 0)), (2, .int x2), (3, .ref a3), (5, .ref a5), (6, .int x6), (7, .int x7), (8, .int x8), (9, .long x9), (11, .int x11), (16, .int x16), (17, .int (x17 + 1)), (18, .int x18), (19, .int x19), (20, .int (eZi r_1))] [] M_1 H ca sl))))) :
    Yx (yXL b L xs) lwZ G room_1 kL_law 564 [(0, .ref b), (1, .ref (G.1 0)), (2, .int x2), (3, .ref a3), (5, .ref a5), (6, .int x6), (7, .int x7), (8, .int x8), (9, .long x9), (11, .int x11), (16, .int x16), (17, .int x17), (18, .int x18), (19, .int x19)] [] M H ca sl := by
  refine y_iload 13 dL_law_564 rfl ?_
  refine y_bipush (v := 6) dL_law_566 rfl ?_
  refine y_icmp_ge (t := 662) dL_law_568 (by decide) (fun q => ?_) (fun q => ?_)
  · replace h := h.1 q
    refine y_iinc (v := x18 + 1) (l' := [(18, .int (x18 + 1)), (0, .ref b), (1, .ref (G.1 0)), (2, .int x2), (3, .ref a3), (5, .ref a5), (6, .int x6), (7, .int x7), (8, .int x8), (9, .long x9), (11, .int x11), (16, .int x16), (17, .int x17), (19, .int x19)]) 12 dL_law_662 rfl rfl (by decide) rfl ?_
    refine y_goto (t := 554) dL_law_665 (by decide) ?_
    exact Yx.sub (ks := [1, 2, 3, 4, 5, 6, 7, 8, 9, 10, 11, 12, 0]) rfl h
  · replace h := h.2 q
    refine y_aload_n 1 dL_law_571 rfl rfl ?_
    refine y_iload 10 dL_law_572 rfl ?_
    refine y_iload 12 dL_law_574 rfl ?_
    refine y_iload 13 dL_law_576 rfl ?_
    have hb := h.1
    replace h := h.2
    refine y_callM yXLk (b' := (4, 0, 0)) (K' := kX10_fits) (As := [.int x16, .int x18, .int x19]) (S := []) dL_law_578 mX10_fits lML_199 rfl rfl ⟨(by decide), hb⟩ (Nat.le_of_ble_eq_true rfl) (yCal.cls h) (fun v_ M_ H_ q_ => ?_) rfl
    obtain ⟨⟨r_1, rfl, h⟩, rfl⟩ := q_
    revert h
    generalize M_ = M_1
    intro h
    refine y_istore (i := 20) (l' := [(20, .int (eZi r_1)), (0, .ref b), (1, .ref (G.1 0)), (2, .int x2), (3, .ref a3), (5, .ref a5), (6, .int x6), (7, .int x7), (8, .int x8), (9, .long x9), (11, .int x11), (16, .int x16), (17, .int x17), (18, .int x18), (19, .int x19)]) dL_law_581 (by decide) rfl ?_
    refine y_iload 12 dL_law_583 rfl ?_
    refine y_iload 0 dL_law_585 rfl ?_
    refine y_zif_eq (t := 594) dL_law_587 (by decide) (fun q => ?_) (fun q => ?_)
    · replace h := h.1 q
      refine y_iconst (v := 0) dL_law_594 rfl ?_
      refine y_iadd dL_law_595 ?_
      refine y_istore (i := 17) (l' := [(17, .int (x17 + 0)), (20, .int (eZi r_1)), (0, .ref b), (1, .ref (G.1 0)), (2, .int x2), (3, .ref a3), (5, .ref a5), (6, .int x6), (7, .int x7), (8, .int x8), (9, .long x9), (11, .int x11), (16, .int x16), (18, .int x18), (19, .int x19)]) dL_law_596 (by decide) rfl ?_
      exact Yx.sub (ks := [2, 3, 4, 5, 6, 7, 8, 9, 10, 11, 12, 0, 13, 14, 1]) rfl h
    · replace h := h.2 q
      refine y_iconst (v := 1) dL_law_590 rfl ?_
      refine y_goto (t := 595) dL_law_591 (by decide) ?_
      refine y_iadd dL_law_595 ?_
      refine y_istore (i := 17) (l' := [(17, .int (x17 + 1)), (20, .int (eZi r_1)), (0, .ref b), (1, .ref (G.1 0)), (2, .int x2), (3, .ref a3), (5, .ref a5), (6, .int x6), (7, .int x7), (8, .int x8), (9, .long x9), (11, .int x11), (16, .int x16), (18, .int x18), (19, .int x19)]) dL_law_596 (by decide) rfl ?_
      exact Yx.sub (ks := [2, 3, 4, 5, 6, 7, 8, 9, 10, 11, 12, 0, 13, 14, 1]) rfl h
set_option maxHeartbeats 4000000 in
set_option maxRecDepth 100000 in
theorem B_L_law_554 (G : eG) {b L : Nat} {xs : Nat → Int32} (ca sl : Nat) (M : eM) (H : yH) (x2 : Int32) (a3 : Nat) (a5 : Nat) (x6 : Int32) (x7 : Int32) (x8 : Int32) (x9 : Int64) (x11 : Int32) (x16 : Int32) (x17 : Int32) (x18 : Int32)
    (h : ((x7 ≤ x18) → (ca + 0 ≤ room_1.cells ∧ sl + 0 ≤ room_1.slots) ∧ Cal G 0 68 (3, 0, 0) kX10_waysOf [.ref (G.1 0), .int x16] M (eFI (fun (r_1 : Int32) (M_1 : eM) => ((¬ x17 = r_1) → False) ∧ ((x17 = r_1) → (ca + 0 ≤ room_1.cells ∧ sl + 0 ≤ room_1.slots) ∧ Cal G 0 68 (3, 0, 0) kX10_isLeftover [.ref (G.1 0), .int x16] M_1 (eFZ (fun (r_2 : Bool) (M_2 : eM) => ((¬ x17 = (0 : Int32)) → ((¬ (eZi r_2) = (0 : Int32)) → False) ∧ (((eZi r_2) = (0 : Int32)) → Yx (yXL b L xs) lwZ G room_1 kL_law 707 [(0, .ref b), (1, .ref (G.1 0)), (2, .int x2), (3, .ref a3), (5, .ref a5), (6, .int x6), (7, .int x7), (8, .int x8), (9, .long x9), (16, .int x16), (17, .int x17)] [] M_2 H ca sl)) ∧ ((x17 = (0 : Int32)) → (ca + 0 ≤ room_1.cells ∧ sl + 0 ≤ room_1.slots) ∧ Cal G 0 68 (3, 0, 0) kX10_isPlaced [.ref (G.1 0), .int x16] M_2 (eFZ (fun (r_3 : Bool) (M_3 : eM) => ((r_3 = true) → ((¬ (eZi r_2) = (0 : Int32)) → False) ∧ (((eZi r_2) = (0 : Int32)) → Yx (yXL b L xs) lwZ G room_1 kL_law 707 [(0, .ref b), (1, .ref (G.1 0)), (2, .int x2), (3, .ref a3), (5, .ref a5), (6, .int x6), (7, .int x7), (8, .int x8), (9, .long x9), (16, .int x16), (17, .int x17)] [] M_3 H ca sl)) ∧ ((r_3 = false) → ((¬ (eZi r_2) = (1 : Int32)) → False) ∧ (((eZi r_2) = (1 : Int32)) → Yx (yXL b L xs) lwZ G room_1 kL_law 707 [(0, .ref b), (1, .ref (G.1 0)), (2, .int x2), (3, .ref a3), (5, .ref a5), (6, .int x6), (7, .int x7), (8, .int x8), (9, .long x9), (16, .int x16), (17, .int x17)] [] M_3 H ca sl))))))))))) ∧ ((¬ x7 ≤ x18) → Yx (yXL b L xs) lwZ G room_1 kL_law 564 [(0, .ref b), (1, .ref (G.1 0)), (2, .int x2), (3, .ref a3), (5, .ref a5), (6, .int x6), (7, .int x7), (8, .int x8), (9, .long x9), (11, .int x11), (16, .int x16), (17, .int x17), (18, .int x18), (19, .int 0)] [] M H ca sl)) :
    Yx (yXL b L xs) lwZ G room_1 kL_law 554 [(0, .ref b), (1, .ref (G.1 0)), (2, .int x2), (3, .ref a3), (5, .ref a5), (6, .int x6), (7, .int x7), (8, .int x8), (9, .long x9), (11, .int x11), (16, .int x16), (17, .int x17), (18, .int x18)] [] M H ca sl := by
  refine y_iload 12 dL_law_554 rfl ?_
  refine y_iload 6 dL_law_556 rfl ?_
  refine y_icmp_ge (t := 668) dL_law_558 (by decide) (fun q => ?_) (fun q => ?_)
  · replace h := h.1 q
    refine y_iload 11 dL_law_668 rfl ?_
    refine y_aload_n 1 dL_law_670 rfl rfl ?_
    refine y_iload 10 dL_law_671 rfl ?_
    have hb := h.1
    replace h := h.2
    refine y_callM yXLk (b' := (3, 0, 0)) (K' := kX10_waysOf) (As := [.int x16]) (S := [.int x17]) dL_law_673 mX10_waysOf lML_208 rfl rfl ⟨(by decide), hb⟩ (Nat.le_of_ble_eq_true rfl) (yCal.cls h) (fun v_ M_ H_ q_ => ?_) rfl
    obtain ⟨⟨r_1, rfl, h⟩, rfl⟩ := q_
    revert h
    generalize M_ = M_1
    intro h
    refine y_icmp_ne (t := 721) dL_law_676 (by decide) (fun q => ?_) (fun q => ?_)
    · replace h := h.1 q
      refine y_iconst (v := 0) dL_law_721 rfl ?_
      exact h.elim
    · replace h := h.2 q
      refine y_aload_n 1 dL_law_679 rfl rfl ?_
      refine y_iload 10 dL_law_680 rfl ?_
      have hb := h.1
      replace h := h.2
      refine y_callM yXLk (b' := (3, 0, 0)) (K' := kX10_isLeftover) (As := [.int x16]) (S := []) dL_law_682 mX10_isLeftover lML_211 rfl rfl ⟨(by decide), hb⟩ (Nat.le_of_ble_eq_true rfl) (yCal.cls h) (fun v_ M_ H_ q_ => ?_) rfl
      obtain ⟨⟨r_2, rfl, h⟩, rfl⟩ := q_
      revert h
      generalize M_ = M_2
      intro h
      refine y_iload 11 dL_law_685 rfl ?_
      refine y_if_ne (t := 703) dL_law_687 (by decide) (fun q => ?_) (fun q => ?_)
      · replace h := h.1 q
        refine y_iconst (v := 0) dL_law_703 rfl ?_
        refine y_icmp_ne (t := 721) dL_law_704 (by decide) (fun q => ?_) (fun q => ?_)
        · replace h := h.1 q
          refine y_iconst (v := 0) dL_law_721 rfl ?_
          exact h.elim
        · replace h := h.2 q
          exact Yx.sub (ks := [0, 1, 2, 3, 4, 5, 6, 7, 8, 10, 11]) rfl h
      · replace h := h.2 q
        refine y_aload_n 1 dL_law_690 rfl rfl ?_
        refine y_iload 10 dL_law_691 rfl ?_
        have hb := h.1
        replace h := h.2
        refine y_callM yXLk (b' := (3, 0, 0)) (K' := kX10_isPlaced) (As := [.int x16]) (S := [.int (eZi r_2)]) dL_law_693 mX10_isPlaced lML_168 rfl rfl ⟨(by decide), hb⟩ (Nat.le_of_ble_eq_true rfl) (yCal.cls h) (fun v_ M_ H_ q_ => ?_) rfl
        obtain ⟨⟨r_3, rfl, h⟩, rfl⟩ := q_
        revert h
        generalize M_ = M_3
        intro h
        refine y_zif_ne (t := 703) dL_law_696 (by decide) (fun q => ?_) (fun q => ?_)
        · replace h := h.1 q
          refine y_iconst (v := 0) dL_law_703 rfl ?_
          refine y_icmp_ne (t := 721) dL_law_704 (by decide) (fun q => ?_) (fun q => ?_)
          · replace h := h.1 q
            refine y_iconst (v := 0) dL_law_721 rfl ?_
            exact h.elim
          · replace h := h.2 q
            exact Yx.sub (ks := [0, 1, 2, 3, 4, 5, 6, 7, 8, 10, 11]) rfl h
        · replace h := h.2 q
          refine y_iconst (v := 1) dL_law_699 rfl ?_
          refine y_goto (t := 704) dL_law_700 (by decide) ?_
          refine y_icmp_ne (t := 721) dL_law_704 (by decide) (fun q => ?_) (fun q => ?_)
          · replace h := h.1 q
            refine y_iconst (v := 0) dL_law_721 rfl ?_
            exact h.elim
          · replace h := h.2 q
            exact Yx.sub (ks := [0, 1, 2, 3, 4, 5, 6, 7, 8, 10, 11]) rfl h
  · replace h := h.2 q
    refine y_iconst (v := 0) dL_law_561 rfl ?_
    refine y_istore (i := 19) (l' := [(19, .int 0), (0, .ref b), (1, .ref (G.1 0)), (2, .int x2), (3, .ref a3), (5, .ref a5), (6, .int x6), (7, .int x7), (8, .int x8), (9, .long x9), (11, .int x11), (16, .int x16), (17, .int x17), (18, .int x18)]) dL_law_562 (by decide) rfl ?_
    exact Yx.sub (ks := [1, 2, 3, 4, 5, 6, 7, 8, 9, 10, 11, 12, 13, 0]) rfl h
set_option maxHeartbeats 4000000 in
set_option maxRecDepth 100000 in
theorem B_L_law_540 (G : eG) {b L : Nat} {xs : Nat → Int32} (ca sl : Nat) (M : eM) (H : yH) (x2 : Int32) (a3 : Nat) (a5 : Nat) (x6 : Int32) (x7 : Int32) (x8 : Int32) (x9 : Int64) (x11 : Int32)
    (h : (ca + 0 ≤ room_1.cells ∧ sl + 0 ≤ room_1.slots) ∧ yIs H a3 9 ∧ yCal G (2, 0, 0) kX11_next [.ref a3, .int x6] M H (yFI (fun (r_1 : Int32) (M_1 : eM) (H_1 : yH) => Yx (yXL b L xs) lwZ G room_1 kL_law 554 [(0, .ref b), (1, .ref (G.1 0)), (2, .int x2), (3, .ref a3), (5, .ref a5), (6, .int x6), (7, .int x7), (8, .int x8), (9, .long x9), (11, .int x11), (16, .int r_1), (17, .int 0), (18, .int 0)] [] M_1 H_1 ca sl))) :
    Yx (yXL b L xs) lwZ G room_1 kL_law 540 [(0, .ref b), (1, .ref (G.1 0)), (2, .int x2), (3, .ref a3), (5, .ref a5), (6, .int x6), (7, .int x7), (8, .int x8), (9, .long x9), (11, .int x11)] [] M H ca sl := by
  refine y_aload_n 3 dL_law_540 rfl rfl ?_
  refine y_iload 5 dL_law_541 rfl ?_
  have hb := h.1
  replace h := h.2
  obtain ⟨⟨fs_1, hi⟩, h⟩ := h
  refine y_callV yXLk (b' := (2, 0, 0)) (K' := kX11_next) (As := [.int x6]) (S := []) dL_law_543 mX11_next lML_35 clX11 rfl hi rfl ⟨(by decide), hb⟩ (Nat.le_of_ble_eq_true rfl) h (fun v_ M_1 H_1 q_ => ?_) rfl
  obtain ⟨r_1, rfl, h⟩ := q_
  refine y_istore (i := 16) (l' := [(16, .int r_1), (0, .ref b), (1, .ref (G.1 0)), (2, .int x2), (3, .ref a3), (5, .ref a5), (6, .int x6), (7, .int x7), (8, .int x8), (9, .long x9), (11, .int x11)]) dL_law_546 (by decide) rfl ?_
  refine y_iconst (v := 0) dL_law_548 rfl ?_
  refine y_istore (i := 17) (l' := [(17, .int 0), (16, .int r_1), (0, .ref b), (1, .ref (G.1 0)), (2, .int x2), (3, .ref a3), (5, .ref a5), (6, .int x6), (7, .int x7), (8, .int x8), (9, .long x9), (11, .int x11)]) dL_law_549 (by decide) rfl ?_
  refine y_iconst (v := 0) dL_law_551 rfl ?_
  refine y_istore (i := 18) (l' := [(18, .int 0), (17, .int 0), (16, .int r_1), (0, .ref b), (1, .ref (G.1 0)), (2, .int x2), (3, .ref a3), (5, .ref a5), (6, .int x6), (7, .int x7), (8, .int x8), (9, .long x9), (11, .int x11)]) dL_law_552 (by decide) rfl ?_
  exact Yx.sub (ks := [3, 4, 5, 6, 7, 8, 9, 10, 11, 12, 2, 1, 0]) rfl h
set_option maxHeartbeats 4000000 in
set_option maxRecDepth 100000 in
theorem B_L_law_522 (G : eG) {b L : Nat} {xs : Nat → Int32} (ca sl : Nat) (M : eM) (H : yH) (x2 : Int32) (a3 : Nat) (a5 : Nat) (x6 : Int32) (x7 : Int32) (x8 : Int32) (x9 : Int64) (x11 : Int32)
    (h : (ca + 0 ≤ room_1.cells ∧ sl + 0 ≤ room_1.slots) ∧ Cal G 0 68 (3, 0, 0) kX10_groups [.ref (G.1 0)] M (eFI (fun (r_1 : Int32) (M_1 : eM) => ((¬ r_1 = (0 : Int32)) → Yx (yXL b L xs) lwZ G room_1 kL_law 540 [(0, .ref b), (1, .ref (G.1 0)), (2, .int x2), (3, .ref a3), (5, .ref a5), (6, .int x6), (7, .int x7), (8, .int x8), (9, .long x9), (11, .int x11)] [] M_1 H ca sl) ∧ ((r_1 = (0 : Int32)) → False)))) :
    Yx (yXL b L xs) lwZ G room_1 kL_law 522 [(0, .ref b), (1, .ref (G.1 0)), (2, .int x2), (3, .ref a3), (5, .ref a5), (6, .int x6), (7, .int x7), (8, .int x8), (9, .long x9), (11, .int x11)] [] M H ca sl := by
  refine y_iconst (v := 0) dL_law_522 rfl ?_
  refine y_aload_n 1 dL_law_523 rfl rfl ?_
  have hb := h.1
  replace h := h.2
  refine y_callM yXLk (b' := (3, 0, 0)) (K' := kX10_groups) (As := []) (S := [.int 0]) dL_law_524 mX10_groups lML_196 rfl rfl ⟨(by decide), hb⟩ (Nat.le_of_ble_eq_true rfl) (yCal.cls h) (fun v_ M_ H_ q_ => ?_) rfl
  obtain ⟨⟨r_1, rfl, h⟩, rfl⟩ := q_
  revert h
  generalize M_ = M_1
  intro h
  refine y_if_ne (t := 534) dL_law_527 (by decide) (fun q => ?_) (fun q => ?_)
  · replace h := h.1 q
    refine y_iconst (v := 0) dL_law_534 rfl ?_
    refine y_icmp_eq (t := 540) dL_law_535 (by decide) (fun q => ?_) (fun q => ?_)
    · exact h
    · exact absurd q (by decide)
  · replace h := h.2 q
    refine y_iconst (v := 1) dL_law_530 rfl ?_
    refine y_goto (t := 535) dL_law_531 (by decide) ?_
    refine y_icmp_eq (t := 540) dL_law_535 (by decide) (fun q => ?_) (fun q => ?_)
    · exact absurd q (by decide)
    · refine y_iconst (v := 0) dL_law_538 rfl ?_
      exact h.elim
set_option maxHeartbeats 4000000 in
set_option maxRecDepth 100000 in
theorem B_L_law_473 (G : eG) {b L : Nat} {xs : Nat → Int32} (ca sl : Nat) (M : eM) (H : yH) (x2 : Int32) (a3 : Nat) (a5 : Nat) (x6 : Int32) (x7 : Int32) (x8 : Int32) (x9 : Int64) (x11 : Int32) (x12 : Int32) (x13 : Int32)
    (h : (ca + 0 ≤ room_1.cells ∧ sl + 0 ≤ room_1.slots) ∧ Cal G 0 68 (4, 0, 0) kX10_points [.ref (G.1 0)] M (eFI (fun (r_1 : Int32) (M_1 : eM) => ((¬ (x12 + ((20 : Int32) * x13)) = ((2 : Int32) * r_1)) → False) ∧ (((x12 + ((20 : Int32) * x13)) = ((2 : Int32) * r_1)) → (ca + 0 ≤ room_1.cells ∧ sl + 0 ≤ room_1.slots) ∧ Cal G 0 68 (3, 0, 0) kX10_groups [.ref (G.1 0)] M_1 (eFI (fun (r_2 : Int32) (M_2 : eM) => ((x11 < r_2) → False) ∧ ((¬ x11 < r_2) → (ca + 0 ≤ room_1.cells ∧ sl + 0 ≤ room_1.slots) ∧ Cal G 0 68 (3, 0, 0) kX10_groups [.ref (G.1 0)] M_2 (eFI (fun (r_3 : Int32) (M_3 : eM) => (ca + 0 ≤ room_1.cells ∧ sl + 0 ≤ room_1.slots) ∧ Cal G 0 68 (3, 0, 0) kX10_matches [.ref (G.1 0)] M_3 (eFI (fun (r_4 : Int32) (M_4 : eM) => ((r_4 < (x11 - r_3)) → False) ∧ ((¬ r_4 < (x11 - r_3)) → ((¬ x11 = (0 : Int32)) → Yx (yXL b L xs) lwZ G room_1 kL_law 522 [(0, .ref b), (1, .ref (G.1 0)), (2, .int x2), (3, .ref a3), (5, .ref a5), (6, .int x6), (7, .int x7), (8, .int x8), (9, .long x9), (11, .int x11)] [] M_4 H ca sl) ∧ ((x11 = (0 : Int32)) → (ca + 0 ≤ room_1.cells ∧ sl + 0 ≤ room_1.slots) ∧ Cal G 0 68 (3, 0, 0) kX10_groups [.ref (G.1 0)] M_4 (eFI (fun (r_5 : Int32) (M_5 : eM) => ((¬ r_5 = (0 : Int32)) → False) ∧ ((r_5 = (0 : Int32)) → Yx (yXL b L xs) lwZ G room_1 kL_law 540 [(0, .ref b), (1, .ref (G.1 0)), (2, .int x2), (3, .ref a3), (5, .ref a5), (6, .int x6), (7, .int x7), (8, .int x8), (9, .long x9), (11, .int x11)] [] M_5 H ca sl)))))))))))))))) :
    Yx (yXL b L xs) lwZ G room_1 kL_law 473 [(0, .ref b), (1, .ref (G.1 0)), (2, .int x2), (3, .ref a3), (5, .ref a5), (6, .int x6), (7, .int x7), (8, .int x8), (9, .long x9), (11, .int x11), (12, .int x12), (13, .int x13)] [] M H ca sl := by
  refine y_iload 10 dL_law_473 rfl ?_
  refine y_bipush (v := 20) dL_law_475 rfl ?_
  refine y_iload 11 dL_law_477 rfl ?_
  refine y_imul dL_law_479 ?_
  refine y_iadd dL_law_480 ?_
  refine y_iconst (v := 2) dL_law_481 rfl ?_
  refine y_aload_n 1 dL_law_482 rfl rfl ?_
  have hb := h.1
  replace h := h.2
  refine y_callM yXLk (b' := (4, 0, 0)) (K' := kX10_points) (As := []) (S := [.int 2, .int (x12 + ((20 : Int32) * x13))]) dL_law_483 mX10_points lML_193 rfl rfl ⟨(by decide), hb⟩ (Nat.le_of_ble_eq_true rfl) (yCal.cls h) (fun v_ M_ H_ q_ => ?_) rfl
  obtain ⟨⟨r_1, rfl, h⟩, rfl⟩ := q_
  revert h
  generalize M_ = M_1
  intro h
  refine y_imul dL_law_486 ?_
  refine y_icmp_ne (t := 538) dL_law_487 (by decide) (fun q => ?_) (fun q => ?_)
  · replace h := h.1 q
    refine y_iconst (v := 0) dL_law_538 rfl ?_
    exact h.elim
  · replace h := h.2 q
    refine y_aload_n 1 dL_law_490 rfl rfl ?_
    have hb := h.1
    replace h := h.2
    refine y_callM yXLk (b' := (3, 0, 0)) (K' := kX10_groups) (As := []) (S := []) dL_law_491 mX10_groups lML_196 rfl rfl ⟨(by decide), hb⟩ (Nat.le_of_ble_eq_true rfl) (yCal.cls h) (fun v_ M_ H_ q_ => ?_) rfl
    obtain ⟨⟨r_2, rfl, h⟩, rfl⟩ := q_
    revert h
    generalize M_ = M_2
    intro h
    refine y_iload 9 dL_law_494 rfl ?_
    refine y_icmp_gt (t := 538) dL_law_496 (by decide) (fun q => ?_) (fun q => ?_)
    · replace h := h.1 q
      refine y_iconst (v := 0) dL_law_538 rfl ?_
      exact h.elim
    · replace h := h.2 q
      refine y_iload 9 dL_law_499 rfl ?_
      refine y_aload_n 1 dL_law_501 rfl rfl ?_
      have hb := h.1
      replace h := h.2
      refine y_callM yXLk (b' := (3, 0, 0)) (K' := kX10_groups) (As := []) (S := [.int x11]) dL_law_502 mX10_groups lML_196 rfl rfl ⟨(by decide), hb⟩ (Nat.le_of_ble_eq_true rfl) (yCal.cls h) (fun v_ M_ H_ q_ => ?_) rfl
      obtain ⟨⟨r_3, rfl, h⟩, rfl⟩ := q_
      revert h
      generalize M_ = M_3
      intro h
      refine y_isub dL_law_505 ?_
      refine y_aload_n 1 dL_law_506 rfl rfl ?_
      have hb := h.1
      replace h := h.2
      refine y_callM yXLk (b' := (3, 0, 0)) (K' := kX10_matches) (As := []) (S := [.int (x11 - r_3)]) dL_law_507 mX10_matches lML_187 rfl rfl ⟨(by decide), hb⟩ (Nat.le_of_ble_eq_true rfl) (yCal.cls h) (fun v_ M_ H_ q_ => ?_) rfl
      obtain ⟨⟨r_4, rfl, h⟩, rfl⟩ := q_
      revert h
      generalize M_ = M_4
      intro h
      refine y_icmp_gt (t := 538) dL_law_510 (by decide) (fun q => ?_) (fun q => ?_)
      · replace h := h.1 q
        refine y_iconst (v := 0) dL_law_538 rfl ?_
        exact h.elim
      · replace h := h.2 q
        refine y_iload 9 dL_law_513 rfl ?_
        refine y_if_ne (t := 522) dL_law_515 (by decide) (fun q => ?_) (fun q => ?_)
        · replace h := h.1 q
          exact Yx.sub (ks := [0, 1, 2, 3, 4, 5, 6, 7, 8, 9]) rfl h
        · replace h := h.2 q
          refine y_iconst (v := 1) dL_law_518 rfl ?_
          refine y_goto (t := 523) dL_law_519 (by decide) ?_
          refine y_aload_n 1 dL_law_523 rfl rfl ?_
          have hb := h.1
          replace h := h.2
          refine y_callM yXLk (b' := (3, 0, 0)) (K' := kX10_groups) (As := []) (S := [.int 1]) dL_law_524 mX10_groups lML_196 rfl rfl ⟨(by decide), hb⟩ (Nat.le_of_ble_eq_true rfl) (yCal.cls h) (fun v_ M_ H_ q_ => ?_) rfl
          obtain ⟨⟨r_5, rfl, h⟩, rfl⟩ := q_
          revert h
          generalize M_ = M_5
          intro h
          refine y_if_ne (t := 534) dL_law_527 (by decide) (fun q => ?_) (fun q => ?_)
          · replace h := h.1 q
            refine y_iconst (v := 0) dL_law_534 rfl ?_
            refine y_icmp_eq (t := 540) dL_law_535 (by decide) (fun q => ?_) (fun q => ?_)
            · exact absurd q (by decide)
            · refine y_iconst (v := 0) dL_law_538 rfl ?_
              exact h.elim
          · replace h := h.2 q
            refine y_iconst (v := 1) dL_law_530 rfl ?_
            refine y_goto (t := 535) dL_law_531 (by decide) ?_
            refine y_icmp_eq (t := 540) dL_law_535 (by decide) (fun q => ?_) (fun q => ?_)
            · exact Yx.sub (ks := [0, 1, 2, 3, 4, 5, 6, 7, 8, 9]) rfl h
            · exact absurd q (by decide)
set_option maxHeartbeats 4000000 in
set_option maxRecDepth 100000 in
theorem B_L_law_417 (G : eG) {b L : Nat} {xs : Nat → Int32} (ca sl : Nat) (M : eM) (H : yH) 
    (h : False) :
    Yx (yXL b L xs) lwZ G room_1 kL_law 417 [] [] M H ca sl := by
  refine y_iconst (v := 0) dL_law_417 rfl ?_
  exact h.elim
set_option maxHeartbeats 4000000 in
set_option maxRecDepth 100000 in
theorem B_L_law_358 (G : eG) {b L : Nat} {xs : Nat → Int32} (ca sl : Nat) (M : eM) (H : yH) (x2 : Int32) (a3 : Nat) (a5 : Nat) (x6 : Int32) (x7 : Int32) (x8 : Int32) (x9 : Int64) (x11 : Int32) (x12 : Int32) (x13 : Int32) (x14 : Int32) (a15 : Nat) (x16 : Int32) (x18 : Int32)
    (h : (((6 : Int32) ≤ x18) → Yx (yXL b L xs) lwZ G room_1 kL_law 166 [(0, .ref b), (1, .ref (G.1 0)), (2, .int x2), (3, .ref a3), (5, .ref a5), (6, .int x6), (7, .int x7), (8, .int x8), (9, .long x9), (11, .int x11), (12, .int x12), (13, .int x13), (14, .int x14), (15, .ref a15), (16, .int (x16 + 1))] [] M H ca sl) ∧ ((¬ (6 : Int32) ≤ x18) → (ca + 0 ≤ room_1.cells ∧ sl + 0 ≤ room_1.slots) ∧ yIs H a5 10 ∧ ∃ r_1 : Int32, yRd G (1, 0, 0) kX12_beside [.ref a5, .int x16, .int x18] M H (.int r_1) ∧ (((r_1 < (0 : Int32)) → Yx (yXL b L xs) lwZ G room_1 kL_law 358 [(0, .ref b), (1, .ref (G.1 0)), (2, .int x2), (3, .ref a3), (5, .ref a5), (6, .int x6), (7, .int x7), (8, .int x8), (9, .long x9), (11, .int x11), (12, .int x12), (13, .int x13), (14, .int x14), (15, .ref a15), (16, .int x16), (18, .int (x18 + 1))] [] M H ca sl) ∧ ((¬ r_1 < (0 : Int32)) → (ca + 0 ≤ room_1.cells ∧ sl + 0 ≤ room_1.slots) ∧ Cal G 0 68 (2, 0, 0) kX10_hasTile [.ref (G.1 0), .int r_1] M (eFZ (fun (r_2 : Bool) (M_2 : eM) => ((r_2 = true) → (ca + 0 ≤ room_1.cells ∧ sl + 0 ≤ room_1.slots) ∧ Cal G 0 68 (2, 0, 0) kX10_numberAt [.ref (G.1 0), .int x16, .int x18] M_2 (eFI (fun (r_3 : Int32) (M_3 : eM) => (ca + 0 ≤ room_1.cells ∧ sl + 0 ≤ room_1.slots) ∧ Cal G 0 68 (2, 0, 0) kX10_numberAt [.ref (G.1 0), .int r_1, .int ((x18 + 3) - (x18 + 3) / 6 * 6)] M_3 (eFI (fun (r_4 : Int32) (M_4 : eM) => ((r_3 = r_4) → (ca + 0 ≤ room_1.cells ∧ sl + 0 ≤ room_1.slots) ∧ Cal G 0 68 (2, 0, 0) kX10_numberAt [.ref (G.1 0), .int x16, .int x18] M_4 (eFI (fun (r_5 : Int32) (M_5 : eM) => Yx (yXL b L xs) lwZ G room_1 kL_law 358 [(0, .ref b), (1, .ref (G.1 0)), (2, .int x2), (3, .ref a3), (5, .ref a5), (6, .int x6), (7, .int x7), (8, .int x8), (9, .long x9), (11, .int x11), (12, .int (x12 + r_5)), (13, .int x13), (14, .int x14), (15, .ref a15), (16, .int x16), (18, .int (x18 + 1))] [] M_5 H ca sl))) ∧ ((¬ r_3 = r_4) → Yx (yXL b L xs) lwZ G room_1 kL_law 417 [] [] M_4 H ca sl)))))) ∧ ((r_2 = false) → Yx (yXL b L xs) lwZ G room_1 kL_law 358 [(0, .ref b), (1, .ref (G.1 0)), (2, .int x2), (3, .ref a3), (5, .ref a5), (6, .int x6), (7, .int x7), (8, .int x8), (9, .long x9), (11, .int x11), (12, .int x12), (13, .int x13), (14, .int x14), (15, .ref a15), (16, .int x16), (18, .int (x18 + 1))] [] M_2 H ca sl))))))) :
    Yx (yXL b L xs) lwZ G room_1 kL_law 358 [(0, .ref b), (1, .ref (G.1 0)), (2, .int x2), (3, .ref a3), (5, .ref a5), (6, .int x6), (7, .int x7), (8, .int x8), (9, .long x9), (11, .int x11), (12, .int x12), (13, .int x13), (14, .int x14), (15, .ref a15), (16, .int x16), (18, .int x18)] [] M H ca sl := by
  refine y_iload 15 dL_law_358 rfl ?_
  refine y_bipush (v := 6) dL_law_360 rfl ?_
  refine y_icmp_ge (t := 438) dL_law_362 (by decide) (fun q => ?_) (fun q => ?_)
  · replace h := h.1 q
    refine y_iinc (v := x16 + 1) (l' := [(16, .int (x16 + 1)), (0, .ref b), (1, .ref (G.1 0)), (2, .int x2), (3, .ref a3), (5, .ref a5), (6, .int x6), (7, .int x7), (8, .int x8), (9, .long x9), (11, .int x11), (12, .int x12), (13, .int x13), (14, .int x14), (15, .ref a15), (18, .int x18)]) 14 dL_law_438 rfl rfl (by decide) rfl ?_
    refine y_goto (t := 166) dL_law_441 (by decide) ?_
    exact Yx.sub (ks := [1, 2, 3, 4, 5, 6, 7, 8, 9, 10, 11, 12, 13, 14, 0]) rfl h
  · replace h := h.2 q
    refine y_aload 4 dL_law_365 rfl ?_
    refine y_iload 14 dL_law_367 rfl ?_
    refine y_iload 15 dL_law_369 rfl ?_
    have hb := h.1
    replace h := h.2
    obtain ⟨⟨fs_1, hi⟩, h⟩ := h
    obtain ⟨r_1, hc, h⟩ := h
    refine y_callV yXLk (b' := (1, 0, 0)) (K' := kX12_beside) (As := [.int x16, .int x18]) (S := []) dL_law_371 mX12_beside lML_177 clX12 rfl hi rfl ⟨(by decide), hb⟩ (Nat.le_of_ble_eq_true rfl) hc (fun v_ M_ H_ q_ => ?_) rfl
    obtain ⟨rfl, rfl, rfl⟩ := q_
    refine y_istore (i := 19) (l' := [(19, .int r_1), (0, .ref b), (1, .ref (G.1 0)), (2, .int x2), (3, .ref a3), (5, .ref a5), (6, .int x6), (7, .int x7), (8, .int x8), (9, .long x9), (11, .int x11), (12, .int x12), (13, .int x13), (14, .int x14), (15, .ref a15), (16, .int x16), (18, .int x18)]) dL_law_374 (by decide) rfl ?_
    refine y_iload 0 dL_law_376 rfl ?_
    refine y_if_lt (t := 432) dL_law_378 (by decide) (fun q => ?_) (fun q => ?_)
    · replace h := h.1 q
      refine y_iinc (v := x18 + 1) (l' := [(18, .int (x18 + 1)), (19, .int r_1), (0, .ref b), (1, .ref (G.1 0)), (2, .int x2), (3, .ref a3), (5, .ref a5), (6, .int x6), (7, .int x7), (8, .int x8), (9, .long x9), (11, .int x11), (12, .int x12), (13, .int x13), (14, .int x14), (15, .ref a15), (16, .int x16)]) 16 dL_law_432 rfl rfl (by decide) rfl ?_
      refine y_goto (t := 358) dL_law_435 (by decide) ?_
      exact Yx.sub (ks := [2, 3, 4, 5, 6, 7, 8, 9, 10, 11, 12, 13, 14, 15, 16, 0]) rfl h
    · replace h := h.2 q
      refine y_aload_n 2 dL_law_381 rfl rfl ?_
      refine y_iload 0 dL_law_382 rfl ?_
      have hb := h.1
      replace h := h.2
      refine y_callM yXLk (b' := (2, 0, 0)) (K' := kX10_hasTile) (As := [.int r_1]) (S := []) dL_law_384 mX10_hasTile lML_162 rfl rfl ⟨(by decide), hb⟩ (Nat.le_of_ble_eq_true rfl) (yCal.cls h) (fun v_ M_ H_ q_ => ?_) rfl
      obtain ⟨⟨r_2, rfl, h⟩, rfl⟩ := q_
      revert h
      generalize M_ = M_2
      intro h
      refine y_zif_ne (t := 393) dL_law_387 (by decide) (fun q => ?_) (fun q => ?_)
      · replace h := h.1 q
        refine y_aload_n 2 dL_law_393 rfl rfl ?_
        refine y_iload 15 dL_law_394 rfl ?_
        refine y_iload 16 dL_law_396 rfl ?_
        have hb := h.1
        replace h := h.2
        refine y_callM yXLk (b' := (2, 0, 0)) (K' := kX10_numberAt) (As := [.int x16, .int x18]) (S := []) dL_law_398 mX10_numberAt lML_181 rfl rfl ⟨(by decide), hb⟩ (Nat.le_of_ble_eq_true rfl) (yCal.cls h) (fun v_ M_ H_ q_ => ?_) rfl
        obtain ⟨⟨r_3, rfl, h⟩, rfl⟩ := q_
        revert h
        generalize M_ = M_3
        intro h
        refine y_aload_n 2 dL_law_401 rfl rfl ?_
        refine y_iload 0 dL_law_402 rfl ?_
        refine y_iload 16 dL_law_404 rfl ?_
        refine y_iconst (v := 3) dL_law_406 rfl ?_
        refine y_iadd dL_law_407 ?_
        refine y_bipush (v := 6) dL_law_408 rfl ?_
        refine y_irem dL_law_410 (by decide) ?_
        have hb := h.1
        replace h := h.2
        refine y_callM yXLk (b' := (2, 0, 0)) (K' := kX10_numberAt) (As := [.int r_1, .int ((x18 + 3) - (x18 + 3) / 6 * 6)]) (S := [.int r_3]) dL_law_411 mX10_numberAt lML_181 rfl rfl ⟨(by decide), hb⟩ (Nat.le_of_ble_eq_true rfl) (yCal.cls h) (fun v_ M_ H_ q_ => ?_) rfl
        obtain ⟨⟨r_4, rfl, h⟩, rfl⟩ := q_
        revert h
        generalize M_ = M_4
        intro h
        refine y_icmp_eq (t := 419) dL_law_414 (by decide) (fun q => ?_) (fun q => ?_)
        · replace h := h.1 q
          refine y_iload 11 dL_law_419 rfl ?_
          refine y_aload_n 2 dL_law_421 rfl rfl ?_
          refine y_iload 15 dL_law_422 rfl ?_
          refine y_iload 16 dL_law_424 rfl ?_
          have hb := h.1
          replace h := h.2
          refine y_callM yXLk (b' := (2, 0, 0)) (K' := kX10_numberAt) (As := [.int x16, .int x18]) (S := [.int x12]) dL_law_426 mX10_numberAt lML_181 rfl rfl ⟨(by decide), hb⟩ (Nat.le_of_ble_eq_true rfl) (yCal.cls h) (fun v_ M_ H_ q_ => ?_) rfl
          obtain ⟨⟨r_5, rfl, h⟩, rfl⟩ := q_
          revert h
          generalize M_ = M_5
          intro h
          refine y_iadd dL_law_429 ?_
          refine y_istore (i := 12) (l' := [(12, .int (x12 + r_5)), (19, .int r_1), (0, .ref b), (1, .ref (G.1 0)), (2, .int x2), (3, .ref a3), (5, .ref a5), (6, .int x6), (7, .int x7), (8, .int x8), (9, .long x9), (11, .int x11), (13, .int x13), (14, .int x14), (15, .ref a15), (16, .int x16), (18, .int x18)]) dL_law_430 (by decide) rfl ?_
          refine y_iinc (v := x18 + 1) (l' := [(18, .int (x18 + 1)), (12, .int (x12 + r_5)), (19, .int r_1), (0, .ref b), (1, .ref (G.1 0)), (2, .int x2), (3, .ref a3), (5, .ref a5), (6, .int x6), (7, .int x7), (8, .int x8), (9, .long x9), (11, .int x11), (13, .int x13), (14, .int x14), (15, .ref a15), (16, .int x16)]) 16 dL_law_432 rfl rfl (by decide) rfl ?_
          refine y_goto (t := 358) dL_law_435 (by decide) ?_
          exact Yx.sub (ks := [3, 4, 5, 6, 7, 8, 9, 10, 11, 12, 1, 13, 14, 15, 16, 0]) rfl h
        · replace h := h.2 q
          exact Yx.sub (ks := []) rfl h
      · replace h := h.2 q
        refine y_goto (t := 432) dL_law_390 (by decide) ?_
        refine y_iinc (v := x18 + 1) (l' := [(18, .int (x18 + 1)), (19, .int r_1), (0, .ref b), (1, .ref (G.1 0)), (2, .int x2), (3, .ref a3), (5, .ref a5), (6, .int x6), (7, .int x7), (8, .int x8), (9, .long x9), (11, .int x11), (12, .int x12), (13, .int x13), (14, .int x14), (15, .ref a15), (16, .int x16)]) 16 dL_law_432 rfl rfl (by decide) rfl ?_
        refine y_goto (t := 358) dL_law_435 (by decide) ?_
        exact Yx.sub (ks := [2, 3, 4, 5, 6, 7, 8, 9, 10, 11, 12, 13, 14, 15, 16, 0]) rfl h
set_option maxHeartbeats 4000000 in
set_option maxRecDepth 100000 in
theorem B_L_law_334 (G : eG) {b L : Nat} {xs : Nat → Int32} (ca sl : Nat) (M : eM) (H : yH) (x2 : Int32) (a3 : Nat) (a5 : Nat) (x6 : Int32) (x7 : Int32) (x8 : Int32) (x9 : Int64) (x11 : Int32) (x12 : Int32) (x13 : Int32) (x14 : Int32) (a15 : Nat) (x16 : Int32) (x17 : Int32)
    (h : (ca + 0 ≤ room_1.cells ∧ sl + 0 ≤ room_1.slots) ∧ Cal G 0 68 (4, 0, 0) kX10_turnOf [.ref (G.1 0), .int x17] M (eFI (fun (r_1 : Int32) (M_1 : eM) => ((r_1 ≤ (5 : Int32)) → ∃ (N_2 : Nat) (f_2 : Nat → Int32), H a15 = some (.inl (G.2.2.2 2, (N_2, .inl f_2))) ∧ vp_in x17 N_2 ∧ (Yx (yXL b L xs) lwZ G room_1 kL_law 358 [(0, .ref b), (1, .ref (G.1 0)), (2, .int x2), (3, .ref a3), (5, .ref a5), (6, .int x6), (7, .int x7), (8, .int x8), (9, .long x9), (11, .int (x11 + 1)), (12, .int x12), (13, .int x13), (14, .int x14), (15, .ref a15), (16, .int x16), (18, .int 0)] [] M_1 (yU H a15 (.inl (G.2.2.2 2, (N_2, .inl (upd f_2 x17.toNatClampNeg ((1 : Int32) &&& 1)))))) ca sl)) ∧ ((¬ r_1 ≤ (5 : Int32)) → False)))) :
    Yx (yXL b L xs) lwZ G room_1 kL_law 334 [(0, .ref b), (1, .ref (G.1 0)), (2, .int x2), (3, .ref a3), (5, .ref a5), (6, .int x6), (7, .int x7), (8, .int x8), (9, .long x9), (11, .int x11), (12, .int x12), (13, .int x13), (14, .int x14), (15, .ref a15), (16, .int x16), (17, .int x17)] [] M H ca sl := by
  refine y_aload_n 1 dL_law_334 rfl rfl ?_
  refine y_iload 15 dL_law_335 rfl ?_
  have hb := h.1
  replace h := h.2
  refine y_callM yXLk (b' := (4, 0, 0)) (K' := kX10_turnOf) (As := [.int x17]) (S := []) dL_law_337 mX10_turnOf lML_174 rfl rfl ⟨(by decide), hb⟩ (Nat.le_of_ble_eq_true rfl) (yCal.cls h) (fun v_ M_ H_ q_ => ?_) rfl
  obtain ⟨⟨r_1, rfl, h⟩, rfl⟩ := q_
  revert h
  generalize M_ = M_1
  intro h
  refine y_iconst (v := 5) dL_law_340 rfl ?_
  refine y_icmp_le (t := 346) dL_law_341 (by decide) (fun q => ?_) (fun q => ?_)
  · replace h := h.1 q
    refine y_aload 13 dL_law_346 rfl ?_
    refine y_iload 15 dL_law_348 rfl ?_
    refine y_iconst (v := 1) dL_law_350 rfl ?_
    obtain ⟨N_2, f_2, e1_2, e2_2, h⟩ := h
    refine y_zast yXLk dL_law_351 e1_2 e2_2 ?_
    refine y_iinc (v := x11 + 1) (l' := [(11, .int (x11 + 1)), (0, .ref b), (1, .ref (G.1 0)), (2, .int x2), (3, .ref a3), (5, .ref a5), (6, .int x6), (7, .int x7), (8, .int x8), (9, .long x9), (12, .int x12), (13, .int x13), (14, .int x14), (15, .ref a15), (16, .int x16), (17, .int x17)]) 9 dL_law_352 rfl rfl (by decide) rfl ?_
    refine y_iconst (v := 0) dL_law_355 rfl ?_
    refine y_istore (i := 18) (l' := [(18, .int 0), (11, .int (x11 + 1)), (0, .ref b), (1, .ref (G.1 0)), (2, .int x2), (3, .ref a3), (5, .ref a5), (6, .int x6), (7, .int x7), (8, .int x8), (9, .long x9), (12, .int x12), (13, .int x13), (14, .int x14), (15, .ref a15), (16, .int x16), (17, .int x17)]) dL_law_356 (by decide) rfl ?_
    exact Yx.sub (ks := [2, 3, 4, 5, 6, 7, 8, 9, 10, 1, 11, 12, 13, 14, 15, 0]) rfl h
  · replace h := h.2 q
    refine y_iconst (v := 0) dL_law_344 rfl ?_
    exact h.elim
set_option maxHeartbeats 4000000 in
set_option maxRecDepth 100000 in
theorem B_L_law_277 (G : eG) {b L : Nat} {xs : Nat → Int32} (ca sl : Nat) (M : eM) (H : yH) (x2 : Int32) (a3 : Nat) (a5 : Nat) (x6 : Int32) (x7 : Int32) (x8 : Int32) (x9 : Int64) (x11 : Int32) (x12 : Int32) (x13 : Int32) (x14 : Int32) (a15 : Nat) (x16 : Int32)
    (h : (ca + 0 ≤ room_1.cells ∧ sl + 0 ≤ room_1.slots) ∧ Cal G 0 68 (2, 0, 0) kX10_hasTile [.ref (G.1 0), .int x16] M (eFZ (fun (r_1 : Bool) (M_1 : eM) => ((r_1 = true) → (ca + 0 ≤ room_1.cells ∧ sl + 0 ≤ room_1.slots) ∧ Cal G 0 68 (2, 0, 0) kX10_tileAt [.ref (G.1 0), .int x16] M_1 (eFI (fun (r_2 : Int32) (M_2 : eM) => ∃ (x_3 : Int32), yEZ G H a15 r_2 x_3 ∧ (((¬ x_3 = (0 : Int32)) → False) ∧ ((x_3 = (0 : Int32)) → (ca + 0 ≤ room_1.cells ∧ sl + 0 ≤ room_1.slots) ∧ Cal G 0 68 (3, 0, 0) kX10_isPlaced [.ref (G.1 0), .int r_2] M_2 (eFZ (fun (r_4 : Bool) (M_4 : eM) => ((r_4 = false) → False) ∧ ((r_4 = true) → (ca + 0 ≤ room_1.cells ∧ sl + 0 ≤ room_1.slots) ∧ Cal G 0 68 (4, 0, 0) kX10_cellOf [.ref (G.1 0), .int r_2] M_4 (eFI (fun (r_5 : Int32) (M_5 : eM) => ((¬ r_5 = x16) → False) ∧ ((r_5 = x16) → (ca + 0 ≤ room_1.cells ∧ sl + 0 ≤ room_1.slots) ∧ Cal G 0 68 (4, 0, 0) kX10_turnOf [.ref (G.1 0), .int r_2] M_5 (eFI (fun (r_6 : Int32) (M_6 : eM) => ((r_6 < (0 : Int32)) → False) ∧ ((¬ r_6 < (0 : Int32)) → Yx (yXL b L xs) lwZ G room_1 kL_law 334 [(0, .ref b), (1, .ref (G.1 0)), (2, .int x2), (3, .ref a3), (5, .ref a5), (6, .int x6), (7, .int x7), (8, .int x8), (9, .long x9), (11, .int x11), (12, .int x12), (13, .int x13), (14, .int x14), (15, .ref a15), (16, .int x16), (17, .int r_2)] [] M_6 H ca sl)))))))))))))) ∧ ((r_1 = false) → Yx (yXL b L xs) lwZ G room_1 kL_law 166 [(0, .ref b), (1, .ref (G.1 0)), (2, .int x2), (3, .ref a3), (5, .ref a5), (6, .int x6), (7, .int x7), (8, .int x8), (9, .long x9), (11, .int x11), (12, .int x12), (13, .int x13), (14, .int x14), (15, .ref a15), (16, .int (x16 + 1))] [] M_1 H ca sl)))) :
    Yx (yXL b L xs) lwZ G room_1 kL_law 277 [(0, .ref b), (1, .ref (G.1 0)), (2, .int x2), (3, .ref a3), (5, .ref a5), (6, .int x6), (7, .int x7), (8, .int x8), (9, .long x9), (11, .int x11), (12, .int x12), (13, .int x13), (14, .int x14), (15, .ref a15), (16, .int x16)] [] M H ca sl := by
  refine y_aload_n 1 dL_law_277 rfl rfl ?_
  refine y_iload 14 dL_law_278 rfl ?_
  have hb := h.1
  replace h := h.2
  refine y_callM yXLk (b' := (2, 0, 0)) (K' := kX10_hasTile) (As := [.int x16]) (S := []) dL_law_280 mX10_hasTile lML_162 rfl rfl ⟨(by decide), hb⟩ (Nat.le_of_ble_eq_true rfl) (yCal.cls h) (fun v_ M_ H_ q_ => ?_) rfl
  obtain ⟨⟨r_1, rfl, h⟩, rfl⟩ := q_
  revert h
  generalize M_ = M_1
  intro h
  refine y_zif_ne (t := 289) dL_law_283 (by decide) (fun q => ?_) (fun q => ?_)
  · replace h := h.1 q
    refine y_aload_n 1 dL_law_289 rfl rfl ?_
    refine y_iload 14 dL_law_290 rfl ?_
    have hb := h.1
    replace h := h.2
    refine y_callM yXLk (b' := (2, 0, 0)) (K' := kX10_tileAt) (As := [.int x16]) (S := []) dL_law_292 mX10_tileAt lML_165 rfl rfl ⟨(by decide), hb⟩ (Nat.le_of_ble_eq_true rfl) (yCal.cls h) (fun v_ M_ H_ q_ => ?_) rfl
    obtain ⟨⟨r_2, rfl, h⟩, rfl⟩ := q_
    revert h
    generalize M_ = M_2
    intro h
    refine y_istore (i := 17) (l' := [(17, .int r_2), (0, .ref b), (1, .ref (G.1 0)), (2, .int x2), (3, .ref a3), (5, .ref a5), (6, .int x6), (7, .int x7), (8, .int x8), (9, .long x9), (11, .int x11), (12, .int x12), (13, .int x13), (14, .int x14), (15, .ref a15), (16, .int x16)]) dL_law_295 (by decide) rfl ?_
    refine y_aload 14 dL_law_297 rfl ?_
    refine y_iload 0 dL_law_299 rfl ?_
    obtain ⟨x_3, ⟨N_3, f_3, e1_3, e2_3, e3_3⟩, h⟩ := h
    refine y_zaldx dL_law_301 e1_3 e2_3 e3_3 ?_
    refine y_if_ne (t := 344) dL_law_302 (by decide) (fun q => ?_) (fun q => ?_)
    · replace h := h.1 q
      refine y_iconst (v := 0) dL_law_344 rfl ?_
      exact h.elim
    · replace h := h.2 q
      refine y_aload_n 2 dL_law_305 rfl rfl ?_
      refine y_iload 0 dL_law_306 rfl ?_
      have hb := h.1
      replace h := h.2
      refine y_callM yXLk (b' := (3, 0, 0)) (K' := kX10_isPlaced) (As := [.int r_2]) (S := []) dL_law_308 mX10_isPlaced lML_168 rfl rfl ⟨(by decide), hb⟩ (Nat.le_of_ble_eq_true rfl) (yCal.cls h) (fun v_ M_ H_ q_ => ?_) rfl
      obtain ⟨⟨r_4, rfl, h⟩, rfl⟩ := q_
      revert h
      generalize M_ = M_4
      intro h
      refine y_zif_eq (t := 344) dL_law_311 (by decide) (fun q => ?_) (fun q => ?_)
      · replace h := h.1 q
        refine y_iconst (v := 0) dL_law_344 rfl ?_
        exact h.elim
      · replace h := h.2 q
        refine y_aload_n 2 dL_law_314 rfl rfl ?_
        refine y_iload 0 dL_law_315 rfl ?_
        have hb := h.1
        replace h := h.2
        refine y_callM yXLk (b' := (4, 0, 0)) (K' := kX10_cellOf) (As := [.int r_2]) (S := []) dL_law_317 mX10_cellOf lML_171 rfl rfl ⟨(by decide), hb⟩ (Nat.le_of_ble_eq_true rfl) (yCal.cls h) (fun v_ M_ H_ q_ => ?_) rfl
        obtain ⟨⟨r_5, rfl, h⟩, rfl⟩ := q_
        revert h
        generalize M_ = M_5
        intro h
        refine y_iload 15 dL_law_320 rfl ?_
        refine y_icmp_ne (t := 344) dL_law_322 (by decide) (fun q => ?_) (fun q => ?_)
        · replace h := h.1 q
          refine y_iconst (v := 0) dL_law_344 rfl ?_
          exact h.elim
        · replace h := h.2 q
          refine y_aload_n 2 dL_law_325 rfl rfl ?_
          refine y_iload 0 dL_law_326 rfl ?_
          have hb := h.1
          replace h := h.2
          refine y_callM yXLk (b' := (4, 0, 0)) (K' := kX10_turnOf) (As := [.int r_2]) (S := []) dL_law_328 mX10_turnOf lML_174 rfl rfl ⟨(by decide), hb⟩ (Nat.le_of_ble_eq_true rfl) (yCal.cls h) (fun v_ M_ H_ q_ => ?_) rfl
          obtain ⟨⟨r_6, rfl, h⟩, rfl⟩ := q_
          revert h
          generalize M_ = M_6
          intro h
          refine y_if_lt (t := 344) dL_law_331 (by decide) (fun q => ?_) (fun q => ?_)
          · replace h := h.1 q
            refine y_iconst (v := 0) dL_law_344 rfl ?_
            exact h.elim
          · replace h := h.2 q
            exact Yx.sub (ks := [1, 2, 3, 4, 5, 6, 7, 8, 9, 10, 11, 12, 13, 14, 15, 0]) rfl h
  · replace h := h.2 q
    refine y_goto (t := 438) dL_law_286 (by decide) ?_
    refine y_iinc (v := x16 + 1) (l' := [(16, .int (x16 + 1)), (0, .ref b), (1, .ref (G.1 0)), (2, .int x2), (3, .ref a3), (5, .ref a5), (6, .int x6), (7, .int x7), (8, .int x8), (9, .long x9), (11, .int x11), (12, .int x12), (13, .int x13), (14, .int x14), (15, .ref a15)]) 14 dL_law_438 rfl rfl (by decide) rfl ?_
    refine y_goto (t := 166) dL_law_441 (by decide) ?_
    exact Yx.sub (ks := [1, 2, 3, 4, 5, 6, 7, 8, 9, 10, 11, 12, 13, 14, 0]) rfl h
set_option maxHeartbeats 4000000 in
set_option maxRecDepth 100000 in
theorem B_L_law_241 (G : eG) {b L : Nat} {xs : Nat → Int32} (ca sl : Nat) (M : eM) (H : yH) (x2 : Int32) (a3 : Nat) (a5 : Nat) (x6 : Int32) (x7 : Int32) (x8 : Int32) (x9 : Int64) (x11 : Int32) (x12 : Int32) (x13 : Int32) (x14 : Int32) (a15 : Nat) (x16 : Int32)
    (h : (ca + 0 ≤ room_1.cells ∧ sl + 0 ≤ room_1.slots) ∧ Cal G 0 68 (2, 0, 0) kX10_hasTile [.ref (G.1 0), .int x16] M (eFZ (fun (r_1 : Bool) (M_1 : eM) => ((r_1 = false) → Yx (yXL b L xs) lwZ G room_1 kL_law 277 [(0, .ref b), (1, .ref (G.1 0)), (2, .int x2), (3, .ref a3), (5, .ref a5), (6, .int x6), (7, .int x7), (8, .int x8), (9, .long x9), (11, .int x11), (12, .int x12), (13, .int x13), (14, .int x14), (15, .ref a15), (16, .int x16)] [] M_1 H ca sl) ∧ ((r_1 = true) → (ca + 0 ≤ room_1.cells ∧ sl + 0 ≤ room_1.slots) ∧ Cal G 0 68 (2, 0, 0) kX10_isRing [.ref (G.1 0), .int x16] M_1 (eFZ (fun (r_2 : Bool) (M_2 : eM) => (ca + 0 ≤ room_1.cells ∧ sl + 0 ≤ room_1.slots) ∧ Cal G 0 68 (2, 0, 0) kX10_matchesOf [.ref (G.1 0), .int x16] M_2 (eFI (fun (r_3 : Int32) (M_3 : eM) => ((¬ r_3 = (6 : Int32)) → (((eZi r_2) = (0 : Int32)) → Yx (yXL b L xs) lwZ G room_1 kL_law 277 [(0, .ref b), (1, .ref (G.1 0)), (2, .int x2), (3, .ref a3), (5, .ref a5), (6, .int x6), (7, .int x7), (8, .int x8), (9, .long x9), (11, .int x11), (12, .int x12), (13, .int x13), (14, .int x14), (15, .ref a15), (16, .int x16)] [] M_3 H ca sl) ∧ ((¬ (eZi r_2) = (0 : Int32)) → False)) ∧ ((r_3 = (6 : Int32)) → (((eZi r_2) = (1 : Int32)) → Yx (yXL b L xs) lwZ G room_1 kL_law 277 [(0, .ref b), (1, .ref (G.1 0)), (2, .int x2), (3, .ref a3), (5, .ref a5), (6, .int x6), (7, .int x7), (8, .int x8), (9, .long x9), (11, .int x11), (12, .int x12), (13, .int x13), (14, .int x14), (15, .ref a15), (16, .int x16)] [] M_3 H ca sl) ∧ ((¬ (eZi r_2) = (1 : Int32)) → False)))))))))) :
    Yx (yXL b L xs) lwZ G room_1 kL_law 241 [(0, .ref b), (1, .ref (G.1 0)), (2, .int x2), (3, .ref a3), (5, .ref a5), (6, .int x6), (7, .int x7), (8, .int x8), (9, .long x9), (11, .int x11), (12, .int x12), (13, .int x13), (14, .int x14), (15, .ref a15), (16, .int x16)] [] M H ca sl := by
  refine y_aload_n 1 dL_law_241 rfl rfl ?_
  refine y_iload 14 dL_law_242 rfl ?_
  have hb := h.1
  replace h := h.2
  refine y_callM yXLk (b' := (2, 0, 0)) (K' := kX10_hasTile) (As := [.int x16]) (S := []) dL_law_244 mX10_hasTile lML_162 rfl rfl ⟨(by decide), hb⟩ (Nat.le_of_ble_eq_true rfl) (yCal.cls h) (fun v_ M_ H_ q_ => ?_) rfl
  obtain ⟨⟨r_1, rfl, h⟩, rfl⟩ := q_
  revert h
  generalize M_ = M_1
  intro h
  refine y_zif_eq (t := 277) dL_law_247 (by decide) (fun q => ?_) (fun q => ?_)
  · replace h := h.1 q
    exact h
  · replace h := h.2 q
    refine y_aload_n 1 dL_law_250 rfl rfl ?_
    refine y_iload 14 dL_law_251 rfl ?_
    have hb := h.1
    replace h := h.2
    refine y_callM yXLk (b' := (2, 0, 0)) (K' := kX10_isRing) (As := [.int x16]) (S := []) dL_law_253 mX10_isRing lML_159 rfl rfl ⟨(by decide), hb⟩ (Nat.le_of_ble_eq_true rfl) (yCal.cls h) (fun v_ M_ H_ q_ => ?_) rfl
    obtain ⟨⟨r_2, rfl, h⟩, rfl⟩ := q_
    revert h
    generalize M_ = M_2
    intro h
    refine y_aload_n 1 dL_law_256 rfl rfl ?_
    refine y_iload 14 dL_law_257 rfl ?_
    have hb := h.1
    replace h := h.2
    refine y_callM yXLk (b' := (2, 0, 0)) (K' := kX10_matchesOf) (As := [.int x16]) (S := [.int (eZi r_2)]) dL_law_259 mX10_matchesOf lML_156 rfl rfl ⟨(by decide), hb⟩ (Nat.le_of_ble_eq_true rfl) (yCal.cls h) (fun v_ M_ H_ q_ => ?_) rfl
    obtain ⟨⟨r_3, rfl, h⟩, rfl⟩ := q_
    revert h
    generalize M_ = M_3
    intro h
    refine y_bipush (v := 6) dL_law_262 rfl ?_
    refine y_icmp_ne (t := 271) dL_law_264 (by decide) (fun q => ?_) (fun q => ?_)
    · replace h := h.1 q
      refine y_iconst (v := 0) dL_law_271 rfl ?_
      refine y_icmp_eq (t := 277) dL_law_272 (by decide) (fun q => ?_) (fun q => ?_)
      · replace h := h.1 q
        exact h
      · replace h := h.2 q
        refine y_iconst (v := 0) dL_law_275 rfl ?_
        exact h.elim
    · replace h := h.2 q
      refine y_iconst (v := 1) dL_law_267 rfl ?_
      refine y_goto (t := 272) dL_law_268 (by decide) ?_
      refine y_icmp_eq (t := 277) dL_law_272 (by decide) (fun q => ?_) (fun q => ?_)
      · replace h := h.1 q
        exact h
      · replace h := h.2 q
        refine y_iconst (v := 0) dL_law_275 rfl ?_
        exact h.elim
set_option maxHeartbeats 4000000 in
set_option maxRecDepth 100000 in
theorem B_L_law_203 (G : eG) {b L : Nat} {xs : Nat → Int32} (ca sl : Nat) (M : eM) (H : yH) (x2 : Int32) (a3 : Nat) (a5 : Nat) (x6 : Int32) (x7 : Int32) (x8 : Int32) (x9 : Int64) (x11 : Int32) (x12 : Int32) (x13 : Int32) (x14 : Int32) (a15 : Nat) (x16 : Int32)
    (h : (ca + 0 ≤ room_1.cells ∧ sl + 0 ≤ room_1.slots) ∧ Cal G 0 68 (2, 0, 0) kX10_matchesOf [.ref (G.1 0), .int x16] M (eFI (fun (r_1 : Int32) (M_1 : eM) => ((r_1 < (0 : Int32)) → False) ∧ ((¬ r_1 < (0 : Int32)) → (ca + 0 ≤ room_1.cells ∧ sl + 0 ≤ room_1.slots) ∧ Cal G 0 68 (2, 0, 0) kX10_matchesOf [.ref (G.1 0), .int x16] M_1 (eFI (fun (r_2 : Int32) (M_2 : eM) => (((6 : Int32) < r_2) → False) ∧ ((¬ (6 : Int32) < r_2) → (ca + 0 ≤ room_1.cells ∧ sl + 0 ≤ room_1.slots) ∧ Cal G 0 68 (2, 0, 0) kX10_hasTile [.ref (G.1 0), .int x16] M_2 (eFZ (fun (r_3 : Bool) (M_3 : eM) => ((r_3 = true) → Yx (yXL b L xs) lwZ G room_1 kL_law 241 [(0, .ref b), (1, .ref (G.1 0)), (2, .int x2), (3, .ref a3), (5, .ref a5), (6, .int x6), (7, .int x7), (8, .int x8), (9, .long x9), (11, .int x11), (12, .int x12), (13, .int x13), (14, .int x14), (15, .ref a15), (16, .int x16)] [] M_3 H ca sl) ∧ ((r_3 = false) → (ca + 0 ≤ room_1.cells ∧ sl + 0 ≤ room_1.slots) ∧ Cal G 0 68 (2, 0, 0) kX10_matchesOf [.ref (G.1 0), .int x16] M_3 (eFI (fun (r_4 : Int32) (M_4 : eM) => (((0 : Int32) < r_4) → False) ∧ ((¬ (0 : Int32) < r_4) → Yx (yXL b L xs) lwZ G room_1 kL_law 241 [(0, .ref b), (1, .ref (G.1 0)), (2, .int x2), (3, .ref a3), (5, .ref a5), (6, .int x6), (7, .int x7), (8, .int x8), (9, .long x9), (11, .int x11), (12, .int x12), (13, .int x13), (14, .int x14), (15, .ref a15), (16, .int x16)] [] M_4 H ca sl))))))))))))) :
    Yx (yXL b L xs) lwZ G room_1 kL_law 203 [(0, .ref b), (1, .ref (G.1 0)), (2, .int x2), (3, .ref a3), (5, .ref a5), (6, .int x6), (7, .int x7), (8, .int x8), (9, .long x9), (11, .int x11), (12, .int x12), (13, .int x13), (14, .int x14), (15, .ref a15), (16, .int x16)] [] M H ca sl := by
  refine y_aload_n 1 dL_law_203 rfl rfl ?_
  refine y_iload 14 dL_law_204 rfl ?_
  have hb := h.1
  replace h := h.2
  refine y_callM yXLk (b' := (2, 0, 0)) (K' := kX10_matchesOf) (As := [.int x16]) (S := []) dL_law_206 mX10_matchesOf lML_156 rfl rfl ⟨(by decide), hb⟩ (Nat.le_of_ble_eq_true rfl) (yCal.cls h) (fun v_ M_ H_ q_ => ?_) rfl
  obtain ⟨⟨r_1, rfl, h⟩, rfl⟩ := q_
  revert h
  generalize M_ = M_1
  intro h
  refine y_if_lt (t := 275) dL_law_209 (by decide) (fun q => ?_) (fun q => ?_)
  · replace h := h.1 q
    refine y_iconst (v := 0) dL_law_275 rfl ?_
    exact h.elim
  · replace h := h.2 q
    refine y_aload_n 1 dL_law_212 rfl rfl ?_
    refine y_iload 14 dL_law_213 rfl ?_
    have hb := h.1
    replace h := h.2
    refine y_callM yXLk (b' := (2, 0, 0)) (K' := kX10_matchesOf) (As := [.int x16]) (S := []) dL_law_215 mX10_matchesOf lML_156 rfl rfl ⟨(by decide), hb⟩ (Nat.le_of_ble_eq_true rfl) (yCal.cls h) (fun v_ M_ H_ q_ => ?_) rfl
    obtain ⟨⟨r_2, rfl, h⟩, rfl⟩ := q_
    revert h
    generalize M_ = M_2
    intro h
    refine y_bipush (v := 6) dL_law_218 rfl ?_
    refine y_icmp_gt (t := 275) dL_law_220 (by decide) (fun q => ?_) (fun q => ?_)
    · replace h := h.1 q
      refine y_iconst (v := 0) dL_law_275 rfl ?_
      exact h.elim
    · replace h := h.2 q
      refine y_aload_n 1 dL_law_223 rfl rfl ?_
      refine y_iload 14 dL_law_224 rfl ?_
      have hb := h.1
      replace h := h.2
      refine y_callM yXLk (b' := (2, 0, 0)) (K' := kX10_hasTile) (As := [.int x16]) (S := []) dL_law_226 mX10_hasTile lML_162 rfl rfl ⟨(by decide), hb⟩ (Nat.le_of_ble_eq_true rfl) (yCal.cls h) (fun v_ M_ H_ q_ => ?_) rfl
      obtain ⟨⟨r_3, rfl, h⟩, rfl⟩ := q_
      revert h
      generalize M_ = M_3
      intro h
      refine y_zif_ne (t := 241) dL_law_229 (by decide) (fun q => ?_) (fun q => ?_)
      · replace h := h.1 q
        exact h
      · replace h := h.2 q
        refine y_aload_n 1 dL_law_232 rfl rfl ?_
        refine y_iload 14 dL_law_233 rfl ?_
        have hb := h.1
        replace h := h.2
        refine y_callM yXLk (b' := (2, 0, 0)) (K' := kX10_matchesOf) (As := [.int x16]) (S := []) dL_law_235 mX10_matchesOf lML_156 rfl rfl ⟨(by decide), hb⟩ (Nat.le_of_ble_eq_true rfl) (yCal.cls h) (fun v_ M_ H_ q_ => ?_) rfl
        obtain ⟨⟨r_4, rfl, h⟩, rfl⟩ := q_
        revert h
        generalize M_ = M_4
        intro h
        refine y_if_gt (t := 275) dL_law_238 (by decide) (fun q => ?_) (fun q => ?_)
        · replace h := h.1 q
          refine y_iconst (v := 0) dL_law_275 rfl ?_
          exact h.elim
        · replace h := h.2 q
          exact h
set_option maxHeartbeats 4000000 in
set_option maxRecDepth 100000 in
theorem B_L_law_166 (G : eG) {b L : Nat} {xs : Nat → Int32} (ca sl : Nat) (M : eM) (H : yH) (x2 : Int32) (a3 : Nat) (a5 : Nat) (x6 : Int32) (x7 : Int32) (x8 : Int32) (x9 : Int64) (x11 : Int32) (x12 : Int32) (x13 : Int32) (x14 : Int32) (a15 : Nat) (x16 : Int32)
    (h : ((x7 ≤ x16) → (ca + 0 ≤ room_1.cells ∧ sl + 0 ≤ room_1.slots) ∧ Cal G 0 68 (1, 0, 0) kX10_placedTiles [.ref (G.1 0)] M (eFI (fun (r_1 : Int32) (M_1 : eM) => ((¬ x11 = r_1) → False) ∧ ((x11 = r_1) → (ca + 0 ≤ room_1.cells ∧ sl + 0 ≤ room_1.slots) ∧ Cal G 0 68 (3, 0, 0) kX10_matches [.ref (G.1 0)] M_1 (eFI (fun (r_2 : Int32) (M_2 : eM) => ((¬ x14 = ((2 : Int32) * r_2)) → False) ∧ ((x14 = ((2 : Int32) * r_2)) → (ca + 0 ≤ room_1.cells ∧ sl + 0 ≤ room_1.slots) ∧ Cal G 0 68 (3, 0, 0) kX10_rings [.ref (G.1 0)] M_2 (eFI (fun (r_3 : Int32) (M_3 : eM) => ((¬ x13 = r_3) → False) ∧ ((x13 = r_3) → Yx (yXL b L xs) lwZ G room_1 kL_law 473 [(0, .ref b), (1, .ref (G.1 0)), (2, .int x2), (3, .ref a3), (5, .ref a5), (6, .int x6), (7, .int x7), (8, .int x8), (9, .long x9), (11, .int x11), (12, .int x12), (13, .int x13)] [] M_3 H ca sl)))))))))) ∧ ((¬ x7 ≤ x16) → (ca + 0 ≤ room_1.cells ∧ sl + 0 ≤ room_1.slots) ∧ Cal G 0 68 (2, 0, 0) kX10_matchesOf [.ref (G.1 0), .int x16] M (eFI (fun (r_1 : Int32) (M_1 : eM) => (ca + 0 ≤ room_1.cells ∧ sl + 0 ≤ room_1.slots) ∧ Cal G 0 68 (2, 0, 0) kX10_isRing [.ref (G.1 0), .int x16] M_1 (eFZ (fun (r_2 : Bool) (M_2 : eM) => ((r_2 = false) → Yx (yXL b L xs) lwZ G room_1 kL_law 203 [(0, .ref b), (1, .ref (G.1 0)), (2, .int x2), (3, .ref a3), (5, .ref a5), (6, .int x6), (7, .int x7), (8, .int x8), (9, .long x9), (11, .int x11), (12, .int x12), (13, .int (x13 + 0)), (14, .int (x14 + r_1)), (15, .ref a15), (16, .int x16)] [] M_2 H ca sl) ∧ ((r_2 = true) → Yx (yXL b L xs) lwZ G room_1 kL_law 203 [(0, .ref b), (1, .ref (G.1 0)), (2, .int x2), (3, .ref a3), (5, .ref a5), (6, .int x6), (7, .int x7), (8, .int x8), (9, .long x9), (11, .int x11), (12, .int x12), (13, .int (x13 + 1)), (14, .int (x14 + r_1)), (15, .ref a15), (16, .int x16)] [] M_2 H ca sl))))))) :
    Yx (yXL b L xs) lwZ G room_1 kL_law 166 [(0, .ref b), (1, .ref (G.1 0)), (2, .int x2), (3, .ref a3), (5, .ref a5), (6, .int x6), (7, .int x7), (8, .int x8), (9, .long x9), (11, .int x11), (12, .int x12), (13, .int x13), (14, .int x14), (15, .ref a15), (16, .int x16)] [] M H ca sl := by
  refine y_iload 14 dL_law_166 rfl ?_
  refine y_iload 6 dL_law_168 rfl ?_
  refine y_icmp_ge (t := 444) dL_law_170 (by decide) (fun q => ?_) (fun q => ?_)
  · replace h := h.1 q
    refine y_iload 9 dL_law_444 rfl ?_
    refine y_aload_n 1 dL_law_446 rfl rfl ?_
    have hb := h.1
    replace h := h.2
    refine y_callM yXLk (b' := (1, 0, 0)) (K' := kX10_placedTiles) (As := []) (S := [.int x11]) dL_law_447 mX10_placedTiles lML_184 rfl rfl ⟨(by decide), hb⟩ (Nat.le_of_ble_eq_true rfl) (yCal.cls h) (fun v_ M_ H_ q_ => ?_) rfl
    obtain ⟨⟨r_1, rfl, h⟩, rfl⟩ := q_
    revert h
    generalize M_ = M_1
    intro h
    refine y_icmp_ne (t := 538) dL_law_450 (by decide) (fun q => ?_) (fun q => ?_)
    · replace h := h.1 q
      refine y_iconst (v := 0) dL_law_538 rfl ?_
      exact h.elim
    · replace h := h.2 q
      refine y_iload 12 dL_law_453 rfl ?_
      refine y_iconst (v := 2) dL_law_455 rfl ?_
      refine y_aload_n 1 dL_law_456 rfl rfl ?_
      have hb := h.1
      replace h := h.2
      refine y_callM yXLk (b' := (3, 0, 0)) (K' := kX10_matches) (As := []) (S := [.int 2, .int x14]) dL_law_457 mX10_matches lML_187 rfl rfl ⟨(by decide), hb⟩ (Nat.le_of_ble_eq_true rfl) (yCal.cls h) (fun v_ M_ H_ q_ => ?_) rfl
      obtain ⟨⟨r_2, rfl, h⟩, rfl⟩ := q_
      revert h
      generalize M_ = M_2
      intro h
      refine y_imul dL_law_460 ?_
      refine y_icmp_ne (t := 538) dL_law_461 (by decide) (fun q => ?_) (fun q => ?_)
      · replace h := h.1 q
        refine y_iconst (v := 0) dL_law_538 rfl ?_
        exact h.elim
      · replace h := h.2 q
        refine y_iload 11 dL_law_464 rfl ?_
        refine y_aload_n 1 dL_law_466 rfl rfl ?_
        have hb := h.1
        replace h := h.2
        refine y_callM yXLk (b' := (3, 0, 0)) (K' := kX10_rings) (As := []) (S := [.int x13]) dL_law_467 mX10_rings lML_190 rfl rfl ⟨(by decide), hb⟩ (Nat.le_of_ble_eq_true rfl) (yCal.cls h) (fun v_ M_ H_ q_ => ?_) rfl
        obtain ⟨⟨r_3, rfl, h⟩, rfl⟩ := q_
        revert h
        generalize M_ = M_3
        intro h
        refine y_icmp_ne (t := 538) dL_law_470 (by decide) (fun q => ?_) (fun q => ?_)
        · replace h := h.1 q
          refine y_iconst (v := 0) dL_law_538 rfl ?_
          exact h.elim
        · replace h := h.2 q
          exact Yx.sub (ks := [0, 1, 2, 3, 4, 5, 6, 7, 8, 9, 10, 11]) rfl h
  · replace h := h.2 q
    refine y_iload 12 dL_law_173 rfl ?_
    refine y_aload_n 1 dL_law_175 rfl rfl ?_
    refine y_iload 14 dL_law_176 rfl ?_
    have hb := h.1
    replace h := h.2
    refine y_callM yXLk (b' := (2, 0, 0)) (K' := kX10_matchesOf) (As := [.int x16]) (S := [.int x14]) dL_law_178 mX10_matchesOf lML_156 rfl rfl ⟨(by decide), hb⟩ (Nat.le_of_ble_eq_true rfl) (yCal.cls h) (fun v_ M_ H_ q_ => ?_) rfl
    obtain ⟨⟨r_1, rfl, h⟩, rfl⟩ := q_
    revert h
    generalize M_ = M_1
    intro h
    refine y_iadd dL_law_181 ?_
    refine y_istore (i := 14) (l' := [(14, .int (x14 + r_1)), (0, .ref b), (1, .ref (G.1 0)), (2, .int x2), (3, .ref a3), (5, .ref a5), (6, .int x6), (7, .int x7), (8, .int x8), (9, .long x9), (11, .int x11), (12, .int x12), (13, .int x13), (15, .ref a15), (16, .int x16)]) dL_law_182 (by decide) rfl ?_
    refine y_iload 12 dL_law_184 rfl ?_
    refine y_aload_n 2 dL_law_186 rfl rfl ?_
    refine y_iload 14 dL_law_187 rfl ?_
    have hb := h.1
    replace h := h.2
    refine y_callM yXLk (b' := (2, 0, 0)) (K' := kX10_isRing) (As := [.int x16]) (S := [.int x13]) dL_law_189 mX10_isRing lML_159 rfl rfl ⟨(by decide), hb⟩ (Nat.le_of_ble_eq_true rfl) (yCal.cls h) (fun v_ M_ H_ q_ => ?_) rfl
    obtain ⟨⟨r_2, rfl, h⟩, rfl⟩ := q_
    revert h
    generalize M_ = M_2
    intro h
    refine y_zif_eq (t := 199) dL_law_192 (by decide) (fun q => ?_) (fun q => ?_)
    · replace h := h.1 q
      refine y_iconst (v := 0) dL_law_199 rfl ?_
      refine y_iadd dL_law_200 ?_
      refine y_istore (i := 13) (l' := [(13, .int (x13 + 0)), (14, .int (x14 + r_1)), (0, .ref b), (1, .ref (G.1 0)), (2, .int x2), (3, .ref a3), (5, .ref a5), (6, .int x6), (7, .int x7), (8, .int x8), (9, .long x9), (11, .int x11), (12, .int x12), (15, .ref a15), (16, .int x16)]) dL_law_201 (by decide) rfl ?_
      exact Yx.sub (ks := [2, 3, 4, 5, 6, 7, 8, 9, 10, 11, 12, 0, 1, 13, 14]) rfl h
    · replace h := h.2 q
      refine y_iconst (v := 1) dL_law_195 rfl ?_
      refine y_goto (t := 200) dL_law_196 (by decide) ?_
      refine y_iadd dL_law_200 ?_
      refine y_istore (i := 13) (l' := [(13, .int (x13 + 1)), (14, .int (x14 + r_1)), (0, .ref b), (1, .ref (G.1 0)), (2, .int x2), (3, .ref a3), (5, .ref a5), (6, .int x6), (7, .int x7), (8, .int x8), (9, .long x9), (11, .int x11), (12, .int x12), (15, .ref a15), (16, .int x16)]) dL_law_201 (by decide) rfl ?_
      exact Yx.sub (ks := [2, 3, 4, 5, 6, 7, 8, 9, 10, 11, 12, 0, 1, 13, 14]) rfl h
set_option maxHeartbeats 4000000 in
set_option maxRecDepth 100000 in
theorem B_L_law_163 (G : eG) {b L : Nat} {xs : Nat → Int32} (ca sl : Nat) (M : eM) (H : yH) (x2 : Int32) (a3 : Nat) (a5 : Nat) (x6 : Int32) (x7 : Int32) (x8 : Int32) (x9 : Int64) (x11 : Int32) (x12 : Int32) (x13 : Int32) (x14 : Int32) (a15 : Nat)
    (h : Yx (yXL b L xs) lwZ G room_1 kL_law 166 [(0, .ref b), (1, .ref (G.1 0)), (2, .int x2), (3, .ref a3), (5, .ref a5), (6, .int x6), (7, .int x7), (8, .int x8), (9, .long x9), (11, .int x11), (12, .int x12), (13, .int x13), (14, .int x14), (15, .ref a15), (16, .int 0)] [] M H ca sl) :
    Yx (yXL b L xs) lwZ G room_1 kL_law 163 [(0, .ref b), (1, .ref (G.1 0)), (2, .int x2), (3, .ref a3), (5, .ref a5), (6, .int x6), (7, .int x7), (8, .int x8), (9, .long x9), (11, .int x11), (12, .int x12), (13, .int x13), (14, .int x14), (15, .ref a15)] [] M H ca sl := by
  refine y_iconst (v := 0) dL_law_163 rfl ?_
  refine y_istore (i := 16) (l' := [(16, .int 0), (0, .ref b), (1, .ref (G.1 0)), (2, .int x2), (3, .ref a3), (5, .ref a5), (6, .int x6), (7, .int x7), (8, .int x8), (9, .long x9), (11, .int x11), (12, .int x12), (13, .int x13), (14, .int x14), (15, .ref a15)]) dL_law_164 (by decide) rfl ?_
  exact Yx.sub (ks := [1, 2, 3, 4, 5, 6, 7, 8, 9, 10, 11, 12, 13, 14, 0]) rfl h
set_option maxHeartbeats 4000000 in
set_option maxRecDepth 100000 in
theorem B_L_law_115 (G : eG) {b L : Nat} {xs : Nat → Int32} (ca sl : Nat) (M : eM) (H : yH) (x2 : Int32) (a3 : Nat) (a5 : Nat) (x6 : Int32) (x7 : Int32) (x8 : Int32) (x9 : Int32)
    (h : (((3 : Int32) ≤ x9) → (ca + 0 ≤ room_1.cells ∧ sl + 0 ≤ room_1.slots) ∧ Cal G 0 68 (6, 0, 0) kX10_digest [.ref (G.1 0)] M (eFL (fun (r_1 : Int64) (M_1 : eM) => ∃ N_2 : Nat, (¬ x6 < 0) ∧ x6.toNatClampNeg = N_2 ∧ N_2 * 1 ≤ 536870912 ∧ (ca + 1 ≤ room_1.cells ∧ sl + N_2 ≤ room_1.slots) ∧ ∀ q_2 : Nat, H q_2 = none → (Yx (yXL b L xs) lwZ G room_1 kL_law 163 [(0, .ref b), (1, .ref (G.1 0)), (2, .int x2), (3, .ref a3), (5, .ref a5), (6, .int x6), (7, .int x7), (8, .int x8), (9, .long r_1), (11, .int 0), (12, .int 0), (13, .int 0), (14, .int 0), (15, .ref q_2)] [] M_1 (yU H q_2 (.inl (G.2.2.2 2, (N_2, .inl (fun _ => 0))))) (ca + 1) (sl + N_2))))) ∧ ((¬ (3 : Int32) ≤ x9) → (ca + 700 ≤ room_1.cells ∧ sl + 19600 ≤ room_1.slots) ∧ yCalT G (13, 700, 19600) kL_act hhA [.ref (G.1 0), .ref a5, .ref a3] M H (yFZ (fun (r_1 : Bool) (M_1 : eM) (H_1 : yH) => ((r_1 = true) → Yx (yXL b L xs) lwZ G room_1 kL_law 115 [(0, .ref b), (1, .ref (G.1 0)), (2, .int x2), (3, .ref a3), (5, .ref a5), (6, .int x6), (7, .int x7), (8, .int x8), (9, .int (x9 + 1))] [] M_1 H_1 (ca + 700) (sl + 19600)) ∧ ((r_1 = false) → False))))) :
    Yx (yXL b L xs) lwZ G room_1 kL_law 115 [(0, .ref b), (1, .ref (G.1 0)), (2, .int x2), (3, .ref a3), (5, .ref a5), (6, .int x6), (7, .int x7), (8, .int x8), (9, .int x9)] [] M H ca sl := by
  refine y_iload 8 dL_law_115 rfl ?_
  refine y_iconst (v := 3) dL_law_117 rfl ?_
  refine y_icmp_ge (t := 139) dL_law_118 (by decide) (fun q => ?_) (fun q => ?_)
  · replace h := h.1 q
    refine y_aload_n 1 dL_law_139 rfl rfl ?_
    have hb := h.1
    replace h := h.2
    refine y_callM yXLk (b' := (6, 0, 0)) (K' := kX10_digest) (As := []) (S := []) dL_law_140 mX10_digest lML_152 rfl rfl ⟨(by decide), hb⟩ (Nat.le_of_ble_eq_true rfl) (yCal.cls h) (fun v_ M_ H_ q_ => ?_) rfl
    obtain ⟨⟨r_1, rfl, h⟩, rfl⟩ := q_
    revert h
    generalize M_ = M_1
    intro h
    refine y_lstore (i := 9) (l' := [(9, .long r_1), (0, .ref b), (1, .ref (G.1 0)), (2, .int x2), (3, .ref a3), (5, .ref a5), (6, .int x6), (7, .int x7), (8, .int x8)]) dL_law_143 (by decide) rfl ?_
    refine y_iconst (v := 0) dL_law_145 rfl ?_
    refine y_istore (i := 11) (l' := [(11, .int 0), (9, .long r_1), (0, .ref b), (1, .ref (G.1 0)), (2, .int x2), (3, .ref a3), (5, .ref a5), (6, .int x6), (7, .int x7), (8, .int x8)]) dL_law_146 (by decide) rfl ?_
    refine y_iconst (v := 0) dL_law_148 rfl ?_
    refine y_istore (i := 12) (l' := [(12, .int 0), (11, .int 0), (9, .long r_1), (0, .ref b), (1, .ref (G.1 0)), (2, .int x2), (3, .ref a3), (5, .ref a5), (6, .int x6), (7, .int x7), (8, .int x8)]) dL_law_149 (by decide) rfl ?_
    refine y_iconst (v := 0) dL_law_151 rfl ?_
    refine y_istore (i := 13) (l' := [(13, .int 0), (12, .int 0), (11, .int 0), (9, .long r_1), (0, .ref b), (1, .ref (G.1 0)), (2, .int x2), (3, .ref a3), (5, .ref a5), (6, .int x6), (7, .int x7), (8, .int x8)]) dL_law_152 (by decide) rfl ?_
    refine y_iconst (v := 0) dL_law_154 rfl ?_
    refine y_istore (i := 14) (l' := [(14, .int 0), (13, .int 0), (12, .int 0), (11, .int 0), (9, .long r_1), (0, .ref b), (1, .ref (G.1 0)), (2, .int x2), (3, .ref a3), (5, .ref a5), (6, .int x6), (7, .int x7), (8, .int x8)]) dL_law_155 (by decide) rfl ?_
    refine y_iload 10 dL_law_157 rfl ?_
    obtain ⟨N_2, z1_2, z2_2, z3_2, hb, h⟩ := h
    refine y_newz dL_law_159 z1_2 z2_2 z3_2 hb (fun q_2 hq => ?_)
    replace h := h q_2 hq
    refine y_astore (i := 15) (l' := [(15, .ref q_2), (14, .int 0), (13, .int 0), (12, .int 0), (11, .int 0), (9, .long r_1), (0, .ref b), (1, .ref (G.1 0)), (2, .int x2), (3, .ref a3), (5, .ref a5), (6, .int x6), (7, .int x7), (8, .int x8)]) dL_law_161 (by decide) rfl ?_
    exact Yx.sub (ks := [6, 7, 8, 9, 10, 11, 12, 13, 5, 4, 3, 2, 1, 0]) rfl h
  · replace h := h.2 q
    refine y_aload_n 1 dL_law_121 rfl rfl ?_
    refine y_aload 4 dL_law_122 rfl ?_
    refine y_aload_n 3 dL_law_124 rfl rfl ?_
    have hb := h.1
    replace h := h.2
    refine y_callA yXLk (b' := (13, 700, 19600)) (K' := kL_act) (hh := hhA) (As := [.ref (G.1 0), .ref a5, .ref a3]) (S := []) dL_law_125 mL_act lML_148 rfl ⟨(by decide), hb⟩ (Nat.le_of_ble_eq_true rfl) h (fun v_ M_1 H_1 q_ => ?_) rfl
    obtain ⟨r_1, rfl, h⟩ := q_
    refine y_zif_ne (t := 133) dL_law_128 (by decide) (fun q => ?_) (fun q => ?_)
    · replace h := h.1 q
      refine y_iinc (v := x9 + 1) (l' := [(9, .int (x9 + 1)), (0, .ref b), (1, .ref (G.1 0)), (2, .int x2), (3, .ref a3), (5, .ref a5), (6, .int x6), (7, .int x7), (8, .int x8)]) 8 dL_law_133 rfl rfl (by decide) rfl ?_
      refine y_goto (t := 115) dL_law_136 (by decide) ?_
      exact Yx.sub (ks := [1, 2, 3, 4, 5, 6, 7, 8, 0]) rfl h
    · replace h := h.2 q
      refine y_iconst (v := 0) dL_law_131 rfl ?_
      exact h.elim
set_option maxHeartbeats 4000000 in
set_option maxRecDepth 100000 in
theorem B_L_law_105 (G : eG) {b L : Nat} {xs : Nat → Int32} (ca sl : Nat) (M : eM) (H : yH) (x2 : Int32) (a3 : Nat) (a5 : Nat) (x6 : Int32) (x7 : Int32) (x8 : Int32)
    (h : (((7 : Int32) ≤ x8) → (ca + 10 ≤ room_1.cells ∧ sl + 700 ≤ room_1.slots) ∧ yIs H a5 10 ∧ yCal G (10, 10, 700) kX12_isSame [.ref a5, .ref (G.1 0)] M H (yFZ (fun (r_1 : Bool) (M_1 : eM) (H_1 : yH) => ((r_1 = true) → Yx (yXL b L xs) lwZ G room_1 kL_law 10 [(0, .ref b), (1, .ref (G.1 0)), (2, .int (x2 + 1))] [] M_1 H_1 (ca + 10) (sl + 700)) ∧ ((r_1 = false) → False)))) ∧ ((¬ (7 : Int32) ≤ x8) → Yx (yXL b L xs) lwZ G room_1 kL_law 115 [(0, .ref b), (1, .ref (G.1 0)), (2, .int x2), (3, .ref a3), (5, .ref a5), (6, .int x6), (7, .int x7), (8, .int x8), (9, .int 0)] [] M H ca sl)) :
    Yx (yXL b L xs) lwZ G room_1 kL_law 105 [(0, .ref b), (1, .ref (G.1 0)), (2, .int x2), (3, .ref a3), (5, .ref a5), (6, .int x6), (7, .int x7), (8, .int x8)] [] M H ca sl := by
  refine y_iload 7 dL_law_105 rfl ?_
  refine y_bipush (v := 7) dL_law_107 rfl ?_
  refine y_icmp_ge (t := 1120) dL_law_109 (by decide) (fun q => ?_) (fun q => ?_)
  · replace h := h.1 q
    refine y_aload 4 dL_law_1120 rfl ?_
    refine y_aload_n 1 dL_law_1122 rfl rfl ?_
    have hb := h.1
    replace h := h.2
    obtain ⟨⟨fs_1, hi⟩, h⟩ := h
    refine y_callV yXLk (b' := (10, 10, 700)) (K' := kX12_isSame) (As := [.ref (G.1 0)]) (S := []) dL_law_1123 mX12_isSame lML_234 clX12 rfl hi rfl ⟨(by decide), hb⟩ (Nat.le_of_ble_eq_true rfl) h (fun v_ M_1 H_1 q_ => ?_) rfl
    obtain ⟨r_1, rfl, h⟩ := q_
    refine y_zif_ne (t := 1131) dL_law_1126 (by decide) (fun q => ?_) (fun q => ?_)
    · replace h := h.1 q
      refine y_iinc (v := x2 + 1) (l' := [(2, .int (x2 + 1)), (0, .ref b), (1, .ref (G.1 0)), (3, .ref a3), (5, .ref a5), (6, .int x6), (7, .int x7), (8, .int x8)]) 2 dL_law_1131 rfl rfl (by decide) rfl ?_
      refine y_goto (t := 10) dL_law_1134 (by decide) ?_
      exact Yx.sub (ks := [1, 2, 0]) rfl h
    · replace h := h.2 q
      refine y_iconst (v := 0) dL_law_1129 rfl ?_
      exact h.elim
  · replace h := h.2 q
    refine y_iconst (v := 0) dL_law_112 rfl ?_
    refine y_istore (i := 9) (l' := [(9, .int 0), (0, .ref b), (1, .ref (G.1 0)), (2, .int x2), (3, .ref a3), (5, .ref a5), (6, .int x6), (7, .int x7), (8, .int x8)]) dL_law_113 (by decide) rfl ?_
    exact Yx.sub (ks := [1, 2, 3, 4, 5, 6, 7, 8, 0]) rfl h
set_option maxHeartbeats 4000000 in
set_option maxRecDepth 100000 in
theorem B_L_law_102 (G : eG) {b L : Nat} {xs : Nat → Int32} (ca sl : Nat) (M : eM) (H : yH) (x2 : Int32) (a3 : Nat) (a5 : Nat) (x6 : Int32) (x7 : Int32)
    (h : Yx (yXL b L xs) lwZ G room_1 kL_law 105 [(0, .ref b), (1, .ref (G.1 0)), (2, .int x2), (3, .ref a3), (5, .ref a5), (6, .int x6), (7, .int x7), (8, .int 0)] [] M H ca sl) :
    Yx (yXL b L xs) lwZ G room_1 kL_law 102 [(0, .ref b), (1, .ref (G.1 0)), (2, .int x2), (3, .ref a3), (5, .ref a5), (6, .int x6), (7, .int x7)] [] M H ca sl := by
  refine y_iconst (v := 0) dL_law_102 rfl ?_
  refine y_istore (i := 8) (l' := [(8, .int 0), (0, .ref b), (1, .ref (G.1 0)), (2, .int x2), (3, .ref a3), (5, .ref a5), (6, .int x6), (7, .int x7)]) dL_law_103 (by decide) rfl ?_
  exact Yx.sub (ks := [1, 2, 3, 4, 5, 6, 7, 0]) rfl h
set_option maxHeartbeats 4000000 in
set_option maxRecDepth 100000 in
theorem B_L_law_52 (G : eG) {b L : Nat} {xs : Nat → Int32} (ca sl : Nat) (M : eM) (H : yH) (x2 : Int32) (a3 : Nat)
    (h : (ca + 1 ≤ room_1.cells ∧ sl + 4 ≤ room_1.slots) ∧ ∀ q_1 : Nat, H q_1 = none → (((ca + 1) + 1 ≤ room_1.cells ∧ (sl + 4) + 16 ≤ room_1.slots) ∧ yCal G (3, 1, 16) kJ4_init_da8c8 [.ref q_1] M (yU H q_1 (.inr (14, [.null, .int 0, .int 0, .int 0]))) (yFV (fun (M_2 : eM) (H_2 : yH) => ((ca + 1 + 1) + 1000 ≤ room_1.cells ∧ (sl + 4 + 16) + 1180000 ≤ room_1.slots) ∧ yCal G (12, 1000, 1180000) kL_drawn [.ref a3, .ref q_1, .int 1, .int 4] M_2 H_2 (yFR (fun (r_3 : Nat) (M_3 : eM) (H_3 : yH) => ((ca + 1 + 1 + 1000) + 2 ≤ room_1.cells ∧ (sl + 4 + 16 + 1180000) + 1104 ≤ room_1.slots) ∧ yIs H_3 q_1 14 ∧ yCal G (6, 2, 1104) kJ4_toString_0e30d [.ref q_1] M_3 H_3 (yFR (fun (r_4 : Nat) (M_4 : eM) (H_4 : yH) => ((ca + 1 + 1 + 1000 + 2) + 1 ≤ room_1.cells ∧ (sl + 4 + 16 + 1180000 + 1104) + 5 ≤ room_1.slots) ∧ yCal G (104, 1, 5) kL_taught [.ref (G.1 0), .ref r_4] M_4 H_4 (yFI (fun (r_5 : Int32) (M_5 : eM) (H_5 : yH) => ((r_5 = (0 : Int32)) → ((ca + 1 + 1 + 1000 + 2 + 1) + 0 ≤ room_1.cells ∧ (sl + 4 + 16 + 1180000 + 1104 + 5) + 0 ≤ room_1.slots) ∧ Cal G 0 68 (1, 0, 0) kX10_tiles [.ref (G.1 0)] M_5 (eFI (fun (r_6 : Int32) (M_6 : eM) => ((ca + 1 + 1 + 1000 + 2 + 1) + 0 ≤ room_1.cells ∧ (sl + 4 + 16 + 1180000 + 1104 + 5) + 0 ≤ room_1.slots) ∧ Cal G 0 68 (1, 0, 0) kX10_columns [.ref (G.1 0)] M_6 (eFI (fun (r_7 : Int32) (M_7 : eM) => ((ca + 1 + 1 + 1000 + 2 + 1) + 0 ≤ room_1.cells ∧ (sl + 4 + 16 + 1180000 + 1104 + 5) + 0 ≤ room_1.slots) ∧ Cal G 0 68 (1, 0, 0) kX10_rows [.ref (G.1 0)] M_7 (eFI (fun (r_8 : Int32) (M_8 : eM) => Yx (yXL b L xs) lwZ G room_1 kL_law 102 [(0, .ref b), (1, .ref (G.1 0)), (2, .int x2), (3, .ref a3), (5, .ref r_3), (6, .int r_6), (7, .int (r_7 * r_8))] [] M_8 H_5 (ca + 1 + 1 + 1000 + 2 + 1) (sl + 4 + 16 + 1180000 + 1104 + 5)))))))) ∧ ((¬ r_5 = (0 : Int32)) → False))))))))))) :
    Yx (yXL b L xs) lwZ G room_1 kL_law 52 [(0, .ref b), (1, .ref (G.1 0)), (2, .int x2), (3, .ref a3)] [] M H ca sl := by
  have hb := h.1
  replace h := h.2
  refine y_new dL_law_52 clJ4 (tb7 _ (List.mem_of_getElem? (i := 217) rfl)) (tb7 _ (List.mem_of_getElem? (i := 85) rfl)) (tb1 _ (List.mem_of_getElem? (i := 16) rfl)) xd_J4 hb (fun q_1 hq => ?_)
  replace h := h q_1 hq
  refine y_dup dL_law_55 rfl ?_
  have hb := h.1
  replace h := h.2
  refine y_callI yXLk (b' := (3, 1, 16)) (K' := kJ4_init_da8c8) (As := []) (a := q_1) (S := [.ref q_1]) dL_law_56 miJ4_init_da8c8 lML_130 rfl ⟨(by decide), hb⟩ (Nat.le_of_ble_eq_true rfl) h (fun v_ M_2 H_2 q_ => ?_) rfl
  obtain ⟨rfl, h⟩ := q_
  refine y_astore (i := 4) (l' := [(4, .ref q_1), (0, .ref b), (1, .ref (G.1 0)), (2, .int x2), (3, .ref a3)]) dL_law_59 (by decide) rfl ?_
  refine y_aload_n 4 dL_law_61 rfl rfl ?_
  refine y_aload 0 dL_law_62 rfl ?_
  refine y_iconst (v := 1) dL_law_64 rfl ?_
  refine y_iconst (v := 4) dL_law_65 rfl ?_
  have hb := h.1
  replace h := h.2
  refine y_callS yXLk (b' := (12, 1000, 1180000)) (K' := kL_drawn) (As := [.ref a3, .ref q_1, .int 1, .int 4]) (S := []) dL_law_66 mL_drawn lML_131 rfl ⟨(by decide), hb⟩ (Nat.le_of_ble_eq_true rfl) h (fun v_ M_3 H_3 q_ => ?_) rfl
  obtain ⟨r_3, rfl, h⟩ := q_
  refine y_astore (i := 5) (l' := [(5, .ref r_3), (4, .ref q_1), (0, .ref b), (1, .ref (G.1 0)), (2, .int x2), (3, .ref a3)]) dL_law_69 (by decide) rfl ?_
  refine y_aload_n 3 dL_law_71 rfl rfl ?_
  refine y_aload 1 dL_law_72 rfl ?_
  have hb := h.1
  replace h := h.2
  obtain ⟨⟨fs_4, hi⟩, h⟩ := h
  refine y_callV yXLk (b' := (6, 2, 1104)) (K' := kJ4_toString_0e30d) (As := []) (S := [.ref (G.1 0)]) dL_law_74 mJ4_toString_0e30d lML_135 clJ4 rfl hi rfl ⟨(by decide), hb⟩ (Nat.le_of_ble_eq_true rfl) h (fun v_ M_4 H_4 q_ => ?_) rfl
  obtain ⟨r_4, rfl, h⟩ := q_
  have hb := h.1
  replace h := h.2
  refine y_callS yXLk (b' := (104, 1, 5)) (K' := kL_taught) (As := [.ref (G.1 0), .ref r_4]) (S := []) dL_law_77 mL_taught lML_138 rfl ⟨(by decide), hb⟩ (Nat.le_of_ble_eq_true rfl) h (fun v_ M_5 H_5 q_ => ?_) rfl
  obtain ⟨r_5, rfl, h⟩ := q_
  refine y_if_eq (t := 85) dL_law_80 (by decide) (fun q => ?_) (fun q => ?_)
  · replace h := h.1 q
    refine y_aload_n 3 dL_law_85 rfl rfl ?_
    have hb := h.1
    replace h := h.2
    refine y_callM yXLk (b' := (1, 0, 0)) (K' := kX10_tiles) (As := []) (S := []) dL_law_86 mX10_tiles lML_142 rfl rfl ⟨(by decide), hb⟩ (Nat.le_of_ble_eq_true rfl) (yCal.cls h) (fun v_ M_ H_ q_ => ?_) rfl
    obtain ⟨⟨r_6, rfl, h⟩, rfl⟩ := q_
    revert h
    generalize M_ = M_6
    intro h
    refine y_istore (i := 6) (l' := [(6, .int r_6), (5, .ref r_3), (4, .ref q_1), (0, .ref b), (1, .ref (G.1 0)), (2, .int x2), (3, .ref a3)]) dL_law_89 (by decide) rfl ?_
    refine y_aload_n 4 dL_law_91 rfl rfl ?_
    have hb := h.1
    replace h := h.2
    refine y_callM yXLk (b' := (1, 0, 0)) (K' := kX10_columns) (As := []) (S := []) dL_law_92 mX10_columns lML_144 rfl rfl ⟨(by decide), hb⟩ (Nat.le_of_ble_eq_true rfl) (yCal.cls h) (fun v_ M_ H_ q_ => ?_) rfl
    obtain ⟨⟨r_7, rfl, h⟩, rfl⟩ := q_
    revert h
    generalize M_ = M_7
    intro h
    refine y_aload_n 4 dL_law_95 rfl rfl ?_
    have hb := h.1
    replace h := h.2
    refine y_callM yXLk (b' := (1, 0, 0)) (K' := kX10_rows) (As := []) (S := [.int r_7]) dL_law_96 mX10_rows lML_146 rfl rfl ⟨(by decide), hb⟩ (Nat.le_of_ble_eq_true rfl) (yCal.cls h) (fun v_ M_ H_ q_ => ?_) rfl
    obtain ⟨⟨r_8, rfl, h⟩, rfl⟩ := q_
    revert h
    generalize M_ = M_8
    intro h
    refine y_imul dL_law_99 ?_
    refine y_istore (i := 7) (l' := [(7, .int (r_7 * r_8)), (6, .int r_6), (5, .ref r_3), (4, .ref q_1), (0, .ref b), (1, .ref (G.1 0)), (2, .int x2), (3, .ref a3)]) dL_law_100 (by decide) rfl ?_
    exact Yx.sub (ks := [4, 5, 6, 7, 2, 1, 0]) rfl h
  · replace h := h.2 q
    refine y_iconst (v := 0) dL_law_83 rfl ?_
    exact h.elim
set_option maxHeartbeats 4000000 in
set_option maxRecDepth 100000 in
theorem B_L_law_10 (G : eG) {b L : Nat} {xs : Nat → Int32} (ca sl : Nat) (M : eM) (H : yH) (x2 : Int32)
    (h : (((2 : Int32) ≤ x2) → Yx (yXL b L xs) lwZ G room_1 kL_law 1137 [] [] M H ca sl) ∧ ((¬ (2 : Int32) ≤ x2) → (ca + 1 ≤ room_1.cells ∧ sl + 1 ≤ room_1.slots) ∧ ∀ q_1 : Nat, H q_1 = none → ((∃ j : Nat, j ≤ 300 ∧ x2 = nI j) ∧ ((∃ j : Nat, j ≤ 300 ∧ (x2 + 3) = nI j) ∧ ((∃ j : Nat, j ≤ 300 ∧ (x2 + 6) = nI j) ∧ (((ca + 1) + 0 ≤ room_1.cells ∧ (sl + 1) + 0 ≤ room_1.slots) ∧ yCal G (2, 0, 0) kX11_init [.ref q_1, .int (((zCell L xs x2) ^^^ ((zCell L xs (x2 + 3)) * 31)) ^^^ ((zCell L xs (x2 + 6)) * 1009))] M (yU H q_1 (.inr (9, [.int 0]))) (yFV (fun (M_2 : eM) (H_2 : yH) => Yx (yXL b L xs) lwZ G room_1 kL_law 52 [(0, .ref b), (1, .ref (G.1 0)), (2, .int x2), (3, .ref q_1)] [] M_2 H_2 (ca + 1) (sl + 1))))))))) :
    Yx (yXL b L xs) lwZ G room_1 kL_law 10 [(0, .ref b), (1, .ref (G.1 0)), (2, .int x2)] [] M H ca sl := by
  refine y_iload_n 2 dL_law_10 rfl rfl ?_
  refine y_iconst (v := 2) dL_law_11 rfl ?_
  refine y_icmp_ge (t := 1137) dL_law_12 (by decide) (fun q => ?_) (fun q => ?_)
  · replace h := h.1 q
    exact Yx.sub (ks := []) rfl h
  · replace h := h.2 q
    have hb := h.1
    replace h := h.2
    refine y_new dL_law_15 clX11 (tb4 _ (List.mem_of_getElem? (i := 116) rfl)) (tb4 _ (List.mem_of_getElem? (i := 117) rfl)) (tb1 _ (List.mem_of_getElem? (i := 14) rfl)) xd_X11 hb (fun q_1 hq => ?_)
    replace h := h q_1 hq
    refine y_dup dL_law_18 rfl ?_
    refine y_aload_n 0 dL_law_19 rfl rfl ?_
    refine y_iload_n 2 dL_law_20 rfl rfl ?_
    have hj := h.1
    replace h := h.2
    refine y_callCell (S := [.ref q_1, .ref q_1]) dL_law_21 mL_cell lML_121 ⟨⟨by decide, by decide⟩, hb⟩ (Nat.le_of_ble_eq_true rfl) hj ?_
    refine y_aload_n 0 dL_law_24 rfl rfl ?_
    refine y_iload_n 2 dL_law_25 rfl rfl ?_
    refine y_iconst (v := 3) dL_law_26 rfl ?_
    refine y_iadd dL_law_27 ?_
    have hj := h.1
    replace h := h.2
    refine y_callCell (S := [.int (zCell L xs x2), .ref q_1, .ref q_1]) dL_law_28 mL_cell lML_121 ⟨⟨by decide, by decide⟩, hb⟩ (Nat.le_of_ble_eq_true rfl) hj ?_
    refine y_bipush (v := 31) dL_law_31 rfl ?_
    refine y_imul dL_law_33 ?_
    refine y_ixor dL_law_34 ?_
    refine y_aload_n 0 dL_law_35 rfl rfl ?_
    refine y_iload_n 2 dL_law_36 rfl rfl ?_
    refine y_bipush (v := 6) dL_law_37 rfl ?_
    refine y_iadd dL_law_39 ?_
    have hj := h.1
    replace h := h.2
    refine y_callCell (S := [.int ((zCell L xs x2) ^^^ ((zCell L xs (x2 + 3)) * 31)), .ref q_1, .ref q_1]) dL_law_40 mL_cell lML_121 ⟨⟨by decide, by decide⟩, hb⟩ (Nat.le_of_ble_eq_true rfl) hj ?_
    refine y_sipush (v := 1009) dL_law_43 rfl ?_
    refine y_imul dL_law_46 ?_
    refine y_ixor dL_law_47 ?_
    have hb := h.1
    replace h := h.2
    refine y_callI yXLk (b' := (2, 0, 0)) (K' := kX11_init) (As := [.int (((zCell L xs x2) ^^^ ((zCell L xs (x2 + 3)) * 31)) ^^^ ((zCell L xs (x2 + 6)) * 1009))]) (a := q_1) (S := [.ref q_1]) dL_law_48 miX11_init lML_127 rfl ⟨(by decide), hb⟩ (Nat.le_of_ble_eq_true rfl) h (fun v_ M_2 H_2 q_ => ?_) rfl
    obtain ⟨rfl, h⟩ := q_
    refine y_astore_n (i := 3) (l' := [(3, .ref q_1), (0, .ref b), (1, .ref (G.1 0)), (2, .int x2)]) dL_law_51 rfl (by decide) rfl ?_
    exact Yx.sub (ks := [1, 2, 3, 0]) rfl h
