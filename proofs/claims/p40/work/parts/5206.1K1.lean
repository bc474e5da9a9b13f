set_option maxHeartbeats 4000000 in
set_option maxRecDepth 100000 in
theorem C_L_below (G : eG) (M : eM) (H : yH) (F : Int32 → eM → yH → Prop) (x0 : Int32) (x1 : Int32)
    (h : (¬ x1 = 0) ∧ (F ((x0 &&& 2147483647) - (x0 &&& 2147483647) / x1 * x1) M H)) :
    yCal G (1, 0, 0) kL_below [.int x0, .int x1] M H (yFI F) := by
  refine yCal.of (by decide +kernel) rfl (Nat.le_of_ble_eq_true rfl) ?_
  show Yx (yX "below") (yZ G 0 0 (yFI F)) G (eR (1, 0, 0)) kL_below 0 [(0, .int x0), (1, .int x1)] [] M H 0 0
  refine y_iload_n 0 dL_below_0 rfl rfl ?_
  refine y_ldc dL_below_1 lCL_7 ?_
  refine y_iand dL_below_3 ?_
  refine y_iload_n 1 dL_below_4 rfl rfl ?_
  have h1 := h.1
  replace h := h.2
  refine y_irem dL_below_5 h1 ?_
  exact y_iret dL_below_6 rfl (Nat.zero_le _) (Nat.zero_le _) ⟨_, rfl, h⟩
set_option maxHeartbeats 4000000 in
set_option maxRecDepth 100000 in
theorem C_X14_rest (G : eG) (M : eM) (H : yH) (F : Int32 → eM → yH → Prop) (x0 : Int32) (x1 : Int32)
    (h : (¬ x1 = 0) ∧ ((((0 : Int32) ≤ (x0 - x0 / x1 * x1)) → F (x0 - x0 / x1 * x1) M H) ∧ ((¬ (0 : Int32) ≤ (x0 - x0 / x1 * x1)) → F ((x0 - x0 / x1 * x1) + x1) M H))) :
    yCal G (1, 0, 0) kX14_rest [.int x0, .int x1] M H (yFI F) := by
  refine yCal.of (by decide +kernel) rfl (Nat.le_of_ble_eq_true rfl) ?_
  show Yx (yX "rest") (yZ G 0 0 (yFI F)) G (eR (1, 0, 0)) kX14_rest 0 [(0, .int x0), (1, .int x1)] [] M H 0 0
  refine y_iload_n 0 dX14_rest_0 rfl rfl ?_
  refine y_iload_n 1 dX14_rest_1 rfl rfl ?_
  have h1 := h.1
  replace h := h.2
  refine y_irem dX14_rest_2 h1 ?_
  refine y_istore_n (i := 2) (l' := [(2, .int (x0 - x0 / x1 * x1)), (0, .int x0), (1, .int x1)]) dX14_rest_3 rfl (by decide) rfl ?_
  refine y_iload_n 0 dX14_rest_4 rfl rfl ?_
  refine y_if_ge (t := 14) dX14_rest_5 (by decide) (fun q => ?_) (fun q => ?_)
  · replace h := h.1 q
    refine y_iload_n 0 dX14_rest_14 rfl rfl ?_
    exact y_iret dX14_rest_15 rfl (Nat.zero_le _) (Nat.zero_le _) ⟨_, rfl, h⟩
  · replace h := h.2 q
    refine y_iload_n 0 dX14_rest_8 rfl rfl ?_
    refine y_iload_n 2 dX14_rest_9 rfl rfl ?_
    refine y_iadd dX14_rest_10 ?_
    refine y_goto (t := 15) dX14_rest_11 (by decide) ?_
    exact y_iret dX14_rest_15 rfl (Nat.zero_le _) (Nat.zero_le _) ⟨_, rfl, h⟩
set_option maxHeartbeats 4000000 in
set_option maxRecDepth 100000 in
theorem B_X13_both_142 (G : eG) (M : eM) (H : yH) (F : Int32 → eM → yH → Prop) (x0 : Int32) (x1 : Int32) (x2 : Int32)
    (h : ((¬ x0 = (15 : Int32)) → ((¬ x0 = (16 : Int32)) → ((¬ x0 = (17 : Int32)) → ((¬ x0 = (18 : Int32)) → ((x1 < x2) → F 0 M H) ∧ ((¬ x1 < x2) → F 1 M H)) ∧ ((x0 = (18 : Int32)) → ((x2 < x1) → F 0 M H) ∧ ((¬ x2 < x1) → F 1 M H))) ∧ ((x0 = (17 : Int32)) → ((¬ x1 = x2) → F 0 M H) ∧ ((x1 = x2) → F 1 M H))) ∧ ((x0 = (16 : Int32)) → ((x1 ≤ x2) → F 0 M H) ∧ ((¬ x1 ≤ x2) → F 1 M H))) ∧ ((x0 = (15 : Int32)) → ((x2 ≤ x1) → F 0 M H) ∧ ((¬ x2 ≤ x1) → F 1 M H))) :
    Yx (yX "both") (yZ G 0 0 (yFI F)) G (eR (1, 0, 0)) kX13_both 142 [(0, .int x0), (1, .int x1), (2, .int x2)] [] M H 0 0 := by
  refine y_iload_n 0 dX13_both_142 rfl rfl ?_
  refine y_bipush (v := 15) dX13_both_143 rfl ?_
  refine y_icmp_ne (t := 156) dX13_both_145 (by decide) (fun q => ?_) (fun q => ?_)
  · replace h := h.1 q
    refine y_iload_n 0 dX13_both_156 rfl rfl ?_
    refine y_bipush (v := 16) dX13_both_157 rfl ?_
    refine y_icmp_ne (t := 170) dX13_both_159 (by decide) (fun q => ?_) (fun q => ?_)
    · replace h := h.1 q
      refine y_iload_n 0 dX13_both_170 rfl rfl ?_
      refine y_bipush (v := 17) dX13_both_171 rfl ?_
      refine y_icmp_ne (t := 184) dX13_both_173 (by decide) (fun q => ?_) (fun q => ?_)
      · replace h := h.1 q
        refine y_iload_n 0 dX13_both_184 rfl rfl ?_
        refine y_bipush (v := 18) dX13_both_185 rfl ?_
        refine y_icmp_ne (t := 198) dX13_both_187 (by decide) (fun q => ?_) (fun q => ?_)
        · replace h := h.1 q
          refine y_iload_n 1 dX13_both_198 rfl rfl ?_
          refine y_iload_n 2 dX13_both_199 rfl rfl ?_
          refine y_icmp_lt (t := 207) dX13_both_200 (by decide) (fun q => ?_) (fun q => ?_)
          · replace h := h.1 q
            refine y_iconst (v := 0) dX13_both_207 rfl ?_
            exact y_iret dX13_both_208 rfl (Nat.zero_le _) (Nat.zero_le _) ⟨_, rfl, h⟩
          · replace h := h.2 q
            refine y_iconst (v := 1) dX13_both_203 rfl ?_
            refine y_goto (t := 208) dX13_both_204 (by decide) ?_
            exact y_iret dX13_both_208 rfl (Nat.zero_le _) (Nat.zero_le _) ⟨_, rfl, h⟩
        · replace h := h.2 q
          refine y_iload_n 1 dX13_both_190 rfl rfl ?_
          refine y_iload_n 2 dX13_both_191 rfl rfl ?_
          refine y_icmp_gt (t := 207) dX13_both_192 (by decide) (fun q => ?_) (fun q => ?_)
          · replace h := h.1 q
            refine y_iconst (v := 0) dX13_both_207 rfl ?_
            exact y_iret dX13_both_208 rfl (Nat.zero_le _) (Nat.zero_le _) ⟨_, rfl, h⟩
          · replace h := h.2 q
            refine y_goto (t := 203) dX13_both_195 (by decide) ?_
            refine y_iconst (v := 1) dX13_both_203 rfl ?_
            refine y_goto (t := 208) dX13_both_204 (by decide) ?_
            exact y_iret dX13_both_208 rfl (Nat.zero_le _) (Nat.zero_le _) ⟨_, rfl, h⟩
      · replace h := h.2 q
        refine y_iload_n 1 dX13_both_176 rfl rfl ?_
        refine y_iload_n 2 dX13_both_177 rfl rfl ?_
        refine y_icmp_ne (t := 207) dX13_both_178 (by decide) (fun q => ?_) (fun q => ?_)
        · replace h := h.1 q
          refine y_iconst (v := 0) dX13_both_207 rfl ?_
          exact y_iret dX13_both_208 rfl (Nat.zero_le _) (Nat.zero_le _) ⟨_, rfl, h⟩
        · replace h := h.2 q
          refine y_goto (t := 203) dX13_both_181 (by decide) ?_
          refine y_iconst (v := 1) dX13_both_203 rfl ?_
          refine y_goto (t := 208) dX13_both_204 (by decide) ?_
          exact y_iret dX13_both_208 rfl (Nat.zero_le _) (Nat.zero_le _) ⟨_, rfl, h⟩
    · replace h := h.2 q
      refine y_iload_n 1 dX13_both_162 rfl rfl ?_
      refine y_iload_n 2 dX13_both_163 rfl rfl ?_
      refine y_icmp_le (t := 207) dX13_both_164 (by decide) (fun q => ?_) (fun q => ?_)
      · replace h := h.1 q
        refine y_iconst (v := 0) dX13_both_207 rfl ?_
        exact y_iret dX13_both_208 rfl (Nat.zero_le _) (Nat.zero_le _) ⟨_, rfl, h⟩
      · replace h := h.2 q
        refine y_goto (t := 203) dX13_both_167 (by decide) ?_
        refine y_iconst (v := 1) dX13_both_203 rfl ?_
        refine y_goto (t := 208) dX13_both_204 (by decide) ?_
        exact y_iret dX13_both_208 rfl (Nat.zero_le _) (Nat.zero_le _) ⟨_, rfl, h⟩
  · replace h := h.2 q
    refine y_iload_n 1 dX13_both_148 rfl rfl ?_
    refine y_iload_n 2 dX13_both_149 rfl rfl ?_
    refine y_icmp_ge (t := 207) dX13_both_150 (by decide) (fun q => ?_) (fun q => ?_)
    · replace h := h.1 q
      refine y_iconst (v := 0) dX13_both_207 rfl ?_
      exact y_iret dX13_both_208 rfl (Nat.zero_le _) (Nat.zero_le _) ⟨_, rfl, h⟩
    · replace h := h.2 q
      refine y_goto (t := 203) dX13_both_153 (by decide) ?_
      refine y_iconst (v := 1) dX13_both_203 rfl ?_
      refine y_goto (t := 208) dX13_both_204 (by decide) ?_
      exact y_iret dX13_both_208 rfl (Nat.zero_le _) (Nat.zero_le _) ⟨_, rfl, h⟩
set_option maxHeartbeats 4000000 in
set_option maxRecDepth 100000 in
theorem C_X13_both (G : eG) (M : eM) (H : yH) (F : Int32 → eM → yH → Prop) (x0 : Int32) (x1 : Int32) (x2 : Int32)
    (h : (((x0 : Int32).toInt < 9 ∨ 24 < (x0 : Int32).toInt) → Yx (yX "both") (yZ G 0 0 (yFI F)) G (eR (1, 0, 0)) kX13_both 142 [(0, .int x0), (1, .int x1), (2, .int x2)] [] M H 0 0) ∧ ((x0 : Int32) = 9 → ((x2 ≤ x1) → F x2 M H) ∧ ((¬ x2 ≤ x1) → F x1 M H)) ∧ ((x0 : Int32) = 10 → ((x2 ≤ x1) → F x1 M H) ∧ ((¬ x2 ≤ x1) → F x2 M H)) ∧ ((x0 : Int32) = 11 → F (x1 + x2) M H) ∧ ((x0 : Int32) = 12 → F (x1 - x2) M H) ∧ ((x0 : Int32) = 13 → F (x1 * x2) M H) ∧ ((x0 : Int32) = 14 → ((¬ x2 = (0 : Int32)) → (¬ x2 = 0) ∧ (F (x1 / x2) M H)) ∧ ((x2 = (0 : Int32)) → F 0 M H)) ∧ ((x0 : Int32) = 15 → Yx (yX "both") (yZ G 0 0 (yFI F)) G (eR (1, 0, 0)) kX13_both 142 [(0, .int x0), (1, .int x1), (2, .int x2)] [] M H 0 0) ∧ ((x0 : Int32) = 16 → Yx (yX "both") (yZ G 0 0 (yFI F)) G (eR (1, 0, 0)) kX13_both 142 [(0, .int x0), (1, .int x1), (2, .int x2)] [] M H 0 0) ∧ ((x0 : Int32) = 17 → Yx (yX "both") (yZ G 0 0 (yFI F)) G (eR (1, 0, 0)) kX13_both 142 [(0, .int x0), (1, .int x1), (2, .int x2)] [] M H 0 0) ∧ ((x0 : Int32) = 18 → Yx (yX "both") (yZ G 0 0 (yFI F)) G (eR (1, 0, 0)) kX13_both 142 [(0, .int x0), (1, .int x1), (2, .int x2)] [] M H 0 0) ∧ ((x0 : Int32) = 19 → Yx (yX "both") (yZ G 0 0 (yFI F)) G (eR (1, 0, 0)) kX13_both 142 [(0, .int x0), (1, .int x1), (2, .int x2)] [] M H 0 0) ∧ ((x0 : Int32) = 20 → Yx (yX "both") (yZ G 0 0 (yFI F)) G (eR (1, 0, 0)) kX13_both 142 [(0, .int x0), (1, .int x1), (2, .int x2)] [] M H 0 0) ∧ ((x0 : Int32) = 21 → Yx (yX "both") (yZ G 0 0 (yFI F)) G (eR (1, 0, 0)) kX13_both 142 [(0, .int x0), (1, .int x1), (2, .int x2)] [] M H 0 0) ∧ ((x0 : Int32) = 22 → Yx (yX "both") (yZ G 0 0 (yFI F)) G (eR (1, 0, 0)) kX13_both 142 [(0, .int x0), (1, .int x1), (2, .int x2)] [] M H 0 0) ∧ ((x0 : Int32) = 23 → F (x1 * x2) M H) ∧ ((x0 : Int32) = 24 → (((x1 + x2) ≤ (0 : Int32)) → F 0 M H) ∧ ((¬ (x1 + x2) ≤ (0 : Int32)) → F 1 M H))) :
    yCal G (1, 0, 0) kX13_both [.int x0, .int x1, .int x2] M H (yFI F) := by
  refine yCal.of (by decide +kernel) rfl (Nat.le_of_ble_eq_true rfl) ?_
  show Yx (yX "both") (yZ G 0 0 (yFI F)) G (eR (1, 0, 0)) kX13_both 0 [(0, .int x0), (1, .int x1), (2, .int x2)] [] M H 0 0
  refine y_iload_n 0 dX13_both_0 rfl rfl ?_
  by_cases q : (x0 : Int32).toInt < 9 ∨ 24 < (x0 : Int32).toInt
  · replace h := h.1 q
    refine y_tableOut (tg := 142) dX13_both_1 q (by decide) ?_
    exact h
  · replace h := h.2
    refine eTabCases (N := 16) q (by decide) (fun i9 hi hx => ?_)
    match i9, hi, hx with
    | 0, hi, hx =>
      have q3 : (x0 : Int32) = 9 := eToI (hx.trans (by decide))
      replace h := h.1 q3
      refine y_tableAt (tg := 80) dX13_both_1 q3 (by decide) (by decide) rfl (by decide) ?_
      refine y_iload_n 1 dX13_both_80 rfl rfl ?_
      refine y_iload_n 2 dX13_both_81 rfl rfl ?_
      refine y_icmp_ge (t := 89) dX13_both_82 (by decide) (fun q => ?_) (fun q => ?_)
      · replace h := h.1 q
        refine y_iload_n 2 dX13_both_89 rfl rfl ?_
        exact y_iret dX13_both_90 rfl (Nat.zero_le _) (Nat.zero_le _) ⟨_, rfl, h⟩
      · replace h := h.2 q
        refine y_iload_n 1 dX13_both_85 rfl rfl ?_
        refine y_goto (t := 90) dX13_both_86 (by decide) ?_
        exact y_iret dX13_both_90 rfl (Nat.zero_le _) (Nat.zero_le _) ⟨_, rfl, h⟩
    | 1, hi, hx =>
      have q3 : (x0 : Int32) = 10 := eToI (hx.trans (by decide))
      replace h := h.2.1 q3
      refine y_tableAt (tg := 91) dX13_both_1 q3 (by decide) (by decide) rfl (by decide) ?_
      refine y_iload_n 1 dX13_both_91 rfl rfl ?_
      refine y_iload_n 2 dX13_both_92 rfl rfl ?_
      refine y_icmp_ge (t := 100) dX13_both_93 (by decide) (fun q => ?_) (fun q => ?_)
      · replace h := h.1 q
        refine y_iload_n 1 dX13_both_100 rfl rfl ?_
        exact y_iret dX13_both_101 rfl (Nat.zero_le _) (Nat.zero_le _) ⟨_, rfl, h⟩
      · replace h := h.2 q
        refine y_iload_n 2 dX13_both_96 rfl rfl ?_
        refine y_goto (t := 101) dX13_both_97 (by decide) ?_
        exact y_iret dX13_both_101 rfl (Nat.zero_le _) (Nat.zero_le _) ⟨_, rfl, h⟩
    | 2, hi, hx =>
      have q3 : (x0 : Int32) = 11 := eToI (hx.trans (by decide))
      replace h := h.2.2.1 q3
      refine y_tableAt (tg := 102) dX13_both_1 q3 (by decide) (by decide) rfl (by decide) ?_
      refine y_iload_n 1 dX13_both_102 rfl rfl ?_
      refine y_iload_n 2 dX13_both_103 rfl rfl ?_
      refine y_iadd dX13_both_104 ?_
      exact y_iret dX13_both_105 rfl (Nat.zero_le _) (Nat.zero_le _) ⟨_, rfl, h⟩
    | 3, hi, hx =>
      have q3 : (x0 : Int32) = 12 := eToI (hx.trans (by decide))
      replace h := h.2.2.2.1 q3
      refine y_tableAt (tg := 106) dX13_both_1 q3 (by decide) (by decide) rfl (by decide) ?_
      refine y_iload_n 1 dX13_both_106 rfl rfl ?_
      refine y_iload_n 2 dX13_both_107 rfl rfl ?_
      refine y_isub dX13_both_108 ?_
      exact y_iret dX13_both_109 rfl (Nat.zero_le _) (Nat.zero_le _) ⟨_, rfl, h⟩
    | 4, hi, hx =>
      have q3 : (x0 : Int32) = 13 := eToI (hx.trans (by decide))
      replace h := h.2.2.2.2.1 q3
      refine y_tableAt (tg := 110) dX13_both_1 q3 (by decide) (by decide) rfl (by decide) ?_
      refine y_iload_n 1 dX13_both_110 rfl rfl ?_
      refine y_iload_n 2 dX13_both_111 rfl rfl ?_
      refine y_imul dX13_both_112 ?_
      exact y_iret dX13_both_113 rfl (Nat.zero_le _) (Nat.zero_le _) ⟨_, rfl, h⟩
    | 5, hi, hx =>
      have q3 : (x0 : Int32) = 14 := eToI (hx.trans (by decide))
      replace h := h.2.2.2.2.2.1 q3
      refine y_tableAt (tg := 114) dX13_both_1 q3 (by decide) (by decide) rfl (by decide) ?_
      refine y_iload_n 2 dX13_both_114 rfl rfl ?_
      refine y_if_ne (t := 122) dX13_both_115 (by decide) (fun q => ?_) (fun q => ?_)
      · replace h := h.1 q
        refine y_iload_n 1 dX13_both_122 rfl rfl ?_
        refine y_iload_n 2 dX13_both_123 rfl rfl ?_
        have h1 := h.1
        replace h := h.2
        refine y_idiv dX13_both_124 h1 ?_
        exact y_iret dX13_both_125 rfl (Nat.zero_le _) (Nat.zero_le _) ⟨_, rfl, h⟩
      · replace h := h.2 q
        refine y_iconst (v := 0) dX13_both_118 rfl ?_
        refine y_goto (t := 125) dX13_both_119 (by decide) ?_
        exact y_iret dX13_both_125 rfl (Nat.zero_le _) (Nat.zero_le _) ⟨_, rfl, h⟩
    | 6, hi, hx =>
      have q3 : (x0 : Int32) = 15 := eToI (hx.trans (by decide))
      replace h := h.2.2.2.2.2.2.1 q3
      refine y_tableAt (tg := 142) dX13_both_1 q3 (by decide) (by decide) rfl (by decide) ?_
      exact h
    | 7, hi, hx =>
      have q3 : (x0 : Int32) = 16 := eToI (hx.trans (by decide))
      replace h := h.2.2.2.2.2.2.2.1 q3
      refine y_tableAt (tg := 142) dX13_both_1 q3 (by decide) (by decide) rfl (by decide) ?_
      exact h
    | 8, hi, hx =>
      have q3 : (x0 : Int32) = 17 := eToI (hx.trans (by decide))
      replace h := h.2.2.2.2.2.2.2.2.1 q3
      refine y_tableAt (tg := 142) dX13_both_1 q3 (by decide) (by decide) rfl (by decide) ?_
      exact h
    | 9, hi, hx =>
      have q3 : (x0 : Int32) = 18 := eToI (hx.trans (by decide))
      replace h := h.2.2.2.2.2.2.2.2.2.1 q3
      refine y_tableAt (tg := 142) dX13_both_1 q3 (by decide) (by decide) rfl (by decide) ?_
      exact h
    | 10, hi, hx =>
      have q3 : (x0 : Int32) = 19 := eToI (hx.trans (by decide))
      replace h := h.2.2.2.2.2.2.2.2.2.2.1 q3
      refine y_tableAt (tg := 142) dX13_both_1 q3 (by decide) (by decide) rfl (by decide) ?_
      exact h
    | 11, hi, hx =>
      have q3 : (x0 : Int32) = 20 := eToI (hx.trans (by decide))
      replace h := h.2.2.2.2.2.2.2.2.2.2.2.1 q3
      refine y_tableAt (tg := 142) dX13_both_1 q3 (by decide) (by decide) rfl (by decide) ?_
      exact h
    | 12, hi, hx =>
      have q3 : (x0 : Int32) = 21 := eToI (hx.trans (by decide))
      replace h := h.2.2.2.2.2.2.2.2.2.2.2.2.1 q3
      refine y_tableAt (tg := 142) dX13_both_1 q3 (by decide) (by decide) rfl (by decide) ?_
      exact h
    | 13, hi, hx =>
      have q3 : (x0 : Int32) = 22 := eToI (hx.trans (by decide))
      replace h := h.2.2.2.2.2.2.2.2.2.2.2.2.2.1 q3
      refine y_tableAt (tg := 142) dX13_both_1 q3 (by decide) (by decide) rfl (by decide) ?_
      exact h
    | 14, hi, hx =>
      have q3 : (x0 : Int32) = 23 := eToI (hx.trans (by decide))
      replace h := h.2.2.2.2.2.2.2.2.2.2.2.2.2.2.1 q3
      refine y_tableAt (tg := 126) dX13_both_1 q3 (by decide) (by decide) rfl (by decide) ?_
      refine y_iload_n 1 dX13_both_126 rfl rfl ?_
      refine y_iload_n 2 dX13_both_127 rfl rfl ?_
      refine y_imul dX13_both_128 ?_
      exact y_iret dX13_both_129 rfl (Nat.zero_le _) (Nat.zero_le _) ⟨_, rfl, h⟩
    | 15, hi, hx =>
      have q3 : (x0 : Int32) = 24 := eToI (hx.trans (by decide))
      replace h := h.2.2.2.2.2.2.2.2.2.2.2.2.2.2.2 q3
      refine y_tableAt (tg := 130) dX13_both_1 q3 (by decide) (by decide) rfl (by decide) ?_
      refine y_iload_n 1 dX13_both_130 rfl rfl ?_
      refine y_iload_n 2 dX13_both_131 rfl rfl ?_
      refine y_iadd dX13_both_132 ?_
      refine y_if_le (t := 140) dX13_both_133 (by decide) (fun q => ?_) (fun q => ?_)
      · replace h := h.1 q
        refine y_iconst (v := 0) dX13_both_140 rfl ?_
        exact y_iret dX13_both_141 rfl (Nat.zero_le _) (Nat.zero_le _) ⟨_, rfl, h⟩
      · replace h := h.2 q
        refine y_iconst (v := 1) dX13_both_136 rfl ?_
        refine y_goto (t := 141) dX13_both_137 (by decide) ?_
        exact y_iret dX13_both_141 rfl (Nat.zero_le _) (Nat.zero_le _) ⟨_, rfl, h⟩
    | i + 16, hi, hx => exact absurd hi (by omega)
set_option maxHeartbeats 4000000 in
set_option maxRecDepth 100000 in
theorem C_X12_beside (G : eG) (M : eM) (H : yH) (F : Int32 → eM → yH → Prop) (a0 : Nat) (x1 : Int32) (x2 : Int32)
    (h : ∃ (x_1 : Int32), yG H a0 10 0 (.int x_1) ∧ ((¬ x_1 = 0) ∧ (vp_in x2 6 ∧ (vp_in 0 2 ∧ (∃ (x_4 : Int32), yG H a0 10 0 (.int x_4) ∧ ((¬ x_4 = 0) ∧ (vp_in x2 6 ∧ (vp_in 1 2 ∧ (((((x1 - x1 / x_1 * x_1) + (yWy  x2.toNatClampNeg (0 : Int32).toNatClampNeg)) < (0 : Int32)) → F (-1) M H) ∧ ((¬ ((x1 - x1 / x_1 * x_1) + (yWy  x2.toNatClampNeg (0 : Int32).toNatClampNeg)) < (0 : Int32)) → ∃ (x_7 : Int32), yG H a0 10 0 (.int x_7) ∧ (((x_7 ≤ ((x1 - x1 / x_1 * x_1) + (yWy  x2.toNatClampNeg (0 : Int32).toNatClampNeg))) → F (-1) M H) ∧ ((¬ x_7 ≤ ((x1 - x1 / x_1 * x_1) + (yWy  x2.toNatClampNeg (0 : Int32).toNatClampNeg))) → ((((x1 / x_4) + (yWy  x2.toNatClampNeg (1 : Int32).toNatClampNeg)) < (0 : Int32)) → F (-1) M H) ∧ ((¬ ((x1 / x_4) + (yWy  x2.toNatClampNeg (1 : Int32).toNatClampNeg)) < (0 : Int32)) → ∃ (x_8 : Int32), yG H a0 10 1 (.int x_8) ∧ (((((x1 / x_4) + (yWy  x2.toNatClampNeg (1 : Int32).toNatClampNeg)) < x_8) → ∃ (x_9 : Int32), yG H a0 10 0 (.int x_9) ∧ (F ((x_9 * ((x1 / x_4) + (yWy  x2.toNatClampNeg (1 : Int32).toNatClampNeg))) + ((x1 - x1 / x_1 * x_1) + (yWy  x2.toNatClampNeg (0 : Int32).toNatClampNeg))) M H)) ∧ ((¬ ((x1 / x_4) + (yWy  x2.toNatClampNeg (1 : Int32).toNatClampNeg)) < x_8) → F (-1) M H))))))))))))))) :
    yCal G (1, 0, 0) kX12_beside [.ref a0, .int x1, .int x2] M H (yFI F) := by
  refine yCal.of (by decide +kernel) rfl (Nat.le_of_ble_eq_true rfl) ?_
  show Yx (yX "beside") (yZ G 0 0 (yFI F)) G (eR (1, 0, 0)) kX12_beside 0 [(0, .ref a0), (1, .int x1), (2, .int x2)] [] M H 0 0
  refine y_iload_n 1 dX12_beside_0 rfl rfl ?_
  refine y_aload_n 0 dX12_beside_1 rfl rfl ?_
  obtain ⟨x_1, ⟨fs_1, e1_1, e2_1⟩, h⟩ := h
  refine y_get (k := 0) dX12_beside_2 clX12 lFX12_7 (by decide) e1_1 e2_1 ?_
  have h1 := h.1
  replace h := h.2
  refine y_irem dX12_beside_5 h1 ?_
  refine y_gets (w := .ref (G.1 1303)) dX12_beside_6 lFX12_36 (fun h => h.2.2.2.2.2.2.2.1.1.1) ?_
  refine y_iload_n 2 dX12_beside_9 rfl rfl ?_
  have hw_2 := h.1
  replace h := h.2
  refine y_wayA dX12_beside_10 hw_2 ?_
  refine y_iconst (v := 0) dX12_beside_11 rfl ?_
  have h1 := h.1
  replace h := h.2
  refine y_way dX12_beside_12 hw_2 h1 ?_
  refine y_iadd dX12_beside_13 ?_
  refine y_istore_n (i := 3) (l' := [(3, .int ((x1 - x1 / x_1 * x_1) + (yWy  x2.toNatClampNeg (0 : Int32).toNatClampNeg))), (0, .ref a0), (1, .int x1), (2, .int x2)]) dX12_beside_14 rfl (by decide) rfl ?_
  refine y_iload_n 2 dX12_beside_15 rfl rfl ?_
  refine y_aload_n 1 dX12_beside_16 rfl rfl ?_
  obtain ⟨x_4, ⟨fs_4, e1_4, e2_4⟩, h⟩ := h
  refine y_get (k := 0) dX12_beside_17 clX12 lFX12_7 (by decide) e1_4 e2_4 ?_
  have h1 := h.1
  replace h := h.2
  refine y_idiv dX12_beside_20 h1 ?_
  refine y_gets (w := .ref (G.1 1303)) dX12_beside_21 lFX12_36 (fun h => h.2.2.2.2.2.2.2.1.1.1) ?_
  refine y_iload_n 3 dX12_beside_24 rfl rfl ?_
  have hw_5 := h.1
  replace h := h.2
  refine y_wayA dX12_beside_25 hw_5 ?_
  refine y_iconst (v := 1) dX12_beside_26 rfl ?_
  have h1 := h.1
  replace h := h.2
  refine y_way dX12_beside_27 hw_5 h1 ?_
  refine y_iadd dX12_beside_28 ?_
  refine y_istore (i := 4) (l' := [(4, .int ((x1 / x_4) + (yWy  x2.toNatClampNeg (1 : Int32).toNatClampNeg))), (3, .int ((x1 - x1 / x_1 * x_1) + (yWy  x2.toNatClampNeg (0 : Int32).toNatClampNeg))), (0, .ref a0), (1, .int x1), (2, .int x2)]) dX12_beside_29 (by decide) rfl ?_
  refine y_iload_n 1 dX12_beside_31 rfl rfl ?_
  refine y_if_lt (t := 57) dX12_beside_32 (by decide) (fun q => ?_) (fun q => ?_)
  · replace h := h.1 q
    refine y_iconst (v := (-1)) dX12_beside_57 rfl ?_
    refine y_goto (t := 70) dX12_beside_58 (by decide) ?_
    exact y_iret dX12_beside_70 rfl (Nat.zero_le _) (Nat.zero_le _) ⟨_, rfl, h⟩
  · replace h := h.2 q
    refine y_iload_n 1 dX12_beside_35 rfl rfl ?_
    refine y_aload_n 2 dX12_beside_36 rfl rfl ?_
    obtain ⟨x_7, ⟨fs_7, e1_7, e2_7⟩, h⟩ := h
    refine y_get (k := 0) dX12_beside_37 clX12 lFX12_7 (by decide) e1_7 e2_7 ?_
    refine y_icmp_ge (t := 57) dX12_beside_40 (by decide) (fun q => ?_) (fun q => ?_)
    · replace h := h.1 q
      refine y_iconst (v := (-1)) dX12_beside_57 rfl ?_
      refine y_goto (t := 70) dX12_beside_58 (by decide) ?_
      exact y_iret dX12_beside_70 rfl (Nat.zero_le _) (Nat.zero_le _) ⟨_, rfl, h⟩
    · replace h := h.2 q
      refine y_iload 0 dX12_beside_43 rfl ?_
      refine y_if_lt (t := 57) dX12_beside_45 (by decide) (fun q => ?_) (fun q => ?_)
      · replace h := h.1 q
        refine y_iconst (v := (-1)) dX12_beside_57 rfl ?_
        refine y_goto (t := 70) dX12_beside_58 (by decide) ?_
        exact y_iret dX12_beside_70 rfl (Nat.zero_le _) (Nat.zero_le _) ⟨_, rfl, h⟩
      · replace h := h.2 q
        refine y_iload 0 dX12_beside_48 rfl ?_
        refine y_aload_n 2 dX12_beside_50 rfl rfl ?_
        obtain ⟨x_8, ⟨fs_8, e1_8, e2_8⟩, h⟩ := h
        refine y_get (k := 1) dX12_beside_51 clX12 lFX12_13 (by decide) e1_8 e2_8 ?_
        refine y_icmp_lt (t := 61) dX12_beside_54 (by decide) (fun q => ?_) (fun q => ?_)
        · replace h := h.1 q
          refine y_aload_n 2 dX12_beside_61 rfl rfl ?_
          obtain ⟨x_9, ⟨fs_9, e1_9, e2_9⟩, h⟩ := h
          refine y_get (k := 0) dX12_beside_62 clX12 lFX12_7 (by decide) e1_9 e2_9 ?_
          refine y_iload 0 dX12_beside_65 rfl ?_
          refine y_imul dX12_beside_67 ?_
          refine y_iload_n 1 dX12_beside_68 rfl rfl ?_
          refine y_iadd dX12_beside_69 ?_
          exact y_iret dX12_beside_70 rfl (Nat.zero_le _) (Nat.zero_le _) ⟨_, rfl, h⟩
        · replace h := h.2 q
          refine y_iconst (v := (-1)) dX12_beside_57 rfl ?_
          refine y_goto (t := 70) dX12_beside_58 (by decide) ?_
          exact y_iret dX12_beside_70 rfl (Nat.zero_le _) (Nat.zero_le _) ⟨_, rfl, h⟩
set_option maxHeartbeats 4000000 in
set_option maxRecDepth 100000 in
theorem B_X12_number_13 (G : eG) (M : eM) (H : yH) (F : Int32 → eM → yH → Prop) (a1 : Nat) (x4 : Int32)
    (h : (((2 : Int32) ≤ x4) → (((4 : Int32) ≤ x4) → ∃ (x_1 : Int32), yEI G H a1 2 x_1 ∧ (F x_1 M H)) ∧ ((¬ (4 : Int32) ≤ x4) → ∃ (x_1 : Int32), yEI G H a1 1 x_1 ∧ (F x_1 M H))) ∧ ((¬ (2 : Int32) ≤ x4) → ∃ (x_1 : Int32), yEI G H a1 0 x_1 ∧ (F x_1 M H))) :
    Yx (yX "number") (yZ G 0 0 (yFI F)) G (eR (1, 0, 0)) kX12_number 13 [(1, .ref a1), (4, .int x4)] [] M H 0 0 := by
  refine y_aload_n 0 dX12_number_13 rfl rfl ?_
  refine y_iload 1 dX12_number_14 rfl ?_
  refine y_iconst (v := 2) dX12_number_16 rfl ?_
  refine y_icmp_ge (t := 24) dX12_number_17 (by decide) (fun q => ?_) (fun q => ?_)
  · replace h := h.1 q
    refine y_iload 1 dX12_number_24 rfl ?_
    refine y_iconst (v := 4) dX12_number_26 rfl ?_
    refine y_icmp_ge (t := 34) dX12_number_27 (by decide) (fun q => ?_) (fun q => ?_)
    · replace h := h.1 q
      refine y_iconst (v := 2) dX12_number_34 rfl ?_
      obtain ⟨x_1, ⟨N_1, f_1, e1_1, e2_1, e3_1⟩, h⟩ := h
      refine y_ialdx dX12_number_35 e1_1 e2_1 e3_1 ?_
      exact y_iret dX12_number_36 rfl (Nat.zero_le _) (Nat.zero_le _) ⟨_, rfl, h⟩
    · replace h := h.2 q
      refine y_iconst (v := 1) dX12_number_30 rfl ?_
      refine y_goto (t := 35) dX12_number_31 (by decide) ?_
      obtain ⟨x_1, ⟨N_1, f_1, e1_1, e2_1, e3_1⟩, h⟩ := h
      refine y_ialdx dX12_number_35 e1_1 e2_1 e3_1 ?_
      exact y_iret dX12_number_36 rfl (Nat.zero_le _) (Nat.zero_le _) ⟨_, rfl, h⟩
  · replace h := h.2 q
    refine y_iconst (v := 0) dX12_number_20 rfl ?_
    refine y_goto (t := 35) dX12_number_21 (by decide) ?_
    obtain ⟨x_1, ⟨N_1, f_1, e1_1, e2_1, e3_1⟩, h⟩ := h
    refine y_ialdx dX12_number_35 e1_1 e2_1 e3_1 ?_
    exact y_iret dX12_number_36 rfl (Nat.zero_le _) (Nat.zero_le _) ⟨_, rfl, h⟩
set_option maxHeartbeats 4000000 in
set_option maxRecDepth 100000 in
theorem C_X12_number (G : eG) (M : eM) (H : yH) (F : Int32 → eM → yH → Prop) (a0 : Nat) (a1 : Nat) (x2 : Int32) (x3 : Int32)
    (h : (((0 : Int32) ≤ (x3 - x2)) → Yx (yX "number") (yZ G 0 0 (yFI F)) G (eR (1, 0, 0)) kX12_number 13 [(1, .ref a1), (4, .int (x3 - x2))] [] M H 0 0) ∧ ((¬ (0 : Int32) ≤ (x3 - x2)) → Yx (yX "number") (yZ G 0 0 (yFI F)) G (eR (1, 0, 0)) kX12_number 13 [(1, .ref a1), (4, .int ((x3 - x2) + 6))] [] M H 0 0)) :
    yCal G (1, 0, 0) kX12_number [.ref a0, .ref a1, .int x2, .int x3] M H (yFI F) := by
  refine yCal.of (by decide +kernel) rfl (Nat.le_of_ble_eq_true rfl) ?_
  show Yx (yX "number") (yZ G 0 0 (yFI F)) G (eR (1, 0, 0)) kX12_number 0 [(0, .ref a0), (1, .ref a1), (2, .int x2), (3, .int x3)] [] M H 0 0
  refine y_iload_n 3 dX12_number_0 rfl rfl ?_
  refine y_iload_n 2 dX12_number_1 rfl rfl ?_
  refine y_isub dX12_number_2 ?_
  refine y_istore (i := 4) (l' := [(4, .int (x3 - x2)), (0, .ref a0), (1, .ref a1), (2, .int x2), (3, .int x3)]) dX12_number_3 (by decide) rfl ?_
  refine y_iload 0 dX12_number_5 rfl ?_
  refine y_if_ge (t := 13) dX12_number_7 (by decide) (fun q => ?_) (fun q => ?_)
  · replace h := h.1 q
    exact Yx.sub (ks := [2, 0]) rfl h
  · replace h := h.2 q
    refine y_iinc (v := (x3 - x2) + 6) (l' := [(4, .int ((x3 - x2) + 6)), (0, .ref a0), (1, .ref a1), (2, .int x2), (3, .int x3)]) 0 dX12_number_10 rfl rfl (by decide) rfl ?_
    exact Yx.sub (ks := [2, 0]) rfl h
set_option maxHeartbeats 4000000 in
set_option maxRecDepth 100000 in
theorem B_X12_board_32 (G : eG) (ca sl : Nat) (M : eM) (H : yH) (F : Nat → eM → yH → Prop) (a0 : Nat) (a1 : Nat) (x2 : Int32)
    (h : ∃ (b_1 : Nat), yG H a0 10 2 (.ref b_1) ∧ (∃ (n_2 : Nat), yLn G 5 H b_1 n_2 ∧ ((((nI n_2) ≤ x2) → (ca ≤ 1 ∧ sl ≤ 49) ∧ F a1 M H) ∧ ((¬ (nI n_2) ≤ x2) → ∃ (b_3 : Nat), yG H a0 10 2 (.ref b_3) ∧ (∃ (b_4 : Nat), yER G 5 H b_3 x2 b_4 ∧ (∃ (x_5 : Int32), yEI G H b_4 3 x_5 ∧ (((x_5 < (0 : Int32)) → Yx (yX "board") (yZ G 1 49 (yFR F)) G (eR (1, 1, 49)) kX12_board 32 [(0, .ref a0), (1, .ref a1), (2, .int (x2 + 1))] [] M H ca sl) ∧ ((¬ x_5 < (0 : Int32)) → ∃ (b_6 : Nat), yG H a0 10 2 (.ref b_6) ∧ (∃ (b_7 : Nat), yER G 5 H b_6 x2 b_7 ∧ (∃ (x_8 : Int32), yEI G H b_7 3 x_8 ∧ (∃ (N_9 : Nat) (f_9 : Nat → Int32), H a1 = some (.inl (G.2.2.2 0, (N_9, .inl f_9))) ∧ vp_in x_8 N_9 ∧ (Yx (yX "board") (yZ G 1 49 (yFR F)) G (eR (1, 1, 49)) kX12_board 32 [(0, .ref a0), (1, .ref a1), (2, .int (x2 + 1))] [] M (yU H a1 (.inl (G.2.2.2 0, (N_9, .inl (upd f_9 x_8.toNatClampNeg x2))))) ca sl)))))))))))) :
    Yx (yX "board") (yZ G 1 49 (yFR F)) G (eR (1, 1, 49)) kX12_board 32 [(0, .ref a0), (1, .ref a1), (2, .int x2)] [] M H ca sl := by
  refine y_iload_n 2 dX12_board_32 rfl rfl ?_
  refine y_aload_n 0 dX12_board_33 rfl rfl ?_
  obtain ⟨b_1, ⟨fs_1, e1_1, e2_1⟩, h⟩ := h
  refine y_get (k := 2) dX12_board_34 clX12 lFX12_18 (by decide) e1_1 e2_1 ?_
  obtain ⟨n_2, ⟨v_2, e1_2, e2_2⟩, h⟩ := h
  refine y_alenx (t := 5) (ty := .array .int) dX12_board_37 rfl e1_2 e2_2 ?_
  refine y_icmp_ge (t := 69) dX12_board_38 (by decide) (fun q => ?_) (fun q => ?_)
  · replace h := h.1 q
    refine y_aload_n 1 dX12_board_69 rfl rfl ?_
    have hb := h.1
    replace h := h.2
    exact y_aret dX12_board_70 rfl (Or.inr ⟨_, rfl⟩) hb.1 hb.2 ⟨_, rfl, h⟩
  · replace h := h.2 q
    refine y_aload_n 0 dX12_board_41 rfl rfl ?_
    obtain ⟨b_3, ⟨fs_3, e1_3, e2_3⟩, h⟩ := h
    refine y_get (k := 2) dX12_board_42 clX12 lFX12_18 (by decide) e1_3 e2_3 ?_
    refine y_iload_n 2 dX12_board_45 rfl rfl ?_
    obtain ⟨b_4, ⟨N_4, f_4, e1_4, e2_4, e3_4⟩, h⟩ := h
    refine y_aald (t := 5) (ty := .array .int) dX12_board_46 rfl rfl e1_4 e2_4 e3_4 ?_
    refine y_iconst (v := 3) dX12_board_47 rfl ?_
    obtain ⟨x_5, ⟨N_5, f_5, e1_5, e2_5, e3_5⟩, h⟩ := h
    refine y_ialdx dX12_board_48 e1_5 e2_5 e3_5 ?_
    refine y_if_lt (t := 63) dX12_board_49 (by decide) (fun q => ?_) (fun q => ?_)
    · replace h := h.1 q
      refine y_iinc (v := x2 + 1) (l' := [(2, .int (x2 + 1)), (0, .ref a0), (1, .ref a1)]) 2 dX12_board_63 rfl rfl (by decide) rfl ?_
      refine y_goto (t := 32) dX12_board_66 (by decide) ?_
      exact Yx.sub (ks := [1, 2, 0]) rfl h
    · replace h := h.2 q
      refine y_aload_n 1 dX12_board_52 rfl rfl ?_
      refine y_aload_n 0 dX12_board_53 rfl rfl ?_
      obtain ⟨b_6, ⟨fs_6, e1_6, e2_6⟩, h⟩ := h
      refine y_get (k := 2) dX12_board_54 clX12 lFX12_18 (by decide) e1_6 e2_6 ?_
      refine y_iload_n 2 dX12_board_57 rfl rfl ?_
      obtain ⟨b_7, ⟨N_7, f_7, e1_7, e2_7, e3_7⟩, h⟩ := h
      refine y_aald (t := 5) (ty := .array .int) dX12_board_58 rfl rfl e1_7 e2_7 e3_7 ?_
      refine y_iconst (v := 3) dX12_board_59 rfl ?_
      obtain ⟨x_8, ⟨N_8, f_8, e1_8, e2_8, e3_8⟩, h⟩ := h
      refine y_ialdx dX12_board_60 e1_8 e2_8 e3_8 ?_
      refine y_iload_n 2 dX12_board_61 rfl rfl ?_
      obtain ⟨N_9, f_9, e1_9, e2_9, h⟩ := h
      refine y_iast yXn dX12_board_62 e1_9 e2_9 ?_
      refine y_iinc (v := x2 + 1) (l' := [(2, .int (x2 + 1)), (0, .ref a0), (1, .ref a1)]) 2 dX12_board_63 rfl rfl (by decide) rfl ?_
      refine y_goto (t := 32) dX12_board_66 (by decide) ?_
      exact Yx.sub (ks := [1, 2, 0]) rfl h
set_option maxHeartbeats 4000000 in
set_option maxRecDepth 100000 in
theorem B_X12_board_14 (G : eG) (ca sl : Nat) (M : eM) (H : yH) (F : Nat → eM → yH → Prop) (a0 : Nat) (a1 : Nat) (x2 : Int32)
    (h : ∃ (n_1 : Nat), yLn G 0 H a1 n_1 ∧ ((((nI n_1) ≤ x2) → Yx (yX "board") (yZ G 1 49 (yFR F)) G (eR (1, 1, 49)) kX12_board 32 [(0, .ref a0), (1, .ref a1), (2, .int 0)] [] M H ca sl) ∧ ((¬ (nI n_1) ≤ x2) → ∃ (N_2 : Nat) (f_2 : Nat → Int32), H a1 = some (.inl (G.2.2.2 0, (N_2, .inl f_2))) ∧ vp_in x2 N_2 ∧ (Yx (yX "board") (yZ G 1 49 (yFR F)) G (eR (1, 1, 49)) kX12_board 14 [(0, .ref a0), (1, .ref a1), (2, .int (x2 + 1))] [] M (yU H a1 (.inl (G.2.2.2 0, (N_2, .inl (upd f_2 x2.toNatClampNeg (-1)))))) ca sl)))) :
    Yx (yX "board") (yZ G 1 49 (yFR F)) G (eR (1, 1, 49)) kX12_board 14 [(0, .ref a0), (1, .ref a1), (2, .int x2)] [] M H ca sl := by
  refine y_iload_n 2 dX12_board_14 rfl rfl ?_
  refine y_aload_n 1 dX12_board_15 rfl rfl ?_
  obtain ⟨n_1, ⟨v_1, e1_1, e2_1⟩, h⟩ := h
  refine y_alenx (t := 0) (ty := .int) dX12_board_16 rfl e1_1 e2_1 ?_
  refine y_icmp_ge (t := 30) dX12_board_17 (by decide) (fun q => ?_) (fun q => ?_)
  · replace h := h.1 q
    refine y_iconst (v := 0) dX12_board_30 rfl ?_
    refine y_istore_n (i := 2) (l' := [(2, .int 0), (0, .ref a0), (1, .ref a1)]) dX12_board_31 rfl (by decide) rfl ?_
    exact Yx.sub (ks := [1, 2, 0]) rfl h
  · replace h := h.2 q
    refine y_aload_n 1 dX12_board_20 rfl rfl ?_
    refine y_iload_n 2 dX12_board_21 rfl rfl ?_
    refine y_iconst (v := (-1)) dX12_board_22 rfl ?_
    obtain ⟨N_2, f_2, e1_2, e2_2, h⟩ := h
    refine y_iast yXn dX12_board_23 e1_2 e2_2 ?_
    refine y_iinc (v := x2 + 1) (l' := [(2, .int (x2 + 1)), (0, .ref a0), (1, .ref a1)]) 2 dX12_board_24 rfl rfl (by decide) rfl ?_
    refine y_goto (t := 14) dX12_board_27 (by decide) ?_
    exact Yx.sub (ks := [1, 2, 0]) rfl h
set_option maxHeartbeats 4000000 in
set_option maxRecDepth 100000 in
theorem C_X12_board (G : eG) (M : eM) (H : yH) (F : Nat → eM → yH → Prop) (a0 : Nat)
    (h : ∃ (x_1 : Int32), yG H a0 10 0 (.int x_1) ∧ (∃ (x_2 : Int32), yG H a0 10 1 (.int x_2) ∧ (∃ N_3 : Nat, (¬ (x_1 * x_2) < 0) ∧ (x_1 * x_2).toNatClampNeg = N_3 ∧ N_3 * 4 ≤ 536870912 ∧ (0 + 1 ≤ 1 ∧ 0 + N_3 ≤ 49) ∧ ∀ q_3 : Nat, H q_3 = none → (Yx (yX "board") (yZ G 1 49 (yFR F)) G (eR (1, 1, 49)) kX12_board 14 [(0, .ref a0), (1, .ref q_3), (2, .int 0)] [] M (yU H q_3 (.inl (G.2.2.2 0, (N_3, .inl (fun _ => 0))))) (0 + 1) (0 + N_3))))) :
    yCal G (1, 1, 49) kX12_board [.ref a0] M H (yFR F) := by
  refine yCal.of (by decide +kernel) rfl (Nat.le_of_ble_eq_true rfl) ?_
  show Yx (yX "board") (yZ G 1 49 (yFR F)) G (eR (1, 1, 49)) kX12_board 0 [(0, .ref a0)] [] M H 0 0
  refine y_aload_n 0 dX12_board_0 rfl rfl ?_
  obtain ⟨x_1, ⟨fs_1, e1_1, e2_1⟩, h⟩ := h
  refine y_get (k := 0) dX12_board_1 clX12 lFX12_7 (by decide) e1_1 e2_1 ?_
  refine y_aload_n 0 dX12_board_4 rfl rfl ?_
  obtain ⟨x_2, ⟨fs_2, e1_2, e2_2⟩, h⟩ := h
  refine y_get (k := 1) dX12_board_5 clX12 lFX12_13 (by decide) e1_2 e2_2 ?_
  refine y_imul dX12_board_8 ?_
  obtain ⟨N_3, z1_3, z2_3, z3_3, hb, h⟩ := h
  refine y_newi dX12_board_9 z1_3 z2_3 z3_3 hb (fun q_3 hq => ?_)
  replace h := h q_3 hq
  refine y_astore_n (i := 1) (l' := [(1, .ref q_3), (0, .ref a0)]) dX12_board_11 rfl (by decide) rfl ?_
  refine y_iconst (v := 0) dX12_board_12 rfl ?_
  refine y_istore_n (i := 2) (l' := [(2, .int 0), (1, .ref q_3), (0, .ref a0)]) dX12_board_13 rfl (by decide) rfl ?_
  exact Yx.sub (ks := [2, 1, 0]) rfl h
set_option maxHeartbeats 4000000 in
set_option maxRecDepth 100000 in
theorem B_X12_against_92 (G : eG) (M : eM) (H : yH) (F : Int32 → eM → yH → Prop) (a0 : Nat) (a1 : Nat) (x2 : Int32) (x3 : Int32) (x4 : Int32) (x5 : Int32)
    (h : Yx (yX "against") (yZ G 0 0 (yFI F)) G (eR (2, 0, 0)) kX12_against 3 [(0, .ref a0), (1, .ref a1), (2, .int x2), (3, .int x3), (4, .int x4), (5, .int (x5 + 1))] [] M H 0 0) :
    Yx (yX "against") (yZ G 0 0 (yFI F)) G (eR (2, 0, 0)) kX12_against 92 [(0, .ref a0), (1, .ref a1), (2, .int x2), (3, .int x3), (4, .int x4), (5, .int x5)] [] M H 0 0 := by
  refine y_iinc (v := x5 + 1) (l' := [(5, .int (x5 + 1)), (0, .ref a0), (1, .ref a1), (2, .int x2), (3, .int x3), (4, .int x4)]) 5 dX12_against_92 rfl rfl (by decide) rfl ?_
  refine y_goto (t := 3) dX12_against_95 (by decide) ?_
  exact Yx.sub (ks := [1, 2, 3, 4, 5, 0]) rfl h
set_option maxHeartbeats 4000000 in
set_option maxRecDepth 100000 in
theorem B_X12_against_3 (G : eG) (M : eM) (H : yH) (F : Int32 → eM → yH → Prop) (a0 : Nat) (a1 : Nat) (x2 : Int32) (x3 : Int32) (x4 : Int32) (x5 : Int32)
    (h : (((6 : Int32) ≤ x5) → F (-1) M H) ∧ ((¬ (6 : Int32) ≤ x5) → yIs H a0 10 ∧ ∃ r_1 : Int32, yRd G (1, 0, 0) kX12_beside [.ref a0, .int x3, .int x5] M H (.int r_1) ∧ (((r_1 < (0 : Int32)) → Yx (yX "against") (yZ G 0 0 (yFI F)) G (eR (2, 0, 0)) kX12_against 92 [(0, .ref a0), (1, .ref a1), (2, .int x2), (3, .int x3), (4, .int x4), (5, .int x5)] [] M H 0 0) ∧ ((¬ r_1 < (0 : Int32)) → ∃ (x_2 : Int32), yEI G H a1 r_1 x_2 ∧ ((((0 : Int32) ≤ x_2) → ∃ (b_3 : Nat), yG H a0 10 2 (.ref b_3) ∧ (∃ (x_4 : Int32), yEI G H a1 r_1 x_4 ∧ (∃ (b_5 : Nat), yER G 5 H b_3 x_4 b_5 ∧ (∃ (x_6 : Int32), yEI G H b_5 4 x_6 ∧ ((((3 : Int32) ≤ x5) → yIs H a0 10 ∧ ∃ r_7 : Int32, yRd G (1, 0, 0) kX12_number [.ref a0, .ref b_5, .int x_6, .int (x5 - 3)] M H (.int r_7) ∧ (∃ (b_8 : Nat), yG H a0 10 2 (.ref b_8) ∧ (∃ (b_9 : Nat), yER G 5 H b_8 x2 b_9 ∧ (yIs H a0 10 ∧ ∃ r_10 : Int32, yRd G (1, 0, 0) kX12_number [.ref a0, .ref b_9, .int x4, .int x5] M H (.int r_10) ∧ (((r_7 = r_10) → Yx (yX "against") (yZ G 0 0 (yFI F)) G (eR (2, 0, 0)) kX12_against 92 [(0, .ref a0), (1, .ref a1), (2, .int x2), (3, .int x3), (4, .int x4), (5, .int x5)] [] M H 0 0) ∧ ((¬ r_7 = r_10) → F x5 M H)))))) ∧ ((¬ (3 : Int32) ≤ x5) → yIs H a0 10 ∧ ∃ r_7 : Int32, yRd G (1, 0, 0) kX12_number [.ref a0, .ref b_5, .int x_6, .int (x5 + 3)] M H (.int r_7) ∧ (∃ (b_8 : Nat), yG H a0 10 2 (.ref b_8) ∧ (∃ (b_9 : Nat), yER G 5 H b_8 x2 b_9 ∧ (yIs H a0 10 ∧ ∃ r_10 : Int32, yRd G (1, 0, 0) kX12_number [.ref a0, .ref b_9, .int x4, .int x5] M H (.int r_10) ∧ (((r_7 = r_10) → Yx (yX "against") (yZ G 0 0 (yFI F)) G (eR (2, 0, 0)) kX12_against 92 [(0, .ref a0), (1, .ref a1), (2, .int x2), (3, .int x3), (4, .int x4), (5, .int x5)] [] M H 0 0) ∧ ((¬ r_7 = r_10) → F x5 M H))))))))))) ∧ ((¬ (0 : Int32) ≤ x_2) → Yx (yX "against") (yZ G 0 0 (yFI F)) G (eR (2, 0, 0)) kX12_against 92 [(0, .ref a0), (1, .ref a1), (2, .int x2), (3, .int x3), (4, .int x4), (5, .int x5)] [] M H 0 0)))))) :
    Yx (yX "against") (yZ G 0 0 (yFI F)) G (eR (2, 0, 0)) kX12_against 3 [(0, .ref a0), (1, .ref a1), (2, .int x2), (3, .int x3), (4, .int x4), (5, .int x5)] [] M H 0 0 := by
  refine y_iload 5 dX12_against_3 rfl ?_
  refine y_bipush (v := 6) dX12_against_5 rfl ?_
  refine y_icmp_ge (t := 98) dX12_against_7 (by decide) (fun q => ?_) (fun q => ?_)
  · replace h := h.1 q
    refine y_iconst (v := (-1)) dX12_against_98 rfl ?_
    exact y_iret dX12_against_99 rfl (Nat.zero_le _) (Nat.zero_le _) ⟨_, rfl, h⟩
  · replace h := h.2 q
    refine y_aload_n 0 dX12_against_10 rfl rfl ?_
    refine y_iload_n 3 dX12_against_11 rfl rfl ?_
    refine y_iload 5 dX12_against_12 rfl ?_
    obtain ⟨⟨fs_1, hi⟩, h⟩ := h
    obtain ⟨r_1, hc, h⟩ := h
    refine y_callV yXn (b' := (1, 0, 0)) (K' := kX12_beside) (As := [.int x3, .int x5]) (S := []) dX12_against_14 mX12_beside lMX12_39 clX12 rfl hi rfl (by decide) (Nat.le_of_ble_eq_true rfl) hc (fun v_ M_ H_ q_ => ?_) rfl
    obtain ⟨rfl, rfl, rfl⟩ := q_
    refine y_istore (i := 6) (l' := [(6, .int r_1), (0, .ref a0), (1, .ref a1), (2, .int x2), (3, .int x3), (4, .int x4), (5, .int x5)]) dX12_against_17 (by decide) rfl ?_
    refine y_iload 0 dX12_against_19 rfl ?_
    refine y_if_lt (t := 92) dX12_against_21 (by decide) (fun q => ?_) (fun q => ?_)
    · replace h := h.1 q
      exact Yx.sub (ks := [1, 2, 3, 4, 5, 6]) rfl h
    · replace h := h.2 q
      refine y_aload_n 2 dX12_against_24 rfl rfl ?_
      refine y_iload 0 dX12_against_25 rfl ?_
      obtain ⟨x_2, ⟨N_2, f_2, e1_2, e2_2, e3_2⟩, h⟩ := h
      refine y_ialdx dX12_against_27 e1_2 e2_2 e3_2 ?_
      refine y_if_ge (t := 34) dX12_against_28 (by decide) (fun q => ?_) (fun q => ?_)
      · replace h := h.1 q
        refine y_aload_n 1 dX12_against_34 rfl rfl ?_
        obtain ⟨b_3, ⟨fs_3, e1_3, e2_3⟩, h⟩ := h
        refine y_get (k := 2) dX12_against_35 clX12 lFX12_18 (by decide) e1_3 e2_3 ?_
        refine y_aload_n 2 dX12_against_38 rfl rfl ?_
        refine y_iload 0 dX12_against_39 rfl ?_
        obtain ⟨x_4, ⟨N_4, f_4, e1_4, e2_4, e3_4⟩, h⟩ := h
        refine y_ialdx dX12_against_41 e1_4 e2_4 e3_4 ?_
        obtain ⟨b_5, ⟨N_5, f_5, e1_5, e2_5, e3_5⟩, h⟩ := h
        refine y_aald (t := 5) (ty := .array .int) dX12_against_42 rfl rfl e1_5 e2_5 e3_5 ?_
        refine y_astore (i := 7) (l' := [(7, .ref b_5), (6, .int r_1), (0, .ref a0), (1, .ref a1), (2, .int x2), (3, .int x3), (4, .int x4), (5, .int x5)]) dX12_against_43 (by decide) rfl ?_
        refine y_aload_n 2 dX12_against_45 rfl rfl ?_
        refine y_aload 0 dX12_against_46 rfl ?_
        refine y_aload 0 dX12_against_48 rfl ?_
        refine y_iconst (v := 4) dX12_against_50 rfl ?_
        obtain ⟨x_6, ⟨N_6, f_6, e1_6, e2_6, e3_6⟩, h⟩ := h
        refine y_ialdx dX12_against_51 e1_6 e2_6 e3_6 ?_
        refine y_iload 7 dX12_against_52 rfl ?_
        refine y_iconst (v := 3) dX12_against_54 rfl ?_
        refine y_icmp_ge (t := 65) dX12_against_55 (by decide) (fun q => ?_) (fun q => ?_)
        · replace h := h.1 q
          refine y_iload 7 dX12_against_65 rfl ?_
          refine y_iconst (v := 3) dX12_against_67 rfl ?_
          refine y_isub dX12_against_68 ?_
          obtain ⟨⟨fs_7, hi⟩, h⟩ := h
          obtain ⟨r_7, hc, h⟩ := h
          refine y_callV yXn (b' := (1, 0, 0)) (K' := kX12_number) (As := [.ref b_5, .int x_6, .int (x5 - 3)]) (S := []) dX12_against_69 mX12_number lMX12_43 clX12 rfl hi rfl (by decide) (Nat.le_of_ble_eq_true rfl) hc (fun v_ M_ H_ q_ => ?_) rfl
          obtain ⟨rfl, rfl, rfl⟩ := q_
          refine y_aload_n 2 dX12_against_72 rfl rfl ?_
          refine y_aload_n 2 dX12_against_73 rfl rfl ?_
          obtain ⟨b_8, ⟨fs_8, e1_8, e2_8⟩, h⟩ := h
          refine y_get (k := 2) dX12_against_74 clX12 lFX12_18 (by decide) e1_8 e2_8 ?_
          refine y_iload_n 4 dX12_against_77 rfl rfl ?_
          obtain ⟨b_9, ⟨N_9, f_9, e1_9, e2_9, e3_9⟩, h⟩ := h
          refine y_aald (t := 5) (ty := .array .int) dX12_against_78 rfl rfl e1_9 e2_9 e3_9 ?_
          refine y_iload 6 dX12_against_79 rfl ?_
          refine y_iload 7 dX12_against_81 rfl ?_
          obtain ⟨⟨fs_10, hi⟩, h⟩ := h
          obtain ⟨r_10, hc, h⟩ := h
          refine y_callV yXn (b' := (1, 0, 0)) (K' := kX12_number) (As := [.ref b_9, .int x4, .int x5]) (S := [.int r_7]) dX12_against_83 mX12_number lMX12_43 clX12 rfl hi rfl (by decide) (Nat.le_of_ble_eq_true rfl) hc (fun v_ M_ H_ q_ => ?_) rfl
          obtain ⟨rfl, rfl, rfl⟩ := q_
          refine y_icmp_eq (t := 92) dX12_against_86 (by decide) (fun q => ?_) (fun q => ?_)
          · replace h := h.1 q
            exact Yx.sub (ks := [2, 3, 4, 5, 6, 7]) rfl h
          · replace h := h.2 q
            refine y_iload 7 dX12_against_89 rfl ?_
            exact y_iret dX12_against_91 rfl (Nat.zero_le _) (Nat.zero_le _) ⟨_, rfl, h⟩
        · replace h := h.2 q
          refine y_iload 7 dX12_against_58 rfl ?_
          refine y_iconst (v := 3) dX12_against_60 rfl ?_
          refine y_iadd dX12_against_61 ?_
          refine y_goto (t := 69) dX12_against_62 (by decide) ?_
          obtain ⟨⟨fs_7, hi⟩, h⟩ := h
          obtain ⟨r_7, hc, h⟩ := h
          refine y_callV yXn (b' := (1, 0, 0)) (K' := kX12_number) (As := [.ref b_5, .int x_6, .int (x5 + 3)]) (S := []) dX12_against_69 mX12_number lMX12_43 clX12 rfl hi rfl (by decide) (Nat.le_of_ble_eq_true rfl) hc (fun v_ M_ H_ q_ => ?_) rfl
          obtain ⟨rfl, rfl, rfl⟩ := q_
          refine y_aload_n 2 dX12_against_72 rfl rfl ?_
          refine y_aload_n 2 dX12_against_73 rfl rfl ?_
          obtain ⟨b_8, ⟨fs_8, e1_8, e2_8⟩, h⟩ := h
          refine y_get (k := 2) dX12_against_74 clX12 lFX12_18 (by decide) e1_8 e2_8 ?_
          refine y_iload_n 4 dX12_against_77 rfl rfl ?_
          obtain ⟨b_9, ⟨N_9, f_9, e1_9, e2_9, e3_9⟩, h⟩ := h
          refine y_aald (t := 5) (ty := .array .int) dX12_against_78 rfl rfl e1_9 e2_9 e3_9 ?_
          refine y_iload 6 dX12_against_79 rfl ?_
          refine y_iload 7 dX12_against_81 rfl ?_
          obtain ⟨⟨fs_10, hi⟩, h⟩ := h
          obtain ⟨r_10, hc, h⟩ := h
          refine y_callV yXn (b' := (1, 0, 0)) (K' := kX12_number) (As := [.ref b_9, .int x4, .int x5]) (S := [.int r_7]) dX12_against_83 mX12_number lMX12_43 clX12 rfl hi rfl (by decide) (Nat.le_of_ble_eq_true rfl) hc (fun v_ M_ H_ q_ => ?_) rfl
          obtain ⟨rfl, rfl, rfl⟩ := q_
          refine y_icmp_eq (t := 92) dX12_against_86 (by decide) (fun q => ?_) (fun q => ?_)
          · replace h := h.1 q
            exact Yx.sub (ks := [2, 3, 4, 5, 6, 7]) rfl h
          · replace h := h.2 q
            refine y_iload 7 dX12_against_89 rfl ?_
            exact y_iret dX12_against_91 rfl (Nat.zero_le _) (Nat.zero_le _) ⟨_, rfl, h⟩
      · replace h := h.2 q
        refine y_goto (t := 92) dX12_against_31 (by decide) ?_
        exact Yx.sub (ks := [1, 2, 3, 4, 5, 6]) rfl h
set_option maxHeartbeats 4000000 in
set_option maxRecDepth 100000 in
theorem C_X12_against (G : eG) (M : eM) (H : yH) (F : Int32 → eM → yH → Prop) (a0 : Nat) (a1 : Nat) (x2 : Int32) (x3 : Int32) (x4 : Int32)
    (h : Yx (yX "against") (yZ G 0 0 (yFI F)) G (eR (2, 0, 0)) kX12_against 3 [(0, .ref a0), (1, .ref a1), (2, .int x2), (3, .int x3), (4, .int x4), (5, .int 0)] [] M H 0 0) :
    yCal G (2, 0, 0) kX12_against [.ref a0, .ref a1, .int x2, .int x3, .int x4] M H (yFI F) := by
  refine yCal.of (by decide +kernel) rfl (Nat.le_of_ble_eq_true rfl) ?_
  show Yx (yX "against") (yZ G 0 0 (yFI F)) G (eR (2, 0, 0)) kX12_against 0 [(0, .ref a0), (1, .ref a1), (2, .int x2), (3, .int x3), (4, .int x4)] [] M H 0 0
  refine y_iconst (v := 0) dX12_against_0 rfl ?_
  refine y_istore (i := 5) (l' := [(5, .int 0), (0, .ref a0), (1, .ref a1), (2, .int x2), (3, .int x3), (4, .int x4)]) dX12_against_1 (by decide) rfl ?_
  exact Yx.sub (ks := [1, 2, 3, 4, 5, 0]) rfl h
set_option maxHeartbeats 4000000 in
set_option maxRecDepth 100000 in
theorem B_X12_many_42 (G : eG) (M : eM) (H : yH) (F : Int32 → eM → yH → Prop) (a0 : Nat) (a1 : Nat) (x2 : Int32) (x3 : Int32) (x4 : Int32)
    (h : Yx (yX "many") (yZ G 0 0 (yFI F)) G (eR (2, 0, 0)) kX12_many 5 [(0, .ref a0), (1, .ref a1), (2, .int x2), (3, .int x3), (4, .int (x4 + 1))] [] M H 0 0) :
    Yx (yX "many") (yZ G 0 0 (yFI F)) G (eR (2, 0, 0)) kX12_many 42 [(0, .ref a0), (1, .ref a1), (2, .int x2), (3, .int x3), (4, .int x4)] [] M H 0 0 := by
  refine y_iinc (v := x4 + 1) (l' := [(4, .int (x4 + 1)), (0, .ref a0), (1, .ref a1), (2, .int x2), (3, .int x3)]) 4 dX12_many_42 rfl rfl (by decide) rfl ?_
  refine y_goto (t := 5) dX12_many_45 (by decide) ?_
  exact Yx.sub (ks := [1, 2, 3, 4, 0]) rfl h
set_option maxHeartbeats 4000000 in
set_option maxRecDepth 100000 in
theorem B_X12_many_5 (G : eG) (M : eM) (H : yH) (F : Int32 → eM → yH → Prop) (a0 : Nat) (a1 : Nat) (x2 : Int32) (x3 : Int32) (x4 : Int32)
    (h : (((6 : Int32) ≤ x4) → F x3 M H) ∧ ((¬ (6 : Int32) ≤ x4) → yIs H a0 10 ∧ ∃ r_1 : Int32, yRd G (1, 0, 0) kX12_beside [.ref a0, .int x2, .int x4] M H (.int r_1) ∧ (((r_1 < (0 : Int32)) → Yx (yX "many") (yZ G 0 0 (yFI F)) G (eR (2, 0, 0)) kX12_many 42 [(0, .ref a0), (1, .ref a1), (2, .int x2), (3, .int (x3 + 0)), (4, .int x4)] [] M H 0 0) ∧ ((¬ r_1 < (0 : Int32)) → yIs H a0 10 ∧ ∃ r_2 : Int32, yRd G (1, 0, 0) kX12_beside [.ref a0, .int x2, .int x4] M H (.int r_2) ∧ (∃ (x_3 : Int32), yEI G H a1 r_2 x_3 ∧ (((x_3 < (0 : Int32)) → Yx (yX "many") (yZ G 0 0 (yFI F)) G (eR (2, 0, 0)) kX12_many 42 [(0, .ref a0), (1, .ref a1), (2, .int x2), (3, .int (x3 + 0)), (4, .int x4)] [] M H 0 0) ∧ ((¬ x_3 < (0 : Int32)) → Yx (yX "many") (yZ G 0 0 (yFI F)) G (eR (2, 0, 0)) kX12_many 42 [(0, .ref a0), (1, .ref a1), (2, .int x2), (3, .int (x3 + 1)), (4, .int x4)] [] M H 0 0))))))) :
    Yx (yX "many") (yZ G 0 0 (yFI F)) G (eR (2, 0, 0)) kX12_many 5 [(0, .ref a0), (1, .ref a1), (2, .int x2), (3, .int x3), (4, .int x4)] [] M H 0 0 := by
  refine y_iload 4 dX12_many_5 rfl ?_
  refine y_bipush (v := 6) dX12_many_7 rfl ?_
  refine y_icmp_ge (t := 48) dX12_many_9 (by decide) (fun q => ?_) (fun q => ?_)
  · replace h := h.1 q
    refine y_iload_n 3 dX12_many_48 rfl rfl ?_
    exact y_iret dX12_many_49 rfl (Nat.zero_le _) (Nat.zero_le _) ⟨_, rfl, h⟩
  · replace h := h.2 q
    refine y_iload_n 3 dX12_many_12 rfl rfl ?_
    refine y_aload_n 0 dX12_many_13 rfl rfl ?_
    refine y_iload_n 2 dX12_many_14 rfl rfl ?_
    refine y_iload 4 dX12_many_15 rfl ?_
    obtain ⟨⟨fs_1, hi⟩, h⟩ := h
    obtain ⟨r_1, hc, h⟩ := h
    refine y_callV yXn (b' := (1, 0, 0)) (K' := kX12_beside) (As := [.int x2, .int x4]) (S := [.int x3]) dX12_many_17 mX12_beside lMX12_39 clX12 rfl hi rfl (by decide) (Nat.le_of_ble_eq_true rfl) hc (fun v_ M_ H_ q_ => ?_) rfl
    obtain ⟨rfl, rfl, rfl⟩ := q_
    refine y_if_lt (t := 39) dX12_many_20 (by decide) (fun q => ?_) (fun q => ?_)
    · replace h := h.1 q
      refine y_iconst (v := 0) dX12_many_39 rfl ?_
      refine y_iadd dX12_many_40 ?_
      refine y_istore_n (i := 3) (l' := [(3, .int (x3 + 0)), (0, .ref a0), (1, .ref a1), (2, .int x2), (4, .int x4)]) dX12_many_41 rfl (by decide) rfl ?_
      exact Yx.sub (ks := [1, 2, 3, 0, 4]) rfl h
    · replace h := h.2 q
      refine y_aload_n 1 dX12_many_23 rfl rfl ?_
      refine y_aload_n 0 dX12_many_24 rfl rfl ?_
      refine y_iload_n 2 dX12_many_25 rfl rfl ?_
      refine y_iload 4 dX12_many_26 rfl ?_
      obtain ⟨⟨fs_2, hi⟩, h⟩ := h
      obtain ⟨r_2, hc, h⟩ := h
      refine y_callV yXn (b' := (1, 0, 0)) (K' := kX12_beside) (As := [.int x2, .int x4]) (S := [.ref a1, .int x3]) dX12_many_28 mX12_beside lMX12_39 clX12 rfl hi rfl (by decide) (Nat.le_of_ble_eq_true rfl) hc (fun v_ M_ H_ q_ => ?_) rfl
      obtain ⟨rfl, rfl, rfl⟩ := q_
      obtain ⟨x_3, ⟨N_3, f_3, e1_3, e2_3, e3_3⟩, h⟩ := h
      refine y_ialdx dX12_many_31 e1_3 e2_3 e3_3 ?_
      refine y_if_lt (t := 39) dX12_many_32 (by decide) (fun q => ?_) (fun q => ?_)
      · replace h := h.1 q
        refine y_iconst (v := 0) dX12_many_39 rfl ?_
        refine y_iadd dX12_many_40 ?_
        refine y_istore_n (i := 3) (l' := [(3, .int (x3 + 0)), (0, .ref a0), (1, .ref a1), (2, .int x2), (4, .int x4)]) dX12_many_41 rfl (by decide) rfl ?_
        exact Yx.sub (ks := [1, 2, 3, 0, 4]) rfl h
      · replace h := h.2 q
        refine y_iconst (v := 1) dX12_many_35 rfl ?_
        refine y_goto (t := 40) dX12_many_36 (by decide) ?_
        refine y_iadd dX12_many_40 ?_
        refine y_istore_n (i := 3) (l' := [(3, .int (x3 + 1)), (0, .ref a0), (1, .ref a1), (2, .int x2), (4, .int x4)]) dX12_many_41 rfl (by decide) rfl ?_
        exact Yx.sub (ks := [1, 2, 3, 0, 4]) rfl h
set_option maxHeartbeats 4000000 in
set_option maxRecDepth 100000 in
theorem C_X12_many (G : eG) (M : eM) (H : yH) (F : Int32 → eM → yH → Prop) (a0 : Nat) (a1 : Nat) (x2 : Int32)
    (h : Yx (yX "many") (yZ G 0 0 (yFI F)) G (eR (2, 0, 0)) kX12_many 5 [(0, .ref a0), (1, .ref a1), (2, .int x2), (3, .int 0), (4, .int 0)] [] M H 0 0) :
    yCal G (2, 0, 0) kX12_many [.ref a0, .ref a1, .int x2] M H (yFI F) := by
  refine yCal.of (by decide +kernel) rfl (Nat.le_of_ble_eq_true rfl) ?_
  show Yx (yX "many") (yZ G 0 0 (yFI F)) G (eR (2, 0, 0)) kX12_many 0 [(0, .ref a0), (1, .ref a1), (2, .int x2)] [] M H 0 0
  refine y_iconst (v := 0) dX12_many_0 rfl ?_
  refine y_istore_n (i := 3) (l' := [(3, .int 0), (0, .ref a0), (1, .ref a1), (2, .int x2)]) dX12_many_1 rfl (by decide) rfl ?_
  refine y_iconst (v := 0) dX12_many_2 rfl ?_
  refine y_istore (i := 4) (l' := [(4, .int 0), (3, .int 0), (0, .ref a0), (1, .ref a1), (2, .int x2)]) dX12_many_3 (by decide) rfl ?_
  exact Yx.sub (ks := [2, 3, 4, 1, 0]) rfl h
set_option maxHeartbeats 4000000 in
set_option maxRecDepth 100000 in
theorem B_X12_fits_62 (G : eG) (M : eM) (H : yH) (F : Bool → eM → yH → Prop) (a0 : Nat) (a1 : Nat) (x2 : Int32) (x3 : Int32) (x4 : Int32) (x5 : Int32) (a6 : Nat) (x7 : Int32) (x8 : Int32)
    (h : Yx (yX "fits") (yZ G 0 0 (yFZ F)) G (eR (3, 0, 0)) kX12_fits 33 [(0, .ref a0), (1, .ref a1), (2, .int x2), (3, .int x3), (4, .int x4), (5, .int x5), (6, .ref a6), (7, .int x7), (8, .int (x8 + 1))] [] M H 0 0) :
    Yx (yX "fits") (yZ G 0 0 (yFZ F)) G (eR (3, 0, 0)) kX12_fits 62 [(0, .ref a0), (1, .ref a1), (2, .int x2), (3, .int x3), (4, .int x4), (5, .int x5), (6, .ref a6), (7, .int x7), (8, .int x8)] [] M H 0 0 := by
  refine y_iinc (v := x8 + 1) (l' := [(8, .int (x8 + 1)), (0, .ref a0), (1, .ref a1), (2, .int x2), (3, .int x3), (4, .int x4), (5, .int x5), (6, .ref a6), (7, .int x7)]) 8 dX12_fits_62 rfl rfl (by decide) rfl ?_
  refine y_goto (t := 33) dX12_fits_65 (by decide) ?_
  exact Yx.sub (ks := [1, 2, 3, 4, 5, 6, 7, 8, 0]) rfl h
set_option maxHeartbeats 4000000 in
set_option maxRecDepth 100000 in
theorem B_X12_fits_33 (G : eG) (M : eM) (H : yH) (F : Bool → eM → yH → Prop) (a0 : Nat) (a1 : Nat) (x2 : Int32) (x3 : Int32) (x4 : Int32) (x5 : Int32) (a6 : Nat) (x7 : Int32) (x8 : Int32)
    (h : ((x7 ≤ x8) → ((¬ x5 = (0 : Int32)) → F true M H) ∧ ((x5 = (0 : Int32)) → yIs H a0 10 ∧ ∃ r_1 : Int32, yRd G (2, 0, 0) kX12_many [.ref a0, .ref a1, .int x3] M H (.int r_1) ∧ (((r_1 ≤ (0 : Int32)) → F false M H) ∧ ((¬ r_1 ≤ (0 : Int32)) → yIs H a0 10 ∧ ∃ r_2 : Int32, yRd G (2, 0, 0) kX12_against [.ref a0, .ref a1, .int x2, .int x3, .int x4] M H (.int r_2) ∧ ((((0 : Int32) ≤ r_2) → F false M H) ∧ ((¬ (0 : Int32) ≤ r_2) → F true M H)))))) ∧ ((¬ x7 ≤ x8) → ∃ (x_1 : Int32), yEI G H a6 x8 x_1 ∧ ((((0 : Int32) ≤ x_1) → Yx (yX "fits") (yZ G 0 0 (yFZ F)) G (eR (3, 0, 0)) kX12_fits 62 [(0, .ref a0), (1, .ref a1), (2, .int x2), (3, .int x3), (4, .int x4), (5, .int (x5 &&& 0)), (6, .ref a6), (7, .int x7), (8, .int x8)] [] M H 0 0) ∧ ((¬ (0 : Int32) ≤ x_1) → Yx (yX "fits") (yZ G 0 0 (yFZ F)) G (eR (3, 0, 0)) kX12_fits 62 [(0, .ref a0), (1, .ref a1), (2, .int x2), (3, .int x3), (4, .int x4), (5, .int (x5 &&& 1)), (6, .ref a6), (7, .int x7), (8, .int x8)] [] M H 0 0)))) :
    Yx (yX "fits") (yZ G 0 0 (yFZ F)) G (eR (3, 0, 0)) kX12_fits 33 [(0, .ref a0), (1, .ref a1), (2, .int x2), (3, .int x3), (4, .int x4), (5, .int x5), (6, .ref a6), (7, .int x7), (8, .int x8)] [] M H 0 0 := by
  refine y_iload 8 dX12_fits_33 rfl ?_
  refine y_iload 7 dX12_fits_35 rfl ?_
  refine y_icmp_ge (t := 68) dX12_fits_37 (by decide) (fun q => ?_) (fun q => ?_)
  · replace h := h.1 q
    refine y_iload 5 dX12_fits_68 rfl ?_
    refine y_if_ne (t := 94) dX12_fits_70 (by decide) (fun q => ?_) (fun q => ?_)
    · replace h := h.1 q
      refine y_iconst (v := 1) dX12_fits_94 rfl ?_
      refine y_goto (t := 99) dX12_fits_95 (by decide) ?_
      exact y_zret (v := eZi true) dX12_fits_99 rfl (eZi_nw _) (Nat.zero_le _) (Nat.zero_le _) ⟨_, rfl, h⟩
    · replace h := h.2 q
      refine y_aload_n 0 dX12_fits_73 rfl rfl ?_
      refine y_aload_n 1 dX12_fits_74 rfl rfl ?_
      refine y_iload_n 3 dX12_fits_75 rfl rfl ?_
      obtain ⟨⟨fs_1, hi⟩, h⟩ := h
      obtain ⟨r_1, hc, h⟩ := h
      refine y_callV yXn (b' := (2, 0, 0)) (K' := kX12_many) (As := [.ref a1, .int x3]) (S := []) dX12_fits_76 mX12_many lMX12_47 clX12 rfl hi rfl (by decide) (Nat.le_of_ble_eq_true rfl) hc (fun v_ M_ H_ q_ => ?_) rfl
      obtain ⟨rfl, rfl, rfl⟩ := q_
      refine y_if_le (t := 98) dX12_fits_79 (by decide) (fun q => ?_) (fun q => ?_)
      · replace h := h.1 q
        refine y_iconst (v := 0) dX12_fits_98 rfl ?_
        exact y_zret (v := eZi false) dX12_fits_99 rfl (eZi_nw _) (Nat.zero_le _) (Nat.zero_le _) ⟨_, rfl, h⟩
      · replace h := h.2 q
        refine y_aload_n 0 dX12_fits_82 rfl rfl ?_
        refine y_aload_n 1 dX12_fits_83 rfl rfl ?_
        refine y_iload_n 2 dX12_fits_84 rfl rfl ?_
        refine y_iload_n 3 dX12_fits_85 rfl rfl ?_
        refine y_iload 4 dX12_fits_86 rfl ?_
        obtain ⟨⟨fs_2, hi⟩, h⟩ := h
        obtain ⟨r_2, hc, h⟩ := h
        refine y_callV yXn (b' := (2, 0, 0)) (K' := kX12_against) (As := [.ref a1, .int x2, .int x3, .int x4]) (S := []) dX12_fits_88 mX12_against lMX12_51 clX12 rfl hi rfl (by decide) (Nat.le_of_ble_eq_true rfl) hc (fun v_ M_ H_ q_ => ?_) rfl
        obtain ⟨rfl, rfl, rfl⟩ := q_
        refine y_if_ge (t := 98) dX12_fits_91 (by decide) (fun q => ?_) (fun q => ?_)
        · replace h := h.1 q
          refine y_iconst (v := 0) dX12_fits_98 rfl ?_
          exact y_zret (v := eZi false) dX12_fits_99 rfl (eZi_nw _) (Nat.zero_le _) (Nat.zero_le _) ⟨_, rfl, h⟩
        · replace h := h.2 q
          refine y_iconst (v := 1) dX12_fits_94 rfl ?_
          refine y_goto (t := 99) dX12_fits_95 (by decide) ?_
          exact y_zret (v := eZi true) dX12_fits_99 rfl (eZi_nw _) (Nat.zero_le _) (Nat.zero_le _) ⟨_, rfl, h⟩
  · replace h := h.2 q
    refine y_aload 6 dX12_fits_40 rfl ?_
    refine y_iload 8 dX12_fits_42 rfl ?_
    obtain ⟨x_1, ⟨N_1, f_1, e1_1, e2_1, e3_1⟩, h⟩ := h
    refine y_ialdx dX12_fits_44 e1_1 e2_1 e3_1 ?_
    refine y_istore (i := 9) (l' := [(9, .int x_1), (0, .ref a0), (1, .ref a1), (2, .int x2), (3, .int x3), (4, .int x4), (5, .int x5), (6, .ref a6), (7, .int x7), (8, .int x8)]) dX12_fits_45 (by decide) rfl ?_
    refine y_iload 6 dX12_fits_47 rfl ?_
    refine y_iload 0 dX12_fits_49 rfl ?_
    refine y_if_ge (t := 58) dX12_fits_51 (by decide) (fun q => ?_) (fun q => ?_)
    · replace h := h.1 q
      refine y_iconst (v := 0) dX12_fits_58 rfl ?_
      refine y_iand dX12_fits_59 ?_
      refine y_istore (i := 5) (l' := [(5, .int (x5 &&& 0)), (9, .int x_1), (0, .ref a0), (1, .ref a1), (2, .int x2), (3, .int x3), (4, .int x4), (6, .ref a6), (7, .int x7), (8, .int x8)]) dX12_fits_60 (by decide) rfl ?_
      exact Yx.sub (ks := [2, 3, 4, 5, 6, 0, 7, 8, 9]) rfl h
    · replace h := h.2 q
      refine y_iconst (v := 1) dX12_fits_54 rfl ?_
      refine y_goto (t := 59) dX12_fits_55 (by decide) ?_
      refine y_iand dX12_fits_59 ?_
      refine y_istore (i := 5) (l' := [(5, .int (x5 &&& 1)), (9, .int x_1), (0, .ref a0), (1, .ref a1), (2, .int x2), (3, .int x3), (4, .int x4), (6, .ref a6), (7, .int x7), (8, .int x8)]) dX12_fits_60 (by decide) rfl ?_
      exact Yx.sub (ks := [2, 3, 4, 5, 6, 0, 7, 8, 9]) rfl h
set_option maxHeartbeats 4000000 in
set_option maxRecDepth 100000 in
theorem C_X12_fits (G : eG) (M : eM) (H : yH) (F : Bool → eM → yH → Prop) (a0 : Nat) (a1 : Nat) (x2 : Int32) (x3 : Int32) (x4 : Int32)
    (h : ∃ (b_1 : Nat), yG H a0 10 2 (.ref b_1) ∧ (∃ (b_2 : Nat), yER G 5 H b_1 x2 b_2 ∧ (∃ (x_3 : Int32), yEI G H b_2 3 x_3 ∧ ((((0 : Int32) ≤ x_3) → F false M H) ∧ ((¬ (0 : Int32) ≤ x_3) → ∃ (x_4 : Int32), yEI G H a1 x3 x_4 ∧ (((x_4 < (0 : Int32)) → ∃ (n_5 : Nat), yLn G 0 H a1 n_5 ∧ (Yx (yX "fits") (yZ G 0 0 (yFZ F)) G (eR (3, 0, 0)) kX12_fits 33 [(0, .ref a0), (1, .ref a1), (2, .int x2), (3, .int x3), (4, .int x4), (5, .int 1), (6, .ref a1), (7, .int (nI n_5)), (8, .int 0)] [] M H 0 0)) ∧ ((¬ x_4 < (0 : Int32)) → F false M H))))))) :
    yCal G (3, 0, 0) kX12_fits [.ref a0, .ref a1, .int x2, .int x3, .int x4] M H (yFZ F) := by
  refine yCal.of (by decide +kernel) rfl (Nat.le_of_ble_eq_true rfl) ?_
  show Yx (yX "fits") (yZ G 0 0 (yFZ F)) G (eR (3, 0, 0)) kX12_fits 0 [(0, .ref a0), (1, .ref a1), (2, .int x2), (3, .int x3), (4, .int x4)] [] M H 0 0
  refine y_aload_n 0 dX12_fits_0 rfl rfl ?_
  obtain ⟨b_1, ⟨fs_1, e1_1, e2_1⟩, h⟩ := h
  refine y_get (k := 2) dX12_fits_1 clX12 lFX12_18 (by decide) e1_1 e2_1 ?_
  refine y_iload_n 2 dX12_fits_4 rfl rfl ?_
  obtain ⟨b_2, ⟨N_2, f_2, e1_2, e2_2, e3_2⟩, h⟩ := h
  refine y_aald (t := 5) (ty := .array .int) dX12_fits_5 rfl rfl e1_2 e2_2 e3_2 ?_
  refine y_iconst (v := 3) dX12_fits_6 rfl ?_
  obtain ⟨x_3, ⟨N_3, f_3, e1_3, e2_3, e3_3⟩, h⟩ := h
  refine y_ialdx dX12_fits_7 e1_3 e2_3 e3_3 ?_
  refine y_if_ge (t := 17) dX12_fits_8 (by decide) (fun q => ?_) (fun q => ?_)
  · replace h := h.1 q
    refine y_iconst (v := 0) dX12_fits_17 rfl ?_
    exact y_zret (v := eZi false) dX12_fits_18 rfl (eZi_nw _) (Nat.zero_le _) (Nat.zero_le _) ⟨_, rfl, h⟩
  · replace h := h.2 q
    refine y_aload_n 1 dX12_fits_11 rfl rfl ?_
    refine y_iload_n 3 dX12_fits_12 rfl rfl ?_
    obtain ⟨x_4, ⟨N_4, f_4, e1_4, e2_4, e3_4⟩, h⟩ := h
    refine y_ialdx dX12_fits_13 e1_4 e2_4 e3_4 ?_
    refine y_if_lt (t := 19) dX12_fits_14 (by decide) (fun q => ?_) (fun q => ?_)
    · replace h := h.1 q
      refine y_iconst (v := 1) dX12_fits_19 rfl ?_
      refine y_istore (i := 5) (l' := [(5, .int 1), (0, .ref a0), (1, .ref a1), (2, .int x2), (3, .int x3), (4, .int x4)]) dX12_fits_20 (by decide) rfl ?_
      refine y_aload_n 2 dX12_fits_22 rfl rfl ?_
      refine y_astore (i := 6) (l' := [(6, .ref a1), (5, .int 1), (0, .ref a0), (1, .ref a1), (2, .int x2), (3, .int x3), (4, .int x4)]) dX12_fits_23 (by decide) rfl ?_
      refine y_aload 0 dX12_fits_25 rfl ?_
      obtain ⟨n_5, ⟨v_5, e1_5, e2_5⟩, h⟩ := h
      refine y_alenx (t := 0) (ty := .int) dX12_fits_27 rfl e1_5 e2_5 ?_
      refine y_istore (i := 7) (l' := [(7, .int (nI n_5)), (6, .ref a1), (5, .int 1), (0, .ref a0), (1, .ref a1), (2, .int x2), (3, .int x3), (4, .int x4)]) dX12_fits_28 (by decide) rfl ?_
      refine y_iconst (v := 0) dX12_fits_30 rfl ?_
      refine y_istore (i := 8) (l' := [(8, .int 0), (7, .int (nI n_5)), (6, .ref a1), (5, .int 1), (0, .ref a0), (1, .ref a1), (2, .int x2), (3, .int x3), (4, .int x4)]) dX12_fits_31 (by decide) rfl ?_
      exact Yx.sub (ks := [4, 5, 6, 7, 8, 3, 2, 1, 0]) rfl h
    · replace h := h.2 q
      refine y_iconst (v := 0) dX12_fits_17 rfl ?_
      exact y_zret (v := eZi false) dX12_fits_18 rfl (eZi_nw _) (Nat.zero_le _) (Nat.zero_le _) ⟨_, rfl, h⟩
set_option maxHeartbeats 4000000 in
set_option maxRecDepth 100000 in
theorem B_X12_ways_43 (G : eG) (M : eM) (H : yH) (F : Int32 → eM → yH → Prop) (a0 : Nat) (a1 : Nat) (x2 : Int32) (x3 : Int32) (x4 : Int32) (x5 : Int32)
    (h : Yx (yX "ways") (yZ G 0 0 (yFI F)) G (eR (4, 0, 0)) kX12_ways 15 [(0, .ref a0), (1, .ref a1), (2, .int x2), (3, .int x3), (4, .int x4), (5, .int (x5 + 1))] [] M H 0 0) :
    Yx (yX "ways") (yZ G 0 0 (yFI F)) G (eR (4, 0, 0)) kX12_ways 43 [(0, .ref a0), (1, .ref a1), (2, .int x2), (3, .int x3), (4, .int x4), (5, .int x5)] [] M H 0 0 := by
  refine y_iinc (v := x5 + 1) (l' := [(5, .int (x5 + 1)), (0, .ref a0), (1, .ref a1), (2, .int x2), (3, .int x3), (4, .int x4)]) 5 dX12_ways_43 rfl rfl (by decide) rfl ?_
  refine y_goto (t := 15) dX12_ways_46 (by decide) ?_
  exact Yx.sub (ks := [1, 2, 3, 4, 5, 0]) rfl h
set_option maxHeartbeats 4000000 in
set_option maxRecDepth 100000 in
theorem B_X12_ways_15 (G : eG) (M : eM) (H : yH) (F : Int32 → eM → yH → Prop) (a0 : Nat) (a1 : Nat) (x2 : Int32) (x3 : Int32) (x4 : Int32) (x5 : Int32)
    (h : (((6 : Int32) ≤ x5) → Yx (yX "ways") (yZ G 0 0 (yFI F)) G (eR (4, 0, 0)) kX12_ways 5 [(0, .ref a0), (1, .ref a1), (2, .int x2), (3, .int x3), (4, .int (x4 + 1))] [] M H 0 0) ∧ ((¬ (6 : Int32) ≤ x5) → yIs H a0 10 ∧ ∃ r_1 : Bool, yRd G (3, 0, 0) kX12_fits [.ref a0, .ref a1, .int x2, .int x4, .int x5] M H (.int (eZi r_1)) ∧ (((r_1 = false) → Yx (yX "ways") (yZ G 0 0 (yFI F)) G (eR (4, 0, 0)) kX12_ways 43 [(0, .ref a0), (1, .ref a1), (2, .int x2), (3, .int (x3 + 0)), (4, .int x4), (5, .int x5)] [] M H 0 0) ∧ ((r_1 = true) → Yx (yX "ways") (yZ G 0 0 (yFI F)) G (eR (4, 0, 0)) kX12_ways 43 [(0, .ref a0), (1, .ref a1), (2, .int x2), (3, .int (x3 + 1)), (4, .int x4), (5, .int x5)] [] M H 0 0)))) :
    Yx (yX "ways") (yZ G 0 0 (yFI F)) G (eR (4, 0, 0)) kX12_ways 15 [(0, .ref a0), (1, .ref a1), (2, .int x2), (3, .int x3), (4, .int x4), (5, .int x5)] [] M H 0 0 := by
  refine y_iload 5 dX12_ways_15 rfl ?_
  refine y_bipush (v := 6) dX12_ways_17 rfl ?_
  refine y_icmp_ge (t := 49) dX12_ways_19 (by decide) (fun q => ?_) (fun q => ?_)
  · replace h := h.1 q
    refine y_iinc (v := x4 + 1) (l' := [(4, .int (x4 + 1)), (0, .ref a0), (1, .ref a1), (2, .int x2), (3, .int x3), (5, .int x5)]) 4 dX12_ways_49 rfl rfl (by decide) rfl ?_
    refine y_goto (t := 5) dX12_ways_52 (by decide) ?_
    exact Yx.sub (ks := [1, 2, 3, 4, 0]) rfl h
  · replace h := h.2 q
    refine y_iload_n 3 dX12_ways_22 rfl rfl ?_
    refine y_aload_n 0 dX12_ways_23 rfl rfl ?_
    refine y_aload_n 1 dX12_ways_24 rfl rfl ?_
    refine y_iload_n 2 dX12_ways_25 rfl rfl ?_
    refine y_iload 4 dX12_ways_26 rfl ?_
    refine y_iload 5 dX12_ways_28 rfl ?_
    obtain ⟨⟨fs_1, hi⟩, h⟩ := h
    obtain ⟨r_1, hc, h⟩ := h
    refine y_callV yXn (b' := (3, 0, 0)) (K' := kX12_fits) (As := [.ref a1, .int x2, .int x4, .int x5]) (S := [.int x3]) dX12_ways_30 mX12_fits lMX12_55 clX12 rfl hi rfl (by decide) (Nat.le_of_ble_eq_true rfl) hc (fun v_ M_ H_ q_ => ?_) rfl
    obtain ⟨rfl, rfl, rfl⟩ := q_
    refine y_zif_eq (t := 40) dX12_ways_33 (by decide) (fun q => ?_) (fun q => ?_)
    · replace h := h.1 q
      refine y_iconst (v := 0) dX12_ways_40 rfl ?_
      refine y_iadd dX12_ways_41 ?_
      refine y_istore_n (i := 3) (l' := [(3, .int (x3 + 0)), (0, .ref a0), (1, .ref a1), (2, .int x2), (4, .int x4), (5, .int x5)]) dX12_ways_42 rfl (by decide) rfl ?_
      exact Yx.sub (ks := [1, 2, 3, 0, 4, 5]) rfl h
    · replace h := h.2 q
      refine y_iconst (v := 1) dX12_ways_36 rfl ?_
      refine y_goto (t := 41) dX12_ways_37 (by decide) ?_
      refine y_iadd dX12_ways_41 ?_
      refine y_istore_n (i := 3) (l' := [(3, .int (x3 + 1)), (0, .ref a0), (1, .ref a1), (2, .int x2), (4, .int x4), (5, .int x5)]) dX12_ways_42 rfl (by decide) rfl ?_
      exact Yx.sub (ks := [1, 2, 3, 0, 4, 5]) rfl h
set_option maxHeartbeats 4000000 in
set_option maxRecDepth 100000 in
theorem B_X12_ways_5 (G : eG) (M : eM) (H : yH) (F : Int32 → eM → yH → Prop) (a0 : Nat) (a1 : Nat) (x2 : Int32) (x3 : Int32) (x4 : Int32)
    (h : ∃ (n_1 : Nat), yLn G 0 H a1 n_1 ∧ ((((nI n_1) ≤ x4) → F x3 M H) ∧ ((¬ (nI n_1) ≤ x4) → Yx (yX "ways") (yZ G 0 0 (yFI F)) G (eR (4, 0, 0)) kX12_ways 15 [(0, .ref a0), (1, .ref a1), (2, .int x2), (3, .int x3), (4, .int x4), (5, .int 0)] [] M H 0 0))) :
    Yx (yX "ways") (yZ G 0 0 (yFI F)) G (eR (4, 0, 0)) kX12_ways 5 [(0, .ref a0), (1, .ref a1), (2, .int x2), (3, .int x3), (4, .int x4)] [] M H 0 0 := by
  refine y_iload 4 dX12_ways_5 rfl ?_
  refine y_aload_n 1 dX12_ways_7 rfl rfl ?_
  obtain ⟨n_1, ⟨v_1, e1_1, e2_1⟩, h⟩ := h
  refine y_alenx (t := 0) (ty := .int) dX12_ways_8 rfl e1_1 e2_1 ?_
  refine y_icmp_ge (t := 55) dX12_ways_9 (by decide) (fun q => ?_) (fun q => ?_)
  · replace h := h.1 q
    refine y_iload_n 3 dX12_ways_55 rfl rfl ?_
    exact y_iret dX12_ways_56 rfl (Nat.zero_le _) (Nat.zero_le _) ⟨_, rfl, h⟩
  · replace h := h.2 q
    refine y_iconst (v := 0) dX12_ways_12 rfl ?_
    refine y_istore (i := 5) (l' := [(5, .int 0), (0, .ref a0), (1, .ref a1), (2, .int x2), (3, .int x3), (4, .int x4)]) dX12_ways_13 (by decide) rfl ?_
    exact Yx.sub (ks := [1, 2, 3, 4, 5, 0]) rfl h
set_option maxHeartbeats 4000000 in
set_option maxRecDepth 100000 in
theorem C_X12_ways (G : eG) (M : eM) (H : yH) (F : Int32 → eM → yH → Prop) (a0 : Nat) (a1 : Nat) (x2 : Int32)
    (h : Yx (yX "ways") (yZ G 0 0 (yFI F)) G (eR (4, 0, 0)) kX12_ways 5 [(0, .ref a0), (1, .ref a1), (2, .int x2), (3, .int 0), (4, .int 0)] [] M H 0 0) :
    yCal G (4, 0, 0) kX12_ways [.ref a0, .ref a1, .int x2] M H (yFI F) := by
  refine yCal.of (by decide +kernel) rfl (Nat.le_of_ble_eq_true rfl) ?_
  show Yx (yX "ways") (yZ G 0 0 (yFI F)) G (eR (4, 0, 0)) kX12_ways 0 [(0, .ref a0), (1, .ref a1), (2, .int x2)] [] M H 0 0
  refine y_iconst (v := 0) dX12_ways_0 rfl ?_
  refine y_istore_n (i := 3) (l' := [(3, .int 0), (0, .ref a0), (1, .ref a1), (2, .int x2)]) dX12_ways_1 rfl (by decide) rfl ?_
  refine y_iconst (v := 0) dX12_ways_2 rfl ?_
  refine y_istore (i := 4) (l' := [(4, .int 0), (3, .int 0), (0, .ref a0), (1, .ref a1), (2, .int x2)]) dX12_ways_3 (by decide) rfl ?_
  exact Yx.sub (ks := [2, 3, 4, 1, 0]) rfl h
set_option maxHeartbeats 4000000 in
set_option maxRecDepth 100000 in
theorem B_X12_fit_16 (G : eG) (ca sl : Nat) (M : eM) (H : yH) (F : Bool → eM → yH → Prop) (a0 : Nat) (x1 : Int32) (a2 : Nat) (x3 : Int32) (x4 : Int32)
    (h : (((6 : Int32) ≤ x4) → Yx (yX "fit") (yZ G 1 49 (yFZ F)) G (eR (4, 1, 49)) kX12_fit 7 [(0, .ref a0), (1, .int x1), (2, .ref a2), (3, .int (x3 + 1))] [] M H ca sl) ∧ ((¬ (6 : Int32) ≤ x4) → (ca + 0 ≤ 1 ∧ sl + 0 ≤ 49) ∧ yIs H a0 10 ∧ ∃ r_1 : Bool, yRd G (3, 0, 0) kX12_fits [.ref a0, .ref a2, .int x1, .int x3, .int x4] M H (.int (eZi r_1)) ∧ (((r_1 = true) → ∃ (b_2 : Nat), yG H a0 10 2 (.ref b_2) ∧ (∃ (b_3 : Nat), yER G 5 H b_2 x1 b_3 ∧ (∃ (N_4 : Nat) (f_4 : Nat → Int32), H b_3 = some (.inl (G.2.2.2 0, (N_4, .inl f_4))) ∧ vp_in 3 N_4 ∧ (∃ (b_5 : Nat), yG (yU H b_3 (.inl (G.2.2.2 0, (N_4, .inl (upd f_4 (3 : Int32).toNatClampNeg x3))))) a0 10 2 (.ref b_5) ∧ (∃ (b_6 : Nat), yER G 5 (yU H b_3 (.inl (G.2.2.2 0, (N_4, .inl (upd f_4 (3 : Int32).toNatClampNeg x3))))) b_5 x1 b_6 ∧ (∃ (N_7 : Nat) (f_7 : Nat → Int32), (yU H b_3 (.inl (G.2.2.2 0, (N_4, .inl (upd f_4 (3 : Int32).toNatClampNeg x3))))) b_6 = some (.inl (G.2.2.2 0, (N_7, .inl f_7))) ∧ vp_in 4 N_7 ∧ ((ca ≤ 1 ∧ sl ≤ 49) ∧ F true M (yU (yU H b_3 (.inl (G.2.2.2 0, (N_4, .inl (upd f_4 (3 : Int32).toNatClampNeg x3))))) b_6 (.inl (G.2.2.2 0, (N_7, .inl (upd f_7 (4 : Int32).toNatClampNeg x4)))))))))))) ∧ ((r_1 = false) → Yx (yX "fit") (yZ G 1 49 (yFZ F)) G (eR (4, 1, 49)) kX12_fit 16 [(0, .ref a0), (1, .int x1), (2, .ref a2), (3, .int x3), (4, .int (x4 + 1))] [] M H ca sl)))) :
    Yx (yX "fit") (yZ G 1 49 (yFZ F)) G (eR (4, 1, 49)) kX12_fit 16 [(0, .ref a0), (1, .int x1), (2, .ref a2), (3, .int x3), (4, .int x4)] [] M H ca sl := by
  refine y_iload 4 dX12_fit_16 rfl ?_
  refine y_bipush (v := 6) dX12_fit_18 rfl ?_
  refine y_icmp_ge (t := 65) dX12_fit_20 (by decide) (fun q => ?_) (fun q => ?_)
  · replace h := h.1 q
    refine y_iinc (v := x3 + 1) (l' := [(3, .int (x3 + 1)), (0, .ref a0), (1, .int x1), (2, .ref a2), (4, .int x4)]) 3 dX12_fit_65 rfl rfl (by decide) rfl ?_
    refine y_goto (t := 7) dX12_fit_68 (by decide) ?_
    exact Yx.sub (ks := [1, 2, 3, 0]) rfl h
  · replace h := h.2 q
    refine y_aload_n 0 dX12_fit_23 rfl rfl ?_
    refine y_aload_n 2 dX12_fit_24 rfl rfl ?_
    refine y_iload_n 1 dX12_fit_25 rfl rfl ?_
    refine y_iload_n 3 dX12_fit_26 rfl rfl ?_
    refine y_iload 4 dX12_fit_27 rfl ?_
    have hb := h.1
    replace h := h.2
    obtain ⟨⟨fs_1, hi⟩, h⟩ := h
    obtain ⟨r_1, hc, h⟩ := h
    refine y_callV yXn (b' := (3, 0, 0)) (K' := kX12_fits) (As := [.ref a2, .int x1, .int x3, .int x4]) (S := []) dX12_fit_29 mX12_fits lMX12_55 clX12 rfl hi rfl ⟨(by decide), hb⟩ (Nat.le_of_ble_eq_true rfl) hc (fun v_ M_ H_ q_ => ?_) rfl
    obtain ⟨rfl, rfl, rfl⟩ := q_
    refine y_zif_ne (t := 38) dX12_fit_32 (by decide) (fun q => ?_) (fun q => ?_)
    · replace h := h.1 q
      refine y_aload_n 0 dX12_fit_38 rfl rfl ?_
      obtain ⟨b_2, ⟨fs_2, e1_2, e2_2⟩, h⟩ := h
      refine y_get (k := 2) dX12_fit_39 clX12 lFX12_18 (by decide) e1_2 e2_2 ?_
      refine y_iload_n 1 dX12_fit_42 rfl rfl ?_
      obtain ⟨b_3, ⟨N_3, f_3, e1_3, e2_3, e3_3⟩, h⟩ := h
      refine y_aald (t := 5) (ty := .array .int) dX12_fit_43 rfl rfl e1_3 e2_3 e3_3 ?_
      refine y_iconst (v := 3) dX12_fit_44 rfl ?_
      refine y_iload_n 3 dX12_fit_45 rfl rfl ?_
      obtain ⟨N_4, f_4, e1_4, e2_4, h⟩ := h
      refine y_iast yXn dX12_fit_46 e1_4 e2_4 ?_
      refine y_aload_n 0 dX12_fit_47 rfl rfl ?_
      obtain ⟨b_5, ⟨fs_5, e1_5, e2_5⟩, h⟩ := h
      refine y_get (k := 2) dX12_fit_48 clX12 lFX12_18 (by decide) e1_5 e2_5 ?_
      refine y_iload_n 1 dX12_fit_51 rfl rfl ?_
      obtain ⟨b_6, ⟨N_6, f_6, e1_6, e2_6, e3_6⟩, h⟩ := h
      refine y_aald (t := 5) (ty := .array .int) dX12_fit_52 rfl rfl e1_6 e2_6 e3_6 ?_
      refine y_iconst (v := 4) dX12_fit_53 rfl ?_
      refine y_iload 4 dX12_fit_54 rfl ?_
      obtain ⟨N_7, f_7, e1_7, e2_7, h⟩ := h
      refine y_iast yXn dX12_fit_56 e1_7 e2_7 ?_
      refine y_iconst (v := 1) dX12_fit_57 rfl ?_
      have hb := h.1
      replace h := h.2
      exact y_zret (v := eZi true) dX12_fit_58 rfl (eZi_nw _) hb.1 hb.2 ⟨_, rfl, h⟩
    · replace h := h.2 q
      refine y_goto (t := 59) dX12_fit_35 (by decide) ?_
      refine y_iinc (v := x4 + 1) (l' := [(4, .int (x4 + 1)), (0, .ref a0), (1, .int x1), (2, .ref a2), (3, .int x3)]) 4 dX12_fit_59 rfl rfl (by decide) rfl ?_
      refine y_goto (t := 16) dX12_fit_62 (by decide) ?_
      exact Yx.sub (ks := [1, 2, 3, 4, 0]) rfl h
set_option maxHeartbeats 4000000 in
set_option maxRecDepth 100000 in
theorem B_X12_fit_7 (G : eG) (ca sl : Nat) (M : eM) (H : yH) (F : Bool → eM → yH → Prop) (a0 : Nat) (x1 : Int32) (a2 : Nat) (x3 : Int32)
    (h : ∃ (n_1 : Nat), yLn G 0 H a2 n_1 ∧ ((((nI n_1) ≤ x3) → (ca ≤ 1 ∧ sl ≤ 49) ∧ F false M H) ∧ ((¬ (nI n_1) ≤ x3) → Yx (yX "fit") (yZ G 1 49 (yFZ F)) G (eR (4, 1, 49)) kX12_fit 16 [(0, .ref a0), (1, .int x1), (2, .ref a2), (3, .int x3), (4, .int 0)] [] M H ca sl))) :
    Yx (yX "fit") (yZ G 1 49 (yFZ F)) G (eR (4, 1, 49)) kX12_fit 7 [(0, .ref a0), (1, .int x1), (2, .ref a2), (3, .int x3)] [] M H ca sl := by
  refine y_iload_n 3 dX12_fit_7 rfl rfl ?_
  refine y_aload_n 2 dX12_fit_8 rfl rfl ?_
  obtain ⟨n_1, ⟨v_1, e1_1, e2_1⟩, h⟩ := h
  refine y_alenx (t := 0) (ty := .int) dX12_fit_9 rfl e1_1 e2_1 ?_
  refine y_icmp_ge (t := 71) dX12_fit_10 (by decide) (fun q => ?_) (fun q => ?_)
  · replace h := h.1 q
    refine y_iconst (v := 0) dX12_fit_71 rfl ?_
    have hb := h.1
    replace h := h.2
    exact y_zret (v := eZi false) dX12_fit_72 rfl (eZi_nw _) hb.1 hb.2 ⟨_, rfl, h⟩
  · replace h := h.2 q
    refine y_iconst (v := 0) dX12_fit_13 rfl ?_
    refine y_istore (i := 4) (l' := [(4, .int 0), (0, .ref a0), (1, .int x1), (2, .ref a2), (3, .int x3)]) dX12_fit_14 (by decide) rfl ?_
    exact Yx.sub (ks := [1, 2, 3, 4, 0]) rfl h
set_option maxHeartbeats 4000000 in
set_option maxRecDepth 100000 in
theorem C_X12_fit (G : eG) (M : eM) (H : yH) (F : Bool → eM → yH → Prop) (a0 : Nat) (x1 : Int32)
    (h : (0 + 1 ≤ 1 ∧ 0 + 49 ≤ 49) ∧ yIs H a0 10 ∧ yCal G (1, 1, 49) kX12_board [.ref a0] M H (yFR (fun (r_1 : Nat) (M_1 : eM) (H_1 : yH) => Yx (yX "fit") (yZ G 1 49 (yFZ F)) G (eR (4, 1, 49)) kX12_fit 7 [(0, .ref a0), (1, .int x1), (2, .ref r_1), (3, .int 0)] [] M_1 H_1 (0 + 1) (0 + 49)))) :
    yCal G (4, 1, 49) kX12_fit [.ref a0, .int x1] M H (yFZ F) := by
  refine yCal.of (by decide +kernel) rfl (Nat.le_of_ble_eq_true rfl) ?_
  show Yx (yX "fit") (yZ G 1 49 (yFZ F)) G (eR (4, 1, 49)) kX12_fit 0 [(0, .ref a0), (1, .int x1)] [] M H 0 0
  refine y_aload_n 0 dX12_fit_0 rfl rfl ?_
  have hb := h.1
  replace h := h.2
  obtain ⟨⟨fs_1, hi⟩, h⟩ := h
  refine y_callV yXn (b' := (1, 1, 49)) (K' := kX12_board) (As := []) (S := []) dX12_fit_1 mX12_board lMX12_59 clX12 rfl hi rfl ⟨(by decide), hb⟩ (Nat.le_of_ble_eq_true rfl) h (fun v_ M_1 H_1 q_ => ?_) rfl
  obtain ⟨r_1, rfl, h⟩ := q_
  refine y_astore_n (i := 2) (l' := [(2, .ref r_1), (0, .ref a0), (1, .int x1)]) dX12_fit_4 rfl (by decide) rfl ?_
  refine y_iconst (v := 0) dX12_fit_5 rfl ?_
  refine y_istore_n (i := 3) (l' := [(3, .int 0), (2, .ref r_1), (0, .ref a0), (1, .int x1)]) dX12_fit_6 rfl (by decide) rfl ?_
  exact Yx.sub (ks := [2, 3, 1, 0]) rfl h
set_option maxHeartbeats 4000000 in
set_option maxRecDepth 100000 in
theorem B_X12_counts_54 (G : eG) (ca sl : Nat) (M : eM) (H : yH) (F : Nat → eM → yH → Prop) (a0 : Nat) (a1 : Nat) (a2 : Nat) (x3 : Int32) (x4 : Int32)
    (h : (((6 : Int32) ≤ x4) → Yx (yX "counts") (yZ G 2 54 (yFR F)) G (eR (3, 2, 54)) kX12_counts 11 [(0, .ref a0), (1, .ref a1), (2, .ref a2), (3, .int (x3 + 1))] [] M H ca sl) ∧ ((¬ (6 : Int32) ≤ x4) → (ca + 0 ≤ 2 ∧ sl + 0 ≤ 54) ∧ yIs H a0 10 ∧ ∃ r_1 : Int32, yRd G (1, 0, 0) kX12_beside [.ref a0, .int x3, .int x4] M H (.int r_1) ∧ (((r_1 < (0 : Int32)) → Yx (yX "counts") (yZ G 2 54 (yFR F)) G (eR (3, 2, 54)) kX12_counts 54 [(0, .ref a0), (1, .ref a1), (2, .ref a2), (3, .int x3), (4, .int (x4 + 1))] [] M H ca sl) ∧ ((¬ r_1 < (0 : Int32)) → ∃ (x_2 : Int32), yEI G H a1 r_1 x_2 ∧ ((((0 : Int32) ≤ x_2) → ∃ (x_3 : Int32), yEI G H a2 0 x_3 ∧ (∃ (N_4 : Nat) (f_4 : Nat → Int32), H a2 = some (.inl (G.2.2.2 0, (N_4, .inl f_4))) ∧ vp_in 0 N_4 ∧ (∃ (x_5 : Int32), yEI G (yU H a2 (.inl (G.2.2.2 0, (N_4, .inl (upd f_4 (0 : Int32).toNatClampNeg (x_3 + 1)))))) a2 1 x_5 ∧ (∃ (b_6 : Nat), yG (yU H a2 (.inl (G.2.2.2 0, (N_4, .inl (upd f_4 (0 : Int32).toNatClampNeg (x_3 + 1)))))) a0 10 2 (.ref b_6) ∧ (∃ (x_7 : Int32), yEI G (yU H a2 (.inl (G.2.2.2 0, (N_4, .inl (upd f_4 (0 : Int32).toNatClampNeg (x_3 + 1)))))) a1 x3 x_7 ∧ (∃ (b_8 : Nat), yER G 5 (yU H a2 (.inl (G.2.2.2 0, (N_4, .inl (upd f_4 (0 : Int32).toNatClampNeg (x_3 + 1)))))) b_6 x_7 b_8 ∧ (∃ (b_9 : Nat), yG (yU H a2 (.inl (G.2.2.2 0, (N_4, .inl (upd f_4 (0 : Int32).toNatClampNeg (x_3 + 1)))))) a0 10 2 (.ref b_9) ∧ (∃ (x_10 : Int32), yEI G (yU H a2 (.inl (G.2.2.2 0, (N_4, .inl (upd f_4 (0 : Int32).toNatClampNeg (x_3 + 1)))))) a1 x3 x_10 ∧ (∃ (b_11 : Nat), yER G 5 (yU H a2 (.inl (G.2.2.2 0, (N_4, .inl (upd f_4 (0 : Int32).toNatClampNeg (x_3 + 1)))))) b_9 x_10 b_11 ∧ (∃ (x_12 : Int32), yEI G (yU H a2 (.inl (G.2.2.2 0, (N_4, .inl (upd f_4 (0 : Int32).toNatClampNeg (x_3 + 1)))))) b_11 4 x_12 ∧ ((ca + 0 ≤ 2 ∧ sl + 0 ≤ 54) ∧ yIs (yU H a2 (.inl (G.2.2.2 0, (N_4, .inl (upd f_4 (0 : Int32).toNatClampNeg (x_3 + 1)))))) a0 10 ∧ ∃ r_13 : Int32, yRd G (1, 0, 0) kX12_number [.ref a0, .ref b_8, .int x_12, .int x4] M (yU H a2 (.inl (G.2.2.2 0, (N_4, .inl (upd f_4 (0 : Int32).toNatClampNeg (x_3 + 1)))))) (.int r_13) ∧ (∃ (N_14 : Nat) (f_14 : Nat → Int32), (yU H a2 (.inl (G.2.2.2 0, (N_4, .inl (upd f_4 (0 : Int32).toNatClampNeg (x_3 + 1)))))) a2 = some (.inl (G.2.2.2 0, (N_14, .inl f_14))) ∧ vp_in 1 N_14 ∧ (Yx (yX "counts") (yZ G 2 54 (yFR F)) G (eR (3, 2, 54)) kX12_counts 54 [(0, .ref a0), (1, .ref a1), (2, .ref a2), (3, .int x3), (4, .int (x4 + 1))] [] M (yU (yU H a2 (.inl (G.2.2.2 0, (N_4, .inl (upd f_4 (0 : Int32).toNatClampNeg (x_3 + 1)))))) a2 (.inl (G.2.2.2 0, (N_14, .inl (upd f_14 (1 : Int32).toNatClampNeg (x_5 + r_13)))))) ca sl))))))))))))) ∧ ((¬ (0 : Int32) ≤ x_2) → Yx (yX "counts") (yZ G 2 54 (yFR F)) G (eR (3, 2, 54)) kX12_counts 54 [(0, .ref a0), (1, .ref a1), (2, .ref a2), (3, .int x3), (4, .int (x4 + 1))] [] M H ca sl)))))) :
    Yx (yX "counts") (yZ G 2 54 (yFR F)) G (eR (3, 2, 54)) kX12_counts 54 [(0, .ref a0), (1, .ref a1), (2, .ref a2), (3, .int x3), (4, .int x4)] [] M H ca sl := by
  refine y_iload 4 dX12_counts_54 rfl ?_
  refine y_bipush (v := 6) dX12_counts_56 rfl ?_
  refine y_icmp_ge (t := 128) dX12_counts_58 (by decide) (fun q => ?_) (fun q => ?_)
  · replace h := h.1 q
    refine y_iinc (v := x3 + 1) (l' := [(3, .int (x3 + 1)), (0, .ref a0), (1, .ref a1), (2, .ref a2), (4, .int x4)]) 3 dX12_counts_128 rfl rfl (by decide) rfl ?_
    refine y_goto (t := 11) dX12_counts_131 (by decide) ?_
    exact Yx.sub (ks := [1, 2, 3, 0]) rfl h
  · replace h := h.2 q
    refine y_aload_n 0 dX12_counts_61 rfl rfl ?_
    refine y_iload_n 3 dX12_counts_62 rfl rfl ?_
    refine y_iload 4 dX12_counts_63 rfl ?_
    have hb := h.1
    replace h := h.2
    obtain ⟨⟨fs_1, hi⟩, h⟩ := h
    obtain ⟨r_1, hc, h⟩ := h
    refine y_callV yXn (b' := (1, 0, 0)) (K' := kX12_beside) (As := [.int x3, .int x4]) (S := []) dX12_counts_65 mX12_beside lMX12_39 clX12 rfl hi rfl ⟨(by decide), hb⟩ (Nat.le_of_ble_eq_true rfl) hc (fun v_ M_ H_ q_ => ?_) rfl
    obtain ⟨rfl, rfl, rfl⟩ := q_
    refine y_istore (i := 5) (l' := [(5, .int r_1), (0, .ref a0), (1, .ref a1), (2, .ref a2), (3, .int x3), (4, .int x4)]) dX12_counts_68 (by decide) rfl ?_
    refine y_iload 0 dX12_counts_70 rfl ?_
    refine y_if_lt (t := 122) dX12_counts_72 (by decide) (fun q => ?_) (fun q => ?_)
    · replace h := h.1 q
      refine y_iinc (v := x4 + 1) (l' := [(4, .int (x4 + 1)), (5, .int r_1), (0, .ref a0), (1, .ref a1), (2, .ref a2), (3, .int x3)]) 5 dX12_counts_122 rfl rfl (by decide) rfl ?_
      refine y_goto (t := 54) dX12_counts_125 (by decide) ?_
      exact Yx.sub (ks := [2, 3, 4, 5, 0]) rfl h
    · replace h := h.2 q
      refine y_aload_n 2 dX12_counts_75 rfl rfl ?_
      refine y_iload 0 dX12_counts_76 rfl ?_
      obtain ⟨x_2, ⟨N_2, f_2, e1_2, e2_2, e3_2⟩, h⟩ := h
      refine y_ialdx dX12_counts_78 e1_2 e2_2 e3_2 ?_
      refine y_if_ge (t := 85) dX12_counts_79 (by decide) (fun q => ?_) (fun q => ?_)
      · replace h := h.1 q
        refine y_aload_n 3 dX12_counts_85 rfl rfl ?_
        refine y_iconst (v := 0) dX12_counts_86 rfl ?_
        refine y_dup2 dX12_counts_87 rfl rfl ?_
        obtain ⟨x_3, ⟨N_3, f_3, e1_3, e2_3, e3_3⟩, h⟩ := h
        refine y_ialdx dX12_counts_88 e1_3 e2_3 e3_3 ?_
        refine y_iconst (v := 1) dX12_counts_89 rfl ?_
        refine y_iadd dX12_counts_90 ?_
        obtain ⟨N_4, f_4, e1_4, e2_4, h⟩ := h
        refine y_iast yXn dX12_counts_91 e1_4 e2_4 ?_
        refine y_aload_n 3 dX12_counts_92 rfl rfl ?_
        refine y_iconst (v := 1) dX12_counts_93 rfl ?_
        refine y_dup2 dX12_counts_94 rfl rfl ?_
        obtain ⟨x_5, ⟨N_5, f_5, e1_5, e2_5, e3_5⟩, h⟩ := h
        refine y_ialdx dX12_counts_95 e1_5 e2_5 e3_5 ?_
        refine y_aload_n 1 dX12_counts_96 rfl rfl ?_
        refine y_aload_n 1 dX12_counts_97 rfl rfl ?_
        obtain ⟨b_6, ⟨fs_6, e1_6, e2_6⟩, h⟩ := h
        refine y_get (k := 2) dX12_counts_98 clX12 lFX12_18 (by decide) e1_6 e2_6 ?_
        refine y_aload_n 2 dX12_counts_101 rfl rfl ?_
        refine y_iload_n 4 dX12_counts_102 rfl rfl ?_
        obtain ⟨x_7, ⟨N_7, f_7, e1_7, e2_7, e3_7⟩, h⟩ := h
        refine y_ialdx dX12_counts_103 e1_7 e2_7 e3_7 ?_
        obtain ⟨b_8, ⟨N_8, f_8, e1_8, e2_8, e3_8⟩, h⟩ := h
        refine y_aald (t := 5) (ty := .array .int) dX12_counts_104 rfl rfl e1_8 e2_8 e3_8 ?_
        refine y_aload_n 1 dX12_counts_105 rfl rfl ?_
        obtain ⟨b_9, ⟨fs_9, e1_9, e2_9⟩, h⟩ := h
        refine y_get (k := 2) dX12_counts_106 clX12 lFX12_18 (by decide) e1_9 e2_9 ?_
        refine y_aload_n 2 dX12_counts_109 rfl rfl ?_
        refine y_iload_n 4 dX12_counts_110 rfl rfl ?_
        obtain ⟨x_10, ⟨N_10, f_10, e1_10, e2_10, e3_10⟩, h⟩ := h
        refine y_ialdx dX12_counts_111 e1_10 e2_10 e3_10 ?_
        obtain ⟨b_11, ⟨N_11, f_11, e1_11, e2_11, e3_11⟩, h⟩ := h
        refine y_aald (t := 5) (ty := .array .int) dX12_counts_112 rfl rfl e1_11 e2_11 e3_11 ?_
        refine y_iconst (v := 4) dX12_counts_113 rfl ?_
        obtain ⟨x_12, ⟨N_12, f_12, e1_12, e2_12, e3_12⟩, h⟩ := h
        refine y_ialdx dX12_counts_114 e1_12 e2_12 e3_12 ?_
        refine y_iload 5 dX12_counts_115 rfl ?_
        have hb := h.1
        replace h := h.2
        obtain ⟨⟨fs_13, hi⟩, h⟩ := h
        obtain ⟨r_13, hc, h⟩ := h
        refine y_callV yXn (b' := (1, 0, 0)) (K' := kX12_number) (As := [.ref b_8, .int x_12, .int x4]) (S := [.int x_5, .int 1, .ref a2]) dX12_counts_117 mX12_number lMX12_43 clX12 rfl hi rfl ⟨(by decide), hb⟩ (Nat.le_of_ble_eq_true rfl) hc (fun v_ M_ H_ q_ => ?_) rfl
        obtain ⟨rfl, rfl, rfl⟩ := q_
        refine y_iadd dX12_counts_120 ?_
        obtain ⟨N_14, f_14, e1_14, e2_14, h⟩ := h
        refine y_iast yXn dX12_counts_121 e1_14 e2_14 ?_
        refine y_iinc (v := x4 + 1) (l' := [(4, .int (x4 + 1)), (5, .int r_1), (0, .ref a0), (1, .ref a1), (2, .ref a2), (3, .int x3)]) 5 dX12_counts_122 rfl rfl (by decide) rfl ?_
        refine y_goto (t := 54) dX12_counts_125 (by decide) ?_
        exact Yx.sub (ks := [2, 3, 4, 5, 0]) rfl h
      · replace h := h.2 q
        refine y_goto (t := 122) dX12_counts_82 (by decide) ?_
        refine y_iinc (v := x4 + 1) (l' := [(4, .int (x4 + 1)), (5, .int r_1), (0, .ref a0), (1, .ref a1), (2, .ref a2), (3, .int x3)]) 5 dX12_counts_122 rfl rfl (by decide) rfl ?_
        refine y_goto (t := 54) dX12_counts_125 (by decide) ?_
        exact Yx.sub (ks := [2, 3, 4, 5, 0]) rfl h
set_option maxHeartbeats 4000000 in
set_option maxRecDepth 100000 in
theorem B_X12_counts_35 (G : eG) (ca sl : Nat) (M : eM) (H : yH) (F : Nat → eM → yH → Prop) (a0 : Nat) (a1 : Nat) (a2 : Nat) (x3 : Int32)
    (h : ∃ (x_1 : Int32), yEI G H a1 x3 x_1 ∧ ((((0 : Int32) ≤ x_1) → ∃ (x_2 : Int32), yEI G H a2 4 x_2 ∧ (∃ (N_3 : Nat) (f_3 : Nat → Int32), H a2 = some (.inl (G.2.2.2 0, (N_3, .inl f_3))) ∧ vp_in 4 N_3 ∧ (Yx (yX "counts") (yZ G 2 54 (yFR F)) G (eR (3, 2, 54)) kX12_counts 54 [(0, .ref a0), (1, .ref a1), (2, .ref a2), (3, .int x3), (4, .int 3)] [] M (yU H a2 (.inl (G.2.2.2 0, (N_3, .inl (upd f_3 (4 : Int32).toNatClampNeg (x_2 + 1)))))) ca sl))) ∧ ((¬ (0 : Int32) ≤ x_1) → Yx (yX "counts") (yZ G 2 54 (yFR F)) G (eR (3, 2, 54)) kX12_counts 11 [(0, .ref a0), (1, .ref a1), (2, .ref a2), (3, .int (x3 + 1))] [] M H ca sl))) :
    Yx (yX "counts") (yZ G 2 54 (yFR F)) G (eR (3, 2, 54)) kX12_counts 35 [(0, .ref a0), (1, .ref a1), (2, .ref a2), (3, .int x3)] [] M H ca sl := by
  refine y_aload_n 1 dX12_counts_35 rfl rfl ?_
  refine y_iload_n 3 dX12_counts_36 rfl rfl ?_
  obtain ⟨x_1, ⟨N_1, f_1, e1_1, e2_1, e3_1⟩, h⟩ := h
  refine y_ialdx dX12_counts_37 e1_1 e2_1 e3_1 ?_
  refine y_if_ge (t := 44) dX12_counts_38 (by decide) (fun q => ?_) (fun q => ?_)
  · replace h := h.1 q
    refine y_aload_n 2 dX12_counts_44 rfl rfl ?_
    refine y_iconst (v := 4) dX12_counts_45 rfl ?_
    refine y_dup2 dX12_counts_46 rfl rfl ?_
    obtain ⟨x_2, ⟨N_2, f_2, e1_2, e2_2, e3_2⟩, h⟩ := h
    refine y_ialdx dX12_counts_47 e1_2 e2_2 e3_2 ?_
    refine y_iconst (v := 1) dX12_counts_48 rfl ?_
    refine y_iadd dX12_counts_49 ?_
    obtain ⟨N_3, f_3, e1_3, e2_3, h⟩ := h
    refine y_iast yXn dX12_counts_50 e1_3 e2_3 ?_
    refine y_iconst (v := 3) dX12_counts_51 rfl ?_
    refine y_istore (i := 4) (l' := [(4, .int 3), (0, .ref a0), (1, .ref a1), (2, .ref a2), (3, .int x3)]) dX12_counts_52 (by decide) rfl ?_
    exact Yx.sub (ks := [1, 2, 3, 4, 0]) rfl h
  · replace h := h.2 q
    refine y_goto (t := 128) dX12_counts_41 (by decide) ?_
    refine y_iinc (v := x3 + 1) (l' := [(3, .int (x3 + 1)), (0, .ref a0), (1, .ref a1), (2, .ref a2)]) 3 dX12_counts_128 rfl rfl (by decide) rfl ?_
    refine y_goto (t := 11) dX12_counts_131 (by decide) ?_
    exact Yx.sub (ks := [1, 2, 3, 0]) rfl h
set_option maxHeartbeats 4000000 in
set_option maxRecDepth 100000 in
theorem B_X12_counts_11 (G : eG) (ca sl : Nat) (M : eM) (H : yH) (F : Nat → eM → yH → Prop) (a0 : Nat) (a1 : Nat) (a2 : Nat) (x3 : Int32)
    (h : ∃ (n_1 : Nat), yLn G 0 H a1 n_1 ∧ ((((nI n_1) ≤ x3) → ∃ (x_2 : Int32), yEI G H a2 1 x_2 ∧ (∃ (x_3 : Int32), yEI G H a2 2 x_3 ∧ (∃ (N_4 : Nat) (f_4 : Nat → Int32), H a2 = some (.inl (G.2.2.2 0, (N_4, .inl f_4))) ∧ vp_in 3 N_4 ∧ ((ca ≤ 2 ∧ sl ≤ 54) ∧ F a2 M (yU H a2 (.inl (G.2.2.2 0, (N_4, .inl (upd f_4 (3 : Int32).toNatClampNeg (x_2 + ((10 : Int32) * x_3))))))))))) ∧ ((¬ (nI n_1) ≤ x3) → (ca + 0 ≤ 2 ∧ sl + 0 ≤ 54) ∧ yIs H a0 10 ∧ ∃ r_2 : Int32, yRd G (2, 0, 0) kX12_many [.ref a0, .ref a1, .int x3] M H (.int r_2) ∧ (((¬ r_2 = (6 : Int32)) → Yx (yX "counts") (yZ G 2 54 (yFR F)) G (eR (3, 2, 54)) kX12_counts 35 [(0, .ref a0), (1, .ref a1), (2, .ref a2), (3, .int x3)] [] M H ca sl) ∧ ((r_2 = (6 : Int32)) → ∃ (x_3 : Int32), yEI G H a2 2 x_3 ∧ (∃ (N_4 : Nat) (f_4 : Nat → Int32), H a2 = some (.inl (G.2.2.2 0, (N_4, .inl f_4))) ∧ vp_in 2 N_4 ∧ (Yx (yX "counts") (yZ G 2 54 (yFR F)) G (eR (3, 2, 54)) kX12_counts 35 [(0, .ref a0), (1, .ref a1), (2, .ref a2), (3, .int x3)] [] M (yU H a2 (.inl (G.2.2.2 0, (N_4, .inl (upd f_4 (2 : Int32).toNatClampNeg (x_3 + 1)))))) ca sl))))))) :
    Yx (yX "counts") (yZ G 2 54 (yFR F)) G (eR (3, 2, 54)) kX12_counts 11 [(0, .ref a0), (1, .ref a1), (2, .ref a2), (3, .int x3)] [] M H ca sl := by
  refine y_iload_n 3 dX12_counts_11 rfl rfl ?_
  refine y_aload_n 1 dX12_counts_12 rfl rfl ?_
  obtain ⟨n_1, ⟨v_1, e1_1, e2_1⟩, h⟩ := h
  refine y_alenx (t := 0) (ty := .int) dX12_counts_13 rfl e1_1 e2_1 ?_
  refine y_icmp_ge (t := 134) dX12_counts_14 (by decide) (fun q => ?_) (fun q => ?_)
  · replace h := h.1 q
    refine y_aload_n 2 dX12_counts_134 rfl rfl ?_
    refine y_iconst (v := 3) dX12_counts_135 rfl ?_
    refine y_aload_n 2 dX12_counts_136 rfl rfl ?_
    refine y_iconst (v := 1) dX12_counts_137 rfl ?_
    obtain ⟨x_2, ⟨N_2, f_2, e1_2, e2_2, e3_2⟩, h⟩ := h
    refine y_ialdx dX12_counts_138 e1_2 e2_2 e3_2 ?_
    refine y_bipush (v := 10) dX12_counts_139 rfl ?_
    refine y_aload_n 2 dX12_counts_141 rfl rfl ?_
    refine y_iconst (v := 2) dX12_counts_142 rfl ?_
    obtain ⟨x_3, ⟨N_3, f_3, e1_3, e2_3, e3_3⟩, h⟩ := h
    refine y_ialdx dX12_counts_143 e1_3 e2_3 e3_3 ?_
    refine y_imul dX12_counts_144 ?_
    refine y_iadd dX12_counts_145 ?_
    obtain ⟨N_4, f_4, e1_4, e2_4, h⟩ := h
    refine y_iast yXn dX12_counts_146 e1_4 e2_4 ?_
    refine y_aload_n 2 dX12_counts_147 rfl rfl ?_
    have hb := h.1
    replace h := h.2
    exact y_aret dX12_counts_148 rfl (Or.inr ⟨_, rfl⟩) hb.1 hb.2 ⟨_, rfl, h⟩
  · replace h := h.2 q
    refine y_aload_n 0 dX12_counts_17 rfl rfl ?_
    refine y_aload_n 1 dX12_counts_18 rfl rfl ?_
    refine y_iload_n 3 dX12_counts_19 rfl rfl ?_
    have hb := h.1
    replace h := h.2
    obtain ⟨⟨fs_2, hi⟩, h⟩ := h
    obtain ⟨r_2, hc, h⟩ := h
    refine y_callV yXn (b' := (2, 0, 0)) (K' := kX12_many) (As := [.ref a1, .int x3]) (S := []) dX12_counts_20 mX12_many lMX12_47 clX12 rfl hi rfl ⟨(by decide), hb⟩ (Nat.le_of_ble_eq_true rfl) hc (fun v_ M_ H_ q_ => ?_) rfl
    obtain ⟨rfl, rfl, rfl⟩ := q_
    refine y_bipush (v := 6) dX12_counts_23 rfl ?_
    refine y_icmp_ne (t := 35) dX12_counts_25 (by decide) (fun q => ?_) (fun q => ?_)
    · replace h := h.1 q
      exact h
    · replace h := h.2 q
      refine y_aload_n 2 dX12_counts_28 rfl rfl ?_
      refine y_iconst (v := 2) dX12_counts_29 rfl ?_
      refine y_dup2 dX12_counts_30 rfl rfl ?_
      obtain ⟨x_3, ⟨N_3, f_3, e1_3, e2_3, e3_3⟩, h⟩ := h
      refine y_ialdx dX12_counts_31 e1_3 e2_3 e3_3 ?_
      refine y_iconst (v := 1) dX12_counts_32 rfl ?_
      refine y_iadd dX12_counts_33 ?_
      obtain ⟨N_4, f_4, e1_4, e2_4, h⟩ := h
      refine y_iast yXn dX12_counts_34 e1_4 e2_4 ?_
      exact h
set_option maxHeartbeats 4000000 in
set_option maxRecDepth 100000 in
theorem C_X12_counts (G : eG) (M : eM) (H : yH) (F : Nat → eM → yH → Prop) (a0 : Nat)
    (h : (0 + 1 ≤ 2 ∧ 0 + 49 ≤ 54) ∧ yIs H a0 10 ∧ yCal G (1, 1, 49) kX12_board [.ref a0] M H (yFR (fun (r_1 : Nat) (M_1 : eM) (H_1 : yH) => ∃ N_2 : Nat, (¬ (5 : Int32) < 0) ∧ (5 : Int32).toNatClampNeg = N_2 ∧ N_2 * 4 ≤ 536870912 ∧ ((0 + 1) + 1 ≤ 2 ∧ (0 + 49) + N_2 ≤ 54) ∧ ∀ q_2 : Nat, H_1 q_2 = none → (Yx (yX "counts") (yZ G 2 54 (yFR F)) G (eR (3, 2, 54)) kX12_counts 11 [(0, .ref a0), (1, .ref r_1), (2, .ref q_2), (3, .int 0)] [] M_1 (yU H_1 q_2 (.inl (G.2.2.2 0, (N_2, .inl (fun _ => 0))))) (0 + 1 + 1) (0 + 49 + N_2))))) :
    yCal G (3, 2, 54) kX12_counts [.ref a0] M H (yFR F) := by
  refine yCal.of (by decide +kernel) rfl (Nat.le_of_ble_eq_true rfl) ?_
  show Yx (yX "counts") (yZ G 2 54 (yFR F)) G (eR (3, 2, 54)) kX12_counts 0 [(0, .ref a0)] [] M H 0 0
  refine y_aload_n 0 dX12_counts_0 rfl rfl ?_
  have hb := h.1
  replace h := h.2
  obtain ⟨⟨fs_1, hi⟩, h⟩ := h
  refine y_callV yXn (b' := (1, 1, 49)) (K' := kX12_board) (As := []) (S := []) dX12_counts_1 mX12_board lMX12_59 clX12 rfl hi rfl ⟨(by decide), hb⟩ (Nat.le_of_ble_eq_true rfl) h (fun v_ M_1 H_1 q_ => ?_) rfl
  obtain ⟨r_1, rfl, h⟩ := q_
  refine y_astore_n (i := 1) (l' := [(1, .ref r_1), (0, .ref a0)]) dX12_counts_4 rfl (by decide) rfl ?_
  refine y_iconst (v := 5) dX12_counts_5 rfl ?_
  obtain ⟨N_2, z1_2, z2_2, z3_2, hb, h⟩ := h
  refine y_newi dX12_counts_6 z1_2 z2_2 z3_2 hb (fun q_2 hq => ?_)
  replace h := h q_2 hq
  refine y_astore_n (i := 2) (l' := [(2, .ref q_2), (1, .ref r_1), (0, .ref a0)]) dX12_counts_8 rfl (by decide) rfl ?_
  refine y_iconst (v := 0) dX12_counts_9 rfl ?_
  refine y_istore_n (i := 3) (l' := [(3, .int 0), (2, .ref q_2), (1, .ref r_1), (0, .ref a0)]) dX12_counts_10 rfl (by decide) rfl ?_
  exact Yx.sub (ks := [3, 2, 1, 0]) rfl h
set_option maxHeartbeats 4000000 in
set_option maxRecDepth 100000 in
theorem B_X12_groups_172 (G : eG) (ca sl : Nat) (M : eM) (H : yH) (F : Int32 → eM → yH → Prop) (a1 : Nat) (a2 : Nat) (x3 : Int32) (x5 : Int32)
    (h : Yx (yX "groups") (yZ G 2 98 (yFI F)) G (eR (2, 2, 98)) kX12_groups 148 [(1, .ref a1), (2, .ref a2), (3, .int x3), (5, .int (x5 + 1))] [] M H ca sl) :
    Yx (yX "groups") (yZ G 2 98 (yFI F)) G (eR (2, 2, 98)) kX12_groups 172 [(1, .ref a1), (2, .ref a2), (3, .int x3), (5, .int x5)] [] M H ca sl := by
  refine y_iinc (v := x5 + 1) (l' := [(5, .int (x5 + 1)), (1, .ref a1), (2, .ref a2), (3, .int x3)]) 3 dX12_groups_172 rfl rfl (by decide) rfl ?_
  refine y_goto (t := 148) dX12_groups_175 (by decide) ?_
  exact Yx.sub (ks := [1, 2, 3, 0]) rfl h
set_option maxHeartbeats 4000000 in
set_option maxRecDepth 100000 in
theorem B_X12_groups_148 (G : eG) (ca sl : Nat) (M : eM) (H : yH) (F : Int32 → eM → yH → Prop) (a1 : Nat) (a2 : Nat) (x3 : Int32) (x5 : Int32)
    (h : ∃ (n_1 : Nat), yLn G 0 H a1 n_1 ∧ ((((nI n_1) ≤ x5) → (ca ≤ 2 ∧ sl ≤ 98) ∧ F x3 M H) ∧ ((¬ (nI n_1) ≤ x5) → ∃ (x_2 : Int32), yEI G H a2 x5 x_2 ∧ (((¬ x_2 = x5) → Yx (yX "groups") (yZ G 2 98 (yFI F)) G (eR (2, 2, 98)) kX12_groups 172 [(1, .ref a1), (2, .ref a2), (3, .int (x3 + 0)), (5, .int x5)] [] M H ca sl) ∧ ((x_2 = x5) → Yx (yX "groups") (yZ G 2 98 (yFI F)) G (eR (2, 2, 98)) kX12_groups 172 [(1, .ref a1), (2, .ref a2), (3, .int (x3 + 1)), (5, .int x5)] [] M H ca sl))))) :
    Yx (yX "groups") (yZ G 2 98 (yFI F)) G (eR (2, 2, 98)) kX12_groups 148 [(1, .ref a1), (2, .ref a2), (3, .int x3), (5, .int x5)] [] M H ca sl := by
  refine y_iload 3 dX12_groups_148 rfl ?_
  refine y_aload_n 0 dX12_groups_150 rfl rfl ?_
  obtain ⟨n_1, ⟨v_1, e1_1, e2_1⟩, h⟩ := h
  refine y_alenx (t := 0) (ty := .int) dX12_groups_151 rfl e1_1 e2_1 ?_
  refine y_icmp_ge (t := 178) dX12_groups_152 (by decide) (fun q => ?_) (fun q => ?_)
  · replace h := h.1 q
    refine y_iload_n 2 dX12_groups_178 rfl rfl ?_
    have hb := h.1
    replace h := h.2
    exact y_iret dX12_groups_179 rfl hb.1 hb.2 ⟨_, rfl, h⟩
  · replace h := h.2 q
    refine y_iload_n 2 dX12_groups_155 rfl rfl ?_
    refine y_aload_n 1 dX12_groups_156 rfl rfl ?_
    refine y_iload 3 dX12_groups_157 rfl ?_
    obtain ⟨x_2, ⟨N_2, f_2, e1_2, e2_2, e3_2⟩, h⟩ := h
    refine y_ialdx dX12_groups_159 e1_2 e2_2 e3_2 ?_
    refine y_iload 3 dX12_groups_160 rfl ?_
    refine y_icmp_ne (t := 169) dX12_groups_162 (by decide) (fun q => ?_) (fun q => ?_)
    · replace h := h.1 q
      refine y_iconst (v := 0) dX12_groups_169 rfl ?_
      refine y_iadd dX12_groups_170 ?_
      refine y_istore_n (i := 3) (l' := [(3, .int (x3 + 0)), (1, .ref a1), (2, .ref a2), (5, .int x5)]) dX12_groups_171 rfl (by decide) rfl ?_
      exact Yx.sub (ks := [1, 2, 0, 3]) rfl h
    · replace h := h.2 q
      refine y_iconst (v := 1) dX12_groups_165 rfl ?_
      refine y_goto (t := 170) dX12_groups_166 (by decide) ?_
      refine y_iadd dX12_groups_170 ?_
      refine y_istore_n (i := 3) (l' := [(3, .int (x3 + 1)), (1, .ref a1), (2, .ref a2), (5, .int x5)]) dX12_groups_171 rfl (by decide) rfl ?_
      exact Yx.sub (ks := [1, 2, 0, 3]) rfl h
set_option maxHeartbeats 4000000 in
set_option maxRecDepth 100000 in
theorem B_X12_groups_69 (G : eG) (ca sl : Nat) (M : eM) (H : yH) (F : Int32 → eM → yH → Prop) (a0 : Nat) (a1 : Nat) (a2 : Nat) (x3 : Int32) (x4 : Int32) (x5 : Int32) (x6 : Int32)
    (h : (((6 : Int32) ≤ x6) → Yx (yX "groups") (yZ G 2 98 (yFI F)) G (eR (2, 2, 98)) kX12_groups 59 [(0, .ref a0), (1, .ref a1), (2, .ref a2), (3, .int x3), (4, .int x4), (5, .int (x5 + 1))] [] M H ca sl) ∧ ((¬ (6 : Int32) ≤ x6) → ∃ (x_1 : Int32), yEI G H a2 x5 x_1 ∧ (((x_1 < (0 : Int32)) → Yx (yX "groups") (yZ G 2 98 (yFI F)) G (eR (2, 2, 98)) kX12_groups 59 [(0, .ref a0), (1, .ref a1), (2, .ref a2), (3, .int x3), (4, .int x4), (5, .int (x5 + 1))] [] M H ca sl) ∧ ((¬ x_1 < (0 : Int32)) → (ca + 0 ≤ 2 ∧ sl + 0 ≤ 98) ∧ yIs H a0 10 ∧ ∃ r_2 : Int32, yRd G (1, 0, 0) kX12_beside [.ref a0, .int x5, .int x6] M H (.int r_2) ∧ (((r_2 < (0 : Int32)) → Yx (yX "groups") (yZ G 2 98 (yFI F)) G (eR (2, 2, 98)) kX12_groups 69 [(0, .ref a0), (1, .ref a1), (2, .ref a2), (3, .int x3), (4, .int x4), (5, .int x5), (6, .int (x6 + 1))] [] M H ca sl) ∧ ((¬ r_2 < (0 : Int32)) → ∃ (x_3 : Int32), yEI G H a2 r_2 x_3 ∧ (((x_3 < (0 : Int32)) → Yx (yX "groups") (yZ G 2 98 (yFI F)) G (eR (2, 2, 98)) kX12_groups 69 [(0, .ref a0), (1, .ref a1), (2, .ref a2), (3, .int x3), (4, .int x4), (5, .int x5), (6, .int (x6 + 1))] [] M H ca sl) ∧ ((¬ x_3 < (0 : Int32)) → ∃ (x_4 : Int32), yEI G H a2 r_2 x_4 ∧ (∃ (x_5 : Int32), yEI G H a2 x5 x_5 ∧ (((x_4 < x_5) → ∃ (x_6 : Int32), yEI G H a2 r_2 x_6 ∧ (∃ (N_7 : Nat) (f_7 : Nat → Int32), H a2 = some (.inl (G.2.2.2 0, (N_7, .inl f_7))) ∧ vp_in x5 N_7 ∧ (Yx (yX "groups") (yZ G 2 98 (yFI F)) G (eR (2, 2, 98)) kX12_groups 69 [(0, .ref a0), (1, .ref a1), (2, .ref a2), (3, .int x3), (4, .int 1), (5, .int x5), (6, .int (x6 + 1))] [] M (yU H a2 (.inl (G.2.2.2 0, (N_7, .inl (upd f_7 x5.toNatClampNeg x_6))))) ca sl))) ∧ ((¬ x_4 < x_5) → Yx (yX "groups") (yZ G 2 98 (yFI F)) G (eR (2, 2, 98)) kX12_groups 69 [(0, .ref a0), (1, .ref a1), (2, .ref a2), (3, .int x3), (4, .int x4), (5, .int x5), (6, .int (x6 + 1))] [] M H ca sl))))))))))) :
    Yx (yX "groups") (yZ G 2 98 (yFI F)) G (eR (2, 2, 98)) kX12_groups 69 [(0, .ref a0), (1, .ref a1), (2, .ref a2), (3, .int x3), (4, .int x4), (5, .int x5), (6, .int x6)] [] M H ca sl := by
  refine y_iload 6 dX12_groups_69 rfl ?_
  refine y_bipush (v := 6) dX12_groups_71 rfl ?_
  refine y_icmp_ge (t := 136) dX12_groups_73 (by decide) (fun q => ?_) (fun q => ?_)
  · replace h := h.1 q
    refine y_iinc (v := x5 + 1) (l' := [(5, .int (x5 + 1)), (0, .ref a0), (1, .ref a1), (2, .ref a2), (3, .int x3), (4, .int x4), (6, .int x6)]) 5 dX12_groups_136 rfl rfl (by decide) rfl ?_
    refine y_goto (t := 59) dX12_groups_139 (by decide) ?_
    exact Yx.sub (ks := [1, 2, 3, 4, 5, 0]) rfl h
  · replace h := h.2 q
    refine y_aload_n 2 dX12_groups_76 rfl rfl ?_
    refine y_iload 5 dX12_groups_77 rfl ?_
    obtain ⟨x_1, ⟨N_1, f_1, e1_1, e2_1, e3_1⟩, h⟩ := h
    refine y_ialdx dX12_groups_79 e1_1 e2_1 e3_1 ?_
    refine y_if_lt (t := 136) dX12_groups_80 (by decide) (fun q => ?_) (fun q => ?_)
    · replace h := h.1 q
      refine y_iinc (v := x5 + 1) (l' := [(5, .int (x5 + 1)), (0, .ref a0), (1, .ref a1), (2, .ref a2), (3, .int x3), (4, .int x4), (6, .int x6)]) 5 dX12_groups_136 rfl rfl (by decide) rfl ?_
      refine y_goto (t := 59) dX12_groups_139 (by decide) ?_
      exact Yx.sub (ks := [1, 2, 3, 4, 5, 0]) rfl h
    · replace h := h.2 q
      refine y_aload_n 0 dX12_groups_83 rfl rfl ?_
      refine y_iload 5 dX12_groups_84 rfl ?_
      refine y_iload 6 dX12_groups_86 rfl ?_
      have hb := h.1
      replace h := h.2
      obtain ⟨⟨fs_2, hi⟩, h⟩ := h
      obtain ⟨r_2, hc, h⟩ := h
      refine y_callV yXn (b' := (1, 0, 0)) (K' := kX12_beside) (As := [.int x5, .int x6]) (S := []) dX12_groups_88 mX12_beside lMX12_39 clX12 rfl hi rfl ⟨(by decide), hb⟩ (Nat.le_of_ble_eq_true rfl) hc (fun v_ M_ H_ q_ => ?_) rfl
      obtain ⟨rfl, rfl, rfl⟩ := q_
      refine y_istore (i := 7) (l' := [(7, .int r_2), (0, .ref a0), (1, .ref a1), (2, .ref a2), (3, .int x3), (4, .int x4), (5, .int x5), (6, .int x6)]) dX12_groups_91 (by decide) rfl ?_
      refine y_iload 0 dX12_groups_93 rfl ?_
      refine y_if_lt (t := 130) dX12_groups_95 (by decide) (fun q => ?_) (fun q => ?_)
      · replace h := h.1 q
        refine y_iinc (v := x6 + 1) (l' := [(6, .int (x6 + 1)), (7, .int r_2), (0, .ref a0), (1, .ref a1), (2, .ref a2), (3, .int x3), (4, .int x4), (5, .int x5)]) 7 dX12_groups_130 rfl rfl (by decide) rfl ?_
        refine y_goto (t := 69) dX12_groups_133 (by decide) ?_
        exact Yx.sub (ks := [2, 3, 4, 5, 6, 7, 0]) rfl h
      · replace h := h.2 q
        refine y_aload_n 3 dX12_groups_98 rfl rfl ?_
        refine y_iload 0 dX12_groups_99 rfl ?_
        obtain ⟨x_3, ⟨N_3, f_3, e1_3, e2_3, e3_3⟩, h⟩ := h
        refine y_ialdx dX12_groups_101 e1_3 e2_3 e3_3 ?_
        refine y_if_lt (t := 130) dX12_groups_102 (by decide) (fun q => ?_) (fun q => ?_)
        · replace h := h.1 q
          refine y_iinc (v := x6 + 1) (l' := [(6, .int (x6 + 1)), (7, .int r_2), (0, .ref a0), (1, .ref a1), (2, .ref a2), (3, .int x3), (4, .int x4), (5, .int x5)]) 7 dX12_groups_130 rfl rfl (by decide) rfl ?_
          refine y_goto (t := 69) dX12_groups_133 (by decide) ?_
          exact Yx.sub (ks := [2, 3, 4, 5, 6, 7, 0]) rfl h
        · replace h := h.2 q
          refine y_aload_n 3 dX12_groups_105 rfl rfl ?_
          refine y_iload 0 dX12_groups_106 rfl ?_
          obtain ⟨x_4, ⟨N_4, f_4, e1_4, e2_4, e3_4⟩, h⟩ := h
          refine y_ialdx dX12_groups_108 e1_4 e2_4 e3_4 ?_
          refine y_aload_n 3 dX12_groups_109 rfl rfl ?_
          refine y_iload 6 dX12_groups_110 rfl ?_
          obtain ⟨x_5, ⟨N_5, f_5, e1_5, e2_5, e3_5⟩, h⟩ := h
          refine y_ialdx dX12_groups_112 e1_5 e2_5 e3_5 ?_
          refine y_icmp_lt (t := 119) dX12_groups_113 (by decide) (fun q => ?_) (fun q => ?_)
          · replace h := h.1 q
            refine y_aload_n 3 dX12_groups_119 rfl rfl ?_
            refine y_iload 6 dX12_groups_120 rfl ?_
            refine y_aload_n 3 dX12_groups_122 rfl rfl ?_
            refine y_iload 0 dX12_groups_123 rfl ?_
            obtain ⟨x_6, ⟨N_6, f_6, e1_6, e2_6, e3_6⟩, h⟩ := h
            refine y_ialdx dX12_groups_125 e1_6 e2_6 e3_6 ?_
            obtain ⟨N_7, f_7, e1_7, e2_7, h⟩ := h
            refine y_iast yXn dX12_groups_126 e1_7 e2_7 ?_
            refine y_iconst (v := 1) dX12_groups_127 rfl ?_
            refine y_istore (i := 4) (l' := [(4, .int 1), (7, .int r_2), (0, .ref a0), (1, .ref a1), (2, .ref a2), (3, .int x3), (5, .int x5), (6, .int x6)]) dX12_groups_128 (by decide) rfl ?_
            refine y_iinc (v := x6 + 1) (l' := [(6, .int (x6 + 1)), (4, .int 1), (7, .int r_2), (0, .ref a0), (1, .ref a1), (2, .ref a2), (3, .int x3), (5, .int x5)]) 7 dX12_groups_130 rfl rfl (by decide) rfl ?_
            refine y_goto (t := 69) dX12_groups_133 (by decide) ?_
            exact Yx.sub (ks := [3, 4, 5, 6, 1, 7, 0]) rfl h
          · replace h := h.2 q
            refine y_goto (t := 130) dX12_groups_116 (by decide) ?_
            refine y_iinc (v := x6 + 1) (l' := [(6, .int (x6 + 1)), (7, .int r_2), (0, .ref a0), (1, .ref a1), (2, .ref a2), (3, .int x3), (4, .int x4), (5, .int x5)]) 7 dX12_groups_130 rfl rfl (by decide) rfl ?_
            refine y_goto (t := 69) dX12_groups_133 (by decide) ?_
            exact Yx.sub (ks := [2, 3, 4, 5, 6, 7, 0]) rfl h
set_option maxHeartbeats 4000000 in
set_option maxRecDepth 100000 in
theorem B_X12_groups_59 (G : eG) (ca sl : Nat) (M : eM) (H : yH) (F : Int32 → eM → yH → Prop) (a0 : Nat) (a1 : Nat) (a2 : Nat) (x3 : Int32) (x4 : Int32) (x5 : Int32)
    (h : ∃ (n_1 : Nat), yLn G 0 H a1 n_1 ∧ ((((nI n_1) ≤ x5) → Yx (yX "groups") (yZ G 2 98 (yFI F)) G (eR (2, 2, 98)) kX12_groups 48 [(0, .ref a0), (1, .ref a1), (2, .ref a2), (3, .int x3), (4, .int x4)] [] M H ca sl) ∧ ((¬ (nI n_1) ≤ x5) → Yx (yX "groups") (yZ G 2 98 (yFI F)) G (eR (2, 2, 98)) kX12_groups 69 [(0, .ref a0), (1, .ref a1), (2, .ref a2), (3, .int x3), (4, .int x4), (5, .int x5), (6, .int 0)] [] M H ca sl))) :
    Yx (yX "groups") (yZ G 2 98 (yFI F)) G (eR (2, 2, 98)) kX12_groups 59 [(0, .ref a0), (1, .ref a1), (2, .ref a2), (3, .int x3), (4, .int x4), (5, .int x5)] [] M H ca sl := by
  refine y_iload 5 dX12_groups_59 rfl ?_
  refine y_aload_n 1 dX12_groups_61 rfl rfl ?_
  obtain ⟨n_1, ⟨v_1, e1_1, e2_1⟩, h⟩ := h
  refine y_alenx (t := 0) (ty := .int) dX12_groups_62 rfl e1_1 e2_1 ?_
  refine y_icmp_ge (t := 142) dX12_groups_63 (by decide) (fun q => ?_) (fun q => ?_)
  · replace h := h.1 q
    refine y_goto (t := 48) dX12_groups_142 (by decide) ?_
    exact Yx.sub (ks := [0, 1, 2, 3, 4]) rfl h
  · replace h := h.2 q
    refine y_iconst (v := 0) dX12_groups_66 rfl ?_
    refine y_istore (i := 6) (l' := [(6, .int 0), (0, .ref a0), (1, .ref a1), (2, .ref a2), (3, .int x3), (4, .int x4), (5, .int x5)]) dX12_groups_67 (by decide) rfl ?_
    exact Yx.sub (ks := [1, 2, 3, 4, 5, 6, 0]) rfl h
set_option maxHeartbeats 4000000 in
set_option maxRecDepth 100000 in
theorem B_X12_groups_48 (G : eG) (ca sl : Nat) (M : eM) (H : yH) (F : Int32 → eM → yH → Prop) (a0 : Nat) (a1 : Nat) (a2 : Nat) (x3 : Int32) (x4 : Int32)
    (h : ((x4 = (0 : Int32)) → Yx (yX "groups") (yZ G 2 98 (yFI F)) G (eR (2, 2, 98)) kX12_groups 148 [(1, .ref a1), (2, .ref a2), (3, .int x3), (5, .int 0)] [] M H ca sl) ∧ ((¬ x4 = (0 : Int32)) → Yx (yX "groups") (yZ G 2 98 (yFI F)) G (eR (2, 2, 98)) kX12_groups 59 [(0, .ref a0), (1, .ref a1), (2, .ref a2), (3, .int x3), (4, .int 0), (5, .int 0)] [] M H ca sl)) :
    Yx (yX "groups") (yZ G 2 98 (yFI F)) G (eR (2, 2, 98)) kX12_groups 48 [(0, .ref a0), (1, .ref a1), (2, .ref a2), (3, .int x3), (4, .int x4)] [] M H ca sl := by
  refine y_iload 4 dX12_groups_48 rfl ?_
  refine y_if_eq (t := 145) dX12_groups_50 (by decide) (fun q => ?_) (fun q => ?_)
  · replace h := h.1 q
    refine y_iconst (v := 0) dX12_groups_145 rfl ?_
    refine y_istore (i := 5) (l' := [(5, .int 0), (0, .ref a0), (1, .ref a1), (2, .ref a2), (3, .int x3), (4, .int x4)]) dX12_groups_146 (by decide) rfl ?_
    exact Yx.sub (ks := [2, 3, 4, 0]) rfl h
  · replace h := h.2 q
    refine y_iconst (v := 0) dX12_groups_53 rfl ?_
    refine y_istore (i := 4) (l' := [(4, .int 0), (0, .ref a0), (1, .ref a1), (2, .ref a2), (3, .int x3)]) dX12_groups_54 (by decide) rfl ?_
    refine y_iconst (v := 0) dX12_groups_56 rfl ?_
    refine y_istore (i := 5) (l' := [(5, .int 0), (4, .int 0), (0, .ref a0), (1, .ref a1), (2, .ref a2), (3, .int x3)]) dX12_groups_57 (by decide) rfl ?_
    exact Yx.sub (ks := [2, 3, 4, 5, 1, 0]) rfl h
set_option maxHeartbeats 4000000 in
set_option maxRecDepth 100000 in
theorem B_X12_groups_39 (G : eG) (ca sl : Nat) (M : eM) (H : yH) (F : Int32 → eM → yH → Prop) (a0 : Nat) (a1 : Nat) (a2 : Nat) (x3 : Int32) (x4 : Int32)
    (h : Yx (yX "groups") (yZ G 2 98 (yFI F)) G (eR (2, 2, 98)) kX12_groups 15 [(0, .ref a0), (1, .ref a1), (2, .ref a2), (3, .int x3), (4, .int (x4 + 1))] [] M H ca sl) :
    Yx (yX "groups") (yZ G 2 98 (yFI F)) G (eR (2, 2, 98)) kX12_groups 39 [(0, .ref a0), (1, .ref a1), (2, .ref a2), (3, .int x3), (4, .int x4)] [] M H ca sl := by
  refine y_iinc (v := x4 + 1) (l' := [(4, .int (x4 + 1)), (0, .ref a0), (1, .ref a1), (2, .ref a2), (3, .int x3)]) 4 dX12_groups_39 rfl rfl (by decide) rfl ?_
  refine y_goto (t := 15) dX12_groups_42 (by decide) ?_
  exact Yx.sub (ks := [1, 2, 3, 4, 0]) rfl h
set_option maxHeartbeats 4000000 in
set_option maxRecDepth 100000 in
theorem B_X12_groups_15 (G : eG) (ca sl : Nat) (M : eM) (H : yH) (F : Int32 → eM → yH → Prop) (a0 : Nat) (a1 : Nat) (a2 : Nat) (x3 : Int32) (x4 : Int32)
    (h : ∃ (n_1 : Nat), yLn G 0 H a1 n_1 ∧ ((((nI n_1) ≤ x4) → Yx (yX "groups") (yZ G 2 98 (yFI F)) G (eR (2, 2, 98)) kX12_groups 48 [(0, .ref a0), (1, .ref a1), (2, .ref a2), (3, .int x3), (4, .int 1)] [] M H ca sl) ∧ ((¬ (nI n_1) ≤ x4) → ∃ (x_2 : Int32), yEI G H a1 x4 x_2 ∧ ((((0 : Int32) ≤ x_2) → ∃ (N_3 : Nat) (f_3 : Nat → Int32), H a2 = some (.inl (G.2.2.2 0, (N_3, .inl f_3))) ∧ vp_in x4 N_3 ∧ (Yx (yX "groups") (yZ G 2 98 (yFI F)) G (eR (2, 2, 98)) kX12_groups 39 [(0, .ref a0), (1, .ref a1), (2, .ref a2), (3, .int x3), (4, .int x4)] [] M (yU H a2 (.inl (G.2.2.2 0, (N_3, .inl (upd f_3 x4.toNatClampNeg x4))))) ca sl)) ∧ ((¬ (0 : Int32) ≤ x_2) → ∃ (N_3 : Nat) (f_3 : Nat → Int32), H a2 = some (.inl (G.2.2.2 0, (N_3, .inl f_3))) ∧ vp_in x4 N_3 ∧ (Yx (yX "groups") (yZ G 2 98 (yFI F)) G (eR (2, 2, 98)) kX12_groups 39 [(0, .ref a0), (1, .ref a1), (2, .ref a2), (3, .int x3), (4, .int x4)] [] M (yU H a2 (.inl (G.2.2.2 0, (N_3, .inl (upd f_3 x4.toNatClampNeg (-1)))))) ca sl)))))) :
    Yx (yX "groups") (yZ G 2 98 (yFI F)) G (eR (2, 2, 98)) kX12_groups 15 [(0, .ref a0), (1, .ref a1), (2, .ref a2), (3, .int x3), (4, .int x4)] [] M H ca sl := by
  refine y_iload 4 dX12_groups_15 rfl ?_
  refine y_aload_n 1 dX12_groups_17 rfl rfl ?_
  obtain ⟨n_1, ⟨v_1, e1_1, e2_1⟩, h⟩ := h
  refine y_alenx (t := 0) (ty := .int) dX12_groups_18 rfl e1_1 e2_1 ?_
  refine y_icmp_ge (t := 45) dX12_groups_19 (by decide) (fun q => ?_) (fun q => ?_)
  · replace h := h.1 q
    refine y_iconst (v := 1) dX12_groups_45 rfl ?_
    refine y_istore (i := 4) (l' := [(4, .int 1), (0, .ref a0), (1, .ref a1), (2, .ref a2), (3, .int x3)]) dX12_groups_46 (by decide) rfl ?_
    exact Yx.sub (ks := [1, 2, 3, 4, 0]) rfl h
  · replace h := h.2 q
    refine y_aload_n 2 dX12_groups_22 rfl rfl ?_
    refine y_iload 4 dX12_groups_23 rfl ?_
    refine y_aload_n 1 dX12_groups_25 rfl rfl ?_
    refine y_iload 4 dX12_groups_26 rfl ?_
    obtain ⟨x_2, ⟨N_2, f_2, e1_2, e2_2, e3_2⟩, h⟩ := h
    refine y_ialdx dX12_groups_28 e1_2 e2_2 e3_2 ?_
    refine y_if_ge (t := 36) dX12_groups_29 (by decide) (fun q => ?_) (fun q => ?_)
    · replace h := h.1 q
      refine y_iload 4 dX12_groups_36 rfl ?_
      obtain ⟨N_3, f_3, e1_3, e2_3, h⟩ := h
      refine y_iast yXn dX12_groups_38 e1_3 e2_3 ?_
      exact h
    · replace h := h.2 q
      refine y_iconst (v := (-1)) dX12_groups_32 rfl ?_
      refine y_goto (t := 38) dX12_groups_33 (by decide) ?_
      obtain ⟨N_3, f_3, e1_3, e2_3, h⟩ := h
      refine y_iast yXn dX12_groups_38 e1_3 e2_3 ?_
      exact h
set_option maxHeartbeats 4000000 in
set_option maxRecDepth 100000 in
theorem C_X12_groups (G : eG) (M : eM) (H : yH) (F : Int32 → eM → yH → Prop) (a0 : Nat)
    (h : (0 + 1 ≤ 2 ∧ 0 + 49 ≤ 98) ∧ yIs H a0 10 ∧ yCal G (1, 1, 49) kX12_board [.ref a0] M H (yFR (fun (r_1 : Nat) (M_1 : eM) (H_1 : yH) => ∃ (n_2 : Nat), yLn G 0 H_1 r_1 n_2 ∧ (∃ N_3 : Nat, (¬ (nI n_2) < 0) ∧ (nI n_2).toNatClampNeg = N_3 ∧ N_3 * 4 ≤ 536870912 ∧ ((0 + 1) + 1 ≤ 2 ∧ (0 + 49) + N_3 ≤ 98) ∧ ∀ q_3 : Nat, H_1 q_3 = none → (Yx (yX "groups") (yZ G 2 98 (yFI F)) G (eR (2, 2, 98)) kX12_groups 15 [(0, .ref a0), (1, .ref r_1), (2, .ref q_3), (3, .int 0), (4, .int 0)] [] M_1 (yU H_1 q_3 (.inl (G.2.2.2 0, (N_3, .inl (fun _ => 0))))) (0 + 1 + 1) (0 + 49 + N_3)))))) :
    yCal G (2, 2, 98) kX12_groups [.ref a0] M H (yFI F) := by
  refine yCal.of (by decide +kernel) rfl (Nat.le_of_ble_eq_true rfl) ?_
  show Yx (yX "groups") (yZ G 2 98 (yFI F)) G (eR (2, 2, 98)) kX12_groups 0 [(0, .ref a0)] [] M H 0 0
  refine y_aload_n 0 dX12_groups_0 rfl rfl ?_
  have hb := h.1
  replace h := h.2
  obtain ⟨⟨fs_1, hi⟩, h⟩ := h
  refine y_callV yXn (b' := (1, 1, 49)) (K' := kX12_board) (As := []) (S := []) dX12_groups_1 mX12_board lMX12_59 clX12 rfl hi rfl ⟨(by decide), hb⟩ (Nat.le_of_ble_eq_true rfl) h (fun v_ M_1 H_1 q_ => ?_) rfl
  obtain ⟨r_1, rfl, h⟩ := q_
  refine y_astore_n (i := 1) (l' := [(1, .ref r_1), (0, .ref a0)]) dX12_groups_4 rfl (by decide) rfl ?_
  refine y_aload_n 0 dX12_groups_5 rfl rfl ?_
  obtain ⟨n_2, ⟨v_2, e1_2, e2_2⟩, h⟩ := h
  refine y_alenx (t := 0) (ty := .int) dX12_groups_6 rfl e1_2 e2_2 ?_
  obtain ⟨N_3, z1_3, z2_3, z3_3, hb, h⟩ := h
  refine y_newi dX12_groups_7 z1_3 z2_3 z3_3 hb (fun q_3 hq => ?_)
  replace h := h q_3 hq
  refine y_astore_n (i := 2) (l' := [(2, .ref q_3), (1, .ref r_1), (0, .ref a0)]) dX12_groups_9 rfl (by decide) rfl ?_
  refine y_iconst (v := 0) dX12_groups_10 rfl ?_
  refine y_istore_n (i := 3) (l' := [(3, .int 0), (2, .ref q_3), (1, .ref r_1), (0, .ref a0)]) dX12_groups_11 rfl (by decide) rfl ?_
  refine y_iconst (v := 0) dX12_groups_12 rfl ?_
  refine y_istore (i := 4) (l' := [(4, .int 0), (3, .int 0), (2, .ref q_3), (1, .ref r_1), (0, .ref a0)]) dX12_groups_13 (by decide) rfl ?_
  exact Yx.sub (ks := [4, 3, 2, 1, 0]) rfl h
