set_option maxHeartbeats 4000000 in
set_option maxRecDepth 100000 in
theorem C_J0_coder_7d493 (G : eG) (M : eM) (H : yH) (F : Int32 → eM → yH → Prop) (a0 : Nat)
    (h : ∃ (x_1 : Int32), yG H a0 13 1 (.int x_1) ∧ (narrow .byte (.int x_1) = .int x_1 ∧ F x_1 M H)) :
    yCal G (1, 0, 0) kJ0_coder_7d493 [.ref a0] M H (yFI F) := by
  refine yCal.of (by decide +kernel) rfl (Nat.le_of_ble_eq_true rfl) ?_
  show Yx (yX "coder") (yZ G 0 0 (yFI F)) G (eR (1, 0, 0)) kJ0_coder_7d493 0 [(0, .ref a0)] [] M H 0 0
  refine y_gets (w := .int 1) dJ0_coder_7d493_0 lFJ0_38 (fun h => h.2.2.2.2.2.2.2.2.2.2.2.1) ?_
  refine y_if_eq (t := 13) dJ0_coder_7d493_3 (by decide) (fun q => ?_) (fun q => ?_)
  · exact absurd q (by decide)
  · refine y_aload_n 0 dJ0_coder_7d493_6 rfl rfl ?_
    obtain ⟨x_1, ⟨fs_1, e1_1, e2_1⟩, h⟩ := h
    refine y_get (k := 1) dJ0_coder_7d493_7 clJ0 lFJ0_15 (by decide) e1_1 e2_1 ?_
    refine y_goto (t := 14) dJ0_coder_7d493_10 (by decide) ?_
    exact y_zret (ty := .byte) dJ0_coder_7d493_14 rfl h.1 (Nat.zero_le _) (Nat.zero_le _) ⟨_, rfl, h.2⟩
set_option maxHeartbeats 4000000 in
set_option maxRecDepth 100000 in
theorem C_J0_coder_7d493_s (G : eG) {bs j : Nat} {tx : List (List Int32)} (hA : eStA G bs tx) (hj : j < tx.length) (M : eM) (H : yH) (F : Int32 → eM → yH → Prop) 
    (h : F 0 M H) :
    yCal G (1, 0, 0) kJ0_coder_7d493 [.ref (G.1 (bs + j))] M H (yFI F) := by
  refine yCal.of (by decide +kernel) rfl (Nat.le_of_ble_eq_true rfl) ?_
  show Yx (yX "coder") (yZ G 0 0 (yFI F)) G (eR (1, 0, 0)) kJ0_coder_7d493 0 [(0, .ref (G.1 (bs + j)))] [] M H 0 0
  refine y_gets (w := .int 1) dJ0_coder_7d493_0 lFJ0_38 (fun h => h.2.2.2.2.2.2.2.2.2.2.2.1) ?_
  refine y_if_eq (t := 13) dJ0_coder_7d493_3 (by decide) (fun q => ?_) (fun q => ?_)
  · exact absurd q (by decide)
  · refine y_aload_n 0 dJ0_coder_7d493_6 rfl rfl ?_
    refine y_scod hA hj dJ0_coder_7d493_7 lFJ0_15 ?_
    refine y_goto (t := 14) dJ0_coder_7d493_10 (by decide) ?_
    exact y_zret (v := 0) (ty := .byte) dJ0_coder_7d493_14 rfl rfl (Nat.zero_le _) (Nat.zero_le _) ⟨_, rfl, h⟩
set_option maxHeartbeats 4000000 in
set_option maxRecDepth 100000 in
theorem C_J0_length_8abf5 (G : eG) (M : eM) (H : yH) (F : Int32 → eM → yH → Prop) (a0 : Nat)
    (h : ∃ (b_1 : Nat), yG H a0 13 0 (.ref b_1) ∧ (∃ (n_2 : Nat), yLn G 1 H b_1 n_2 ∧ (yIs H a0 13 ∧ ∃ r_3 : Int32, yRd G (1, 0, 0) kJ0_coder_7d493 [.ref a0] M H (.int r_3) ∧ (F ((nI n_2) >>> (r_3 &&& 31)) M H)))) :
    yCal G (2, 0, 0) kJ0_length_8abf5 [.ref a0] M H (yFI F) := by
  refine yCal.of (by decide +kernel) rfl (Nat.le_of_ble_eq_true rfl) ?_
  show Yx (yX "length") (yZ G 0 0 (yFI F)) G (eR (2, 0, 0)) kJ0_length_8abf5 0 [(0, .ref a0)] [] M H 0 0
  refine y_aload_n 0 dJ0_length_8abf5_0 rfl rfl ?_
  obtain ⟨b_1, ⟨fs_1, e1_1, e2_1⟩, h⟩ := h
  refine y_get (k := 0) dJ0_length_8abf5_1 clJ0 lFJ0_9 (by decide) e1_1 e2_1 ?_
  obtain ⟨n_2, ⟨v_2, e1_2, e2_2⟩, h⟩ := h
  refine y_alenx (t := 1) (ty := .byte) dJ0_length_8abf5_4 rfl e1_2 e2_2 ?_
  refine y_aload_n 0 dJ0_length_8abf5_5 rfl rfl ?_
  obtain ⟨⟨fs_3, hi⟩, h⟩ := h
  obtain ⟨r_3, hc, h⟩ := h
  refine y_callV yXn (b' := (1, 0, 0)) (K' := kJ0_coder_7d493) (As := []) (S := [.int (nI n_2)]) dJ0_length_8abf5_6 mJ0_coder_7d493 lMJ0_335 clJ0 rfl hi rfl (by decide) (Nat.le_of_ble_eq_true rfl) hc (fun v_ M_ H_ q_ => ?_) rfl
  obtain ⟨rfl, rfl, rfl⟩ := q_
  refine y_ishr dJ0_length_8abf5_9 ?_
  exact y_iret dJ0_length_8abf5_10 rfl (Nat.zero_le _) (Nat.zero_le _) ⟨_, rfl, h⟩
set_option maxHeartbeats 4000000 in
set_option maxRecDepth 100000 in
theorem C_J0_length_8abf5_s (G : eG) {bs j : Nat} {tx : List (List Int32)} (hA : eStA G bs tx) (hj : j < tx.length) (M : eM) (H : yH) (F : Int32 → eM → yH → Prop) 
    (h : ∃ r_1 : Int32, yRd G (1, 0, 0) kJ0_coder_7d493 [.ref (G.1 (bs + j))] M H (.int r_1) ∧ (F ((nI (tx.getD j []).length) >>> (r_1 &&& 31)) M H)) :
    yCal G (2, 0, 0) kJ0_length_8abf5 [.ref (G.1 (bs + j))] M H (yFI F) := by
  refine yCal.of (by decide +kernel) rfl (Nat.le_of_ble_eq_true rfl) ?_
  show Yx (yX "length") (yZ G 0 0 (yFI F)) G (eR (2, 0, 0)) kJ0_length_8abf5 0 [(0, .ref (G.1 (bs + j)))] [] M H 0 0
  refine y_aload_n 0 dJ0_length_8abf5_0 rfl rfl ?_
  refine y_sval hA hj dJ0_length_8abf5_1 lFJ0_9 ?_
  refine y_slen hA hj rfl dJ0_length_8abf5_4 ?_
  refine y_aload_n 0 dJ0_length_8abf5_5 rfl rfl ?_
  obtain ⟨r_1, hc, h⟩ := h
  refine y_callT yXn (b' := (1, 0, 0)) (K' := kJ0_coder_7d493) (As := []) (S := [.int (nI (tx.getD j []).length)]) hA hj dJ0_length_8abf5_6 mJ0_coder_7d493 lMJ0_335 rfl rfl (by decide) (Nat.le_of_ble_eq_true rfl) hc (fun v_ M_ H_ q_ => ?_) rfl
  obtain ⟨rfl, rfl, rfl⟩ := q_
  refine y_ishr dJ0_length_8abf5_9 ?_
  exact y_iret dJ0_length_8abf5_10 rfl (Nat.zero_le _) (Nat.zero_le _) ⟨_, rfl, h⟩
set_option maxHeartbeats 4000000 in
set_option maxRecDepth 100000 in
theorem C_J0_getBytes_840e7 (G : eG) (M : eM) (H : yH) (F : eM → yH → Prop) (a0 : Nat) (a1 : Nat) (x2 : Int32) (x3 : Int32)
    (h : yIs H a0 13 ∧ ∃ r_1 : Int32, yRd G (1, 0, 0) kJ0_coder_7d493 [.ref a0] M H (.int r_1) ∧ (((¬ r_1 = x3) → False) ∧ ((r_1 = x3) → ∃ (b_2 : Nat), yG H a0 13 0 (.ref b_2) ∧ (∃ (b_3 : Nat), yG H a0 13 0 (.ref b_3) ∧ (∃ (n_4 : Nat), yLn G 1 H b_3 n_4 ∧ (∃ (N_5 : Nat) (f_5 : Nat → Int32) (N1_5 : Nat) (g_5 : Nat → Int32), H b_2 = some (.inl (G.2.2.2 1, (N_5, .inl f_5))) ∧ H a1 = some (.inl (G.2.2.2 1, (N1_5, .inl g_5))) ∧ ((¬ (0 : Int32) < 0) ∧ (¬ (x2 <<< (x3 &&& 31)) < 0) ∧ (¬ (nI n_4) < 0) ∧ (0 : Int32).toNatClampNeg + (nI n_4).toNatClampNeg ≤ N_5 ∧ (x2 <<< (x3 &&& 31)).toNatClampNeg + (nI n_4).toNatClampNeg ≤ N1_5) ∧ (∀ i, i < (nI n_4).toNatClampNeg → fits .byte (.int (f_5 ((0 : Int32).toNatClampNeg + i))) = true) ∧ (F M (yU H a1 (.inl (G.2.2.2 1, (N1_5, .inl (va_cpy f_5 g_5 (0 : Int32).toNatClampNeg (x2 <<< (x3 &&& 31)).toNatClampNeg (nI n_4).toNatClampNeg)))))))))))) :
    yCal G (2, 0, 0) kJ0_getBytes_840e7 [.ref a0, .ref a1, .int x2, .int x3] M H (yFV F) := by
  refine yCal.of (by decide +kernel) rfl (Nat.le_of_ble_eq_true rfl) ?_
  show Yx (yX "getBytes") (yZ G 0 0 (yFV F)) G (eR (2, 0, 0)) kJ0_getBytes_840e7 0 [(0, .ref a0), (1, .ref a1), (2, .int x2), (3, .int x3)] [] M H 0 0
  refine y_aload_n 0 dJ0_getBytes_840e7_0 rfl rfl ?_
  obtain ⟨⟨fs_1, hi⟩, h⟩ := h
  obtain ⟨r_1, hc, h⟩ := h
  refine y_callV yXn (b' := (1, 0, 0)) (K' := kJ0_coder_7d493) (As := []) (S := []) dJ0_getBytes_840e7_1 mJ0_coder_7d493 lMJ0_335 clJ0 rfl hi rfl (by decide) (Nat.le_of_ble_eq_true rfl) hc (fun v_ M_ H_ q_ => ?_) rfl
  obtain ⟨rfl, rfl, rfl⟩ := q_
  refine y_iload_n 3 dJ0_getBytes_840e7_4 rfl rfl ?_
  refine y_icmp_ne (t := 28) dJ0_getBytes_840e7_5 (by decide) (fun q => ?_) (fun q => ?_)
  · replace h := h.1 q
    exact h.elim
  · replace h := h.2 q
    refine y_aload_n 0 dJ0_getBytes_840e7_8 rfl rfl ?_
    obtain ⟨b_2, ⟨fs_2, e1_2, e2_2⟩, h⟩ := h
    refine y_get (k := 0) dJ0_getBytes_840e7_9 clJ0 lFJ0_9 (by decide) e1_2 e2_2 ?_
    refine y_iconst (v := 0) dJ0_getBytes_840e7_12 rfl ?_
    refine y_aload_n 1 dJ0_getBytes_840e7_13 rfl rfl ?_
    refine y_iload_n 2 dJ0_getBytes_840e7_14 rfl rfl ?_
    refine y_iload_n 3 dJ0_getBytes_840e7_15 rfl rfl ?_
    refine y_ishl dJ0_getBytes_840e7_16 ?_
    refine y_aload_n 0 dJ0_getBytes_840e7_17 rfl rfl ?_
    obtain ⟨b_3, ⟨fs_3, e1_3, e2_3⟩, h⟩ := h
    refine y_get (k := 0) dJ0_getBytes_840e7_18 clJ0 lFJ0_9 (by decide) e1_3 e2_3 ?_
    obtain ⟨n_4, ⟨v_4, e1_4, e2_4⟩, h⟩ := h
    refine y_alenx (t := 1) (ty := .byte) dJ0_getBytes_840e7_21 rfl e1_4 e2_4 ?_
    obtain ⟨N_5, f_5, N1_5, g_5, e1_5, e2_5, e3_5, e4_5, h⟩ := h
    refine y_copyb yXn dJ0_getBytes_840e7_22 lAJ0_212 e1_5 e2_5 e3_5.1 e3_5.2.1 e3_5.2.2.1 e3_5.2.2.2.1 e3_5.2.2.2.2 e4_5 ⟨by decide, by decide⟩ (Nat.le_of_ble_eq_true rfl) ?_
    refine y_goto (t := 43) dJ0_getBytes_840e7_25 (by decide) ?_
    exact y_vret dJ0_getBytes_840e7_43 rfl (Nat.zero_le _) (Nat.zero_le _) ⟨rfl, h⟩
set_option maxHeartbeats 4000000 in
set_option maxRecDepth 100000 in
theorem C_J0_getBytes_840e7_s (G : eG) {bs j : Nat} {tx : List (List Int32)} (hA : eStA G bs tx) (hj : j < tx.length) (M : eM) (H : yH) (F : eM → yH → Prop) (a1 : Nat) (x2 : Int32) (x3 : Int32)
    (h : ∃ r_1 : Int32, yRd G (1, 0, 0) kJ0_coder_7d493 [.ref (G.1 (bs + j))] M H (.int r_1) ∧ (((¬ r_1 = x3) → False) ∧ ((r_1 = x3) → ∃ (N1_2 : Nat) (g_2 : Nat → Int32), H a1 = some (.inl (G.2.2.2 1, (N1_2, .inl g_2))) ∧ ((¬ (0 : Int32) < 0) ∧ (¬ (x2 <<< (x3 &&& 31)) < 0) ∧ (¬ (nI (tx.getD j []).length) < 0) ∧ (0 : Int32).toNatClampNeg + (nI (tx.getD j []).length).toNatClampNeg ≤ (tx.getD j []).length ∧ (x2 <<< (x3 &&& 31)).toNatClampNeg + (nI (tx.getD j []).length).toNatClampNeg ≤ N1_2) ∧ (∀ i, i < (nI (tx.getD j []).length).toNatClampNeg → fits .byte (.int ((tx.getD j []).getD ((0 : Int32).toNatClampNeg + i) 0)) = true) ∧ (F M (yU H a1 (.inl (G.2.2.2 1, (N1_2, .inl (va_cpy (fun i => (tx.getD j []).getD i 0) g_2 (0 : Int32).toNatClampNeg (x2 <<< (x3 &&& 31)).toNatClampNeg (nI (tx.getD j []).length).toNatClampNeg))))))))) :
    yCal G (2, 0, 0) kJ0_getBytes_840e7 [.ref (G.1 (bs + j)), .ref a1, .int x2, .int x3] M H (yFV F) := by
  refine yCal.of (by decide +kernel) rfl (Nat.le_of_ble_eq_true rfl) ?_
  show Yx (yX "getBytes") (yZ G 0 0 (yFV F)) G (eR (2, 0, 0)) kJ0_getBytes_840e7 0 [(0, .ref (G.1 (bs + j))), (1, .ref a1), (2, .int x2), (3, .int x3)] [] M H 0 0
  refine y_aload_n 0 dJ0_getBytes_840e7_0 rfl rfl ?_
  obtain ⟨r_1, hc, h⟩ := h
  refine y_callT yXn (b' := (1, 0, 0)) (K' := kJ0_coder_7d493) (As := []) (S := []) hA hj dJ0_getBytes_840e7_1 mJ0_coder_7d493 lMJ0_335 rfl rfl (by decide) (Nat.le_of_ble_eq_true rfl) hc (fun v_ M_ H_ q_ => ?_) rfl
  obtain ⟨rfl, rfl, rfl⟩ := q_
  refine y_iload_n 3 dJ0_getBytes_840e7_4 rfl rfl ?_
  refine y_icmp_ne (t := 28) dJ0_getBytes_840e7_5 (by decide) (fun q => ?_) (fun q => ?_)
  · replace h := h.1 q
    exact h.elim
  · replace h := h.2 q
    refine y_aload_n 0 dJ0_getBytes_840e7_8 rfl rfl ?_
    refine y_sval hA hj dJ0_getBytes_840e7_9 lFJ0_9 ?_
    refine y_iconst (v := 0) dJ0_getBytes_840e7_12 rfl ?_
    refine y_aload_n 1 dJ0_getBytes_840e7_13 rfl rfl ?_
    refine y_iload_n 2 dJ0_getBytes_840e7_14 rfl rfl ?_
    refine y_iload_n 3 dJ0_getBytes_840e7_15 rfl rfl ?_
    refine y_ishl dJ0_getBytes_840e7_16 ?_
    refine y_aload_n 0 dJ0_getBytes_840e7_17 rfl rfl ?_
    refine y_sval hA hj dJ0_getBytes_840e7_18 lFJ0_9 ?_
    refine y_slen hA hj rfl dJ0_getBytes_840e7_21 ?_
    obtain ⟨N1_2, g_2, e2_2, e3_2, e4_2, h⟩ := h
    refine y_copyt yXn hA hj dJ0_getBytes_840e7_22 lAJ0_212 e2_2 e3_2.1 e3_2.2.1 e3_2.2.2.1 e3_2.2.2.2.1 e3_2.2.2.2.2 e4_2 ⟨by decide, by decide⟩ (Nat.le_of_ble_eq_true rfl) ?_
    refine y_goto (t := 43) dJ0_getBytes_840e7_25 (by decide) ?_
    exact y_vret dJ0_getBytes_840e7_43 rfl (Nat.zero_le _) (Nat.zero_le _) ⟨rfl, h⟩
set_option maxHeartbeats 4000000 in
set_option maxRecDepth 100000 in
theorem C_J0_isLatin1_aae02 (G : eG) (M : eM) (H : yH) (F : Bool → eM → yH → Prop) (a0 : Nat)
    (h : ∃ (x_1 : Int32), yG H a0 13 1 (.int x_1) ∧ (((¬ x_1 = (0 : Int32)) → F false M H) ∧ ((x_1 = (0 : Int32)) → F true M H))) :
    yCal G (1, 0, 0) kJ0_isLatin1_aae02 [.ref a0] M H (yFZ F) := by
  refine yCal.of (by decide +kernel) rfl (Nat.le_of_ble_eq_true rfl) ?_
  show Yx (yX "isLatin1") (yZ G 0 0 (yFZ F)) G (eR (1, 0, 0)) kJ0_isLatin1_aae02 0 [(0, .ref a0)] [] M H 0 0
  refine y_gets (w := .int 1) dJ0_isLatin1_aae02_0 lFJ0_38 (fun h => h.2.2.2.2.2.2.2.2.2.2.2.1) ?_
  refine y_if_eq (t := 17) dJ0_isLatin1_aae02_3 (by decide) (fun q => ?_) (fun q => ?_)
  · exact absurd q (by decide)
  · refine y_aload_n 0 dJ0_isLatin1_aae02_6 rfl rfl ?_
    obtain ⟨x_1, ⟨fs_1, e1_1, e2_1⟩, h⟩ := h
    refine y_get (k := 1) dJ0_isLatin1_aae02_7 clJ0 lFJ0_15 (by decide) e1_1 e2_1 ?_
    refine y_if_ne (t := 17) dJ0_isLatin1_aae02_10 (by decide) (fun q => ?_) (fun q => ?_)
    · replace h := h.1 q
      refine y_iconst (v := 0) dJ0_isLatin1_aae02_17 rfl ?_
      exact y_zret (v := eZi false) dJ0_isLatin1_aae02_18 rfl (eZi_nw _) (Nat.zero_le _) (Nat.zero_le _) ⟨_, rfl, h⟩
    · replace h := h.2 q
      refine y_iconst (v := 1) dJ0_isLatin1_aae02_13 rfl ?_
      refine y_goto (t := 18) dJ0_isLatin1_aae02_14 (by decide) ?_
      exact y_zret (v := eZi true) dJ0_isLatin1_aae02_18 rfl (eZi_nw _) (Nat.zero_le _) (Nat.zero_le _) ⟨_, rfl, h⟩
set_option maxHeartbeats 4000000 in
set_option maxRecDepth 100000 in
theorem C_J0_charAt_5068e (G : eG) (M : eM) (H : yH) (F : Int32 → eM → yH → Prop) (a0 : Nat) (x1 : Int32)
    (h : yIs H a0 13 ∧ ∃ r_1 : Bool, yRd G (1, 0, 0) kJ0_isLatin1_aae02 [.ref a0] M H (.int (eZi r_1)) ∧ (((r_1 = false) → False) ∧ ((r_1 = true) → ∃ (b_2 : Nat), yG H a0 13 0 (.ref b_2) ∧ (∃ r_3 : Int32, yRd G (3, 0, 0) kJ1_charAt_3b067 [.ref b_2, .int x1] M H (.int r_3) ∧ (narrow .char (.int r_3) = .int r_3 ∧ F r_3 M H))))) :
    yCal G (4, 0, 0) kJ0_charAt_5068e [.ref a0, .int x1] M H (yFI F) := by
  refine yCal.of (by decide +kernel) rfl (Nat.le_of_ble_eq_true rfl) ?_
  show Yx (yX "charAt") (yZ G 0 0 (yFI F)) G (eR (4, 0, 0)) kJ0_charAt_5068e 0 [(0, .ref a0), (1, .int x1)] [] M H 0 0
  refine y_aload_n 0 dJ0_charAt_5068e_0 rfl rfl ?_
  obtain ⟨⟨fs_1, hi⟩, h⟩ := h
  obtain ⟨r_1, hc, h⟩ := h
  refine y_callV yXn (b' := (1, 0, 0)) (K' := kJ0_isLatin1_aae02) (As := []) (S := []) dJ0_charAt_5068e_1 mJ0_isLatin1_aae02 lMJ0_492 clJ0 rfl hi rfl (by decide) (Nat.le_of_ble_eq_true rfl) hc (fun v_ M_ H_ q_ => ?_) rfl
  obtain ⟨rfl, rfl, rfl⟩ := q_
  refine y_zif_eq (t := 16) dJ0_charAt_5068e_4 (by decide) (fun q => ?_) (fun q => ?_)
  · replace h := h.1 q
    exact h.elim
  · replace h := h.2 q
    refine y_aload_n 0 dJ0_charAt_5068e_7 rfl rfl ?_
    obtain ⟨b_2, ⟨fs_2, e1_2, e2_2⟩, h⟩ := h
    refine y_get (k := 0) dJ0_charAt_5068e_8 clJ0 lFJ0_9 (by decide) e1_2 e2_2 ?_
    refine y_iload_n 1 dJ0_charAt_5068e_11 rfl rfl ?_
    obtain ⟨r_3, hc, h⟩ := h
    refine y_callS yXn (b' := (3, 0, 0)) (K' := kJ1_charAt_3b067) (As := [.ref b_2, .int x1]) (S := []) dJ0_charAt_5068e_12 mJ1_charAt_3b067 lMJ0_495 rfl (by decide) (Nat.le_of_ble_eq_true rfl) hc (fun v_ M_ H_ q_ => ?_) rfl
    obtain ⟨rfl, rfl, rfl⟩ := q_
    exact y_zret (ty := .char) dJ0_charAt_5068e_15 rfl h.1 (Nat.zero_le _) (Nat.zero_le _) ⟨_, rfl, h.2⟩
set_option maxHeartbeats 4000000 in
set_option maxRecDepth 100000 in
theorem C_J1_charAt_3b067 (G : eG) (M : eM) (H : yH) (F : Int32 → eM → yH → Prop) (a0 : Nat) (x1 : Int32)
    (h : ∃ (n_1 : Nat), yLn G 1 H a0 n_1 ∧ (yCal G (2, 0, 0) kJ0_checkIndex_df160 [.int x1, .int (nI n_1)] M H (yFV (fun (M_2 : eM) (H_2 : yH) => ∃ (x_3 : Int32), yEB G H_2 a0 x1 x_3 ∧ (narrow .char (.int (((x_3 &&& 255).toUInt32 % 65536).toInt32)) = .int (((x_3 &&& 255).toUInt32 % 65536).toInt32) ∧ F (((x_3 &&& 255).toUInt32 % 65536).toInt32) M_2 H_2))))) :
    yCal G (3, 0, 0) kJ1_charAt_3b067 [.ref a0, .int x1] M H (yFI F) := by
  refine yCal.of (by decide +kernel) rfl (Nat.le_of_ble_eq_true rfl) ?_
  show Yx (yX "charAt") (yZ G 0 0 (yFI F)) G (eR (3, 0, 0)) kJ1_charAt_3b067 0 [(0, .ref a0), (1, .int x1)] [] M H 0 0
  refine y_iload_n 1 dJ1_charAt_3b067_0 rfl rfl ?_
  refine y_aload_n 0 dJ1_charAt_3b067_1 rfl rfl ?_
  obtain ⟨n_1, ⟨v_1, e1_1, e2_1⟩, h⟩ := h
  refine y_alenx (t := 1) (ty := .byte) dJ1_charAt_3b067_2 rfl e1_1 e2_1 ?_
  refine y_callS yXn (b' := (2, 0, 0)) (K' := kJ0_checkIndex_df160) (As := [.int x1, .int (nI n_1)]) (S := []) dJ1_charAt_3b067_3 mJ0_checkIndex_df160 lMJ1_9 rfl (by decide) (Nat.le_of_ble_eq_true rfl) h (fun v_ M_2 H_2 q_ => ?_) rfl
  obtain ⟨rfl, h⟩ := q_
  refine y_aload_n 0 dJ1_charAt_3b067_6 rfl rfl ?_
  refine y_iload_n 1 dJ1_charAt_3b067_7 rfl rfl ?_
  obtain ⟨x_3, ⟨N_3, f_3, e1_3, e2_3, e3_3⟩, h⟩ := h
  refine y_baldx dJ1_charAt_3b067_8 e1_3 e2_3 e3_3 ?_
  refine y_sipush (v := 255) dJ1_charAt_3b067_9 rfl ?_
  refine y_iand dJ1_charAt_3b067_12 ?_
  refine y_i2c dJ1_charAt_3b067_13 ?_
  exact y_zret (ty := .char) dJ1_charAt_3b067_14 rfl h.1 (Nat.zero_le _) (Nat.zero_le _) ⟨_, rfl, h.2⟩
set_option maxHeartbeats 4000000 in
set_option maxRecDepth 100000 in
theorem C_J5_inflateIfNeededFor_a7421 (G : eG) (M : eM) (H : yH) (F : eM → yH → Prop) (a0 : Nat) (a1 : Nat)
    (h : ∃ (x_1 : Int32), yG H a0 14 1 (.int x_1) ∧ (yTs G H a1 ∧ ∃ r_2 : Int32, yRd G (1, 0, 0) kJ0_coder_7d493 [.ref a1] M H (.int r_2) ∧ (((x_1 = r_2) → F M H) ∧ ((¬ x_1 = r_2) → False)))) :
    yCal G (2, 0, 0) kJ5_inflateIfNeededFor_a7421 [.ref a0, .ref a1] M H (yFV F) := by
  refine yCal.of (by decide +kernel) rfl (Nat.le_of_ble_eq_true rfl) ?_
  show Yx (yX "inflateIfNeededFor") (yZ G 0 0 (yFV F)) G (eR (2, 0, 0)) kJ5_inflateIfNeededFor_a7421 0 [(0, .ref a0), (1, .ref a1)] [] M H 0 0
  refine y_gets (w := .int 1) dJ5_inflateIfNeededFor_a7421_0 lFJ5_18 (fun h => h.2.2.2.2.2.2.2.2.2.2.2.1) ?_
  refine y_if_eq (t := 21) dJ5_inflateIfNeededFor_a7421_3 (by decide) (fun q => ?_) (fun q => ?_)
  · exact absurd q (by decide)
  · refine y_aload_n 0 dJ5_inflateIfNeededFor_a7421_6 rfl rfl ?_
    obtain ⟨x_1, ⟨fs_1, e1_1, e2_1⟩, h⟩ := h
    refine y_get (k := 1) dJ5_inflateIfNeededFor_a7421_7 clJ4 lFJ5_22 (by decide) e1_1 e2_1 ?_
    refine y_aload_n 1 dJ5_inflateIfNeededFor_a7421_10 rfl rfl ?_
    have hi := h.1
    replace h := h.2
    obtain ⟨r_2, hc, h⟩ := h
    refine y_callX yXn (b' := (1, 0, 0)) (K' := kJ0_coder_7d493) (As := []) (S := [.int x_1]) hi dJ5_inflateIfNeededFor_a7421_11 mJ0_coder_7d493 lMJ5_40 rfl rfl (by decide) (Nat.le_of_ble_eq_true rfl) hc (fun v_ M_ H_ q_ => ?_) rfl
    obtain ⟨rfl, rfl, rfl⟩ := q_
    refine y_icmp_eq (t := 21) dJ5_inflateIfNeededFor_a7421_14 (by decide) (fun q => ?_) (fun q => ?_)
    · replace h := h.1 q
      exact y_vret dJ5_inflateIfNeededFor_a7421_21 rfl (Nat.zero_le _) (Nat.zero_le _) ⟨rfl, h⟩
    · replace h := h.2 q
      exact h.elim
set_option maxHeartbeats 4000000 in
set_option maxRecDepth 100000 in
theorem C_J5_putStringAt_47b60 (G : eG) (M : eM) (H : yH) (F : eM → yH → Prop) (a0 : Nat) (x1 : Int32) (a2 : Nat)
    (h : yIs H a0 14 ∧ yCal G (2, 0, 0) kJ5_inflateIfNeededFor_a7421 [.ref a0, .ref a2] M H (yFV (fun (M_1 : eM) (H_1 : yH) => ∃ (b_2 : Nat), yG H_1 a0 14 0 (.ref b_2) ∧ (∃ (x_3 : Int32), yG H_1 a0 14 1 (.int x_3) ∧ (yTs G H_1 a2 ∧ yCal G (2, 0, 0) kJ0_getBytes_840e7 [.ref a2, .ref b_2, .int x1, .int x_3] M_1 H_1 (yFV (fun (M_4 : eM) (H_4 : yH) => F M_4 H_4))))))) :
    yCal G (3, 0, 0) kJ5_putStringAt_47b60 [.ref a0, .int x1, .ref a2] M H (yFV F) := by
  refine yCal.of (by decide +kernel) rfl (Nat.le_of_ble_eq_true rfl) ?_
  show Yx (yX "putStringAt") (yZ G 0 0 (yFV F)) G (eR (3, 0, 0)) kJ5_putStringAt_47b60 0 [(0, .ref a0), (1, .int x1), (2, .ref a2)] [] M H 0 0
  refine y_aload_n 0 dJ5_putStringAt_47b60_0 rfl rfl ?_
  refine y_aload_n 2 dJ5_putStringAt_47b60_1 rfl rfl ?_
  obtain ⟨⟨fs_1, hi⟩, h⟩ := h
  refine y_callU yXn (b' := (2, 0, 0)) (K' := kJ5_inflateIfNeededFor_a7421) (As := [.ref a2]) (S := []) dJ5_putStringAt_47b60_2 muJ5_inflateIfNeededFor_a7421 lMJ5_397 clJ4 hi rfl (by decide) (Nat.le_of_ble_eq_true rfl) h (fun v_ M_1 H_1 q_ => ?_) rfl
  obtain ⟨rfl, h⟩ := q_
  refine y_aload_n 2 dJ5_putStringAt_47b60_5 rfl rfl ?_
  refine y_aload_n 0 dJ5_putStringAt_47b60_6 rfl rfl ?_
  obtain ⟨b_2, ⟨fs_2, e1_2, e2_2⟩, h⟩ := h
  refine y_get (k := 0) dJ5_putStringAt_47b60_7 clJ4 lFJ5_15 (by decide) e1_2 e2_2 ?_
  refine y_iload_n 1 dJ5_putStringAt_47b60_10 rfl rfl ?_
  refine y_aload_n 0 dJ5_putStringAt_47b60_11 rfl rfl ?_
  obtain ⟨x_3, ⟨fs_3, e1_3, e2_3⟩, h⟩ := h
  refine y_get (k := 1) dJ5_putStringAt_47b60_12 clJ4 lFJ5_22 (by decide) e1_3 e2_3 ?_
  have hi := h.1
  replace h := h.2
  refine y_callX yXn (b' := (2, 0, 0)) (K' := kJ0_getBytes_840e7) (As := [.ref b_2, .int x1, .int x_3]) (S := []) hi dJ5_putStringAt_47b60_15 mJ0_getBytes_840e7 lMJ5_399 rfl rfl (by decide) (Nat.le_of_ble_eq_true rfl) h (fun v_ M_4 H_4 q_ => ?_) rfl
  obtain ⟨rfl, h⟩ := q_
  exact y_vret dJ5_putStringAt_47b60_18 rfl (Nat.zero_le _) (Nat.zero_le _) ⟨rfl, h⟩
set_option maxHeartbeats 4000000 in
set_option maxRecDepth 100000 in
theorem C_J8_newLength_cabcc (G : eG) (M : eM) (H : yH) (F : Int32 → eM → yH → Prop) (x0 : Int32) (x1 : Int32) (x2 : Int32)
    (h : (((x0 + (if x1 < x2 then x2 else x1)) ≤ (0 : Int32)) → False) ∧ ((¬ (x0 + (if x1 < x2 then x2 else x1)) ≤ (0 : Int32)) → (((2147483639 : Int32) < (x0 + (if x1 < x2 then x2 else x1))) → False) ∧ ((¬ (2147483639 : Int32) < (x0 + (if x1 < x2 then x2 else x1))) → F (x0 + (if x1 < x2 then x2 else x1)) M H))) :
    yCal G (2, 0, 0) kJ8_newLength_cabcc [.int x0, .int x1, .int x2] M H (yFI F) := by
  refine yCal.of (by decide +kernel) rfl (Nat.le_of_ble_eq_true rfl) ?_
  show Yx (yX "newLength") (yZ G 0 0 (yFI F)) G (eR (2, 0, 0)) kJ8_newLength_cabcc 0 [(0, .int x0), (1, .int x1), (2, .int x2)] [] M H 0 0
  refine y_iload_n 0 dJ8_newLength_cabcc_0 rfl rfl ?_
  refine y_iload_n 1 dJ8_newLength_cabcc_1 rfl rfl ?_
  refine y_iload_n 2 dJ8_newLength_cabcc_2 rfl rfl ?_
  refine y_mmax dJ8_newLength_cabcc_3 lMJ8_194 eMm_max1 eMm_i eMm_max2 ⟨by decide, by decide⟩ (Nat.le_of_ble_eq_true rfl) ⟨Nat.le_refl _, Nat.le_refl _⟩ ?_
  refine y_iadd dJ8_newLength_cabcc_6 ?_
  refine y_istore_n (i := 3) (l' := [(3, .int (x0 + (if x1 < x2 then x2 else x1))), (0, .int x0), (1, .int x1), (2, .int x2)]) dJ8_newLength_cabcc_7 rfl (by decide) rfl ?_
  refine y_iconst (v := 0) dJ8_newLength_cabcc_8 rfl ?_
  refine y_iload_n 0 dJ8_newLength_cabcc_9 rfl rfl ?_
  refine y_icmp_ge (t := 21) dJ8_newLength_cabcc_10 (by decide) (fun q => ?_) (fun q => ?_)
  · replace h := h.1 q
    exact h.elim
  · replace h := h.2 q
    refine y_iload_n 0 dJ8_newLength_cabcc_13 rfl rfl ?_
    refine y_ldc dJ8_newLength_cabcc_14 lCJ8_200 ?_
    refine y_icmp_gt (t := 21) dJ8_newLength_cabcc_16 (by decide) (fun q => ?_) (fun q => ?_)
    · replace h := h.1 q
      exact h.elim
    · replace h := h.2 q
      refine y_iload_n 0 dJ8_newLength_cabcc_19 rfl rfl ?_
      exact y_iret dJ8_newLength_cabcc_20 rfl (Nat.zero_le _) (Nat.zero_le _) ⟨_, rfl, h⟩
set_option maxHeartbeats 4000000 in
set_option maxRecDepth 100000 in
theorem C_J5_newCapacity_0f7a4 (G : eG) (M : eM) (H : yH) (F : Int32 → eM → yH → Prop) (a0 : Nat) (x1 : Int32)
    (h : ∃ (b_1 : Nat), yG H a0 14 0 (.ref b_1) ∧ (∃ (n_2 : Nat), yLn G 1 H b_1 n_2 ∧ (∃ (x_3 : Int32), yG H a0 14 1 (.int x_3) ∧ (∃ (x_4 : Int32), yG H a0 14 1 (.int x_4) ∧ (∃ r_5 : Int32, yRd G (2, 0, 0) kJ8_newLength_cabcc [.int (nI n_2), .int ((x1 <<< (x_3 &&& 31)) - (nI n_2)), .int ((nI n_2) + ((2 : Int32) <<< (x_4 &&& 31)))] M H (.int r_5) ∧ (((¬ r_5 = (2147483647 : Int32)) → ∃ (x_6 : Int32), yG H a0 14 1 (.int x_6) ∧ (F (r_5 >>> (x_6 &&& 31)) M H)) ∧ ((r_5 = (2147483647 : Int32)) → False))))))) :
    yCal G (3, 0, 0) kJ5_newCapacity_0f7a4 [.ref a0, .int x1] M H (yFI F) := by
  refine yCal.of (by decide +kernel) rfl (Nat.le_of_ble_eq_true rfl) ?_
  show Yx (yX "newCapacity") (yZ G 0 0 (yFI F)) G (eR (3, 0, 0)) kJ5_newCapacity_0f7a4 0 [(0, .ref a0), (1, .int x1)] [] M H 0 0
  refine y_aload_n 0 dJ5_newCapacity_0f7a4_0 rfl rfl ?_
  obtain ⟨b_1, ⟨fs_1, e1_1, e2_1⟩, h⟩ := h
  refine y_get (k := 0) dJ5_newCapacity_0f7a4_1 clJ4 lFJ5_15 (by decide) e1_1 e2_1 ?_
  obtain ⟨n_2, ⟨v_2, e1_2, e2_2⟩, h⟩ := h
  refine y_alenx (t := 1) (ty := .byte) dJ5_newCapacity_0f7a4_4 rfl e1_2 e2_2 ?_
  refine y_istore_n (i := 2) (l' := [(2, .int (nI n_2)), (0, .ref a0), (1, .int x1)]) dJ5_newCapacity_0f7a4_5 rfl (by decide) rfl ?_
  refine y_iload_n 2 dJ5_newCapacity_0f7a4_6 rfl rfl ?_
  refine y_aload_n 1 dJ5_newCapacity_0f7a4_7 rfl rfl ?_
  obtain ⟨x_3, ⟨fs_3, e1_3, e2_3⟩, h⟩ := h
  refine y_get (k := 1) dJ5_newCapacity_0f7a4_8 clJ4 lFJ5_22 (by decide) e1_3 e2_3 ?_
  refine y_ishl dJ5_newCapacity_0f7a4_11 ?_
  refine y_istore_n (i := 3) (l' := [(3, .int (x1 <<< (x_3 &&& 31))), (2, .int (nI n_2)), (0, .ref a0), (1, .int x1)]) dJ5_newCapacity_0f7a4_12 rfl (by decide) rfl ?_
  refine y_iload_n 0 dJ5_newCapacity_0f7a4_13 rfl rfl ?_
  refine y_iload_n 1 dJ5_newCapacity_0f7a4_14 rfl rfl ?_
  refine y_isub dJ5_newCapacity_0f7a4_15 ?_
  refine y_istore (i := 4) (l' := [(4, .int ((x1 <<< (x_3 &&& 31)) - (nI n_2))), (3, .int (x1 <<< (x_3 &&& 31))), (2, .int (nI n_2)), (0, .ref a0), (1, .int x1)]) dJ5_newCapacity_0f7a4_16 (by decide) rfl ?_
  refine y_iload_n 2 dJ5_newCapacity_0f7a4_18 rfl rfl ?_
  refine y_iload 0 dJ5_newCapacity_0f7a4_19 rfl ?_
  refine y_iload_n 2 dJ5_newCapacity_0f7a4_21 rfl rfl ?_
  refine y_iconst (v := 2) dJ5_newCapacity_0f7a4_22 rfl ?_
  refine y_aload_n 3 dJ5_newCapacity_0f7a4_23 rfl rfl ?_
  obtain ⟨x_4, ⟨fs_4, e1_4, e2_4⟩, h⟩ := h
  refine y_get (k := 1) dJ5_newCapacity_0f7a4_24 clJ4 lFJ5_22 (by decide) e1_4 e2_4 ?_
  refine y_ishl dJ5_newCapacity_0f7a4_27 ?_
  refine y_iadd dJ5_newCapacity_0f7a4_28 ?_
  obtain ⟨r_5, hc, h⟩ := h
  refine y_callS yXn (b' := (2, 0, 0)) (K' := kJ8_newLength_cabcc) (As := [.int (nI n_2), .int ((x1 <<< (x_3 &&& 31)) - (nI n_2)), .int ((nI n_2) + ((2 : Int32) <<< (x_4 &&& 31)))]) (S := []) dJ5_newCapacity_0f7a4_29 mJ8_newLength_cabcc lMJ5_114 rfl (by decide) (Nat.le_of_ble_eq_true rfl) hc (fun v_ M_ H_ q_ => ?_) rfl
  obtain ⟨rfl, rfl, rfl⟩ := q_
  refine y_istore (i := 5) (l' := [(5, .int r_5), (4, .int ((x1 <<< (x_3 &&& 31)) - (nI n_2))), (3, .int (x1 <<< (x_3 &&& 31))), (2, .int (nI n_2)), (0, .ref a0), (1, .int x1)]) dJ5_newCapacity_0f7a4_32 (by decide) rfl ?_
  refine y_iload 0 dJ5_newCapacity_0f7a4_34 rfl ?_
  refine y_ldc dJ5_newCapacity_0f7a4_36 lCJ5_39 ?_
  refine y_icmp_ne (t := 51) dJ5_newCapacity_0f7a4_38 (by decide) (fun q => ?_) (fun q => ?_)
  · replace h := h.1 q
    refine y_iload 0 dJ5_newCapacity_0f7a4_51 rfl ?_
    refine y_aload_n 4 dJ5_newCapacity_0f7a4_53 rfl rfl ?_
    obtain ⟨x_6, ⟨fs_6, e1_6, e2_6⟩, h⟩ := h
    refine y_get (k := 1) dJ5_newCapacity_0f7a4_54 clJ4 lFJ5_22 (by decide) e1_6 e2_6 ?_
    refine y_ishr dJ5_newCapacity_0f7a4_57 ?_
    exact y_iret dJ5_newCapacity_0f7a4_58 rfl (Nat.zero_le _) (Nat.zero_le _) ⟨_, rfl, h⟩
  · replace h := h.2 q
    exact h.elim
set_option maxHeartbeats 4000000 in
set_option maxRecDepth 100000 in
theorem C_J7_copyOf_9075b (G : eG) (M : eM) (H : yH) (F : Nat → eM → yH → Prop) (a0 : Nat) (x1 : Int32)
    (h : ∃ (n_1 : Nat), yLn G 1 H a0 n_1 ∧ (((¬ x1 = (nI n_1)) → ∃ N_2 : Nat, (¬ x1 < 0) ∧ x1.toNatClampNeg = N_2 ∧ N_2 * 1 ≤ 536870912 ∧ (0 + 1 ≤ 1 ∧ 0 + N_2 ≤ 2200) ∧ ∀ q_2 : Nat, H q_2 = none → (∃ (n_3 : Nat), yLn G 1 (yU H q_2 (.inl (G.2.2.2 1, (N_2, .inl (fun _ => 0))))) a0 n_3 ∧ ((0 + 1 ≤ 1 ∧ 0 + N_2 ≤ 2200) ∧ (∃ (N_4 : Nat) (f_4 : Nat → Int32) (N1_4 : Nat) (g_4 : Nat → Int32), (yU H q_2 (.inl (G.2.2.2 1, (N_2, .inl (fun _ => 0))))) a0 = some (.inl (G.2.2.2 1, (N_4, .inl f_4))) ∧ (yU H q_2 (.inl (G.2.2.2 1, (N_2, .inl (fun _ => 0))))) q_2 = some (.inl (G.2.2.2 1, (N1_4, .inl g_4))) ∧ ((¬ (0 : Int32) < 0) ∧ (¬ (0 : Int32) < 0) ∧ (¬ (if x1 < (nI n_3) then x1 else (nI n_3)) < 0) ∧ (0 : Int32).toNatClampNeg + (if x1 < (nI n_3) then x1 else (nI n_3)).toNatClampNeg ≤ N_4 ∧ (0 : Int32).toNatClampNeg + (if x1 < (nI n_3) then x1 else (nI n_3)).toNatClampNeg ≤ N1_4) ∧ (∀ i, i < (if x1 < (nI n_3) then x1 else (nI n_3)).toNatClampNeg → fits .byte (.int (f_4 ((0 : Int32).toNatClampNeg + i))) = true) ∧ ((0 + 1 ≤ 1 ∧ 0 + N_2 ≤ 2200) ∧ F q_2 M (yU (yU H q_2 (.inl (G.2.2.2 1, (N_2, .inl (fun _ => 0))))) q_2 (.inl (G.2.2.2 1, (N1_4, .inl (va_cpy f_4 g_4 (0 : Int32).toNatClampNeg (0 : Int32).toNatClampNeg (if x1 < (nI n_3) then x1 else (nI n_3)).toNatClampNeg)))))))))) ∧ ((x1 = (nI n_1)) → False))) :
    yCal G (2, 1, 2200) kJ7_copyOf_9075b [.ref a0, .int x1] M H (yFR F) := by
  refine yCal.of (by decide +kernel) rfl (Nat.le_of_ble_eq_true rfl) ?_
  show Yx (yX "copyOf") (yZ G 1 2200 (yFR F)) G (eR (2, 1, 2200)) kJ7_copyOf_9075b 0 [(0, .ref a0), (1, .int x1)] [] M H 0 0
  refine y_iload_n 1 dJ7_copyOf_9075b_0 rfl rfl ?_
  refine y_aload_n 0 dJ7_copyOf_9075b_1 rfl rfl ?_
  obtain ⟨n_1, ⟨v_1, e1_1, e2_1⟩, h⟩ := h
  refine y_alenx (t := 1) (ty := .byte) dJ7_copyOf_9075b_2 rfl e1_1 e2_1 ?_
  refine y_icmp_ne (t := 14) dJ7_copyOf_9075b_3 (by decide) (fun q => ?_) (fun q => ?_)
  · replace h := h.1 q
    refine y_iload_n 1 dJ7_copyOf_9075b_14 rfl rfl ?_
    obtain ⟨N_2, z1_2, z2_2, z3_2, hb, h⟩ := h
    refine y_newb dJ7_copyOf_9075b_15 z1_2 z2_2 z3_2 hb (fun q_2 hq => ?_)
    replace h := h q_2 hq
    refine y_astore_n (i := 2) (l' := [(2, .ref q_2), (0, .ref a0), (1, .int x1)]) dJ7_copyOf_9075b_17 rfl (by decide) rfl ?_
    refine y_aload_n 1 dJ7_copyOf_9075b_18 rfl rfl ?_
    refine y_iconst (v := 0) dJ7_copyOf_9075b_19 rfl ?_
    refine y_aload_n 0 dJ7_copyOf_9075b_20 rfl rfl ?_
    refine y_iconst (v := 0) dJ7_copyOf_9075b_21 rfl ?_
    refine y_aload_n 1 dJ7_copyOf_9075b_22 rfl rfl ?_
    obtain ⟨n_3, ⟨v_3, e1_3, e2_3⟩, h⟩ := h
    refine y_alenx (t := 1) (ty := .byte) dJ7_copyOf_9075b_23 rfl e1_3 e2_3 ?_
    refine y_iload_n 2 dJ7_copyOf_9075b_24 rfl rfl ?_
    have hb := h.1
    replace h := h.2
    refine y_mmin dJ7_copyOf_9075b_25 lMJ7_304 eMm_min1 eMm_i eMm_min2 ⟨by decide, by decide⟩ (Nat.le_of_ble_eq_true rfl) hb ?_
    obtain ⟨N_4, f_4, N1_4, g_4, e1_4, e2_4, e3_4, e4_4, h⟩ := h
    refine y_copyb yXn dJ7_copyOf_9075b_28 lAJ7_150 e1_4 e2_4 e3_4.1 e3_4.2.1 e3_4.2.2.1 e3_4.2.2.2.1 e3_4.2.2.2.2 e4_4 ⟨by decide, by decide⟩ (Nat.le_of_ble_eq_true rfl) ?_
    refine y_aload_n 0 dJ7_copyOf_9075b_31 rfl rfl ?_
    have hb := h.1
    replace h := h.2
    exact y_aret dJ7_copyOf_9075b_32 rfl (Or.inr ⟨_, rfl⟩) hb.1 hb.2 ⟨_, rfl, h⟩
  · replace h := h.2 q
    exact h.elim
set_option maxHeartbeats 4000000 in
set_option maxRecDepth 100000 in
theorem C_J5_ensureCapacityInternal_d00df (G : eG) (M : eM) (H : yH) (F : eM → yH → Prop) (a0 : Nat) (x1 : Int32)
    (h : ∃ (b_1 : Nat), yG H a0 14 0 (.ref b_1) ∧ (∃ (n_2 : Nat), yLn G 1 H b_1 n_2 ∧ (∃ (x_3 : Int32), yG H a0 14 1 (.int x_3) ∧ ((((x1 - ((nI n_2) >>> (x_3 &&& 31))) ≤ (0 : Int32)) → (0 ≤ 1 ∧ 0 ≤ 2200) ∧ F M H) ∧ ((¬ (x1 - ((nI n_2) >>> (x_3 &&& 31))) ≤ (0 : Int32)) → ∃ (b_4 : Nat), yG H a0 14 0 (.ref b_4) ∧ ((0 + 0 ≤ 1 ∧ 0 + 0 ≤ 2200) ∧ yIs H a0 14 ∧ ∃ r_5 : Int32, yRd G (3, 0, 0) kJ5_newCapacity_0f7a4 [.ref a0, .int x1] M H (.int r_5) ∧ (∃ (x_6 : Int32), yG H a0 14 1 (.int x_6) ∧ ((0 + 1 ≤ 1 ∧ 0 + 2200 ≤ 2200) ∧ yCal G (2, 1, 2200) kJ7_copyOf_9075b [.ref b_4, .int (r_5 <<< (x_6 &&& 31))] M H (yFR (fun (r_7 : Nat) (M_7 : eM) (H_7 : yH) => ∃ (fs_8 : List Value), H_7 a0 = some (.inr (14, fs_8)) ∧ 0 < fs_8.length ∧ ((0 + 1 ≤ 1 ∧ 0 + 2200 ≤ 2200) ∧ F M_7 (yU H_7 a0 (.inr (14, fs_8.set 0 (.ref r_7))))))))))))))) :
    yCal G (4, 1, 2200) kJ5_ensureCapacityInternal_d00df [.ref a0, .int x1] M H (yFV F) := by
  refine yCal.of (by decide +kernel) rfl (Nat.le_of_ble_eq_true rfl) ?_
  show Yx (yX "ensureCapacityInternal") (yZ G 1 2200 (yFV F)) G (eR (4, 1, 2200)) kJ5_ensureCapacityInternal_d00df 0 [(0, .ref a0), (1, .int x1)] [] M H 0 0
  refine y_aload_n 0 dJ5_ensureCapacityInternal_d00df_0 rfl rfl ?_
  obtain ⟨b_1, ⟨fs_1, e1_1, e2_1⟩, h⟩ := h
  refine y_get (k := 0) dJ5_ensureCapacityInternal_d00df_1 clJ4 lFJ5_15 (by decide) e1_1 e2_1 ?_
  obtain ⟨n_2, ⟨v_2, e1_2, e2_2⟩, h⟩ := h
  refine y_alenx (t := 1) (ty := .byte) dJ5_ensureCapacityInternal_d00df_4 rfl e1_2 e2_2 ?_
  refine y_aload_n 0 dJ5_ensureCapacityInternal_d00df_5 rfl rfl ?_
  obtain ⟨x_3, ⟨fs_3, e1_3, e2_3⟩, h⟩ := h
  refine y_get (k := 1) dJ5_ensureCapacityInternal_d00df_6 clJ4 lFJ5_22 (by decide) e1_3 e2_3 ?_
  refine y_ishr dJ5_ensureCapacityInternal_d00df_9 ?_
  refine y_istore_n (i := 2) (l' := [(2, .int ((nI n_2) >>> (x_3 &&& 31))), (0, .ref a0), (1, .int x1)]) dJ5_ensureCapacityInternal_d00df_10 rfl (by decide) rfl ?_
  refine y_iload_n 2 dJ5_ensureCapacityInternal_d00df_11 rfl rfl ?_
  refine y_iload_n 0 dJ5_ensureCapacityInternal_d00df_12 rfl rfl ?_
  refine y_isub dJ5_ensureCapacityInternal_d00df_13 ?_
  refine y_if_le (t := 38) dJ5_ensureCapacityInternal_d00df_14 (by decide) (fun q => ?_) (fun q => ?_)
  · replace h := h.1 q
    have hb := h.1
    replace h := h.2
    exact y_vret dJ5_ensureCapacityInternal_d00df_38 rfl hb.1 hb.2 ⟨rfl, h⟩
  · replace h := h.2 q
    refine y_aload_n 1 dJ5_ensureCapacityInternal_d00df_17 rfl rfl ?_
    refine y_aload_n 1 dJ5_ensureCapacityInternal_d00df_18 rfl rfl ?_
    obtain ⟨b_4, ⟨fs_4, e1_4, e2_4⟩, h⟩ := h
    refine y_get (k := 0) dJ5_ensureCapacityInternal_d00df_19 clJ4 lFJ5_15 (by decide) e1_4 e2_4 ?_
    refine y_aload_n 1 dJ5_ensureCapacityInternal_d00df_22 rfl rfl ?_
    refine y_iload_n 2 dJ5_ensureCapacityInternal_d00df_23 rfl rfl ?_
    have hb := h.1
    replace h := h.2
    obtain ⟨⟨fs_5, hi⟩, h⟩ := h
    obtain ⟨r_5, hc, h⟩ := h
    refine y_callU yXn (b' := (3, 0, 0)) (K' := kJ5_newCapacity_0f7a4) (As := [.int x1]) (S := [.ref b_4, .ref a0]) dJ5_ensureCapacityInternal_d00df_24 muJ5_newCapacity_0f7a4 lMJ5_104 clJ4 hi rfl ⟨(by decide), hb⟩ (Nat.le_of_ble_eq_true rfl) hc (fun v_ M_ H_ q_ => ?_) rfl
    obtain ⟨rfl, rfl, rfl⟩ := q_
    refine y_aload_n 1 dJ5_ensureCapacityInternal_d00df_27 rfl rfl ?_
    obtain ⟨x_6, ⟨fs_6, e1_6, e2_6⟩, h⟩ := h
    refine y_get (k := 1) dJ5_ensureCapacityInternal_d00df_28 clJ4 lFJ5_22 (by decide) e1_6 e2_6 ?_
    refine y_ishl dJ5_ensureCapacityInternal_d00df_31 ?_
    have hb := h.1
    replace h := h.2
    refine y_callS yXn (b' := (2, 1, 2200)) (K' := kJ7_copyOf_9075b) (As := [.ref b_4, .int (r_5 <<< (x_6 &&& 31))]) (S := [.ref a0]) dJ5_ensureCapacityInternal_d00df_32 mJ7_copyOf_9075b lMJ5_108 rfl ⟨(by decide), hb⟩ (Nat.le_of_ble_eq_true rfl) h (fun v_ M_7 H_7 q_ => ?_) rfl
    obtain ⟨r_7, rfl, h⟩ := q_
    obtain ⟨fs_8, e1_8, e2_8, h⟩ := h
    refine y_put (k := 0) (ft := tyJ4 0) dJ5_ensureCapacityInternal_d00df_35 clJ4 lFJ5_15 (by decide) e1_8 e2_8 rfl (clJ4.2.2.1 0 (by decide)) rfl rfl ?_
    have hb := h.1
    replace h := h.2
    exact y_vret dJ5_ensureCapacityInternal_d00df_38 rfl hb.1 hb.2 ⟨rfl, h⟩
set_option maxHeartbeats 4000000 in
set_option maxRecDepth 100000 in
theorem C_J5_append_cf1ce (G : eG) (M : eM) (H : yH) (F : Nat → eM → yH → Prop) (a0 : Nat) (a1 : Nat)
    (h : (0 + 0 ≤ 1 ∧ 0 + 0 ≤ 2200) ∧ yTs G H a1 ∧ ∃ r_1 : Int32, yRd G (2, 0, 0) kJ0_length_8abf5 [.ref a1] M H (.int r_1) ∧ (∃ (x_2 : Int32), yG H a0 14 3 (.int x_2) ∧ ((0 + 1 ≤ 1 ∧ 0 + 2200 ≤ 2200) ∧ yIs H a0 14 ∧ yCal G (4, 1, 2200) kJ5_ensureCapacityInternal_d00df [.ref a0, .int (x_2 + r_1)] M H (yFV (fun (M_3 : eM) (H_3 : yH) => ∃ (x_4 : Int32), yG H_3 a0 14 3 (.int x_4) ∧ (((0 + 1) + 0 ≤ 1 ∧ (0 + 2200) + 0 ≤ 2200) ∧ yIs H_3 a0 14 ∧ yCal G (3, 0, 0) kJ5_putStringAt_47b60 [.ref a0, .int x_4, .ref a1] M_3 H_3 (yFV (fun (M_5 : eM) (H_5 : yH) => ∃ (x_6 : Int32), yG H_5 a0 14 3 (.int x_6) ∧ (∃ (fs_7 : List Value), H_5 a0 = some (.inr (14, fs_7)) ∧ 3 < fs_7.length ∧ ((0 + 1 ≤ 1 ∧ 0 + 2200 ≤ 2200) ∧ F a0 M_5 (yU H_5 a0 (.inr (14, fs_7.set 3 (.int (x_6 + r_1))))))))))))))) :
    yCal G (5, 1, 2200) kJ5_append_cf1ce [.ref a0, .ref a1] M H (yFR F) := by
  refine yCal.of (by decide +kernel) rfl (Nat.le_of_ble_eq_true rfl) ?_
  show Yx (yX "append") (yZ G 1 2200 (yFR F)) G (eR (5, 1, 2200)) kJ5_append_cf1ce 0 [(0, .ref a0), (1, .ref a1)] [] M H 0 0
  refine y_aload_n 1 dJ5_append_cf1ce_0 rfl rfl ?_
  refine y_ifnonnullR (t := 9) dJ5_append_cf1ce_1 (by decide) ?_
  refine y_aload_n 1 dJ5_append_cf1ce_9 rfl rfl ?_
  have hb := h.1
  replace h := h.2
  have hi := h.1
  replace h := h.2
  obtain ⟨r_1, hc, h⟩ := h
  refine y_callX yXn (b' := (2, 0, 0)) (K' := kJ0_length_8abf5) (As := []) (S := []) hi dJ5_append_cf1ce_10 mJ0_length_8abf5 lMJ5_32 rfl rfl ⟨(by decide), hb⟩ (Nat.le_of_ble_eq_true rfl) hc (fun v_ M_ H_ q_ => ?_) rfl
  obtain ⟨rfl, rfl, rfl⟩ := q_
  refine y_istore_n (i := 2) (l' := [(2, .int r_1), (0, .ref a0), (1, .ref a1)]) dJ5_append_cf1ce_13 rfl (by decide) rfl ?_
  refine y_aload_n 1 dJ5_append_cf1ce_14 rfl rfl ?_
  refine y_aload_n 1 dJ5_append_cf1ce_15 rfl rfl ?_
  obtain ⟨x_2, ⟨fs_2, e1_2, e2_2⟩, h⟩ := h
  refine y_get (k := 3) dJ5_append_cf1ce_16 clJ4 lFJ5_79 (by decide) e1_2 e2_2 ?_
  refine y_iload_n 0 dJ5_append_cf1ce_19 rfl rfl ?_
  refine y_iadd dJ5_append_cf1ce_20 ?_
  have hb := h.1
  replace h := h.2
  obtain ⟨⟨fs_3, hi⟩, h⟩ := h
  refine y_callU yXn (b' := (4, 1, 2200)) (K' := kJ5_ensureCapacityInternal_d00df) (As := [.int (x_2 + r_1)]) (S := []) dJ5_append_cf1ce_21 muJ5_ensureCapacityInternal_d00df lMJ5_100 clJ4 hi rfl ⟨(by decide), hb⟩ (Nat.le_of_ble_eq_true rfl) h (fun v_ M_3 H_3 q_ => ?_) rfl
  obtain ⟨rfl, h⟩ := q_
  refine y_aload_n 1 dJ5_append_cf1ce_24 rfl rfl ?_
  refine y_aload_n 1 dJ5_append_cf1ce_25 rfl rfl ?_
  obtain ⟨x_4, ⟨fs_4, e1_4, e2_4⟩, h⟩ := h
  refine y_get (k := 3) dJ5_append_cf1ce_26 clJ4 lFJ5_79 (by decide) e1_4 e2_4 ?_
  refine y_aload_n 2 dJ5_append_cf1ce_29 rfl rfl ?_
  have hb := h.1
  replace h := h.2
  obtain ⟨⟨fs_5, hi⟩, h⟩ := h
  refine y_callU yXn (b' := (3, 0, 0)) (K' := kJ5_putStringAt_47b60) (As := [.int x_4, .ref a1]) (S := []) dJ5_append_cf1ce_30 muJ5_putStringAt_47b60 lMJ5_208 clJ4 hi rfl ⟨(by decide), hb⟩ (Nat.le_of_ble_eq_true rfl) h (fun v_ M_5 H_5 q_ => ?_) rfl
  obtain ⟨rfl, h⟩ := q_
  refine y_aload_n 1 dJ5_append_cf1ce_33 rfl rfl ?_
  refine y_dup dJ5_append_cf1ce_34 rfl ?_
  obtain ⟨x_6, ⟨fs_6, e1_6, e2_6⟩, h⟩ := h
  refine y_get (k := 3) dJ5_append_cf1ce_35 clJ4 lFJ5_79 (by decide) e1_6 e2_6 ?_
  refine y_iload_n 0 dJ5_append_cf1ce_38 rfl rfl ?_
  refine y_iadd dJ5_append_cf1ce_39 ?_
  obtain ⟨fs_7, e1_7, e2_7, h⟩ := h
  refine y_put (k := 3) (ft := tyJ4 3) dJ5_append_cf1ce_40 clJ4 lFJ5_79 (by decide) e1_7 e2_7 rfl (clJ4.2.2.1 3 (by decide)) rfl rfl ?_
  refine y_aload_n 1 dJ5_append_cf1ce_43 rfl rfl ?_
  have hb := h.1
  replace h := h.2
  exact y_aret dJ5_append_cf1ce_44 rfl (Or.inl ⟨_, rfl⟩) hb.1 hb.2 ⟨_, rfl, h⟩
set_option maxHeartbeats 4000000 in
set_option maxRecDepth 100000 in
theorem C_J4_append_15ec4 (G : eG) (M : eM) (H : yH) (F : Nat → eM → yH → Prop) (a0 : Nat) (a1 : Nat)
    (h : (0 + 1 ≤ 1 ∧ 0 + 2200 ≤ 2200) ∧ yIs H a0 14 ∧ yCal G (5, 1, 2200) kJ5_append_cf1ce [.ref a0, .ref a1] M H (yFR (fun (r_1 : Nat) (M_1 : eM) (H_1 : yH) => (0 + 1 ≤ 1 ∧ 0 + 2200 ≤ 2200) ∧ F a0 M_1 H_1))) :
    yCal G (6, 1, 2200) kJ4_append_15ec4 [.ref a0, .ref a1] M H (yFR F) := by
  refine yCal.of (by decide +kernel) rfl (Nat.le_of_ble_eq_true rfl) ?_
  show Yx (yX "append") (yZ G 1 2200 (yFR F)) G (eR (6, 1, 2200)) kJ4_append_15ec4 0 [(0, .ref a0), (1, .ref a1)] [] M H 0 0
  refine y_aload_n 0 dJ4_append_15ec4_0 rfl rfl ?_
  refine y_aload_n 1 dJ4_append_15ec4_1 rfl rfl ?_
  have hb := h.1
  replace h := h.2
  obtain ⟨⟨fs_1, hi⟩, h⟩ := h
  refine y_callSU yXn (b' := (5, 1, 2200)) (K' := kJ5_append_cf1ce) (As := [.ref a1]) (S := []) dJ4_append_15ec4_2 msJ5_append_cf1ce lMJ4_29 ySup clJ4 hi rfl ⟨(by decide), hb⟩ (Nat.le_of_ble_eq_true rfl) h (fun v_ M_1 H_1 q_ => ?_) rfl
  obtain ⟨r_1, rfl, h⟩ := q_
  refine y_pop dJ4_append_15ec4_5 rfl ?_
  refine y_aload_n 0 dJ4_append_15ec4_6 rfl rfl ?_
  have hb := h.1
  replace h := h.2
  exact y_aret dJ4_append_15ec4_7 rfl (Or.inl ⟨_, rfl⟩) hb.1 hb.2 ⟨_, rfl, h⟩
set_option maxHeartbeats 4000000 in
set_option maxRecDepth 100000 in
theorem B_J6_stringSize_0f7a4_16 (G : eG) (M : eM) (H : yH) (F : Int32 → eM → yH → Prop) (x0 : Int32) (x1 : Int32) (x2 : Int32) (x3 : Int32)
    (h : (((10 : Int32) ≤ x3) → F ((10 : Int32) + x1) M H) ∧ ((¬ (10 : Int32) ≤ x3) → ((x0 ≤ x2) → Yx (yX "stringSize") (yZ G 0 0 (yFI F)) G (eR (1, 0, 0)) kJ6_stringSize_0f7a4 16 [(0, .int x0), (1, .int x1), (2, .int ((10 : Int32) * x2)), (3, .int (x3 + 1))] [] M H 0 0) ∧ ((¬ x0 ≤ x2) → F (x3 + x1) M H))) :
    Yx (yX "stringSize") (yZ G 0 0 (yFI F)) G (eR (1, 0, 0)) kJ6_stringSize_0f7a4 16 [(0, .int x0), (1, .int x1), (2, .int x2), (3, .int x3)] [] M H 0 0 := by
  refine y_iload_n 3 dJ6_stringSize_0f7a4_16 rfl rfl ?_
  refine y_bipush (v := 10) dJ6_stringSize_0f7a4_17 rfl ?_
  refine y_icmp_ge (t := 42) dJ6_stringSize_0f7a4_19 (by decide) (fun q => ?_) (fun q => ?_)
  · replace h := h.1 q
    refine y_bipush (v := 10) dJ6_stringSize_0f7a4_42 rfl ?_
    refine y_iload_n 1 dJ6_stringSize_0f7a4_44 rfl rfl ?_
    refine y_iadd dJ6_stringSize_0f7a4_45 ?_
    exact y_iret dJ6_stringSize_0f7a4_46 rfl (Nat.zero_le _) (Nat.zero_le _) ⟨_, rfl, h⟩
  · replace h := h.2 q
    refine y_iload_n 0 dJ6_stringSize_0f7a4_22 rfl rfl ?_
    refine y_iload_n 2 dJ6_stringSize_0f7a4_23 rfl rfl ?_
    refine y_icmp_le (t := 31) dJ6_stringSize_0f7a4_24 (by decide) (fun q => ?_) (fun q => ?_)
    · replace h := h.1 q
      refine y_bipush (v := 10) dJ6_stringSize_0f7a4_31 rfl ?_
      refine y_iload_n 2 dJ6_stringSize_0f7a4_33 rfl rfl ?_
      refine y_imul dJ6_stringSize_0f7a4_34 ?_
      refine y_istore_n (i := 2) (l' := [(2, .int ((10 : Int32) * x2)), (0, .int x0), (1, .int x1), (3, .int x3)]) dJ6_stringSize_0f7a4_35 rfl (by decide) rfl ?_
      refine y_iinc (v := x3 + 1) (l' := [(3, .int (x3 + 1)), (2, .int ((10 : Int32) * x2)), (0, .int x0), (1, .int x1)]) 3 dJ6_stringSize_0f7a4_36 rfl rfl (by decide) rfl ?_
      refine y_goto (t := 16) dJ6_stringSize_0f7a4_39 (by decide) ?_
      exact Yx.sub (ks := [2, 3, 1, 0]) rfl h
    · replace h := h.2 q
      refine y_iload_n 3 dJ6_stringSize_0f7a4_27 rfl rfl ?_
      refine y_iload_n 1 dJ6_stringSize_0f7a4_28 rfl rfl ?_
      refine y_iadd dJ6_stringSize_0f7a4_29 ?_
      exact y_iret dJ6_stringSize_0f7a4_30 rfl (Nat.zero_le _) (Nat.zero_le _) ⟨_, rfl, h⟩
set_option maxHeartbeats 4000000 in
set_option maxRecDepth 100000 in
theorem B_J6_stringSize_0f7a4_11 (G : eG) (M : eM) (H : yH) (F : Int32 → eM → yH → Prop) (x0 : Int32) (x1 : Int32)
    (h : Yx (yX "stringSize") (yZ G 0 0 (yFI F)) G (eR (1, 0, 0)) kJ6_stringSize_0f7a4 16 [(0, .int x0), (1, .int x1), (2, .int (-10)), (3, .int 1)] [] M H 0 0) :
    Yx (yX "stringSize") (yZ G 0 0 (yFI F)) G (eR (1, 0, 0)) kJ6_stringSize_0f7a4 11 [(0, .int x0), (1, .int x1)] [] M H 0 0 := by
  refine y_bipush (v := (-10)) dJ6_stringSize_0f7a4_11 rfl ?_
  refine y_istore_n (i := 2) (l' := [(2, .int (-10)), (0, .int x0), (1, .int x1)]) dJ6_stringSize_0f7a4_13 rfl (by decide) rfl ?_
  refine y_iconst (v := 1) dJ6_stringSize_0f7a4_14 rfl ?_
  refine y_istore_n (i := 3) (l' := [(3, .int 1), (2, .int (-10)), (0, .int x0), (1, .int x1)]) dJ6_stringSize_0f7a4_15 rfl (by decide) rfl ?_
  exact Yx.sub (ks := [2, 3, 1, 0]) rfl h
set_option maxHeartbeats 4000000 in
set_option maxRecDepth 100000 in
theorem C_J6_stringSize_0f7a4 (G : eG) (M : eM) (H : yH) (F : Int32 → eM → yH → Prop) (x0 : Int32)
    (h : ((x0 < (0 : Int32)) → Yx (yX "stringSize") (yZ G 0 0 (yFI F)) G (eR (1, 0, 0)) kJ6_stringSize_0f7a4 11 [(0, .int x0), (1, .int 1)] [] M H 0 0) ∧ ((¬ x0 < (0 : Int32)) → Yx (yX "stringSize") (yZ G 0 0 (yFI F)) G (eR (1, 0, 0)) kJ6_stringSize_0f7a4 11 [(0, .int (-x0)), (1, .int 0)] [] M H 0 0)) :
    yCal G (1, 0, 0) kJ6_stringSize_0f7a4 [.int x0] M H (yFI F) := by
  refine yCal.of (by decide +kernel) rfl (Nat.le_of_ble_eq_true rfl) ?_
  show Yx (yX "stringSize") (yZ G 0 0 (yFI F)) G (eR (1, 0, 0)) kJ6_stringSize_0f7a4 0 [(0, .int x0)] [] M H 0 0
  refine y_iconst (v := 1) dJ6_stringSize_0f7a4_0 rfl ?_
  refine y_istore_n (i := 1) (l' := [(1, .int 1), (0, .int x0)]) dJ6_stringSize_0f7a4_1 rfl (by decide) rfl ?_
  refine y_iload_n 1 dJ6_stringSize_0f7a4_2 rfl rfl ?_
  refine y_if_lt (t := 11) dJ6_stringSize_0f7a4_3 (by decide) (fun q => ?_) (fun q => ?_)
  · replace h := h.1 q
    exact Yx.sub (ks := [1, 0]) rfl h
  · replace h := h.2 q
    refine y_iconst (v := 0) dJ6_stringSize_0f7a4_6 rfl ?_
    refine y_istore_n (i := 1) (l' := [(1, .int 0), (0, .int x0)]) dJ6_stringSize_0f7a4_7 rfl (by decide) rfl ?_
    refine y_iload_n 1 dJ6_stringSize_0f7a4_8 rfl rfl ?_
    refine y_ineg dJ6_stringSize_0f7a4_9 ?_
    refine y_istore_n (i := 0) (l' := [(0, .int (-x0)), (1, .int 0)]) dJ6_stringSize_0f7a4_10 rfl (by decide) rfl ?_
    exact h
set_option maxHeartbeats 4000000 in
set_option maxRecDepth 100000 in
theorem B_J6_getChars_ba4f3_104 (G : eG) (M : eM) (H : yH) (F : Int32 → eM → yH → Prop) (a2 : Nat) (x5 : Int32) (x6 : Int32)
    (h : ((x6 = (0 : Int32)) → F x5 M H) ∧ ((¬ x6 = (0 : Int32)) → ∃ (N_1 : Nat) (f_1 : Nat → Int32), H a2 = some (.inl (G.2.2.2 1, (N_1, .inl f_1))) ∧ vp_in (x5 + (-1)) N_1 ∧ (F (x5 + (-1)) M (yU H a2 (.inl (G.2.2.2 1, (N_1, .inl (upd f_1 (x5 + (-1)).toNatClampNeg (45 : Int32).toInt8.toInt32)))))))) :
    Yx (yX "getChars") (yZ G 0 0 (yFI F)) G (eR (1, 0, 0)) kJ6_getChars_ba4f3 104 [(2, .ref a2), (5, .int x5), (6, .int x6)] [] M H 0 0 := by
  refine y_iload 2 dJ6_getChars_ba4f3_104 rfl ?_
  refine y_if_eq (t := 118) dJ6_getChars_ba4f3_106 (by decide) (fun q => ?_) (fun q => ?_)
  · replace h := h.1 q
    refine y_iload 1 dJ6_getChars_ba4f3_118 rfl ?_
    exact y_iret dJ6_getChars_ba4f3_120 rfl (Nat.zero_le _) (Nat.zero_le _) ⟨_, rfl, h⟩
  · replace h := h.2 q
    refine y_aload_n 0 dJ6_getChars_ba4f3_109 rfl rfl ?_
    refine y_iinc (v := x5 + (-1)) (l' := [(5, .int (x5 + (-1))), (2, .ref a2), (6, .int x6)]) 1 dJ6_getChars_ba4f3_110 rfl rfl (by decide) rfl ?_
    refine y_iload 0 dJ6_getChars_ba4f3_113 rfl ?_
    refine y_bipush (v := 45) dJ6_getChars_ba4f3_115 rfl ?_
    obtain ⟨N_1, f_1, e1_1, e2_1, h⟩ := h
    refine y_bast yXn dJ6_getChars_ba4f3_117 e1_1 e2_1 ?_
    refine y_iload 0 dJ6_getChars_ba4f3_118 rfl ?_
    exact y_iret dJ6_getChars_ba4f3_120 rfl (Nat.zero_le _) (Nat.zero_le _) ⟨_, rfl, h⟩
set_option maxHeartbeats 4000000 in
set_option maxRecDepth 100000 in
theorem B_J6_getChars_ba4f3_22 (G : eG) (M : eM) (H : yH) (F : Int32 → eM → yH → Prop) (x0 : Int32) (a2 : Nat) (x5 : Int32) (x6 : Int32)
    (h : (((-100 : Int32) < x0) → vp_in (-x0) 100 ∧ (∃ (N_2 : Nat) (f_2 : Nat → Int32), H a2 = some (.inl (G.2.2.2 1, (N_2, .inl f_2))) ∧ vp_in (x5 + (-1)) N_2 ∧ ((((-9 : Int32) ≤ x0) → Yx (yX "getChars") (yZ G 0 0 (yFI F)) G (eR (1, 0, 0)) kJ6_getChars_ba4f3 104 [(2, .ref a2), (5, .int (x5 + (-1))), (6, .int x6)] [] M (yU H a2 (.inl (G.2.2.2 1, (N_2, .inl (upd f_2 (x5 + (-1)).toNatClampNeg (eDo (-x0).toNatClampNeg).toInt8.toInt32))))) 0 0) ∧ ((¬ (-9 : Int32) ≤ x0) → vp_in (-x0) 100 ∧ (∃ (N_4 : Nat) (f_4 : Nat → Int32), (yU H a2 (.inl (G.2.2.2 1, (N_2, .inl (upd f_2 (x5 + (-1)).toNatClampNeg (eDo (-x0).toNatClampNeg).toInt8.toInt32))))) a2 = some (.inl (G.2.2.2 1, (N_4, .inl f_4))) ∧ vp_in ((x5 + (-1)) + (-1)) N_4 ∧ (Yx (yX "getChars") (yZ G 0 0 (yFI F)) G (eR (1, 0, 0)) kJ6_getChars_ba4f3 104 [(2, .ref a2), (5, .int ((x5 + (-1)) + (-1))), (6, .int x6)] [] M (yU (yU H a2 (.inl (G.2.2.2 1, (N_2, .inl (upd f_2 (x5 + (-1)).toNatClampNeg (eDo (-x0).toNatClampNeg).toInt8.toInt32))))) a2 (.inl (G.2.2.2 1, (N_4, .inl (upd f_4 ((x5 + (-1)) + (-1)).toNatClampNeg (eDt (-x0).toNatClampNeg).toInt8.toInt32))))) 0 0)))))) ∧ ((¬ (-100 : Int32) < x0) → vp_in (((x0 / 100) * 100) - x0) 100 ∧ (∃ (N_2 : Nat) (f_2 : Nat → Int32), H a2 = some (.inl (G.2.2.2 1, (N_2, .inl f_2))) ∧ vp_in (x5 + (-1)) N_2 ∧ (vp_in (((x0 / 100) * 100) - x0) 100 ∧ (∃ (N_4 : Nat) (f_4 : Nat → Int32), (yU H a2 (.inl (G.2.2.2 1, (N_2, .inl (upd f_2 (x5 + (-1)).toNatClampNeg (eDo (((x0 / 100) * 100) - x0).toNatClampNeg).toInt8.toInt32))))) a2 = some (.inl (G.2.2.2 1, (N_4, .inl f_4))) ∧ vp_in ((x5 + (-1)) + (-1)) N_4 ∧ (Yx (yX "getChars") (yZ G 0 0 (yFI F)) G (eR (1, 0, 0)) kJ6_getChars_ba4f3 22 [(0, .int (x0 / 100)), (2, .ref a2), (5, .int ((x5 + (-1)) + (-1))), (6, .int x6)] [] M (yU (yU H a2 (.inl (G.2.2.2 1, (N_2, .inl (upd f_2 (x5 + (-1)).toNatClampNeg (eDo (((x0 / 100) * 100) - x0).toNatClampNeg).toInt8.toInt32))))) a2 (.inl (G.2.2.2 1, (N_4, .inl (upd f_4 ((x5 + (-1)) + (-1)).toNatClampNeg (eDt (((x0 / 100) * 100) - x0).toNatClampNeg).toInt8.toInt32))))) 0 0)))))) :
    Yx (yX "getChars") (yZ G 0 0 (yFI F)) G (eR (1, 0, 0)) kJ6_getChars_ba4f3 22 [(0, .int x0), (2, .ref a2), (5, .int x5), (6, .int x6)] [] M H 0 0 := by
  refine y_iload_n 0 dJ6_getChars_ba4f3_22 rfl rfl ?_
  refine y_bipush (v := (-100)) dJ6_getChars_ba4f3_23 rfl ?_
  refine y_icmp_gt (t := 72) dJ6_getChars_ba4f3_25 (by decide) (fun q => ?_) (fun q => ?_)
  · replace h := h.1 q
    refine y_aload_n 1 dJ6_getChars_ba4f3_72 rfl rfl ?_
    refine y_iinc (v := x5 + (-1)) (l' := [(5, .int (x5 + (-1))), (0, .int x0), (2, .ref a2), (6, .int x6)]) 2 dJ6_getChars_ba4f3_73 rfl rfl (by decide) rfl ?_
    refine y_iload 0 dJ6_getChars_ba4f3_76 rfl ?_
    refine y_gets (w := .ref (G.1 1307)) dJ6_getChars_ba4f3_78 lFJ6_83 (fun h => h.2.2.2.2.2.2.2.2.2.2.2.2.2.2.2.2.2.1.1) ?_
    refine y_iload_n 1 dJ6_getChars_ba4f3_81 rfl rfl ?_
    refine y_ineg dJ6_getChars_ba4f3_82 ?_
    have h1 := h.1
    replace h := h.2
    refine y_tbS (tc := 1307) (f := eDo) dJ6_getChars_ba4f3_83 (fun h => h.2.2.2.2.2.2.2.2.2.2.2.2.2.2.2.2.2.1) h1 ?_
    obtain ⟨N_2, f_2, e1_2, e2_2, h⟩ := h
    refine y_bast yXn dJ6_getChars_ba4f3_84 e1_2 e2_2 ?_
    refine y_iload_n 1 dJ6_getChars_ba4f3_85 rfl rfl ?_
    refine y_bipush (v := (-9)) dJ6_getChars_ba4f3_86 rfl ?_
    refine y_icmp_ge (t := 104) dJ6_getChars_ba4f3_88 (by decide) (fun q => ?_) (fun q => ?_)
    · replace h := h.1 q
      exact Yx.sub (ks := [2, 0, 3]) rfl h
    · replace h := h.2 q
      refine y_aload_n 2 dJ6_getChars_ba4f3_91 rfl rfl ?_
      refine y_iinc (v := (x5 + (-1)) + (-1)) (l' := [(5, .int ((x5 + (-1)) + (-1))), (0, .int x0), (2, .ref a2), (6, .int x6)]) 0 dJ6_getChars_ba4f3_92 rfl rfl (by decide) rfl ?_
      refine y_iload 0 dJ6_getChars_ba4f3_95 rfl ?_
      refine y_gets (w := .ref (G.1 1308)) dJ6_getChars_ba4f3_97 lFJ6_87 (fun h => h.2.2.2.2.2.2.2.2.2.2.2.2.2.2.2.2.2.2.1) ?_
      refine y_iload_n 1 dJ6_getChars_ba4f3_100 rfl rfl ?_
      refine y_ineg dJ6_getChars_ba4f3_101 ?_
      have h1 := h.1
      replace h := h.2
      refine y_tbS (tc := 1308) (f := eDt) dJ6_getChars_ba4f3_102 (fun h => h.2.2.2.2.2.2.2.2.2.2.2.2.2.2.2.2.2.2) h1 ?_
      obtain ⟨N_4, f_4, e1_4, e2_4, h⟩ := h
      refine y_bast yXn dJ6_getChars_ba4f3_103 e1_4 e2_4 ?_
      exact Yx.sub (ks := [2, 0, 3]) rfl h
  · replace h := h.2 q
    refine y_iload_n 0 dJ6_getChars_ba4f3_28 rfl rfl ?_
    refine y_bipush (v := 100) dJ6_getChars_ba4f3_29 rfl ?_
    refine y_idiv dJ6_getChars_ba4f3_31 (by decide) ?_
    refine y_istore_n (i := 3) (l' := [(3, .int (x0 / 100)), (0, .int x0), (2, .ref a2), (5, .int x5), (6, .int x6)]) dJ6_getChars_ba4f3_32 rfl (by decide) rfl ?_
    refine y_iload_n 0 dJ6_getChars_ba4f3_33 rfl rfl ?_
    refine y_bipush (v := 100) dJ6_getChars_ba4f3_34 rfl ?_
    refine y_imul dJ6_getChars_ba4f3_36 ?_
    refine y_iload_n 1 dJ6_getChars_ba4f3_37 rfl rfl ?_
    refine y_isub dJ6_getChars_ba4f3_38 ?_
    refine y_istore (i := 4) (l' := [(4, .int (((x0 / 100) * 100) - x0)), (3, .int (x0 / 100)), (0, .int x0), (2, .ref a2), (5, .int x5), (6, .int x6)]) dJ6_getChars_ba4f3_39 (by decide) rfl ?_
    refine y_iload_n 1 dJ6_getChars_ba4f3_41 rfl rfl ?_
    refine y_istore_n (i := 0) (l' := [(0, .int (x0 / 100)), (4, .int (((x0 / 100) * 100) - x0)), (3, .int (x0 / 100)), (2, .ref a2), (5, .int x5), (6, .int x6)]) dJ6_getChars_ba4f3_42 rfl (by decide) rfl ?_
    refine y_aload_n 3 dJ6_getChars_ba4f3_43 rfl rfl ?_
    refine y_iinc (v := x5 + (-1)) (l' := [(5, .int (x5 + (-1))), (0, .int (x0 / 100)), (4, .int (((x0 / 100) * 100) - x0)), (3, .int (x0 / 100)), (2, .ref a2), (6, .int x6)]) 4 dJ6_getChars_ba4f3_44 rfl rfl (by decide) rfl ?_
    refine y_iload 0 dJ6_getChars_ba4f3_47 rfl ?_
    refine y_gets (w := .ref (G.1 1307)) dJ6_getChars_ba4f3_49 lFJ6_83 (fun h => h.2.2.2.2.2.2.2.2.2.2.2.2.2.2.2.2.2.1.1) ?_
    refine y_iload 2 dJ6_getChars_ba4f3_52 rfl ?_
    have h1 := h.1
    replace h := h.2
    refine y_tbS (tc := 1307) (f := eDo) dJ6_getChars_ba4f3_54 (fun h => h.2.2.2.2.2.2.2.2.2.2.2.2.2.2.2.2.2.1) h1 ?_
    obtain ⟨N_2, f_2, e1_2, e2_2, h⟩ := h
    refine y_bast yXn dJ6_getChars_ba4f3_55 e1_2 e2_2 ?_
    refine y_aload_n 4 dJ6_getChars_ba4f3_56 rfl rfl ?_
    refine y_iinc (v := (x5 + (-1)) + (-1)) (l' := [(5, .int ((x5 + (-1)) + (-1))), (0, .int (x0 / 100)), (4, .int (((x0 / 100) * 100) - x0)), (3, .int (x0 / 100)), (2, .ref a2), (6, .int x6)]) 0 dJ6_getChars_ba4f3_57 rfl rfl (by decide) rfl ?_
    refine y_iload 0 dJ6_getChars_ba4f3_60 rfl ?_
    refine y_gets (w := .ref (G.1 1308)) dJ6_getChars_ba4f3_62 lFJ6_87 (fun h => h.2.2.2.2.2.2.2.2.2.2.2.2.2.2.2.2.2.2.1) ?_
    refine y_iload 2 dJ6_getChars_ba4f3_65 rfl ?_
    have h1 := h.1
    replace h := h.2
    refine y_tbS (tc := 1308) (f := eDt) dJ6_getChars_ba4f3_67 (fun h => h.2.2.2.2.2.2.2.2.2.2.2.2.2.2.2.2.2.2) h1 ?_
    obtain ⟨N_4, f_4, e1_4, e2_4, h⟩ := h
    refine y_bast yXn dJ6_getChars_ba4f3_68 e1_4 e2_4 ?_
    refine y_goto (t := 22) dJ6_getChars_ba4f3_69 (by decide) ?_
    exact Yx.sub (ks := [1, 4, 0, 5]) rfl h
set_option maxHeartbeats 4000000 in
set_option maxRecDepth 100000 in
theorem B_J6_getChars_ba4f3_14 (G : eG) (M : eM) (H : yH) (F : Int32 → eM → yH → Prop) (x0 : Int32) (a2 : Nat) (x5 : Int32) (x6 : Int32)
    (h : ((¬ x6 = (0 : Int32)) → Yx (yX "getChars") (yZ G 0 0 (yFI F)) G (eR (1, 0, 0)) kJ6_getChars_ba4f3 22 [(0, .int x0), (2, .ref a2), (5, .int x5), (6, .int x6)] [] M H 0 0) ∧ ((x6 = (0 : Int32)) → Yx (yX "getChars") (yZ G 0 0 (yFI F)) G (eR (1, 0, 0)) kJ6_getChars_ba4f3 22 [(0, .int (-x0)), (2, .ref a2), (5, .int x5), (6, .int x6)] [] M H 0 0)) :
    Yx (yX "getChars") (yZ G 0 0 (yFI F)) G (eR (1, 0, 0)) kJ6_getChars_ba4f3 14 [(0, .int x0), (2, .ref a2), (5, .int x5), (6, .int x6)] [] M H 0 0 := by
  refine y_iload 3 dJ6_getChars_ba4f3_14 rfl ?_
  refine y_if_ne (t := 22) dJ6_getChars_ba4f3_16 (by decide) (fun q => ?_) (fun q => ?_)
  · replace h := h.1 q
    exact h
  · replace h := h.2 q
    refine y_iload_n 0 dJ6_getChars_ba4f3_19 rfl rfl ?_
    refine y_ineg dJ6_getChars_ba4f3_20 ?_
    refine y_istore_n (i := 0) (l' := [(0, .int (-x0)), (2, .ref a2), (5, .int x5), (6, .int x6)]) dJ6_getChars_ba4f3_21 rfl (by decide) rfl ?_
    exact h
set_option maxHeartbeats 4000000 in
set_option maxRecDepth 100000 in
theorem C_J6_getChars_ba4f3 (G : eG) (M : eM) (H : yH) (F : Int32 → eM → yH → Prop) (x0 : Int32) (x1 : Int32) (a2 : Nat)
    (h : (((0 : Int32) ≤ x0) → Yx (yX "getChars") (yZ G 0 0 (yFI F)) G (eR (1, 0, 0)) kJ6_getChars_ba4f3 14 [(0, .int x0), (2, .ref a2), (5, .int x1), (6, .int 0)] [] M H 0 0) ∧ ((¬ (0 : Int32) ≤ x0) → Yx (yX "getChars") (yZ G 0 0 (yFI F)) G (eR (1, 0, 0)) kJ6_getChars_ba4f3 14 [(0, .int x0), (2, .ref a2), (5, .int x1), (6, .int 1)] [] M H 0 0)) :
    yCal G (1, 0, 0) kJ6_getChars_ba4f3 [.int x0, .int x1, .ref a2] M H (yFI F) := by
  refine yCal.of (by decide +kernel) rfl (Nat.le_of_ble_eq_true rfl) ?_
  show Yx (yX "getChars") (yZ G 0 0 (yFI F)) G (eR (1, 0, 0)) kJ6_getChars_ba4f3 0 [(0, .int x0), (1, .int x1), (2, .ref a2)] [] M H 0 0
  refine y_iload_n 1 dJ6_getChars_ba4f3_0 rfl rfl ?_
  refine y_istore (i := 5) (l' := [(5, .int x1), (0, .int x0), (1, .int x1), (2, .ref a2)]) dJ6_getChars_ba4f3_1 (by decide) rfl ?_
  refine y_iload_n 1 dJ6_getChars_ba4f3_3 rfl rfl ?_
  refine y_if_ge (t := 11) dJ6_getChars_ba4f3_4 (by decide) (fun q => ?_) (fun q => ?_)
  · replace h := h.1 q
    refine y_iconst (v := 0) dJ6_getChars_ba4f3_11 rfl ?_
    refine y_istore (i := 6) (l' := [(6, .int 0), (5, .int x1), (0, .int x0), (1, .int x1), (2, .ref a2)]) dJ6_getChars_ba4f3_12 (by decide) rfl ?_
    exact Yx.sub (ks := [2, 4, 1, 0]) rfl h
  · replace h := h.2 q
    refine y_iconst (v := 1) dJ6_getChars_ba4f3_7 rfl ?_
    refine y_goto (t := 12) dJ6_getChars_ba4f3_8 (by decide) ?_
    refine y_istore (i := 6) (l' := [(6, .int 1), (5, .int x1), (0, .int x0), (1, .int x1), (2, .ref a2)]) dJ6_getChars_ba4f3_12 (by decide) rfl ?_
    exact Yx.sub (ks := [2, 4, 1, 0]) rfl h
set_option maxHeartbeats 4000000 in
set_option maxRecDepth 100000 in
theorem C_J5_isLatin1_aae02 (G : eG) (M : eM) (H : yH) (F : Bool → eM → yH → Prop) (a0 : Nat)
    (h : ∃ (x_1 : Int32), yG H a0 14 1 (.int x_1) ∧ (((¬ x_1 = (0 : Int32)) → F false M H) ∧ ((x_1 = (0 : Int32)) → F true M H))) :
    yCal G (1, 0, 0) kJ5_isLatin1_aae02 [.ref a0] M H (yFZ F) := by
  refine yCal.of (by decide +kernel) rfl (Nat.le_of_ble_eq_true rfl) ?_
  show Yx (yX "isLatin1") (yZ G 0 0 (yFZ F)) G (eR (1, 0, 0)) kJ5_isLatin1_aae02 0 [(0, .ref a0)] [] M H 0 0
  refine y_gets (w := .int 1) dJ5_isLatin1_aae02_0 lFJ5_18 (fun h => h.2.2.2.2.2.2.2.2.2.2.2.1) ?_
  refine y_if_eq (t := 17) dJ5_isLatin1_aae02_3 (by decide) (fun q => ?_) (fun q => ?_)
  · exact absurd q (by decide)
  · refine y_aload_n 0 dJ5_isLatin1_aae02_6 rfl rfl ?_
    obtain ⟨x_1, ⟨fs_1, e1_1, e2_1⟩, h⟩ := h
    refine y_get (k := 1) dJ5_isLatin1_aae02_7 clJ4 lFJ5_22 (by decide) e1_1 e2_1 ?_
    refine y_if_ne (t := 17) dJ5_isLatin1_aae02_10 (by decide) (fun q => ?_) (fun q => ?_)
    · replace h := h.1 q
      refine y_iconst (v := 0) dJ5_isLatin1_aae02_17 rfl ?_
      exact y_zret (v := eZi false) dJ5_isLatin1_aae02_18 rfl (eZi_nw _) (Nat.zero_le _) (Nat.zero_le _) ⟨_, rfl, h⟩
    · replace h := h.2 q
      refine y_iconst (v := 1) dJ5_isLatin1_aae02_13 rfl ?_
      refine y_goto (t := 18) dJ5_isLatin1_aae02_14 (by decide) ?_
      exact y_zret (v := eZi true) dJ5_isLatin1_aae02_18 rfl (eZi_nw _) (Nat.zero_le _) (Nat.zero_le _) ⟨_, rfl, h⟩
set_option maxHeartbeats 4000000 in
set_option maxRecDepth 100000 in
theorem C_J5_append_c97b9 (G : eG) (M : eM) (H : yH) (F : Nat → eM → yH → Prop) (a0 : Nat) (x1 : Int32)
    (h : ∃ (x_1 : Int32), yG H a0 14 3 (.int x_1) ∧ ((0 + 0 ≤ 1 ∧ 0 + 0 ≤ 2200) ∧ ∃ r_2 : Int32, yRd G (1, 0, 0) kJ6_stringSize_0f7a4 [.int x1] M H (.int r_2) ∧ ((0 + 1 ≤ 1 ∧ 0 + 2200 ≤ 2200) ∧ yIs H a0 14 ∧ yCal G (4, 1, 2200) kJ5_ensureCapacityInternal_d00df [.ref a0, .int (x_1 + r_2)] M H (yFV (fun (M_3 : eM) (H_3 : yH) => ((0 + 1) + 0 ≤ 1 ∧ (0 + 2200) + 0 ≤ 2200) ∧ yIs H_3 a0 14 ∧ ∃ r_4 : Bool, yRd G (1, 0, 0) kJ5_isLatin1_aae02 [.ref a0] M_3 H_3 (.int (eZi r_4)) ∧ (((r_4 = false) → False) ∧ ((r_4 = true) → ∃ (b_5 : Nat), yG H_3 a0 14 0 (.ref b_5) ∧ (((0 + 1) + 0 ≤ 1 ∧ (0 + 2200) + 0 ≤ 2200) ∧ yCal G (1, 0, 0) kJ6_getChars_ba4f3 [.int x1, .int (x_1 + r_2), .ref b_5] M_3 H_3 (yFI (fun (r_6 : Int32) (M_6 : eM) (H_6 : yH) => ∃ (fs_7 : List Value), H_6 a0 = some (.inr (14, fs_7)) ∧ 3 < fs_7.length ∧ ((0 + 1 ≤ 1 ∧ 0 + 2200 ≤ 2200) ∧ F a0 M_6 (yU H_6 a0 (.inr (14, fs_7.set 3 (.int (x_1 + r_2)))))))))))))))) :
    yCal G (5, 1, 2200) kJ5_append_c97b9 [.ref a0, .int x1] M H (yFR F) := by
  refine yCal.of (by decide +kernel) rfl (Nat.le_of_ble_eq_true rfl) ?_
  show Yx (yX "append") (yZ G 1 2200 (yFR F)) G (eR (5, 1, 2200)) kJ5_append_c97b9 0 [(0, .ref a0), (1, .int x1)] [] M H 0 0
  refine y_aload_n 0 dJ5_append_c97b9_0 rfl rfl ?_
  obtain ⟨x_1, ⟨fs_1, e1_1, e2_1⟩, h⟩ := h
  refine y_get (k := 3) dJ5_append_c97b9_1 clJ4 lFJ5_79 (by decide) e1_1 e2_1 ?_
  refine y_istore_n (i := 2) (l' := [(2, .int x_1), (0, .ref a0), (1, .int x1)]) dJ5_append_c97b9_4 rfl (by decide) rfl ?_
  refine y_iload_n 0 dJ5_append_c97b9_5 rfl rfl ?_
  refine y_iload_n 2 dJ5_append_c97b9_6 rfl rfl ?_
  have hb := h.1
  replace h := h.2
  obtain ⟨r_2, hc, h⟩ := h
  refine y_callS yXn (b' := (1, 0, 0)) (K' := kJ6_stringSize_0f7a4) (As := [.int x1]) (S := [.int x_1]) dJ5_append_c97b9_7 mJ6_stringSize_0f7a4 lMJ5_245 rfl ⟨(by decide), hb⟩ (Nat.le_of_ble_eq_true rfl) hc (fun v_ M_ H_ q_ => ?_) rfl
  obtain ⟨rfl, rfl, rfl⟩ := q_
  refine y_iadd dJ5_append_c97b9_10 ?_
  refine y_istore_n (i := 3) (l' := [(3, .int (x_1 + r_2)), (2, .int x_1), (0, .ref a0), (1, .int x1)]) dJ5_append_c97b9_11 rfl (by decide) rfl ?_
  refine y_aload_n 2 dJ5_append_c97b9_12 rfl rfl ?_
  refine y_iload_n 0 dJ5_append_c97b9_13 rfl rfl ?_
  have hb := h.1
  replace h := h.2
  obtain ⟨⟨fs_3, hi⟩, h⟩ := h
  refine y_callU yXn (b' := (4, 1, 2200)) (K' := kJ5_ensureCapacityInternal_d00df) (As := [.int (x_1 + r_2)]) (S := []) dJ5_append_c97b9_14 muJ5_ensureCapacityInternal_d00df lMJ5_100 clJ4 hi rfl ⟨(by decide), hb⟩ (Nat.le_of_ble_eq_true rfl) h (fun v_ M_3 H_3 q_ => ?_) rfl
  obtain ⟨rfl, h⟩ := q_
  refine y_aload_n 2 dJ5_append_c97b9_17 rfl rfl ?_
  have hb := h.1
  replace h := h.2
  obtain ⟨⟨fs_4, hi⟩, h⟩ := h
  obtain ⟨r_4, hc, h⟩ := h
  refine y_callU yXn (b' := (1, 0, 0)) (K' := kJ5_isLatin1_aae02) (As := []) (S := []) dJ5_append_c97b9_18 muJ5_isLatin1_aae02 lMJ5_83 clJ4 hi rfl ⟨(by decide), hb⟩ (Nat.le_of_ble_eq_true rfl) hc (fun v_ M_ H_ q_ => ?_) rfl
  obtain ⟨rfl, rfl, rfl⟩ := q_
  refine y_zif_eq (t := 37) dJ5_append_c97b9_21 (by decide) (fun q => ?_) (fun q => ?_)
  · replace h := h.1 q
    exact h.elim
  · replace h := h.2 q
    refine y_iload_n 3 dJ5_append_c97b9_24 rfl rfl ?_
    refine y_iload_n 0 dJ5_append_c97b9_25 rfl rfl ?_
    refine y_aload_n 2 dJ5_append_c97b9_26 rfl rfl ?_
    obtain ⟨b_5, ⟨fs_5, e1_5, e2_5⟩, h⟩ := h
    refine y_get (k := 0) dJ5_append_c97b9_27 clJ4 lFJ5_15 (by decide) e1_5 e2_5 ?_
    have hb := h.1
    replace h := h.2
    refine y_callS yXn (b' := (1, 0, 0)) (K' := kJ6_getChars_ba4f3) (As := [.int x1, .int (x_1 + r_2), .ref b_5]) (S := []) dJ5_append_c97b9_30 mJ6_getChars_ba4f3 lMJ5_248 rfl ⟨(by decide), hb⟩ (Nat.le_of_ble_eq_true rfl) h (fun v_ M_6 H_6 q_ => ?_) rfl
    obtain ⟨r_6, rfl, h⟩ := q_
    refine y_pop dJ5_append_c97b9_33 rfl ?_
    refine y_goto (t := 48) dJ5_append_c97b9_34 (by decide) ?_
    refine y_aload_n 2 dJ5_append_c97b9_48 rfl rfl ?_
    refine y_iload_n 0 dJ5_append_c97b9_49 rfl rfl ?_
    obtain ⟨fs_7, e1_7, e2_7, h⟩ := h
    refine y_put (k := 3) (ft := tyJ4 3) dJ5_append_c97b9_50 clJ4 lFJ5_79 (by decide) e1_7 e2_7 rfl (clJ4.2.2.1 3 (by decide)) rfl rfl ?_
    refine y_aload_n 2 dJ5_append_c97b9_53 rfl rfl ?_
    have hb := h.1
    replace h := h.2
    exact y_aret dJ5_append_c97b9_54 rfl (Or.inl ⟨_, rfl⟩) hb.1 hb.2 ⟨_, rfl, h⟩
set_option maxHeartbeats 4000000 in
set_option maxRecDepth 100000 in
theorem C_J4_append_bf812 (G : eG) (M : eM) (H : yH) (F : Nat → eM → yH → Prop) (a0 : Nat) (x1 : Int32)
    (h : (0 + 1 ≤ 1 ∧ 0 + 2200 ≤ 2200) ∧ yIs H a0 14 ∧ yCal G (5, 1, 2200) kJ5_append_c97b9 [.ref a0, .int x1] M H (yFR (fun (r_1 : Nat) (M_1 : eM) (H_1 : yH) => (0 + 1 ≤ 1 ∧ 0 + 2200 ≤ 2200) ∧ F a0 M_1 H_1))) :
    yCal G (6, 1, 2200) kJ4_append_bf812 [.ref a0, .int x1] M H (yFR F) := by
  refine yCal.of (by decide +kernel) rfl (Nat.le_of_ble_eq_true rfl) ?_
  show Yx (yX "append") (yZ G 1 2200 (yFR F)) G (eR (6, 1, 2200)) kJ4_append_bf812 0 [(0, .ref a0), (1, .int x1)] [] M H 0 0
  refine y_aload_n 0 dJ4_append_bf812_0 rfl rfl ?_
  refine y_iload_n 1 dJ4_append_bf812_1 rfl rfl ?_
  have hb := h.1
  replace h := h.2
  obtain ⟨⟨fs_1, hi⟩, h⟩ := h
  refine y_callSU yXn (b' := (5, 1, 2200)) (K' := kJ5_append_c97b9) (As := [.int x1]) (S := []) dJ4_append_bf812_2 msJ5_append_c97b9 lMJ4_53 ySup clJ4 hi rfl ⟨(by decide), hb⟩ (Nat.le_of_ble_eq_true rfl) h (fun v_ M_1 H_1 q_ => ?_) rfl
  obtain ⟨r_1, rfl, h⟩ := q_
  refine y_pop dJ4_append_bf812_5 rfl ?_
  refine y_aload_n 0 dJ4_append_bf812_6 rfl rfl ?_
  have hb := h.1
  replace h := h.2
  exact y_aret dJ4_append_bf812_7 rfl (Or.inl ⟨_, rfl⟩) hb.1 hb.2 ⟨_, rfl, h⟩
set_option maxHeartbeats 4000000 in
set_option maxRecDepth 100000 in
theorem C_J5_getValue_6d5f1 (G : eG) (M : eM) (H : yH) (F : Nat → eM → yH → Prop) (a0 : Nat)
    (h : ∃ (b_1 : Nat), yG H a0 14 0 (.ref b_1) ∧ (F b_1 M H)) :
    yCal G (1, 0, 0) kJ5_getValue_6d5f1 [.ref a0] M H (yFR F) := by
  refine yCal.of (by decide +kernel) rfl (Nat.le_of_ble_eq_true rfl) ?_
  show Yx (yX "getValue") (yZ G 0 0 (yFR F)) G (eR (1, 0, 0)) kJ5_getValue_6d5f1 0 [(0, .ref a0)] [] M H 0 0
  refine y_aload_n 0 dJ5_getValue_6d5f1_0 rfl rfl ?_
  obtain ⟨b_1, ⟨fs_1, e1_1, e2_1⟩, h⟩ := h
  refine y_get (k := 0) dJ5_getValue_6d5f1_1 clJ4 lFJ5_15 (by decide) e1_1 e2_1 ?_
  exact y_aret dJ5_getValue_6d5f1_4 rfl (Or.inr ⟨_, rfl⟩) (Nat.zero_le _) (Nat.zero_le _) ⟨_, rfl, h⟩
set_option maxHeartbeats 4000000 in
set_option maxRecDepth 100000 in
theorem C_J5_length_8abf5 (G : eG) (M : eM) (H : yH) (F : Int32 → eM → yH → Prop) (a0 : Nat)
    (h : ∃ (x_1 : Int32), yG H a0 14 3 (.int x_1) ∧ (F x_1 M H)) :
    yCal G (1, 0, 0) kJ5_length_8abf5 [.ref a0] M H (yFI F) := by
  refine yCal.of (by decide +kernel) rfl (Nat.le_of_ble_eq_true rfl) ?_
  show Yx (yX "length") (yZ G 0 0 (yFI F)) G (eR (1, 0, 0)) kJ5_length_8abf5 0 [(0, .ref a0)] [] M H 0 0
  refine y_aload_n 0 dJ5_length_8abf5_0 rfl rfl ?_
  obtain ⟨x_1, ⟨fs_1, e1_1, e2_1⟩, h⟩ := h
  refine y_get (k := 3) dJ5_length_8abf5_1 clJ4 lFJ5_79 (by decide) e1_1 e2_1 ?_
  exact y_iret dJ5_length_8abf5_4 rfl (Nat.zero_le _) (Nat.zero_le _) ⟨_, rfl, h⟩
set_option maxHeartbeats 4000000 in
set_option maxRecDepth 100000 in
theorem C_J4_length_8abf5 (G : eG) (M : eM) (H : yH) (F : Int32 → eM → yH → Prop) (a0 : Nat)
    (h : yIs H a0 14 ∧ ∃ r_1 : Int32, yRd G (1, 0, 0) kJ5_length_8abf5 [.ref a0] M H (.int r_1) ∧ (F r_1 M H)) :
    yCal G (2, 0, 0) kJ4_length_8abf5 [.ref a0] M H (yFI F) := by
  refine yCal.of (by decide +kernel) rfl (Nat.le_of_ble_eq_true rfl) ?_
  show Yx (yX "length") (yZ G 0 0 (yFI F)) G (eR (2, 0, 0)) kJ4_length_8abf5 0 [(0, .ref a0)] [] M H 0 0
  refine y_aload_n 0 dJ4_length_8abf5_0 rfl rfl ?_
  obtain ⟨⟨fs_1, hi⟩, h⟩ := h
  obtain ⟨r_1, hc, h⟩ := h
  refine y_callSU yXn (b' := (1, 0, 0)) (K' := kJ5_length_8abf5) (As := []) (S := []) dJ4_length_8abf5_1 msJ5_length_8abf5 lMJ4_343 ySup clJ4 hi rfl (by decide) (Nat.le_of_ble_eq_true rfl) hc (fun v_ M_ H_ q_ => ?_) rfl
  obtain ⟨rfl, rfl, rfl⟩ := q_
  exact y_iret dJ4_length_8abf5_4 rfl (Nat.zero_le _) (Nat.zero_le _) ⟨_, rfl, h⟩
set_option maxHeartbeats 4000000 in
set_option maxRecDepth 100000 in
theorem C_J7_checkLength_df160 (G : eG) (M : eM) (H : yH) (F : eM → yH → Prop) (x0 : Int32) (x1 : Int32)
    (h : ((x0 ≤ x1) → F M H) ∧ ((¬ x0 ≤ x1) → False)) :
    yCal G (1, 0, 0) kJ7_checkLength_df160 [.int x0, .int x1] M H (yFV F) := by
  refine yCal.of (by decide +kernel) rfl (Nat.le_of_ble_eq_true rfl) ?_
  show Yx (yX "checkLength") (yZ G 0 0 (yFV F)) G (eR (1, 0, 0)) kJ7_checkLength_df160 0 [(0, .int x0), (1, .int x1)] [] M H 0 0
  refine y_iload_n 1 dJ7_checkLength_df160_0 rfl rfl ?_
  refine y_iload_n 0 dJ7_checkLength_df160_1 rfl rfl ?_
  refine y_icmp_ge (t := 37) dJ7_checkLength_df160_2 (by decide) (fun q => ?_) (fun q => ?_)
  · replace h := h.1 q
    exact y_vret dJ7_checkLength_df160_37 rfl (Nat.zero_le _) (Nat.zero_le _) ⟨rfl, h⟩
  · replace h := h.2 q
    exact h.elim
set_option maxHeartbeats 4000000 in
set_option maxRecDepth 100000 in
theorem C_J7_copyOfRangeByte_39247 (G : eG) (M : eM) (H : yH) (F : Nat → eM → yH → Prop) (a0 : Nat) (x1 : Int32) (x2 : Int32)
    (h : (0 + 0 ≤ 1 ∧ 0 + 0 ≤ 1100) ∧ yCal G (1, 0, 0) kJ7_checkLength_df160 [.int x1, .int x2] M H (yFV (fun (M_1 : eM) (H_1 : yH) => ∃ N_2 : Nat, (¬ (x2 - x1) < 0) ∧ (x2 - x1).toNatClampNeg = N_2 ∧ N_2 * 1 ≤ 536870912 ∧ (0 + 1 ≤ 1 ∧ 0 + N_2 ≤ 1100) ∧ ∀ q_2 : Nat, H_1 q_2 = none → (∃ (n_3 : Nat), yLn G 1 (yU H_1 q_2 (.inl (G.2.2.2 1, (N_2, .inl (fun _ => 0))))) a0 n_3 ∧ ((0 + 1 ≤ 1 ∧ 0 + N_2 ≤ 1100) ∧ (∃ (N_4 : Nat) (f_4 : Nat → Int32) (N1_4 : Nat) (g_4 : Nat → Int32), (yU H_1 q_2 (.inl (G.2.2.2 1, (N_2, .inl (fun _ => 0))))) a0 = some (.inl (G.2.2.2 1, (N_4, .inl f_4))) ∧ (yU H_1 q_2 (.inl (G.2.2.2 1, (N_2, .inl (fun _ => 0))))) q_2 = some (.inl (G.2.2.2 1, (N1_4, .inl g_4))) ∧ ((¬ x1 < 0) ∧ (¬ (0 : Int32) < 0) ∧ (¬ (if (x2 - x1) < ((nI n_3) - x1) then (x2 - x1) else ((nI n_3) - x1)) < 0) ∧ x1.toNatClampNeg + (if (x2 - x1) < ((nI n_3) - x1) then (x2 - x1) else ((nI n_3) - x1)).toNatClampNeg ≤ N_4 ∧ (0 : Int32).toNatClampNeg + (if (x2 - x1) < ((nI n_3) - x1) then (x2 - x1) else ((nI n_3) - x1)).toNatClampNeg ≤ N1_4) ∧ (∀ i, i < (if (x2 - x1) < ((nI n_3) - x1) then (x2 - x1) else ((nI n_3) - x1)).toNatClampNeg → fits .byte (.int (f_4 (x1.toNatClampNeg + i))) = true) ∧ ((0 + 1 ≤ 1 ∧ 0 + N_2 ≤ 1100) ∧ F q_2 M_1 (yU (yU H_1 q_2 (.inl (G.2.2.2 1, (N_2, .inl (fun _ => 0))))) q_2 (.inl (G.2.2.2 1, (N1_4, .inl (va_cpy f_4 g_4 x1.toNatClampNeg (0 : Int32).toNatClampNeg (if (x2 - x1) < ((nI n_3) - x1) then (x2 - x1) else ((nI n_3) - x1)).toNatClampNeg)))))))))))) :
    yCal G (2, 1, 1100) kJ7_copyOfRangeByte_39247 [.ref a0, .int x1, .int x2] M H (yFR F) := by
  refine yCal.of (by decide +kernel) rfl (Nat.le_of_ble_eq_true rfl) ?_
  show Yx (yX "copyOfRangeByte") (yZ G 1 1100 (yFR F)) G (eR (2, 1, 1100)) kJ7_copyOfRangeByte_39247 0 [(0, .ref a0), (1, .int x1), (2, .int x2)] [] M H 0 0
  refine y_iload_n 1 dJ7_copyOfRangeByte_39247_0 rfl rfl ?_
  refine y_iload_n 2 dJ7_copyOfRangeByte_39247_1 rfl rfl ?_
  have hb := h.1
  replace h := h.2
  refine y_callS yXn (b' := (1, 0, 0)) (K' := kJ7_checkLength_df160) (As := [.int x1, .int x2]) (S := []) dJ7_copyOfRangeByte_39247_2 mJ7_checkLength_df160 lMJ7_343 rfl ⟨(by decide), hb⟩ (Nat.le_of_ble_eq_true rfl) h (fun v_ M_1 H_1 q_ => ?_) rfl
  obtain ⟨rfl, h⟩ := q_
  refine y_iload_n 2 dJ7_copyOfRangeByte_39247_5 rfl rfl ?_
  refine y_iload_n 1 dJ7_copyOfRangeByte_39247_6 rfl rfl ?_
  refine y_isub dJ7_copyOfRangeByte_39247_7 ?_
  refine y_istore_n (i := 3) (l' := [(3, .int (x2 - x1)), (0, .ref a0), (1, .int x1), (2, .int x2)]) dJ7_copyOfRangeByte_39247_8 rfl (by decide) rfl ?_
  refine y_iload_n 0 dJ7_copyOfRangeByte_39247_9 rfl rfl ?_
  obtain ⟨N_2, z1_2, z2_2, z3_2, hb, h⟩ := h
  refine y_newb dJ7_copyOfRangeByte_39247_10 z1_2 z2_2 z3_2 hb (fun q_2 hq => ?_)
  replace h := h q_2 hq
  refine y_astore (i := 4) (l' := [(4, .ref q_2), (3, .int (x2 - x1)), (0, .ref a0), (1, .int x1), (2, .int x2)]) dJ7_copyOfRangeByte_39247_12 (by decide) rfl ?_
  refine y_aload_n 2 dJ7_copyOfRangeByte_39247_14 rfl rfl ?_
  refine y_iload_n 3 dJ7_copyOfRangeByte_39247_15 rfl rfl ?_
  refine y_aload 0 dJ7_copyOfRangeByte_39247_16 rfl ?_
  refine y_iconst (v := 0) dJ7_copyOfRangeByte_39247_18 rfl ?_
  refine y_aload_n 2 dJ7_copyOfRangeByte_39247_19 rfl rfl ?_
  obtain ⟨n_3, ⟨v_3, e1_3, e2_3⟩, h⟩ := h
  refine y_alenx (t := 1) (ty := .byte) dJ7_copyOfRangeByte_39247_20 rfl e1_3 e2_3 ?_
  refine y_iload_n 3 dJ7_copyOfRangeByte_39247_21 rfl rfl ?_
  refine y_isub dJ7_copyOfRangeByte_39247_22 ?_
  refine y_iload_n 1 dJ7_copyOfRangeByte_39247_23 rfl rfl ?_
  have hb := h.1
  replace h := h.2
  refine y_mmin dJ7_copyOfRangeByte_39247_24 lMJ7_304 eMm_min1 eMm_i eMm_min2 ⟨by decide, by decide⟩ (Nat.le_of_ble_eq_true rfl) hb ?_
  obtain ⟨N_4, f_4, N1_4, g_4, e1_4, e2_4, e3_4, e4_4, h⟩ := h
  refine y_copyb yXn dJ7_copyOfRangeByte_39247_27 lAJ7_150 e1_4 e2_4 e3_4.1 e3_4.2.1 e3_4.2.2.1 e3_4.2.2.2.1 e3_4.2.2.2.2 e4_4 ⟨by decide, by decide⟩ (Nat.le_of_ble_eq_true rfl) ?_
  refine y_aload 0 dJ7_copyOfRangeByte_39247_30 rfl ?_
  have hb := h.1
  replace h := h.2
  exact y_aret dJ7_copyOfRangeByte_39247_32 rfl (Or.inr ⟨_, rfl⟩) hb.1 hb.2 ⟨_, rfl, h⟩
set_option maxHeartbeats 4000000 in
set_option maxRecDepth 100000 in
theorem C_J7_copyOfRange_39247 (G : eG) (M : eM) (H : yH) (F : Nat → eM → yH → Prop) (a0 : Nat) (x1 : Int32) (x2 : Int32)
    (h : ((¬ x1 = (0 : Int32)) → (0 + 1 ≤ 1 ∧ 0 + 1100 ≤ 1100) ∧ yCal G (2, 1, 1100) kJ7_copyOfRangeByte_39247 [.ref a0, .int x1, .int x2] M H (yFR (fun (r_1 : Nat) (M_1 : eM) (H_1 : yH) => (0 + 1 ≤ 1 ∧ 0 + 1100 ≤ 1100) ∧ F r_1 M_1 H_1))) ∧ ((x1 = (0 : Int32)) → ∃ (n_1 : Nat), yLn G 1 H a0 n_1 ∧ (((x2 = (nI n_1)) → ∃ (N_2 : Nat) (f_2 : Nat → Int32), H a0 = some (.inl (G.2.2.2 1, (N_2, .inl f_2))) ∧ (∀ j, fits .byte (.int (f_2 j)) = true) ∧ (0 + 1 ≤ 1 ∧ 0 + N_2 ≤ 1100) ∧ ∀ q_2 : Nat, H q_2 = none → (∃ (x_3 : vp_A), (yU H q_2 (.inl (G.2.2.2 1, (N_2, .inl f_2)))) q_2 = some (.inl (G.2.2.2 1, x_3)) ∧ ((0 + 1 ≤ 1 ∧ 0 + N_2 ≤ 1100) ∧ F q_2 M (yU H q_2 (.inl (G.2.2.2 1, (N_2, .inl f_2))))))) ∧ ((¬ x2 = (nI n_1)) → (0 + 1 ≤ 1 ∧ 0 + 1100 ≤ 1100) ∧ yCal G (2, 1, 1100) kJ7_copyOfRangeByte_39247 [.ref a0, .int x1, .int x2] M H (yFR (fun (r_2 : Nat) (M_2 : eM) (H_2 : yH) => (0 + 1 ≤ 1 ∧ 0 + 1100 ≤ 1100) ∧ F r_2 M_2 H_2)))))) :
    yCal G (3, 1, 1100) kJ7_copyOfRange_39247 [.ref a0, .int x1, .int x2] M H (yFR F) := by
  refine yCal.of (by decide +kernel) rfl (Nat.le_of_ble_eq_true rfl) ?_
  show Yx (yX "copyOfRange") (yZ G 1 1100 (yFR F)) G (eR (3, 1, 1100)) kJ7_copyOfRange_39247 0 [(0, .ref a0), (1, .int x1), (2, .int x2)] [] M H 0 0
  refine y_iload_n 1 dJ7_copyOfRange_39247_0 rfl rfl ?_
  refine y_if_ne (t := 10) dJ7_copyOfRange_39247_1 (by decide) (fun q => ?_) (fun q => ?_)
  · replace h := h.1 q
    refine y_aload_n 0 dJ7_copyOfRange_39247_10 rfl rfl ?_
    refine y_iload_n 1 dJ7_copyOfRange_39247_11 rfl rfl ?_
    refine y_iload_n 2 dJ7_copyOfRange_39247_12 rfl rfl ?_
    have hb := h.1
    replace h := h.2
    refine y_callS yXn (b' := (2, 1, 1100)) (K' := kJ7_copyOfRangeByte_39247) (As := [.ref a0, .int x1, .int x2]) (S := []) dJ7_copyOfRange_39247_13 mJ7_copyOfRangeByte_39247 lMJ7_339 rfl ⟨(by decide), hb⟩ (Nat.le_of_ble_eq_true rfl) h (fun v_ M_1 H_1 q_ => ?_) rfl
    obtain ⟨r_1, rfl, h⟩ := q_
    have hb := h.1
    replace h := h.2
    exact y_aret dJ7_copyOfRange_39247_16 rfl (Or.inr ⟨_, rfl⟩) hb.1 hb.2 ⟨_, rfl, h⟩
  · replace h := h.2 q
    refine y_iload_n 2 dJ7_copyOfRange_39247_4 rfl rfl ?_
    refine y_aload_n 0 dJ7_copyOfRange_39247_5 rfl rfl ?_
    obtain ⟨n_1, ⟨v_1, e1_1, e2_1⟩, h⟩ := h
    refine y_alenx (t := 1) (ty := .byte) dJ7_copyOfRange_39247_6 rfl e1_1 e2_1 ?_
    refine y_icmp_eq (t := 17) dJ7_copyOfRange_39247_7 (by decide) (fun q => ?_) (fun q => ?_)
    · replace h := h.1 q
      refine y_aload_n 0 dJ7_copyOfRange_39247_17 rfl rfl ?_
      obtain ⟨N_2, f_2, e1_2, e2_2, hb, h⟩ := h
      refine y_cloneb yXn dJ7_copyOfRange_39247_18 lJ7_clone e1_2 e2_2 ⟨⟨by decide, by decide⟩, hb⟩ (Nat.le_of_ble_eq_true rfl) (fun q_2 hq => ?_)
      replace h := h q_2 hq
      obtain ⟨x_3, e1_3, h⟩ := h
      refine y_castb dJ7_copyOfRange_39247_21 lJ7_cast e1_3 ?_
      have hb := h.1
      replace h := h.2
      exact y_aret dJ7_copyOfRange_39247_24 rfl (Or.inr ⟨_, rfl⟩) hb.1 hb.2 ⟨_, rfl, h⟩
    · replace h := h.2 q
      refine y_aload_n 0 dJ7_copyOfRange_39247_10 rfl rfl ?_
      refine y_iload_n 1 dJ7_copyOfRange_39247_11 rfl rfl ?_
      refine y_iload_n 2 dJ7_copyOfRange_39247_12 rfl rfl ?_
      have hb := h.1
      replace h := h.2
      refine y_callS yXn (b' := (2, 1, 1100)) (K' := kJ7_copyOfRangeByte_39247) (As := [.ref a0, .int x1, .int x2]) (S := []) dJ7_copyOfRange_39247_13 mJ7_copyOfRangeByte_39247 lMJ7_339 rfl ⟨(by decide), hb⟩ (Nat.le_of_ble_eq_true rfl) h (fun v_ M_2 H_2 q_ => ?_) rfl
      obtain ⟨r_2, rfl, h⟩ := q_
      have hb := h.1
      replace h := h.2
      exact y_aret dJ7_copyOfRange_39247_16 rfl (Or.inr ⟨_, rfl⟩) hb.1 hb.2 ⟨_, rfl, h⟩
set_option maxHeartbeats 4000000 in
set_option maxRecDepth 100000 in
theorem C_J0_init_db425 (G : eG) (M : eM) (H : yH) (F : eM → yH → Prop) (a0 : Nat) (a1 : Nat)
    (h : (0 + 0 ≤ 1 ∧ 0 + 0 ≤ 1100) ∧ yIs H a1 14 ∧ ∃ r_1 : Nat, yRd G (1, 0, 0) kJ5_getValue_6d5f1 [.ref a1] M H (.ref r_1) ∧ ((0 + 0 ≤ 1 ∧ 0 + 0 ≤ 1100) ∧ yIs H a1 14 ∧ ∃ r_2 : Int32, yRd G (2, 0, 0) kJ4_length_8abf5 [.ref a1] M H (.int r_2) ∧ ((0 + 0 ≤ 1 ∧ 0 + 0 ≤ 1100) ∧ yIs H a1 14 ∧ ∃ r_3 : Bool, yRd G (1, 0, 0) kJ5_isLatin1_aae02 [.ref a1] M H (.int (eZi r_3)) ∧ (((r_3 = false) → False) ∧ ((r_3 = true) → ∃ (fs_4 : List Value), H a0 = some (.inr (13, fs_4)) ∧ 1 < fs_4.length ∧ ((0 + 1 ≤ 1 ∧ 0 + 1100 ≤ 1100) ∧ yCal G (3, 1, 1100) kJ7_copyOfRange_39247 [.ref r_1, .int 0, .int r_2] M (yU H a0 (.inr (13, fs_4.set 1 (.int 0)))) (yFR (fun (r_5 : Nat) (M_5 : eM) (H_5 : yH) => ∃ (fs_6 : List Value), H_5 a0 = some (.inr (13, fs_6)) ∧ 0 < fs_6.length ∧ ((0 + 1 ≤ 1 ∧ 0 + 1100 ≤ 1100) ∧ F M_5 (yU H_5 a0 (.inr (13, fs_6.set 0 (.ref r_5))))))))))))) :
    yCal G (4, 1, 1100) kJ0_init_db425 [.ref a0, .ref a1, .null] M H (yFV F) := by
  refine yCal.of (by decide +kernel) rfl (Nat.le_of_ble_eq_true rfl) ?_
  show Yx (yX "<init>") (yZ G 1 1100 (yFV F)) G (eR (4, 1, 1100)) kJ0_init_db425 0 [(0, .ref a0), (1, .ref a1), (2, .null)] [] M H 0 0
  refine y_aload_n 0 dJ0_init_db425_0 rfl rfl ?_
  refine y_objInit dJ0_init_db425_1 (tb7 _ (List.mem_of_getElem? (i := 128) rfl)) ⟨Nat.le_of_ble_eq_true rfl, Nat.le_of_ble_eq_true rfl⟩ (Nat.le_of_ble_eq_true rfl) ?_
  refine y_aload_n 1 dJ0_init_db425_4 rfl rfl ?_
  have hb := h.1
  replace h := h.2
  obtain ⟨⟨fs_1, hi⟩, h⟩ := h
  obtain ⟨r_1, hc, h⟩ := h
  refine y_callU yXn (b' := (1, 0, 0)) (K' := kJ5_getValue_6d5f1) (As := []) (S := []) dJ0_init_db425_5 muJ5_getValue_6d5f1 lMJ0_552 clJ4 hi rfl ⟨(by decide), hb⟩ (Nat.le_of_ble_eq_true rfl) hc (fun v_ M_ H_ q_ => ?_) rfl
  obtain ⟨rfl, rfl, rfl⟩ := q_
  refine y_astore_n (i := 3) (l' := [(3, .ref r_1), (0, .ref a0), (1, .ref a1), (2, .null)]) dJ0_init_db425_8 rfl (by decide) rfl ?_
  refine y_aload_n 2 dJ0_init_db425_9 rfl rfl ?_
  have hb := h.1
  replace h := h.2
  obtain ⟨⟨fs_2, hi⟩, h⟩ := h
  obtain ⟨r_2, hc, h⟩ := h
  refine y_callU yXn (b' := (2, 0, 0)) (K' := kJ4_length_8abf5) (As := []) (S := []) dJ0_init_db425_10 muJ4_length_8abf5 lMJ0_549 clJ4 hi rfl ⟨(by decide), hb⟩ (Nat.le_of_ble_eq_true rfl) hc (fun v_ M_ H_ q_ => ?_) rfl
  obtain ⟨rfl, rfl, rfl⟩ := q_
  refine y_istore (i := 4) (l' := [(4, .int r_2), (3, .ref r_1), (0, .ref a0), (1, .ref a1), (2, .null)]) dJ0_init_db425_13 (by decide) rfl ?_
  refine y_aload_n 3 dJ0_init_db425_15 rfl rfl ?_
  have hb := h.1
  replace h := h.2
  obtain ⟨⟨fs_3, hi⟩, h⟩ := h
  obtain ⟨r_3, hc, h⟩ := h
  refine y_callU yXn (b' := (1, 0, 0)) (K' := kJ5_isLatin1_aae02) (As := []) (S := []) dJ0_init_db425_16 muJ5_isLatin1_aae02 lMJ0_1047 clJ4 hi rfl ⟨(by decide), hb⟩ (Nat.le_of_ble_eq_true rfl) hc (fun v_ M_ H_ q_ => ?_) rfl
  obtain ⟨rfl, rfl, rfl⟩ := q_
  refine y_zif_eq (t := 41) dJ0_init_db425_19 (by decide) (fun q => ?_) (fun q => ?_)
  · replace h := h.1 q
    exact h.elim
  · replace h := h.2 q
    refine y_aload_n 2 dJ0_init_db425_22 rfl rfl ?_
    refine y_iconst (v := 0) dJ0_init_db425_23 rfl ?_
    obtain ⟨fs_4, e1_4, e2_4, h⟩ := h
    refine y_putF (fun _ _ _ _ h => h.1) (k := 1) (ft := tyJ0 1) dJ0_init_db425_24 clJ0 lFJ0_15 (by decide) e1_4 e2_4 rfl rfl (clJ0.2.2.1 1 (by decide)) rfl rfl ?_
    refine y_aload_n 2 dJ0_init_db425_27 rfl rfl ?_
    refine y_aload_n 1 dJ0_init_db425_28 rfl rfl ?_
    refine y_iconst (v := 0) dJ0_init_db425_29 rfl ?_
    refine y_iload 0 dJ0_init_db425_30 rfl ?_
    have hb := h.1
    replace h := h.2
    refine y_callS yXn (b' := (3, 1, 1100)) (K' := kJ7_copyOfRange_39247) (As := [.ref r_1, .int 0, .int r_2]) (S := [.ref a0]) dJ0_init_db425_32 mJ7_copyOfRange_39247 lMJ0_54 rfl ⟨(by decide), hb⟩ (Nat.le_of_ble_eq_true rfl) h (fun v_ M_5 H_5 q_ => ?_) rfl
    obtain ⟨r_5, rfl, h⟩ := q_
    obtain ⟨fs_6, e1_6, e2_6, h⟩ := h
    refine y_putF (fun _ _ _ _ h => h.1) (k := 0) (ft := tyJ0 0) dJ0_init_db425_35 clJ0 lFJ0_9 (by decide) e1_6 e2_6 rfl rfl (clJ0.2.2.1 0 (by decide)) rfl rfl ?_
    refine y_goto (t := 97) dJ0_init_db425_38 (by decide) ?_
    have hb := h.1
    replace h := h.2
    exact y_vret dJ0_init_db425_97 rfl hb.1 hb.2 ⟨rfl, h⟩
set_option maxHeartbeats 4000000 in
set_option maxRecDepth 100000 in
theorem C_J0_init_81219 (G : eG) (M : eM) (H : yH) (F : eM → yH → Prop) (a0 : Nat) (a1 : Nat)
    (h : (0 + 1 ≤ 1 ∧ 0 + 1100 ≤ 1100) ∧ yCal G (4, 1, 1100) kJ0_init_db425 [.ref a0, .ref a1, .null] M H (yFV (fun (M_1 : eM) (H_1 : yH) => (0 + 1 ≤ 1 ∧ 0 + 1100 ≤ 1100) ∧ F M_1 H_1))) :
    yCal G (5, 1, 1100) kJ0_init_81219 [.ref a0, .ref a1] M H (yFV F) := by
  refine yCal.of (by decide +kernel) rfl (Nat.le_of_ble_eq_true rfl) ?_
  show Yx (yX "<init>") (yZ G 1 1100 (yFV F)) G (eR (5, 1, 1100)) kJ0_init_81219 0 [(0, .ref a0), (1, .ref a1)] [] M H 0 0
  refine y_aload_n 0 dJ0_init_81219_0 rfl rfl ?_
  refine y_aload_n 1 dJ0_init_81219_1 rfl rfl ?_
  refine y_aconst dJ0_init_81219_2 ?_
  have hb := h.1
  replace h := h.2
  refine y_callI yXn (b' := (4, 1, 1100)) (K' := kJ0_init_db425) (As := [.ref a1, .null]) (a := a0) (S := []) dJ0_init_81219_3 miJ0_init_db425 lMJ0_489 rfl ⟨(by decide), hb⟩ (Nat.le_of_ble_eq_true rfl) h (fun v_ M_1 H_1 q_ => ?_) rfl
  obtain ⟨rfl, h⟩ := q_
  have hb := h.1
  replace h := h.2
  exact y_vret dJ0_init_81219_6 rfl hb.1 hb.2 ⟨rfl, h⟩
set_option maxHeartbeats 4000000 in
set_option maxRecDepth 100000 in
theorem C_J4_toString_0e30d (G : eG) (M : eM) (H : yH) (F : Nat → eM → yH → Prop) (a0 : Nat)
    (h : (0 + 1 ≤ 2 ∧ 0 + 4 ≤ 1104) ∧ ∀ q_1 : Nat, H q_1 = none → (((0 + 1) + 1 ≤ 2 ∧ (0 + 4) + 1100 ≤ 1104) ∧ yCal G (5, 1, 1100) kJ0_init_81219 [.ref q_1, .ref a0] M (yU H q_1 (.inr (13, [.null, .int 0, .int 0, .int 0]))) (yFV (fun (M_2 : eM) (H_2 : yH) => (0 + 1 + 1 ≤ 2 ∧ 0 + 4 + 1100 ≤ 1104) ∧ F q_1 M_2 H_2)))) :
    yCal G (6, 2, 1104) kJ4_toString_0e30d [.ref a0] M H (yFR F) := by
  refine yCal.of (by decide +kernel) rfl (Nat.le_of_ble_eq_true rfl) ?_
  show Yx (yX "toString") (yZ G 2 1104 (yFR F)) G (eR (6, 2, 1104)) kJ4_toString_0e30d 0 [(0, .ref a0)] [] M H 0 0
  have hb := h.1
  replace h := h.2
  refine y_new dJ4_toString_0e30d_0 clJ0 (tb7 _ (List.mem_of_getElem? (i := 120) rfl)) (tb7 _ (List.mem_of_getElem? (i := 121) rfl)) (tb1 _ (List.mem_of_getElem? (i := 17) rfl)) xd_J0 hb (fun q_1 hq => ?_)
  replace h := h q_1 hq
  refine y_dup dJ4_toString_0e30d_3 rfl ?_
  refine y_aload_n 0 dJ4_toString_0e30d_4 rfl rfl ?_
  have hb := h.1
  replace h := h.2
  refine y_callI yXn (b' := (5, 1, 1100)) (K' := kJ0_init_81219) (As := [.ref a0]) (a := q_1) (S := [.ref q_1]) dJ4_toString_0e30d_5 miJ0_init_81219 lMJ4_137 rfl ⟨(by decide), hb⟩ (Nat.le_of_ble_eq_true rfl) h (fun v_ M_2 H_2 q_ => ?_) rfl
  obtain ⟨rfl, h⟩ := q_
  have hb := h.1
  replace h := h.2
  exact y_aret dJ4_toString_0e30d_8 rfl (Or.inl ⟨_, rfl⟩) hb.1 hb.2 ⟨_, rfl, h⟩
set_option maxHeartbeats 4000000 in
set_option maxRecDepth 100000 in
theorem C_J5_init_d00df (G : eG) (M : eM) (H : yH) (F : eM → yH → Prop) (a0 : Nat) (x1 : Int32)
    (h : ∃ N_1 : Nat, (¬ x1 < 0) ∧ x1.toNatClampNeg = N_1 ∧ N_1 * 1 ≤ 536870912 ∧ (0 + 1 ≤ 1 ∧ 0 + N_1 ≤ 16) ∧ ∀ q_1 : Nat, H q_1 = none → (∃ (fs_2 : List Value), (yU H q_1 (.inl (G.2.2.2 1, (N_1, .inl (fun _ => 0))))) a0 = some (.inr (14, fs_2)) ∧ 0 < fs_2.length ∧ (∃ (fs_3 : List Value), (yU (yU H q_1 (.inl (G.2.2.2 1, (N_1, .inl (fun _ => 0))))) a0 (.inr (14, fs_2.set 0 (.ref q_1)))) a0 = some (.inr (14, fs_3)) ∧ 1 < fs_3.length ∧ ((0 + 1 ≤ 1 ∧ 0 + N_1 ≤ 16) ∧ F M (yU (yU (yU H q_1 (.inl (G.2.2.2 1, (N_1, .inl (fun _ => 0))))) a0 (.inr (14, fs_2.set 0 (.ref q_1)))) a0 (.inr (14, fs_3.set 1 (.int 0)))))))) :
    yCal G (2, 1, 16) kJ5_init_d00df [.ref a0, .int x1] M H (yFV F) := by
  refine yCal.of (by decide +kernel) rfl (Nat.le_of_ble_eq_true rfl) ?_
  show Yx (yX "<init>") (yZ G 1 16 (yFV F)) G (eR (2, 1, 16)) kJ5_init_d00df 0 [(0, .ref a0), (1, .int x1)] [] M H 0 0
  refine y_aload_n 0 dJ5_init_d00df_0 rfl rfl ?_
  refine y_objInit dJ5_init_d00df_1 (tb7 _ (List.mem_of_getElem? (i := 92) rfl)) ⟨Nat.le_of_ble_eq_true rfl, Nat.le_of_ble_eq_true rfl⟩ (Nat.le_of_ble_eq_true rfl) ?_
  refine y_gets (w := .int 1) dJ5_init_d00df_4 lFJ5_18 (fun h => h.2.2.2.2.2.2.2.2.2.2.2.1) ?_
  refine y_if_eq (t := 25) dJ5_init_d00df_7 (by decide) (fun q => ?_) (fun q => ?_)
  · exact absurd q (by decide)
  · refine y_aload_n 0 dJ5_init_d00df_10 rfl rfl ?_
    refine y_iload_n 1 dJ5_init_d00df_11 rfl rfl ?_
    obtain ⟨N_1, z1_1, z2_1, z3_1, hb, h⟩ := h
    refine y_newb dJ5_init_d00df_12 z1_1 z2_1 z3_1 hb (fun q_1 hq => ?_)
    replace h := h q_1 hq
    obtain ⟨fs_2, e1_2, e2_2, h⟩ := h
    refine y_put (k := 0) (ft := tyJ4 0) dJ5_init_d00df_14 clJ4 lFJ5_15 (by decide) e1_2 e2_2 rfl (clJ4.2.2.1 0 (by decide)) rfl rfl ?_
    refine y_aload_n 0 dJ5_init_d00df_17 rfl rfl ?_
    refine y_iconst (v := 0) dJ5_init_d00df_18 rfl ?_
    obtain ⟨fs_3, e1_3, e2_3, h⟩ := h
    refine y_put (k := 1) (ft := tyJ4 1) dJ5_init_d00df_19 clJ4 lFJ5_22 (by decide) e1_3 e2_3 rfl (clJ4.2.2.1 1 (by decide)) rfl rfl ?_
    refine y_goto (t := 38) dJ5_init_d00df_22 (by decide) ?_
    have hb := h.1
    replace h := h.2
    exact y_vret dJ5_init_d00df_38 rfl hb.1 hb.2 ⟨rfl, h⟩
set_option maxHeartbeats 4000000 in
set_option maxRecDepth 100000 in
theorem C_J4_init_da8c8 (G : eG) (M : eM) (H : yH) (F : eM → yH → Prop) (a0 : Nat)
    (h : (0 + 1 ≤ 1 ∧ 0 + 16 ≤ 16) ∧ yCal G (2, 1, 16) kJ5_init_d00df [.ref a0, .int 16] M H (yFV (fun (M_1 : eM) (H_1 : yH) => (0 + 1 ≤ 1 ∧ 0 + 16 ≤ 16) ∧ F M_1 H_1))) :
    yCal G (3, 1, 16) kJ4_init_da8c8 [.ref a0] M H (yFV F) := by
  refine yCal.of (by decide +kernel) rfl (Nat.le_of_ble_eq_true rfl) ?_
  show Yx (yX "<init>") (yZ G 1 16 (yFV F)) G (eR (3, 1, 16)) kJ4_init_da8c8 0 [(0, .ref a0)] [] M H 0 0
  refine y_aload_n 0 dJ4_init_da8c8_0 rfl rfl ?_
  refine y_bipush (v := 16) dJ4_init_da8c8_1 rfl ?_
  have hb := h.1
  replace h := h.2
  refine y_callI yXn (b' := (2, 1, 16)) (K' := kJ5_init_d00df) (As := [.int 16]) (a := a0) (S := []) dJ4_init_da8c8_3 miJ5_init_d00df lMJ4_1 rfl ⟨(by decide), hb⟩ (Nat.le_of_ble_eq_true rfl) h (fun v_ M_1 H_1 q_ => ?_) rfl
  obtain ⟨rfl, h⟩ := q_
  have hb := h.1
  replace h := h.2
  exact y_vret dJ4_init_da8c8_6 rfl hb.1 hb.2 ⟨rfl, h⟩
