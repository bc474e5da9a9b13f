set_option maxHeartbeats 4000000 in
set_option maxRecDepth 100000 in
theorem C_X13_thrown (G : eG) (M : eM) (F : Int32 → eM → Prop) 
    (h : F (M 100 0) M) :
    Cal G 100 40 (1, 0, 0) kX13_thrown [.ref (G.1 100)] M (eFI F) := by
  refine Cal.of (by decide +kernel) rfl (Nat.le_of_ble_eq_true rfl) ?_
  show Ev (eZ G 100 40 0 0 (eFI F)) G 100 40 (1, 0, 0) kX13_thrown 0 [(0, .ref (G.1 100))] [] M 0 0
  refine r_aload_n 0 dX13_thrown_0 rfl rfl ?_
  refine r_getI (c := 100) (k := 0) dX13_thrown_1 clX13 lFX13_65 (by decide) iM100 sC100 rfl ?_
  refine r_iretI dX13_thrown_4 rfl (by decide) (by decide) h
set_option maxHeartbeats 4000000 in
set_option maxRecDepth 100000 in
theorem C_X13_no (G : eG) (M : eM) (F : Int32 → eM → Prop) (a1 : Int32)
    (h : F 0 (eU M 100 0 a1)) :
    Cal G 100 40 (1, 0, 0) kX13_no [.ref (G.1 100), .int a1] M (eFI F) := by
  refine Cal.of (by decide +kernel) rfl (Nat.le_of_ble_eq_true rfl) ?_
  show Ev (eZ G 100 40 0 0 (eFI F)) G 100 40 (1, 0, 0) kX13_no 0 [(0, .ref (G.1 100)), (1, .int a1)] [] M 0 0
  refine r_aload_n 0 dX13_no_0 rfl rfl ?_
  refine r_iload_n 1 dX13_no_1 rfl rfl ?_
  refine r_putI (c := 100) (k := 0) dX13_no_2 clX13 lFX13_65 (by decide) iM100 sC100 rfl rfl rfl ?_
  refine r_iconst (v := 0) dX13_no_5 rfl ?_
  refine r_iretI dX13_no_6 rfl (by decide) (by decide) h
set_option maxHeartbeats 4000000 in
set_option maxRecDepth 100000 in
theorem C_X13_isNot (G : eG) (M : eM) (F : Bool → eM → Prop) (a1 : Int32)
    (h : F false (eU M 100 0 a1)) :
    Cal G 100 40 (1, 0, 0) kX13_isNot [.ref (G.1 100), .int a1] M (eFZ F) := by
  refine Cal.of (by decide +kernel) rfl (Nat.le_of_ble_eq_true rfl) ?_
  show Ev (eZ G 100 40 0 0 (eFZ F)) G 100 40 (1, 0, 0) kX13_isNot 0 [(0, .ref (G.1 100)), (1, .int a1)] [] M 0 0
  refine r_aload_n 0 dX13_isNot_0 rfl rfl ?_
  refine r_iload_n 1 dX13_isNot_1 rfl rfl ?_
  refine r_putI (c := 100) (k := 0) dX13_isNot_2 clX13 lFX13_65 (by decide) iM100 sC100 rfl rfl rfl ?_
  refine r_iconst (v := 0) dX13_isNot_5 rfl ?_
  refine r_iretZ0 dX13_isNot_6 rfl (by decide) (by decide) h
set_option maxHeartbeats 4000000 in
set_option maxRecDepth 100000 in
theorem C_X13_ok (G : eG) (M : eM) (F : Int32 → eM → Prop) (a1 : Int32)
    (h : F a1 (eU M 100 0 0)) :
    Cal G 100 40 (1, 0, 0) kX13_ok [.ref (G.1 100), .int a1] M (eFI F) := by
  refine Cal.of (by decide +kernel) rfl (Nat.le_of_ble_eq_true rfl) ?_
  show Ev (eZ G 100 40 0 0 (eFI F)) G 100 40 (1, 0, 0) kX13_ok 0 [(0, .ref (G.1 100)), (1, .int a1)] [] M 0 0
  refine r_aload_n 0 dX13_ok_0 rfl rfl ?_
  refine r_iconst (v := 0) dX13_ok_1 rfl ?_
  refine r_putI (c := 100) (k := 0) dX13_ok_2 clX13 lFX13_65 (by decide) iM100 sC100 rfl rfl rfl ?_
  refine r_iload_n 1 dX13_ok_5 rfl rfl ?_
  refine r_iretI dX13_ok_6 rfl (by decide) (by decide) h
set_option maxHeartbeats 4000000 in
set_option maxRecDepth 100000 in
theorem C_X13_isIn (G : eG) (M : eM) (F : Bool → eM → Prop) (a1 : Int32) (a2 : Int32) (a3 : Int32)
    (h : ((a1 < a2) → F false M) ∧ ((¬ a1 < a2) → ((a3 < a1) → F false M) ∧ ((¬ a3 < a1) → F true M))) :
    Cal G 100 40 (1, 0, 0) kX13_isIn [.int a1, .int a2, .int a3] M (eFZ F) := by
  refine Cal.of (by decide +kernel) rfl (Nat.le_of_ble_eq_true rfl) ?_
  show Ev (eZ G 100 40 0 0 (eFZ F)) G 100 40 (1, 0, 0) kX13_isIn 0 [(0, .int a1), (1, .int a2), (2, .int a3)] [] M 0 0
  refine r_iload_n 0 dX13_isIn_0 rfl rfl ?_
  refine r_iload_n 1 dX13_isIn_1 rfl rfl ?_
  refine r_icmp_lt (t := 14) dX13_isIn_2 (by decide) (fun q => ?_) (fun q => ?_)
  · replace h := h.1 q
    refine r_iconst (v := 0) dX13_isIn_14 rfl ?_
    refine r_iretZ0 dX13_isIn_15 rfl (by decide) (by decide) h
  · replace h := h.2 q
    refine r_iload_n 0 dX13_isIn_5 rfl rfl ?_
    refine r_iload_n 2 dX13_isIn_6 rfl rfl ?_
    refine r_icmp_gt (t := 14) dX13_isIn_7 (by decide) (fun q => ?_) (fun q => ?_)
    · replace h := h.1 q
      refine r_iconst (v := 0) dX13_isIn_14 rfl ?_
      refine r_iretZ0 dX13_isIn_15 rfl (by decide) (by decide) h
    · replace h := h.2 q
      refine r_iconst (v := 1) dX13_isIn_10 rfl ?_
      refine r_goto (t := 15) dX13_isIn_11 (by decide) ?_
      refine r_iretZ1 dX13_isIn_15 rfl (by decide) (by decide) h
set_option maxHeartbeats 4000000 in
set_option maxRecDepth 100000 in
theorem C_X13_isLetter (G : eG) (M : eM) (F : Bool → eM → Prop) (a1 : Int32)
    (h : Cal G 100 40 (1, 0, 0) kX13_isIn [.int a1, .int 97, .int 122] M (eFZ (fun (r1 : Bool) (M1 : eM) => F r1 M1))) :
    Cal G 100 40 (2, 0, 0) kX13_isLetter [.int a1] M (eFZ F) := by
  refine Cal.of (by decide +kernel) rfl (Nat.le_of_ble_eq_true rfl) ?_
  show Ev (eZ G 100 40 0 0 (eFZ F)) G 100 40 (2, 0, 0) kX13_isLetter 0 [(0, .int a1)] [] M 0 0
  refine r_iload_n 0 dX13_isLetter_0 rfl rfl ?_
  refine r_bipush (v := 97) dX13_isLetter_1 rfl ?_
  refine r_bipush (v := 122) dX13_isLetter_3 rfl ?_
  refine r_callSZ (b' := (1, 0, 0)) (S := []) [.int a1, .int 97, .int 122] dX13_isLetter_5 mX13_isIn lMX13_68 rfl (by decide) (Nat.le_of_ble_eq_true rfl) h (fun r1 M1 h => ?_) rfl
  refine r_iretZ dX13_isLetter_8 rfl (by decide) (by decide) h
set_option maxHeartbeats 4000000 in
set_option maxRecDepth 100000 in
theorem C_X13_isDigit (G : eG) (M : eM) (F : Bool → eM → Prop) (a1 : Int32)
    (h : Cal G 100 40 (1, 0, 0) kX13_isIn [.int a1, .int 48, .int 57] M (eFZ (fun (r1 : Bool) (M1 : eM) => F r1 M1))) :
    Cal G 100 40 (2, 0, 0) kX13_isDigit [.int a1] M (eFZ F) := by
  refine Cal.of (by decide +kernel) rfl (Nat.le_of_ble_eq_true rfl) ?_
  show Ev (eZ G 100 40 0 0 (eFZ F)) G 100 40 (2, 0, 0) kX13_isDigit 0 [(0, .int a1)] [] M 0 0
  refine r_iload_n 0 dX13_isDigit_0 rfl rfl ?_
  refine r_bipush (v := 48) dX13_isDigit_1 rfl ?_
  refine r_bipush (v := 57) dX13_isDigit_3 rfl ?_
  refine r_callSZ (b' := (1, 0, 0)) (S := []) [.int a1, .int 48, .int 57] dX13_isDigit_5 mX13_isIn lMX13_68 rfl (by decide) (Nat.le_of_ble_eq_true rfl) h (fun r1 M1 h => ?_) rfl
  refine r_iretZ dX13_isDigit_8 rfl (by decide) (by decide) h
set_option maxHeartbeats 4000000 in
set_option maxRecDepth 100000 in
theorem C_X13_byteAt (G : eG) (M : eM) (F : Int32 → eM → Prop) (a1 : Int32)
    (h : (((M 100 2) ≤ a1) → F (-1) M) ∧ ((¬ (M 100 2) ≤ a1) → vp_in a1 2000 ∧ (F (M 101 a1.toNatClampNeg) M))) :
    Cal G 100 40 (1, 0, 0) kX13_byteAt [.ref (G.1 100), .int a1] M (eFI F) := by
  refine Cal.of (by decide +kernel) rfl (Nat.le_of_ble_eq_true rfl) ?_
  show Ev (eZ G 100 40 0 0 (eFI F)) G 100 40 (1, 0, 0) kX13_byteAt 0 [(0, .ref (G.1 100)), (1, .int a1)] [] M 0 0
  refine r_iload_n 1 dX13_byteAt_0 rfl rfl ?_
  refine r_aload_n 0 dX13_byteAt_1 rfl rfl ?_
  refine r_getI (c := 100) (k := 2) dX13_byteAt_2 clX13 lFX13_72 (by decide) iM100 sC100 rfl ?_
  refine r_icmp_ge (t := 17) dX13_byteAt_5 (by decide) (fun q => ?_) (fun q => ?_)
  · replace h := h.1 q
    refine r_iconst (v := (-1)) dX13_byteAt_17 rfl ?_
    refine r_iretI dX13_byteAt_18 rfl (by decide) (by decide) h
  · replace h := h.2 q
    refine r_aload_n 0 dX13_byteAt_8 rfl rfl ?_
    refine r_getR (c := 100) (k := 1) 101 dX13_byteAt_9 clX13 lFX13_9 (by decide) iM100 sC100 rfl ?_
    refine r_iload_n 1 dX13_byteAt_12 rfl rfl ?_
    have h1 := h.1
    replace h := h.2
    refine r_iald (c := 101) (N := 2000) dX13_byteAt_13 iM101 sC101 h1 ?_
    refine r_goto (t := 18) dX13_byteAt_14 (by decide) ?_
    refine r_iretI dX13_byteAt_18 rfl (by decide) (by decide) h
set_option maxHeartbeats 4000000 in
set_option maxRecDepth 100000 in
theorem B_X13_isWord_13 (G : eG) {k : Nat} (hk : k < eWtx.length) (M : eM) (F : Bool → eM → Prop) (x1 : Int32) (x2 : Int32) (x4 : Int32)
    (h : ((x2 ≤ x4) → F true M) ∧ ((¬ x2 ≤ x4) → vp_in x4 (eWtx.getD k []).length ∧ (vp_in (x1 + x4) 2000 ∧ ((((eWc k x4.toNatClampNeg) = (M 101 (x1 + x4).toNatClampNeg)) → Ev (eZ G 100 40 0 0 (eFZ F)) G 100 40 (6, 0, 0) kX13_isWord 13 [(0, .ref (G.1 100)), (1, .int x1), (2, .int x2), (3, .ref (G.1 (1400 + k))), (4, .int (x4 + 1))] [] M 0 0) ∧ ((¬ (eWc k x4.toNatClampNeg) = (M 101 (x1 + x4).toNatClampNeg)) → F false M))))) :
    Ev (eZ G 100 40 0 0 (eFZ F)) G 100 40 (6, 0, 0) kX13_isWord 13 [(0, .ref (G.1 100)), (1, .int x1), (2, .int x2), (3, .ref (G.1 (1400 + k))), (4, .int x4)] [] M 0 0 := by
  refine r_iload 4 dX13_isWord_13 rfl ?_
  refine r_iload_n 2 dX13_isWord_15 rfl rfl ?_
  refine r_icmp_ge (t := 45) dX13_isWord_16 (by decide) (fun q => ?_) (fun q => ?_)
  · replace h := h.1 q
    refine r_iconst (v := 1) dX13_isWord_45 rfl ?_
    refine r_iretZ1 dX13_isWord_46 rfl (by decide) (by decide) h
  · replace h := h.2 q
    refine r_aload_n 3 dX13_isWord_19 rfl rfl ?_
    refine r_iload 4 dX13_isWord_20 rfl ?_
    have h1 := h.1
    replace h := h.2
    refine r_callTI (eSt.w G) hk (b' := (4, 0, 0)) (S := []) [.int x4] dX13_isWord_22 mJ0_charAt_5068e lMX13_80 rfl rfl (by decide) (Nat.le_of_ble_eq_true rfl) (C_charAt (eSt.w G) hk (eWlen hk) h1 (fun r M' => eWc k x4.toNatClampNeg = r ∧ M = M') ⟨rfl, rfl⟩) (fun r M' q => ?_) rfl
    obtain ⟨rfl, rfl⟩ := q
    refine r_aload_n 0 dX13_isWord_25 rfl rfl ?_
    refine r_getR (c := 100) (k := 1) 101 dX13_isWord_26 clX13 lFX13_9 (by decide) iM100 sC100 rfl ?_
    refine r_iload_n 1 dX13_isWord_29 rfl rfl ?_
    refine r_iload 4 dX13_isWord_30 rfl ?_
    refine r_iadd dX13_isWord_32 ?_
    have h1 := h.1
    replace h := h.2
    refine r_iald (c := 101) (N := 2000) dX13_isWord_33 iM101 sC101 h1 ?_
    refine r_icmp_eq (t := 39) dX13_isWord_34 (by decide) (fun q => ?_) (fun q => ?_)
    · replace h := h.1 q
      refine r_iinc (v := x4 + 1) (l' := [(4, .int (x4 + 1)), (0, .ref (G.1 100)), (1, .int x1), (2, .int x2), (3, .ref (G.1 (1400 + k)))]) 4 dX13_isWord_39 rfl rfl (by decide) rfl ?_
      refine r_goto (t := 13) dX13_isWord_42 (by decide) ?_
      exact Ev.sub (ks := [1, 2, 3, 4, 0]) rfl h
    · replace h := h.2 q
      refine r_iconst (v := 0) dX13_isWord_37 rfl ?_
      refine r_iretZ0 dX13_isWord_38 rfl (by decide) (by decide) h
set_option maxHeartbeats 4000000 in
set_option maxRecDepth 100000 in
theorem C_X13_isWord (G : eG) {k : Nat} (hk : k < eWtx.length) (M : eM) (F : Bool → eM → Prop) (a1 : Int32) (a2 : Int32)
    (h : (((eWl k) = a2) → Ev (eZ G 100 40 0 0 (eFZ F)) G 100 40 (6, 0, 0) kX13_isWord 13 [(0, .ref (G.1 100)), (1, .int a1), (2, .int a2), (3, .ref (G.1 (1400 + k))), (4, .int 0)] [] M 0 0) ∧ ((¬ (eWl k) = a2) → F false M)) :
    Cal G 100 40 (6, 0, 0) kX13_isWord [.ref (G.1 100), .int a1, .int a2, .ref (G.1 (1400 + k))] M (eFZ F) := by
  refine Cal.of (by decide +kernel) rfl (Nat.le_of_ble_eq_true rfl) ?_
  show Ev (eZ G 100 40 0 0 (eFZ F)) G 100 40 (6, 0, 0) kX13_isWord 0 [(0, .ref (G.1 100)), (1, .int a1), (2, .int a2), (3, .ref (G.1 (1400 + k)))] [] M 0 0
  refine r_aload_n 3 dX13_isWord_0 rfl rfl ?_
  refine r_callTI (eSt.w G) hk (b' := (2, 0, 0)) (S := []) [] dX13_isWord_1 mJ0_length_8abf5 lMX13_75 rfl rfl (by decide) (Nat.le_of_ble_eq_true rfl) (C_length (eSt.w G) hk (eWlen hk) (fun r M' => eWl k = r ∧ M = M') ⟨rfl, rfl⟩) (fun r M' q => ?_) rfl
  obtain ⟨rfl, rfl⟩ := q
  refine r_iload_n 2 dX13_isWord_4 rfl rfl ?_
  refine r_icmp_eq (t := 10) dX13_isWord_5 (by decide) (fun q => ?_) (fun q => ?_)
  · replace h := h.1 q
    refine r_iconst (v := 0) dX13_isWord_10 rfl ?_
    refine r_istore (l' := [(4, .int 0), (0, .ref (G.1 100)), (1, .int a1), (2, .int a2), (3, .ref (G.1 (1400 + k)))]) dX13_isWord_11 (by decide) rfl ?_
    exact Ev.sub (ks := [1, 2, 3, 4, 0]) rfl h
  · replace h := h.2 q
    refine r_iconst (v := 0) dX13_isWord_8 rfl ?_
    refine r_iretZ0 dX13_isWord_9 rfl (by decide) (by decide) h
set_option maxHeartbeats 4000000 in
set_option maxRecDepth 100000 in
theorem B_X13_keyword_2 (G : eG) (M : eM) (F : Int32 → eM → Prop) (x1 : Int32) (x2 : Int32) (x3 : Int32)
    (h : ((24 ≤ x3) → ((x2 ≤ 10) → F 30 M) ∧ ((¬ x2 ≤ 10) → F 32 M)) ∧ ((¬ 24 ≤ x3) → vp_in x3 24 ∧ (Cal G 100 40 (6, 0, 0) kX13_isWord [.ref (G.1 100), .int x1, .int x2, .ref (G.1 (1400 + x3.toNatClampNeg))] M (eFZ (fun (r1 : Bool) (M1 : eM) => ((r1 = false) → Ev (eZ G 100 40 0 0 (eFI F)) G 100 40 (7, 0, 0) kX13_keyword 2 [(0, .ref (G.1 100)), (1, .int x1), (2, .int x2), (3, .int (x3 + 1))] [] M1 0 0) ∧ ((r1 = true) → F x3 M1)))))) :
    Ev (eZ G 100 40 0 0 (eFI F)) G 100 40 (7, 0, 0) kX13_keyword 2 [(0, .ref (G.1 100)), (1, .int x1), (2, .int x2), (3, .int x3)] [] M 0 0 := by
  refine r_iload_n 3 dX13_keyword_2 rfl rfl ?_
  refine r_gets (w := .ref (G.1 1305)) dX13_keyword_3 lFX13_84 (fun h => h.2.2.2.2.2.2.2.2.2.1.1) ?_
  refine r_tlen (tc := 1305) (v := 24) dX13_keyword_6 (fun h => h.2.2.2.2.2.2.2.2.2.1) rfl ?_
  refine r_icmp_ge (t := 32) dX13_keyword_7 (by decide) (fun q => ?_) (fun q => ?_)
  · replace h := h.1 q
    refine r_iload_n 2 dX13_keyword_32 rfl rfl ?_
    refine r_bipush (v := 10) dX13_keyword_33 rfl ?_
    refine r_icmp_le (t := 43) dX13_keyword_35 (by decide) (fun q => ?_) (fun q => ?_)
    · replace h := h.1 q
      refine r_bipush (v := 30) dX13_keyword_43 rfl ?_
      refine r_iretI dX13_keyword_45 rfl (by decide) (by decide) h
    · replace h := h.2 q
      refine r_bipush (v := 32) dX13_keyword_38 rfl ?_
      refine r_goto (t := 45) dX13_keyword_40 (by decide) ?_
      refine r_iretI dX13_keyword_45 rfl (by decide) (by decide) h
  · replace h := h.2 q
    refine r_aload_n 0 dX13_keyword_10 rfl rfl ?_
    refine r_iload_n 1 dX13_keyword_11 rfl rfl ?_
    refine r_iload_n 2 dX13_keyword_12 rfl rfl ?_
    refine r_gets (w := .ref (G.1 1305)) dX13_keyword_13 lFX13_84 (fun h => h.2.2.2.2.2.2.2.2.2.1.1) ?_
    refine r_iload_n 3 dX13_keyword_16 rfl rfl ?_
    have hx := h.1
    replace h := h.2
    refine r_wordld dX13_keyword_17 hx ?_
    refine r_callVZ (b' := (6, 0, 0)) (c := 100) (S := []) [.int x1, .int x2, .ref (G.1 (1400 + x3.toNatClampNeg))] dX13_keyword_18 mX13_isWord lMX13_88 clX13 rfl iM100 sC100 rfl (by decide) (Nat.le_of_ble_eq_true rfl) h (fun r1 M1 h => ?_) rfl
    refine r_zif_eq (t := 26) dX13_keyword_21 (by decide) (fun q => ?_) (fun q => ?_)
    · replace h := h.1 q
      refine r_iinc (v := x3 + 1) (l' := [(3, .int (x3 + 1)), (0, .ref (G.1 100)), (1, .int x1), (2, .int x2)]) 3 dX13_keyword_26 rfl rfl (by decide) rfl ?_
      refine r_goto (t := 2) dX13_keyword_29 (by decide) ?_
      exact Ev.sub (ks := [1, 2, 3, 0]) rfl h
    · replace h := h.2 q
      refine r_iload_n 3 dX13_keyword_24 rfl rfl ?_
      refine r_iretI dX13_keyword_25 rfl (by decide) (by decide) h
set_option maxHeartbeats 4000000 in
set_option maxRecDepth 100000 in
theorem C_X13_keyword (G : eG) (M : eM) (F : Int32 → eM → Prop) (a1 : Int32) (a2 : Int32)
    (h : Ev (eZ G 100 40 0 0 (eFI F)) G 100 40 (7, 0, 0) kX13_keyword 2 [(0, .ref (G.1 100)), (1, .int a1), (2, .int a2), (3, .int 0)] [] M 0 0) :
    Cal G 100 40 (7, 0, 0) kX13_keyword [.ref (G.1 100), .int a1, .int a2] M (eFI F) := by
  refine Cal.of (by decide +kernel) rfl (Nat.le_of_ble_eq_true rfl) ?_
  show Ev (eZ G 100 40 0 0 (eFI F)) G 100 40 (7, 0, 0) kX13_keyword 0 [(0, .ref (G.1 100)), (1, .int a1), (2, .int a2)] [] M 0 0
  refine r_iconst (v := 0) dX13_keyword_0 rfl ?_
  refine r_istore_n (l' := [(3, .int 0), (0, .ref (G.1 100)), (1, .int a1), (2, .int a2)]) dX13_keyword_1 rfl (by decide) rfl ?_
  exact Ev.sub (ks := [1, 2, 3, 0]) rfl h
set_option maxHeartbeats 4000000 in
set_option maxRecDepth 100000 in
theorem C_X13_symbol (G : eG) (M : eM) (F : Int32 → eM → Prop) (a1 : Int32)
    (h : (((a1 : Int32).toInt < 40 ∨ 93 < (a1 : Int32).toInt) → F 32 M) ∧ ((a1 : Int32) = 40 → F 49 M) ∧ ((a1 : Int32) = 41 → F 50 M) ∧ ((a1 : Int32) = 42 → F 42 M) ∧ ((a1 : Int32) = 43 → F 40 M) ∧ ((a1 : Int32) = 44 → F 54 M) ∧ ((a1 : Int32) = 45 → F 41 M) ∧ ((a1 : Int32) = 46 → F 32 M) ∧ ((a1 : Int32) = 47 → F 43 M) ∧ ((a1 : Int32) = 48 → F 32 M) ∧ ((a1 : Int32) = 49 → F 32 M) ∧ ((a1 : Int32) = 50 → F 32 M) ∧ ((a1 : Int32) = 51 → F 32 M) ∧ ((a1 : Int32) = 52 → F 32 M) ∧ ((a1 : Int32) = 53 → F 32 M) ∧ ((a1 : Int32) = 54 → F 32 M) ∧ ((a1 : Int32) = 55 → F 32 M) ∧ ((a1 : Int32) = 56 → F 32 M) ∧ ((a1 : Int32) = 57 → F 32 M) ∧ ((a1 : Int32) = 58 → F 32 M) ∧ ((a1 : Int32) = 59 → F 53 M) ∧ ((a1 : Int32) = 60 → F 44 M) ∧ ((a1 : Int32) = 61 → F 46 M) ∧ ((a1 : Int32) = 62 → F 45 M) ∧ ((a1 : Int32) = 63 → F 32 M) ∧ ((a1 : Int32) = 64 → F 32 M) ∧ ((a1 : Int32) = 65 → F 32 M) ∧ ((a1 : Int32) = 66 → F 32 M) ∧ ((a1 : Int32) = 67 → F 32 M) ∧ ((a1 : Int32) = 68 → F 32 M) ∧ ((a1 : Int32) = 69 → F 32 M) ∧ ((a1 : Int32) = 70 → F 32 M) ∧ ((a1 : Int32) = 71 → F 32 M) ∧ ((a1 : Int32) = 72 → F 32 M) ∧ ((a1 : Int32) = 73 → F 32 M) ∧ ((a1 : Int32) = 74 → F 32 M) ∧ ((a1 : Int32) = 75 → F 32 M) ∧ ((a1 : Int32) = 76 → F 32 M) ∧ ((a1 : Int32) = 77 → F 32 M) ∧ ((a1 : Int32) = 78 → F 32 M) ∧ ((a1 : Int32) = 79 → F 32 M) ∧ ((a1 : Int32) = 80 → F 32 M) ∧ ((a1 : Int32) = 81 → F 32 M) ∧ ((a1 : Int32) = 82 → F 32 M) ∧ ((a1 : Int32) = 83 → F 32 M) ∧ ((a1 : Int32) = 84 → F 32 M) ∧ ((a1 : Int32) = 85 → F 32 M) ∧ ((a1 : Int32) = 86 → F 32 M) ∧ ((a1 : Int32) = 87 → F 32 M) ∧ ((a1 : Int32) = 88 → F 32 M) ∧ ((a1 : Int32) = 89 → F 32 M) ∧ ((a1 : Int32) = 90 → F 32 M) ∧ ((a1 : Int32) = 91 → F 51 M) ∧ ((a1 : Int32) = 92 → F 32 M) ∧ ((a1 : Int32) = 93 → F 52 M)) :
    Cal G 100 40 (1, 0, 0) kX13_symbol [.int a1] M (eFI F) := by
  refine Cal.of (by decide +kernel) rfl (Nat.le_of_ble_eq_true rfl) ?_
  show Ev (eZ G 100 40 0 0 (eFI F)) G 100 40 (1, 0, 0) kX13_symbol 0 [(0, .int a1)] [] M 0 0
  refine r_iload_n 0 dX13_symbol_0 rfl rfl ?_
  by_cases q : (a1 : Int32).toInt < 40 ∨ 93 < (a1 : Int32).toInt
  · replace h := h.1 q
    refine r_tableOut (tg := 271) dX13_symbol_1 q (by decide) ?_
    refine r_bipush (v := 32) dX13_symbol_271 rfl ?_
    refine r_iretI dX13_symbol_273 rfl (by decide) (by decide) h
  · replace h := h.2
    refine eTabCases (N := 54) q (by decide) (fun i9 hi hx => ?_)
    match i9, hi, hx with
    | 0, hi, hx =>
      have q3 : (a1 : Int32) = 40 := eToI (hx.trans (by decide))
      replace h := h.1 q3
      refine r_tableAt (tg := 232) dX13_symbol_1 q3 (by decide) (by decide) rfl (by decide) ?_
      refine r_bipush (v := 49) dX13_symbol_232 rfl ?_
      refine r_iretI dX13_symbol_234 rfl (by decide) (by decide) h
    | 1, hi, hx =>
      have q3 : (a1 : Int32) = 41 := eToI (hx.trans (by decide))
      replace h := h.2.1 q3
      refine r_tableAt (tg := 235) dX13_symbol_1 q3 (by decide) (by decide) rfl (by decide) ?_
      refine r_bipush (v := 50) dX13_symbol_235 rfl ?_
      refine r_iretI dX13_symbol_237 rfl (by decide) (by decide) h
    | 2, hi, hx =>
      have q3 : (a1 : Int32) = 42 := eToI (hx.trans (by decide))
      replace h := h.2.2.1 q3
      refine r_tableAt (tg := 256) dX13_symbol_1 q3 (by decide) (by decide) rfl (by decide) ?_
      refine r_bipush (v := 42) dX13_symbol_256 rfl ?_
      refine r_iretI dX13_symbol_258 rfl (by decide) (by decide) h
    | 3, hi, hx =>
      have q3 : (a1 : Int32) = 43 := eToI (hx.trans (by decide))
      replace h := h.2.2.2.1 q3
      refine r_tableAt (tg := 250) dX13_symbol_1 q3 (by decide) (by decide) rfl (by decide) ?_
      refine r_bipush (v := 40) dX13_symbol_250 rfl ?_
      refine r_iretI dX13_symbol_252 rfl (by decide) (by decide) h
    | 4, hi, hx =>
      have q3 : (a1 : Int32) = 44 := eToI (hx.trans (by decide))
      replace h := h.2.2.2.2.1 q3
      refine r_tableAt (tg := 247) dX13_symbol_1 q3 (by decide) (by decide) rfl (by decide) ?_
      refine r_bipush (v := 54) dX13_symbol_247 rfl ?_
      refine r_iretI dX13_symbol_249 rfl (by decide) (by decide) h
    | 5, hi, hx =>
      have q3 : (a1 : Int32) = 45 := eToI (hx.trans (by decide))
      replace h := h.2.2.2.2.2.1 q3
      refine r_tableAt (tg := 253) dX13_symbol_1 q3 (by decide) (by decide) rfl (by decide) ?_
      refine r_bipush (v := 41) dX13_symbol_253 rfl ?_
      refine r_iretI dX13_symbol_255 rfl (by decide) (by decide) h
    | 6, hi, hx =>
      have q3 : (a1 : Int32) = 46 := eToI (hx.trans (by decide))
      replace h := h.2.2.2.2.2.2.1 q3
      refine r_tableAt (tg := 271) dX13_symbol_1 q3 (by decide) (by decide) rfl (by decide) ?_
      refine r_bipush (v := 32) dX13_symbol_271 rfl ?_
      refine r_iretI dX13_symbol_273 rfl (by decide) (by decide) h
    | 7, hi, hx =>
      have q3 : (a1 : Int32) = 47 := eToI (hx.trans (by decide))
      replace h := h.2.2.2.2.2.2.2.1 q3
      refine r_tableAt (tg := 259) dX13_symbol_1 q3 (by decide) (by decide) rfl (by decide) ?_
      refine r_bipush (v := 43) dX13_symbol_259 rfl ?_
      refine r_iretI dX13_symbol_261 rfl (by decide) (by decide) h
    | 8, hi, hx =>
      have q3 : (a1 : Int32) = 48 := eToI (hx.trans (by decide))
      replace h := h.2.2.2.2.2.2.2.2.1 q3
      refine r_tableAt (tg := 271) dX13_symbol_1 q3 (by decide) (by decide) rfl (by decide) ?_
      refine r_bipush (v := 32) dX13_symbol_271 rfl ?_
      refine r_iretI dX13_symbol_273 rfl (by decide) (by decide) h
    | 9, hi, hx =>
      have q3 : (a1 : Int32) = 49 := eToI (hx.trans (by decide))
      replace h := h.2.2.2.2.2.2.2.2.2.1 q3
      refine r_tableAt (tg := 271) dX13_symbol_1 q3 (by decide) (by decide) rfl (by decide) ?_
      refine r_bipush (v := 32) dX13_symbol_271 rfl ?_
      refine r_iretI dX13_symbol_273 rfl (by decide) (by decide) h
    | 10, hi, hx =>
      have q3 : (a1 : Int32) = 50 := eToI (hx.trans (by decide))
      replace h := h.2.2.2.2.2.2.2.2.2.2.1 q3
      refine r_tableAt (tg := 271) dX13_symbol_1 q3 (by decide) (by decide) rfl (by decide) ?_
      refine r_bipush (v := 32) dX13_symbol_271 rfl ?_
      refine r_iretI dX13_symbol_273 rfl (by decide) (by decide) h
    | 11, hi, hx =>
      have q3 : (a1 : Int32) = 51 := eToI (hx.trans (by decide))
      replace h := h.2.2.2.2.2.2.2.2.2.2.2.1 q3
      refine r_tableAt (tg := 271) dX13_symbol_1 q3 (by decide) (by decide) rfl (by decide) ?_
      refine r_bipush (v := 32) dX13_symbol_271 rfl ?_
      refine r_iretI dX13_symbol_273 rfl (by decide) (by decide) h
    | 12, hi, hx =>
      have q3 : (a1 : Int32) = 52 := eToI (hx.trans (by decide))
      replace h := h.2.2.2.2.2.2.2.2.2.2.2.2.1 q3
      refine r_tableAt (tg := 271) dX13_symbol_1 q3 (by decide) (by decide) rfl (by decide) ?_
      refine r_bipush (v := 32) dX13_symbol_271 rfl ?_
      refine r_iretI dX13_symbol_273 rfl (by decide) (by decide) h
    | 13, hi, hx =>
      have q3 : (a1 : Int32) = 53 := eToI (hx.trans (by decide))
      replace h := h.2.2.2.2.2.2.2.2.2.2.2.2.2.1 q3
      refine r_tableAt (tg := 271) dX13_symbol_1 q3 (by decide) (by decide) rfl (by decide) ?_
      refine r_bipush (v := 32) dX13_symbol_271 rfl ?_
      refine r_iretI dX13_symbol_273 rfl (by decide) (by decide) h
    | 14, hi, hx =>
      have q3 : (a1 : Int32) = 54 := eToI (hx.trans (by decide))
      replace h := h.2.2.2.2.2.2.2.2.2.2.2.2.2.2.1 q3
      refine r_tableAt (tg := 271) dX13_symbol_1 q3 (by decide) (by decide) rfl (by decide) ?_
      refine r_bipush (v := 32) dX13_symbol_271 rfl ?_
      refine r_iretI dX13_symbol_273 rfl (by decide) (by decide) h
    | 15, hi, hx =>
      have q3 : (a1 : Int32) = 55 := eToI (hx.trans (by decide))
      replace h := h.2.2.2.2.2.2.2.2.2.2.2.2.2.2.2.1 q3
      refine r_tableAt (tg := 271) dX13_symbol_1 q3 (by decide) (by decide) rfl (by decide) ?_
      refine r_bipush (v := 32) dX13_symbol_271 rfl ?_
      refine r_iretI dX13_symbol_273 rfl (by decide) (by decide) h
    | 16, hi, hx =>
      have q3 : (a1 : Int32) = 56 := eToI (hx.trans (by decide))
      replace h := h.2.2.2.2.2.2.2.2.2.2.2.2.2.2.2.2.1 q3
      refine r_tableAt (tg := 271) dX13_symbol_1 q3 (by decide) (by decide) rfl (by decide) ?_
      refine r_bipush (v := 32) dX13_symbol_271 rfl ?_
      refine r_iretI dX13_symbol_273 rfl (by decide) (by decide) h
    | 17, hi, hx =>
      have q3 : (a1 : Int32) = 57 := eToI (hx.trans (by decide))
      replace h := h.2.2.2.2.2.2.2.2.2.2.2.2.2.2.2.2.2.1 q3
      refine r_tableAt (tg := 271) dX13_symbol_1 q3 (by decide) (by decide) rfl (by decide) ?_
      refine r_bipush (v := 32) dX13_symbol_271 rfl ?_
      refine r_iretI dX13_symbol_273 rfl (by decide) (by decide) h
    | 18, hi, hx =>
      have q3 : (a1 : Int32) = 58 := eToI (hx.trans (by decide))
      replace h := h.2.2.2.2.2.2.2.2.2.2.2.2.2.2.2.2.2.2.1 q3
      refine r_tableAt (tg := 271) dX13_symbol_1 q3 (by decide) (by decide) rfl (by decide) ?_
      refine r_bipush (v := 32) dX13_symbol_271 rfl ?_
      refine r_iretI dX13_symbol_273 rfl (by decide) (by decide) h
    | 19, hi, hx =>
      have q3 : (a1 : Int32) = 59 := eToI (hx.trans (by decide))
      replace h := h.2.2.2.2.2.2.2.2.2.2.2.2.2.2.2.2.2.2.2.1 q3
      refine r_tableAt (tg := 244) dX13_symbol_1 q3 (by decide) (by decide) rfl (by decide) ?_
      refine r_bipush (v := 53) dX13_symbol_244 rfl ?_
      refine r_iretI dX13_symbol_246 rfl (by decide) (by decide) h
    | 20, hi, hx =>
      have q3 : (a1 : Int32) = 60 := eToI (hx.trans (by decide))
      replace h := h.2.2.2.2.2.2.2.2.2.2.2.2.2.2.2.2.2.2.2.2.1 q3
      refine r_tableAt (tg := 262) dX13_symbol_1 q3 (by decide) (by decide) rfl (by decide) ?_
      refine r_bipush (v := 44) dX13_symbol_262 rfl ?_
      refine r_iretI dX13_symbol_264 rfl (by decide) (by decide) h
    | 21, hi, hx =>
      have q3 : (a1 : Int32) = 61 := eToI (hx.trans (by decide))
      replace h := h.2.2.2.2.2.2.2.2.2.2.2.2.2.2.2.2.2.2.2.2.2.1 q3
      refine r_tableAt (tg := 268) dX13_symbol_1 q3 (by decide) (by decide) rfl (by decide) ?_
      refine r_bipush (v := 46) dX13_symbol_268 rfl ?_
      refine r_iretI dX13_symbol_270 rfl (by decide) (by decide) h
    | 22, hi, hx =>
      have q3 : (a1 : Int32) = 62 := eToI (hx.trans (by decide))
      replace h := h.2.2.2.2.2.2.2.2.2.2.2.2.2.2.2.2.2.2.2.2.2.2.1 q3
      refine r_tableAt (tg := 265) dX13_symbol_1 q3 (by decide) (by decide) rfl (by decide) ?_
      refine r_bipush (v := 45) dX13_symbol_265 rfl ?_
      refine r_iretI dX13_symbol_267 rfl (by decide) (by decide) h
    | 23, hi, hx =>
      have q3 : (a1 : Int32) = 63 := eToI (hx.trans (by decide))
      replace h := h.2.2.2.2.2.2.2.2.2.2.2.2.2.2.2.2.2.2.2.2.2.2.2.1 q3
      refine r_tableAt (tg := 271) dX13_symbol_1 q3 (by decide) (by decide) rfl (by decide) ?_
      refine r_bipush (v := 32) dX13_symbol_271 rfl ?_
      refine r_iretI dX13_symbol_273 rfl (by decide) (by decide) h
    | 24, hi, hx =>
      have q3 : (a1 : Int32) = 64 := eToI (hx.trans (by decide))
      replace h := h.2.2.2.2.2.2.2.2.2.2.2.2.2.2.2.2.2.2.2.2.2.2.2.2.1 q3
      refine r_tableAt (tg := 271) dX13_symbol_1 q3 (by decide) (by decide) rfl (by decide) ?_
      refine r_bipush (v := 32) dX13_symbol_271 rfl ?_
      refine r_iretI dX13_symbol_273 rfl (by decide) (by decide) h
    | 25, hi, hx =>
      have q3 : (a1 : Int32) = 65 := eToI (hx.trans (by decide))
      replace h := h.2.2.2.2.2.2.2.2.2.2.2.2.2.2.2.2.2.2.2.2.2.2.2.2.2.1 q3
      refine r_tableAt (tg := 271) dX13_symbol_1 q3 (by decide) (by decide) rfl (by decide) ?_
      refine r_bipush (v := 32) dX13_symbol_271 rfl ?_
      refine r_iretI dX13_symbol_273 rfl (by decide) (by decide) h
    | 26, hi, hx =>
      have q3 : (a1 : Int32) = 66 := eToI (hx.trans (by decide))
      replace h := h.2.2.2.2.2.2.2.2.2.2.2.2.2.2.2.2.2.2.2.2.2.2.2.2.2.2.1 q3
      refine r_tableAt (tg := 271) dX13_symbol_1 q3 (by decide) (by decide) rfl (by decide) ?_
      refine r_bipush (v := 32) dX13_symbol_271 rfl ?_
      refine r_iretI dX13_symbol_273 rfl (by decide) (by decide) h
    | 27, hi, hx =>
      have q3 : (a1 : Int32) = 67 := eToI (hx.trans (by decide))
      replace h := h.2.2.2.2.2.2.2.2.2.2.2.2.2.2.2.2.2.2.2.2.2.2.2.2.2.2.2.1 q3
      refine r_tableAt (tg := 271) dX13_symbol_1 q3 (by decide) (by decide) rfl (by decide) ?_
      refine r_bipush (v := 32) dX13_symbol_271 rfl ?_
      refine r_iretI dX13_symbol_273 rfl (by decide) (by decide) h
    | 28, hi, hx =>
      have q3 : (a1 : Int32) = 68 := eToI (hx.trans (by decide))
      replace h := h.2.2.2.2.2.2.2.2.2.2.2.2.2.2.2.2.2.2.2.2.2.2.2.2.2.2.2.2.1 q3
      refine r_tableAt (tg := 271) dX13_symbol_1 q3 (by decide) (by decide) rfl (by decide) ?_
      refine r_bipush (v := 32) dX13_symbol_271 rfl ?_
      refine r_iretI dX13_symbol_273 rfl (by decide) (by decide) h
    | 29, hi, hx =>
      have q3 : (a1 : Int32) = 69 := eToI (hx.trans (by decide))
      replace h := h.2.2.2.2.2.2.2.2.2.2.2.2.2.2.2.2.2.2.2.2.2.2.2.2.2.2.2.2.2.1 q3
      refine r_tableAt (tg := 271) dX13_symbol_1 q3 (by decide) (by decide) rfl (by decide) ?_
      refine r_bipush (v := 32) dX13_symbol_271 rfl ?_
      refine r_iretI dX13_symbol_273 rfl (by decide) (by decide) h
    | 30, hi, hx =>
      have q3 : (a1 : Int32) = 70 := eToI (hx.trans (by decide))
      replace h := h.2.2.2.2.2.2.2.2.2.2.2.2.2.2.2.2.2.2.2.2.2.2.2.2.2.2.2.2.2.2.1 q3
      refine r_tableAt (tg := 271) dX13_symbol_1 q3 (by decide) (by decide) rfl (by decide) ?_
      refine r_bipush (v := 32) dX13_symbol_271 rfl ?_
      refine r_iretI dX13_symbol_273 rfl (by decide) (by decide) h
    | 31, hi, hx =>
      have q3 : (a1 : Int32) = 71 := eToI (hx.trans (by decide))
      replace h := h.2.2.2.2.2.2.2.2.2.2.2.2.2.2.2.2.2.2.2.2.2.2.2.2.2.2.2.2.2.2.2.1 q3
      refine r_tableAt (tg := 271) dX13_symbol_1 q3 (by decide) (by decide) rfl (by decide) ?_
      refine r_bipush (v := 32) dX13_symbol_271 rfl ?_
      refine r_iretI dX13_symbol_273 rfl (by decide) (by decide) h
    | 32, hi, hx =>
      have q3 : (a1 : Int32) = 72 := eToI (hx.trans (by decide))
      replace h := h.2.2.2.2.2.2.2.2.2.2.2.2.2.2.2.2.2.2.2.2.2.2.2.2.2.2.2.2.2.2.2.2.1 q3
      refine r_tableAt (tg := 271) dX13_symbol_1 q3 (by decide) (by decide) rfl (by decide) ?_
      refine r_bipush (v := 32) dX13_symbol_271 rfl ?_
      refine r_iretI dX13_symbol_273 rfl (by decide) (by decide) h
    | 33, hi, hx =>
      have q3 : (a1 : Int32) = 73 := eToI (hx.trans (by decide))
      replace h := h.2.2.2.2.2.2.2.2.2.2.2.2.2.2.2.2.2.2.2.2.2.2.2.2.2.2.2.2.2.2.2.2.2.1 q3
      refine r_tableAt (tg := 271) dX13_symbol_1 q3 (by decide) (by decide) rfl (by decide) ?_
      refine r_bipush (v := 32) dX13_symbol_271 rfl ?_
      refine r_iretI dX13_symbol_273 rfl (by decide) (by decide) h
    | 34, hi, hx =>
      have q3 : (a1 : Int32) = 74 := eToI (hx.trans (by decide))
      replace h := h.2.2.2.2.2.2.2.2.2.2.2.2.2.2.2.2.2.2.2.2.2.2.2.2.2.2.2.2.2.2.2.2.2.2.1 q3
      refine r_tableAt (tg := 271) dX13_symbol_1 q3 (by decide) (by decide) rfl (by decide) ?_
      refine r_bipush (v := 32) dX13_symbol_271 rfl ?_
      refine r_iretI dX13_symbol_273 rfl (by decide) (by decide) h
    | 35, hi, hx =>
      have q3 : (a1 : Int32) = 75 := eToI (hx.trans (by decide))
      replace h := h.2.2.2.2.2.2.2.2.2.2.2.2.2.2.2.2.2.2.2.2.2.2.2.2.2.2.2.2.2.2.2.2.2.2.2.1 q3
      refine r_tableAt (tg := 271) dX13_symbol_1 q3 (by decide) (by decide) rfl (by decide) ?_
      refine r_bipush (v := 32) dX13_symbol_271 rfl ?_
      refine r_iretI dX13_symbol_273 rfl (by decide) (by decide) h
    | 36, hi, hx =>
      have q3 : (a1 : Int32) = 76 := eToI (hx.trans (by decide))
      replace h := h.2.2.2.2.2.2.2.2.2.2.2.2.2.2.2.2.2.2.2.2.2.2.2.2.2.2.2.2.2.2.2.2.2.2.2.2.1 q3
      refine r_tableAt (tg := 271) dX13_symbol_1 q3 (by decide) (by decide) rfl (by decide) ?_
      refine r_bipush (v := 32) dX13_symbol_271 rfl ?_
      refine r_iretI dX13_symbol_273 rfl (by decide) (by decide) h
    | 37, hi, hx =>
      have q3 : (a1 : Int32) = 77 := eToI (hx.trans (by decide))
      replace h := h.2.2.2.2.2.2.2.2.2.2.2.2.2.2.2.2.2.2.2.2.2.2.2.2.2.2.2.2.2.2.2.2.2.2.2.2.2.1 q3
      refine r_tableAt (tg := 271) dX13_symbol_1 q3 (by decide) (by decide) rfl (by decide) ?_
      refine r_bipush (v := 32) dX13_symbol_271 rfl ?_
      refine r_iretI dX13_symbol_273 rfl (by decide) (by decide) h
    | 38, hi, hx =>
      have q3 : (a1 : Int32) = 78 := eToI (hx.trans (by decide))
      replace h := h.2.2.2.2.2.2.2.2.2.2.2.2.2.2.2.2.2.2.2.2.2.2.2.2.2.2.2.2.2.2.2.2.2.2.2.2.2.2.1 q3
      refine r_tableAt (tg := 271) dX13_symbol_1 q3 (by decide) (by decide) rfl (by decide) ?_
      refine r_bipush (v := 32) dX13_symbol_271 rfl ?_
      refine r_iretI dX13_symbol_273 rfl (by decide) (by decide) h
    | 39, hi, hx =>
      have q3 : (a1 : Int32) = 79 := eToI (hx.trans (by decide))
      replace h := h.2.2.2.2.2.2.2.2.2.2.2.2.2.2.2.2.2.2.2.2.2.2.2.2.2.2.2.2.2.2.2.2.2.2.2.2.2.2.2.1 q3
      refine r_tableAt (tg := 271) dX13_symbol_1 q3 (by decide) (by decide) rfl (by decide) ?_
      refine r_bipush (v := 32) dX13_symbol_271 rfl ?_
      refine r_iretI dX13_symbol_273 rfl (by decide) (by decide) h
    | 40, hi, hx =>
      have q3 : (a1 : Int32) = 80 := eToI (hx.trans (by decide))
      replace h := h.2.2.2.2.2.2.2.2.2.2.2.2.2.2.2.2.2.2.2.2.2.2.2.2.2.2.2.2.2.2.2.2.2.2.2.2.2.2.2.2.1 q3
      refine r_tableAt (tg := 271) dX13_symbol_1 q3 (by decide) (by decide) rfl (by decide) ?_
      refine r_bipush (v := 32) dX13_symbol_271 rfl ?_
      refine r_iretI dX13_symbol_273 rfl (by decide) (by decide) h
    | 41, hi, hx =>
      have q3 : (a1 : Int32) = 81 := eToI (hx.trans (by decide))
      replace h := h.2.2.2.2.2.2.2.2.2.2.2.2.2.2.2.2.2.2.2.2.2.2.2.2.2.2.2.2.2.2.2.2.2.2.2.2.2.2.2.2.2.1 q3
      refine r_tableAt (tg := 271) dX13_symbol_1 q3 (by decide) (by decide) rfl (by decide) ?_
      refine r_bipush (v := 32) dX13_symbol_271 rfl ?_
      refine r_iretI dX13_symbol_273 rfl (by decide) (by decide) h
    | 42, hi, hx =>
      have q3 : (a1 : Int32) = 82 := eToI (hx.trans (by decide))
      replace h := h.2.2.2.2.2.2.2.2.2.2.2.2.2.2.2.2.2.2.2.2.2.2.2.2.2.2.2.2.2.2.2.2.2.2.2.2.2.2.2.2.2.2.1 q3
      refine r_tableAt (tg := 271) dX13_symbol_1 q3 (by decide) (by decide) rfl (by decide) ?_
      refine r_bipush (v := 32) dX13_symbol_271 rfl ?_
      refine r_iretI dX13_symbol_273 rfl (by decide) (by decide) h
    | 43, hi, hx =>
      have q3 : (a1 : Int32) = 83 := eToI (hx.trans (by decide))
      replace h := h.2.2.2.2.2.2.2.2.2.2.2.2.2.2.2.2.2.2.2.2.2.2.2.2.2.2.2.2.2.2.2.2.2.2.2.2.2.2.2.2.2.2.2.1 q3
      refine r_tableAt (tg := 271) dX13_symbol_1 q3 (by decide) (by decide) rfl (by decide) ?_
      refine r_bipush (v := 32) dX13_symbol_271 rfl ?_
      refine r_iretI dX13_symbol_273 rfl (by decide) (by decide) h
    | 44, hi, hx =>
      have q3 : (a1 : Int32) = 84 := eToI (hx.trans (by decide))
      replace h := h.2.2.2.2.2.2.2.2.2.2.2.2.2.2.2.2.2.2.2.2.2.2.2.2.2.2.2.2.2.2.2.2.2.2.2.2.2.2.2.2.2.2.2.2.1 q3
      refine r_tableAt (tg := 271) dX13_symbol_1 q3 (by decide) (by decide) rfl (by decide) ?_
      refine r_bipush (v := 32) dX13_symbol_271 rfl ?_
      refine r_iretI dX13_symbol_273 rfl (by decide) (by decide) h
    | 45, hi, hx =>
      have q3 : (a1 : Int32) = 85 := eToI (hx.trans (by decide))
      replace h := h.2.2.2.2.2.2.2.2.2.2.2.2.2.2.2.2.2.2.2.2.2.2.2.2.2.2.2.2.2.2.2.2.2.2.2.2.2.2.2.2.2.2.2.2.2.1 q3
      refine r_tableAt (tg := 271) dX13_symbol_1 q3 (by decide) (by decide) rfl (by decide) ?_
      refine r_bipush (v := 32) dX13_symbol_271 rfl ?_
      refine r_iretI dX13_symbol_273 rfl (by decide) (by decide) h
    | 46, hi, hx =>
      have q3 : (a1 : Int32) = 86 := eToI (hx.trans (by decide))
      replace h := h.2.2.2.2.2.2.2.2.2.2.2.2.2.2.2.2.2.2.2.2.2.2.2.2.2.2.2.2.2.2.2.2.2.2.2.2.2.2.2.2.2.2.2.2.2.2.1 q3
      refine r_tableAt (tg := 271) dX13_symbol_1 q3 (by decide) (by decide) rfl (by decide) ?_
      refine r_bipush (v := 32) dX13_symbol_271 rfl ?_
      refine r_iretI dX13_symbol_273 rfl (by decide) (by decide) h
    | 47, hi, hx =>
      have q3 : (a1 : Int32) = 87 := eToI (hx.trans (by decide))
      replace h := h.2.2.2.2.2.2.2.2.2.2.2.2.2.2.2.2.2.2.2.2.2.2.2.2.2.2.2.2.2.2.2.2.2.2.2.2.2.2.2.2.2.2.2.2.2.2.2.1 q3
      refine r_tableAt (tg := 271) dX13_symbol_1 q3 (by decide) (by decide) rfl (by decide) ?_
      refine r_bipush (v := 32) dX13_symbol_271 rfl ?_
      refine r_iretI dX13_symbol_273 rfl (by decide) (by decide) h
    | 48, hi, hx =>
      have q3 : (a1 : Int32) = 88 := eToI (hx.trans (by decide))
      replace h := h.2.2.2.2.2.2.2.2.2.2.2.2.2.2.2.2.2.2.2.2.2.2.2.2.2.2.2.2.2.2.2.2.2.2.2.2.2.2.2.2.2.2.2.2.2.2.2.2.1 q3
      refine r_tableAt (tg := 271) dX13_symbol_1 q3 (by decide) (by decide) rfl (by decide) ?_
      refine r_bipush (v := 32) dX13_symbol_271 rfl ?_
      refine r_iretI dX13_symbol_273 rfl (by decide) (by decide) h
    | 49, hi, hx =>
      have q3 : (a1 : Int32) = 89 := eToI (hx.trans (by decide))
      replace h := h.2.2.2.2.2.2.2.2.2.2.2.2.2.2.2.2.2.2.2.2.2.2.2.2.2.2.2.2.2.2.2.2.2.2.2.2.2.2.2.2.2.2.2.2.2.2.2.2.2.1 q3
      refine r_tableAt (tg := 271) dX13_symbol_1 q3 (by decide) (by decide) rfl (by decide) ?_
      refine r_bipush (v := 32) dX13_symbol_271 rfl ?_
      refine r_iretI dX13_symbol_273 rfl (by decide) (by decide) h
    | 50, hi, hx =>
      have q3 : (a1 : Int32) = 90 := eToI (hx.trans (by decide))
      replace h := h.2.2.2.2.2.2.2.2.2.2.2.2.2.2.2.2.2.2.2.2.2.2.2.2.2.2.2.2.2.2.2.2.2.2.2.2.2.2.2.2.2.2.2.2.2.2.2.2.2.2.1 q3
      refine r_tableAt (tg := 271) dX13_symbol_1 q3 (by decide) (by decide) rfl (by decide) ?_
      refine r_bipush (v := 32) dX13_symbol_271 rfl ?_
      refine r_iretI dX13_symbol_273 rfl (by decide) (by decide) h
    | 51, hi, hx =>
      have q3 : (a1 : Int32) = 91 := eToI (hx.trans (by decide))
      replace h := h.2.2.2.2.2.2.2.2.2.2.2.2.2.2.2.2.2.2.2.2.2.2.2.2.2.2.2.2.2.2.2.2.2.2.2.2.2.2.2.2.2.2.2.2.2.2.2.2.2.2.2.1 q3
      refine r_tableAt (tg := 238) dX13_symbol_1 q3 (by decide) (by decide) rfl (by decide) ?_
      refine r_bipush (v := 51) dX13_symbol_238 rfl ?_
      refine r_iretI dX13_symbol_240 rfl (by decide) (by decide) h
    | 52, hi, hx =>
      have q3 : (a1 : Int32) = 92 := eToI (hx.trans (by decide))
      replace h := h.2.2.2.2.2.2.2.2.2.2.2.2.2.2.2.2.2.2.2.2.2.2.2.2.2.2.2.2.2.2.2.2.2.2.2.2.2.2.2.2.2.2.2.2.2.2.2.2.2.2.2.2.1 q3
      refine r_tableAt (tg := 271) dX13_symbol_1 q3 (by decide) (by decide) rfl (by decide) ?_
      refine r_bipush (v := 32) dX13_symbol_271 rfl ?_
      refine r_iretI dX13_symbol_273 rfl (by decide) (by decide) h
    | 53, hi, hx =>
      have q3 : (a1 : Int32) = 93 := eToI (hx.trans (by decide))
      replace h := h.2.2.2.2.2.2.2.2.2.2.2.2.2.2.2.2.2.2.2.2.2.2.2.2.2.2.2.2.2.2.2.2.2.2.2.2.2.2.2.2.2.2.2.2.2.2.2.2.2.2.2.2.2 q3
      refine r_tableAt (tg := 241) dX13_symbol_1 q3 (by decide) (by decide) rfl (by decide) ?_
      refine r_bipush (v := 52) dX13_symbol_241 rfl ?_
      refine r_iretI dX13_symbol_243 rfl (by decide) (by decide) h
    | i + 54, hi, hx => exact absurd hi (by omega)
set_option maxHeartbeats 4000000 in
set_option maxRecDepth 100000 in
theorem B_X13_read_239 (G : eG) (M : eM) (F : Int32 → eM → Prop) (x1 : Int32) (x2 : Int32) (x4 : Int32)
    (h : vp_in x2 402 ∧ (F x4 (eU M 105 x2.toNatClampNeg (x4 - x1)))) :
    Ev (eZ G 100 40 0 0 (eFI F)) G 100 40 (8, 0, 0) kX13_read 239 [(0, .ref (G.1 100)), (1, .int x1), (2, .int x2), (4, .int x4)] [] M 0 0 := by
  refine r_aload_n 0 dX13_read_239 rfl rfl ?_
  refine r_getR (c := 100) (k := 7) 105 dX13_read_240 clX13 lFX13_26 (by decide) iM100 sC100 rfl ?_
  refine r_iload_n 2 dX13_read_243 rfl rfl ?_
  refine r_iload 3 dX13_read_244 rfl ?_
  refine r_iload_n 1 dX13_read_246 rfl rfl ?_
  refine r_isub dX13_read_247 ?_
  have h1 := h.1
  replace h := h.2
  refine r_iast (c := 105) (N := 402) dX13_read_248 iM105 sC105 h1 ?_
  refine r_iload 3 dX13_read_249 rfl ?_
  refine r_iretI dX13_read_251 rfl (by decide) (by decide) h
set_option maxHeartbeats 4000000 in
set_option maxRecDepth 100000 in
theorem B_X13_read_201 (G : eG) (M : eM) (F : Int32 → eM → Prop) (x1 : Int32) (x2 : Int32) (x4 : Int32)
    (h : Cal G 100 40 (1, 0, 0) kX13_byteAt [.ref (G.1 100), .int x4] M (eFI (fun (r1 : Int32) (M1 : eM) => ((¬ r1 = 61) → Ev (eZ G 100 40 0 0 (eFI F)) G 100 40 (8, 0, 0) kX13_read 239 [(0, .ref (G.1 100)), (1, .int x1), (2, .int x2), (4, .int x4)] [] M1 0 0) ∧ ((r1 = 61) → vp_in x2 402 ∧ (((¬ (M1 102 x2.toNatClampNeg) = 44) → vp_in x2 402 ∧ (Ev (eZ G 100 40 0 0 (eFI F)) G 100 40 (8, 0, 0) kX13_read 239 [(0, .ref (G.1 100)), (1, .int x1), (2, .int x2), (4, .int (x4 + 1))] [] (eU M1 102 x2.toNatClampNeg 48) 0 0)) ∧ (((M1 102 x2.toNatClampNeg) = 44) → vp_in x2 402 ∧ (Ev (eZ G 100 40 0 0 (eFI F)) G 100 40 (8, 0, 0) kX13_read 239 [(0, .ref (G.1 100)), (1, .int x1), (2, .int x2), (4, .int (x4 + 1))] [] (eU M1 102 x2.toNatClampNeg 47) 0 0))))))) :
    Ev (eZ G 100 40 0 0 (eFI F)) G 100 40 (8, 0, 0) kX13_read 201 [(0, .ref (G.1 100)), (1, .int x1), (2, .int x2), (4, .int x4)] [] M 0 0 := by
  refine r_aload_n 0 dX13_read_201 rfl rfl ?_
  refine r_iload 3 dX13_read_202 rfl ?_
  refine r_callVI (b' := (1, 0, 0)) (c := 100) (S := []) [.int x4] dX13_read_204 mX13_byteAt lMX13_96 clX13 rfl iM100 sC100 rfl (by decide) (Nat.le_of_ble_eq_true rfl) h (fun r1 M1 h => ?_) rfl
  refine r_bipush (v := 61) dX13_read_207 rfl ?_
  refine r_icmp_ne (t := 239) dX13_read_209 (by decide) (fun q => ?_) (fun q => ?_)
  · replace h := h.1 q
    exact h
  · replace h := h.2 q
    refine r_aload_n 0 dX13_read_212 rfl rfl ?_
    refine r_getR (c := 100) (k := 4) 102 dX13_read_213 clX13 lFX13_17 (by decide) iM100 sC100 rfl ?_
    refine r_iload_n 2 dX13_read_216 rfl rfl ?_
    refine r_aload_n 0 dX13_read_217 rfl rfl ?_
    refine r_getR (c := 100) (k := 4) 102 dX13_read_218 clX13 lFX13_17 (by decide) iM100 sC100 rfl ?_
    refine r_iload_n 2 dX13_read_221 rfl rfl ?_
    have h1 := h.1
    replace h := h.2
    refine r_iald (c := 102) (N := 402) dX13_read_222 iM102 sC102 h1 ?_
    refine r_bipush (v := 44) dX13_read_223 rfl ?_
    refine r_icmp_ne (t := 233) dX13_read_225 (by decide) (fun q => ?_) (fun q => ?_)
    · replace h := h.1 q
      refine r_bipush (v := 48) dX13_read_233 rfl ?_
      have h1 := h.1
      replace h := h.2
      refine r_iast (c := 102) (N := 402) dX13_read_235 iM102 sC102 h1 ?_
      refine r_iinc (v := x4 + 1) (l' := [(4, .int (x4 + 1)), (0, .ref (G.1 100)), (1, .int x1), (2, .int x2)]) 3 dX13_read_236 rfl rfl (by decide) rfl ?_
      exact Ev.sub (ks := [1, 2, 3, 0]) rfl h
    · replace h := h.2 q
      refine r_bipush (v := 47) dX13_read_228 rfl ?_
      refine r_goto (t := 235) dX13_read_230 (by decide) ?_
      have h1 := h.1
      replace h := h.2
      refine r_iast (c := 102) (N := 402) dX13_read_235 iM102 sC102 h1 ?_
      refine r_iinc (v := x4 + 1) (l' := [(4, .int (x4 + 1)), (0, .ref (G.1 100)), (1, .int x1), (2, .int x2)]) 3 dX13_read_236 rfl rfl (by decide) rfl ?_
      exact Ev.sub (ks := [1, 2, 3, 0]) rfl h
set_option maxHeartbeats 4000000 in
set_option maxRecDepth 100000 in
theorem B_X13_read_87 (G : eG) (M : eM) (F : Int32 → eM → Prop) (x1 : Int32) (x2 : Int32) (x4 : Int32) (x5 : Int32)
    (h : Cal G 100 40 (1, 0, 0) kX13_byteAt [.ref (G.1 100), .int x4] M (eFI (fun (r1 : Int32) (M1 : eM) => Cal G 100 40 (2, 0, 0) kX13_isDigit [.int r1] M1 (eFZ (fun (r2 : Bool) (M2 : eM) => ((r2 = false) → vp_in x2 402 ∧ ((((x4 - x1) ≤ 6) → vp_in x2 402 ∧ (Ev (eZ G 100 40 0 0 (eFI F)) G 100 40 (8, 0, 0) kX13_read 239 [(0, .ref (G.1 100)), (1, .int x1), (2, .int x2), (4, .int x4)] [] (eU (eU M2 103 x2.toNatClampNeg x5) 102 x2.toNatClampNeg 31) 0 0)) ∧ ((¬ (x4 - x1) ≤ 6) → vp_in x2 402 ∧ (Ev (eZ G 100 40 0 0 (eFI F)) G 100 40 (8, 0, 0) kX13_read 239 [(0, .ref (G.1 100)), (1, .int x1), (2, .int x2), (4, .int x4)] [] (eU (eU M2 103 x2.toNatClampNeg x5) 102 x2.toNatClampNeg 32) 0 0)))) ∧ ((r2 = true) → ((7 ≤ (x4 - x1)) → Ev (eZ G 100 40 0 0 (eFI F)) G 100 40 (8, 0, 0) kX13_read 87 [(0, .ref (G.1 100)), (1, .int x1), (2, .int x2), (4, .int (x4 + 1)), (5, .int x5)] [] M2 0 0) ∧ ((¬ 7 ≤ (x4 - x1)) → Cal G 100 40 (1, 0, 0) kX13_byteAt [.ref (G.1 100), .int x4] M2 (eFI (fun (r3 : Int32) (M3 : eM) => Ev (eZ G 100 40 0 0 (eFI F)) G 100 40 (8, 0, 0) kX13_read 87 [(0, .ref (G.1 100)), (1, .int x1), (2, .int x2), (4, .int (x4 + 1)), (5, .int (((10 * x5) + r3) - 48))] [] M3 0 0))))))))) :
    Ev (eZ G 100 40 0 0 (eFI F)) G 100 40 (8, 0, 0) kX13_read 87 [(0, .ref (G.1 100)), (1, .int x1), (2, .int x2), (4, .int x4), (5, .int x5)] [] M 0 0 := by
  refine r_aload_n 0 dX13_read_87 rfl rfl ?_
  refine r_iload 3 dX13_read_88 rfl ?_
  refine r_callVI (b' := (1, 0, 0)) (c := 100) (S := []) [.int x4] dX13_read_90 mX13_byteAt lMX13_96 clX13 rfl iM100 sC100 rfl (by decide) (Nat.le_of_ble_eq_true rfl) h (fun r1 M1 h => ?_) rfl
  refine r_callSZ (b' := (2, 0, 0)) (S := []) [.int r1] dX13_read_93 mX13_isDigit lMX13_100 rfl (by decide) (Nat.le_of_ble_eq_true rfl) h (fun r2 M2 h => ?_) rfl
  refine r_zif_eq (t := 136) dX13_read_96 (by decide) (fun q => ?_) (fun q => ?_)
  · replace h := h.1 q
    refine r_aload_n 0 dX13_read_136 rfl rfl ?_
    refine r_getR (c := 100) (k := 5) 103 dX13_read_137 clX13 lFX13_20 (by decide) iM100 sC100 rfl ?_
    refine r_iload_n 2 dX13_read_140 rfl rfl ?_
    refine r_iload 4 dX13_read_141 rfl ?_
    have h1 := h.1
    replace h := h.2
    refine r_iast (c := 103) (N := 402) dX13_read_143 iM103 sC103 h1 ?_
    refine r_aload_n 0 dX13_read_144 rfl rfl ?_
    refine r_getR (c := 100) (k := 4) 102 dX13_read_145 clX13 lFX13_17 (by decide) iM100 sC100 rfl ?_
    refine r_iload_n 2 dX13_read_148 rfl rfl ?_
    refine r_iload 3 dX13_read_149 rfl ?_
    refine r_iload_n 1 dX13_read_151 rfl rfl ?_
    refine r_isub dX13_read_152 ?_
    refine r_bipush (v := 6) dX13_read_153 rfl ?_
    refine r_icmp_le (t := 163) dX13_read_155 (by decide) (fun q => ?_) (fun q => ?_)
    · replace h := h.1 q
      refine r_bipush (v := 31) dX13_read_163 rfl ?_
      have h1 := h.1
      replace h := h.2
      refine r_iast (c := 102) (N := 402) dX13_read_165 iM102 sC102 h1 ?_
      refine r_goto (t := 239) dX13_read_166 (by decide) ?_
      exact Ev.sub (ks := [0, 1, 2, 3]) rfl h
    · replace h := h.2 q
      refine r_bipush (v := 32) dX13_read_158 rfl ?_
      refine r_goto (t := 165) dX13_read_160 (by decide) ?_
      have h1 := h.1
      replace h := h.2
      refine r_iast (c := 102) (N := 402) dX13_read_165 iM102 sC102 h1 ?_
      refine r_goto (t := 239) dX13_read_166 (by decide) ?_
      exact Ev.sub (ks := [0, 1, 2, 3]) rfl h
  · replace h := h.2 q
    refine r_iload 3 dX13_read_99 rfl ?_
    refine r_iload_n 1 dX13_read_101 rfl rfl ?_
    refine r_isub dX13_read_102 ?_
    refine r_bipush (v := 7) dX13_read_103 rfl ?_
    refine r_icmp_ge (t := 126) dX13_read_105 (by decide) (fun q => ?_) (fun q => ?_)
    · replace h := h.1 q
      refine r_iload 4 dX13_read_126 rfl ?_
      refine r_istore (l' := [(5, .int x5), (0, .ref (G.1 100)), (1, .int x1), (2, .int x2), (4, .int x4)]) dX13_read_128 (by decide) rfl ?_
      refine r_iinc (v := x4 + 1) (l' := [(4, .int (x4 + 1)), (5, .int x5), (0, .ref (G.1 100)), (1, .int x1), (2, .int x2)]) 4 dX13_read_130 rfl rfl (by decide) rfl ?_
      refine r_goto (t := 87) dX13_read_133 (by decide) ?_
      exact Ev.sub (ks := [2, 3, 4, 0, 1]) rfl h
    · replace h := h.2 q
      refine r_bipush (v := 10) dX13_read_108 rfl ?_
      refine r_iload 4 dX13_read_110 rfl ?_
      refine r_imul dX13_read_112 ?_
      refine r_aload_n 0 dX13_read_113 rfl rfl ?_
      refine r_iload 3 dX13_read_114 rfl ?_
      refine r_callVI (b' := (1, 0, 0)) (c := 100) (S := [.int (10 * x5)]) [.int x4] dX13_read_116 mX13_byteAt lMX13_96 clX13 rfl iM100 sC100 rfl (by decide) (Nat.le_of_ble_eq_true rfl) h (fun r3 M3 h => ?_) rfl
      refine r_iadd dX13_read_119 ?_
      refine r_bipush (v := 48) dX13_read_120 rfl ?_
      refine r_isub dX13_read_122 ?_
      refine r_goto (t := 128) dX13_read_123 (by decide) ?_
      refine r_istore (l' := [(5, .int (((10 * x5) + r3) - 48)), (0, .ref (G.1 100)), (1, .int x1), (2, .int x2), (4, .int x4)]) dX13_read_128 (by decide) rfl ?_
      refine r_iinc (v := x4 + 1) (l' := [(4, .int (x4 + 1)), (5, .int (((10 * x5) + r3) - 48)), (0, .ref (G.1 100)), (1, .int x1), (2, .int x2)]) 4 dX13_read_130 rfl rfl (by decide) rfl ?_
      refine r_goto (t := 87) dX13_read_133 (by decide) ?_
      exact Ev.sub (ks := [2, 3, 4, 0, 1]) rfl h
set_option maxHeartbeats 4000000 in
set_option maxRecDepth 100000 in
theorem B_X13_read_50 (G : eG) (M : eM) (F : Int32 → eM → Prop) (x1 : Int32) (x2 : Int32) (x4 : Int32)
    (h : Ev (eZ G 100 40 0 0 (eFI F)) G 100 40 (8, 0, 0) kX13_read 26 [(0, .ref (G.1 100)), (1, .int x1), (2, .int x2), (4, .int (x4 + 1))] [] M 0 0) :
    Ev (eZ G 100 40 0 0 (eFI F)) G 100 40 (8, 0, 0) kX13_read 50 [(0, .ref (G.1 100)), (1, .int x1), (2, .int x2), (4, .int x4)] [] M 0 0 := by
  refine r_iinc (v := x4 + 1) (l' := [(4, .int (x4 + 1)), (0, .ref (G.1 100)), (1, .int x1), (2, .int x2)]) 3 dX13_read_50 rfl rfl (by decide) rfl ?_
  refine r_goto (t := 26) dX13_read_53 (by decide) ?_
  exact Ev.sub (ks := [1, 2, 3, 0]) rfl h
set_option maxHeartbeats 4000000 in
set_option maxRecDepth 100000 in
theorem B_X13_read_26 (G : eG) (M : eM) (F : Int32 → eM → Prop) (x1 : Int32) (x2 : Int32) (x4 : Int32)
    (h : Cal G 100 40 (1, 0, 0) kX13_byteAt [.ref (G.1 100), .int x4] M (eFI (fun (r1 : Int32) (M1 : eM) => Cal G 100 40 (2, 0, 0) kX13_isLetter [.int r1] M1 (eFZ (fun (r2 : Bool) (M2 : eM) => ((r2 = true) → Ev (eZ G 100 40 0 0 (eFI F)) G 100 40 (8, 0, 0) kX13_read 50 [(0, .ref (G.1 100)), (1, .int x1), (2, .int x2), (4, .int x4)] [] M2 0 0) ∧ ((r2 = false) → Cal G 100 40 (1, 0, 0) kX13_byteAt [.ref (G.1 100), .int x4] M2 (eFI (fun (r3 : Int32) (M3 : eM) => Cal G 100 40 (2, 0, 0) kX13_isDigit [.int r3] M3 (eFZ (fun (r4 : Bool) (M4 : eM) => ((r4 = false) → Cal G 100 40 (7, 0, 0) kX13_keyword [.ref (G.1 100), .int x1, .int (x4 - x1)] M4 (eFI (fun (r5 : Int32) (M5 : eM) => vp_in x2 402 ∧ (Ev (eZ G 100 40 0 0 (eFI F)) G 100 40 (8, 0, 0) kX13_read 239 [(0, .ref (G.1 100)), (1, .int x1), (2, .int x2), (4, .int x4)] [] (eU M5 102 x2.toNatClampNeg r5) 0 0)))) ∧ ((r4 = true) → Ev (eZ G 100 40 0 0 (eFI F)) G 100 40 (8, 0, 0) kX13_read 50 [(0, .ref (G.1 100)), (1, .int x1), (2, .int x2), (4, .int x4)] [] M4 0 0))))))))))) :
    Ev (eZ G 100 40 0 0 (eFI F)) G 100 40 (8, 0, 0) kX13_read 26 [(0, .ref (G.1 100)), (1, .int x1), (2, .int x2), (4, .int x4)] [] M 0 0 := by
  refine r_aload_n 0 dX13_read_26 rfl rfl ?_
  refine r_iload 3 dX13_read_27 rfl ?_
  refine r_callVI (b' := (1, 0, 0)) (c := 100) (S := []) [.int x4] dX13_read_29 mX13_byteAt lMX13_96 clX13 rfl iM100 sC100 rfl (by decide) (Nat.le_of_ble_eq_true rfl) h (fun r1 M1 h => ?_) rfl
  refine r_callSZ (b' := (2, 0, 0)) (S := []) [.int r1] dX13_read_32 mX13_isLetter lMX13_92 rfl (by decide) (Nat.le_of_ble_eq_true rfl) h (fun r2 M2 h => ?_) rfl
  refine r_zif_ne (t := 50) dX13_read_35 (by decide) (fun q => ?_) (fun q => ?_)
  · replace h := h.1 q
    exact h
  · replace h := h.2 q
    refine r_aload_n 0 dX13_read_38 rfl rfl ?_
    refine r_iload 3 dX13_read_39 rfl ?_
    refine r_callVI (b' := (1, 0, 0)) (c := 100) (S := []) [.int x4] dX13_read_41 mX13_byteAt lMX13_96 clX13 rfl iM100 sC100 rfl (by decide) (Nat.le_of_ble_eq_true rfl) h (fun r3 M3 h => ?_) rfl
    refine r_callSZ (b' := (2, 0, 0)) (S := []) [.int r3] dX13_read_44 mX13_isDigit lMX13_100 rfl (by decide) (Nat.le_of_ble_eq_true rfl) h (fun r4 M4 h => ?_) rfl
    refine r_zif_eq (t := 56) dX13_read_47 (by decide) (fun q => ?_) (fun q => ?_)
    · replace h := h.1 q
      refine r_aload_n 0 dX13_read_56 rfl rfl ?_
      refine r_getR (c := 100) (k := 4) 102 dX13_read_57 clX13 lFX13_17 (by decide) iM100 sC100 rfl ?_
      refine r_iload_n 2 dX13_read_60 rfl rfl ?_
      refine r_aload_n 0 dX13_read_61 rfl rfl ?_
      refine r_iload_n 1 dX13_read_62 rfl rfl ?_
      refine r_iload 3 dX13_read_63 rfl ?_
      refine r_iload_n 1 dX13_read_65 rfl rfl ?_
      refine r_isub dX13_read_66 ?_
      refine r_callVI (b' := (7, 0, 0)) (c := 100) (S := [.int x2, .ref (G.1 102)]) [.int x1, .int (x4 - x1)] dX13_read_67 mX13_keyword lMX13_103 clX13 rfl iM100 sC100 rfl (by decide) (Nat.le_of_ble_eq_true rfl) h (fun r5 M5 h => ?_) rfl
      have h1 := h.1
      replace h := h.2
      refine r_iast (c := 102) (N := 402) dX13_read_70 iM102 sC102 h1 ?_
      refine r_goto (t := 239) dX13_read_71 (by decide) ?_
      exact h
    · replace h := h.2 q
      exact h
set_option maxHeartbeats 4000000 in
set_option maxRecDepth 100000 in
theorem C_X13_read (G : eG) (M : eM) (F : Int32 → eM → Prop) (a1 : Int32) (a2 : Int32)
    (h : vp_in a1 2000 ∧ (vp_in a2 402 ∧ (Cal G 100 40 (2, 0, 0) kX13_isLetter [.int (M 101 a1.toNatClampNeg)] (eU M 104 a2.toNatClampNeg a1) (eFZ (fun (r1 : Bool) (M1 : eM) => ((r1 = false) → Cal G 100 40 (2, 0, 0) kX13_isDigit [.int (M 101 a1.toNatClampNeg)] M1 (eFZ (fun (r2 : Bool) (M2 : eM) => ((r2 = false) → Cal G 100 40 (1, 0, 0) kX13_symbol [.int (M 101 a1.toNatClampNeg)] M2 (eFI (fun (r3 : Int32) (M3 : eM) => vp_in a2 402 ∧ (vp_in a2 402 ∧ (((((eU M3 102 a2.toNatClampNeg r3) 102 a2.toNatClampNeg) = 44) → Ev (eZ G 100 40 0 0 (eFI F)) G 100 40 (8, 0, 0) kX13_read 201 [(0, .ref (G.1 100)), (1, .int a1), (2, .int a2), (4, .int (a1 + 1))] [] (eU M3 102 a2.toNatClampNeg r3) 0 0) ∧ ((¬ ((eU M3 102 a2.toNatClampNeg r3) 102 a2.toNatClampNeg) = 44) → vp_in a2 402 ∧ (((¬ ((eU M3 102 a2.toNatClampNeg r3) 102 a2.toNatClampNeg) = 45) → Ev (eZ G 100 40 0 0 (eFI F)) G 100 40 (8, 0, 0) kX13_read 239 [(0, .ref (G.1 100)), (1, .int a1), (2, .int a2), (4, .int (a1 + 1))] [] (eU M3 102 a2.toNatClampNeg r3) 0 0) ∧ ((((eU M3 102 a2.toNatClampNeg r3) 102 a2.toNatClampNeg) = 45) → Ev (eZ G 100 40 0 0 (eFI F)) G 100 40 (8, 0, 0) kX13_read 201 [(0, .ref (G.1 100)), (1, .int a1), (2, .int a2), (4, .int (a1 + 1))] [] (eU M3 102 a2.toNatClampNeg r3) 0 0)))))))) ∧ ((r2 = true) → Ev (eZ G 100 40 0 0 (eFI F)) G 100 40 (8, 0, 0) kX13_read 87 [(0, .ref (G.1 100)), (1, .int a1), (2, .int a2), (4, .int (a1 + 1)), (5, .int ((M 101 a1.toNatClampNeg) - 48))] [] M2 0 0)))) ∧ ((r1 = true) → Ev (eZ G 100 40 0 0 (eFI F)) G 100 40 (8, 0, 0) kX13_read 26 [(0, .ref (G.1 100)), (1, .int a1), (2, .int a2), (4, .int (a1 + 1))] [] M1 0 0)))))) :
    Cal G 100 40 (8, 0, 0) kX13_read [.ref (G.1 100), .int a1, .int a2] M (eFI F) := by
  refine Cal.of (by decide +kernel) rfl (Nat.le_of_ble_eq_true rfl) ?_
  show Ev (eZ G 100 40 0 0 (eFI F)) G 100 40 (8, 0, 0) kX13_read 0 [(0, .ref (G.1 100)), (1, .int a1), (2, .int a2)] [] M 0 0
  refine r_aload_n 0 dX13_read_0 rfl rfl ?_
  refine r_getR (c := 100) (k := 1) 101 dX13_read_1 clX13 lFX13_9 (by decide) iM100 sC100 rfl ?_
  refine r_iload_n 1 dX13_read_4 rfl rfl ?_
  have h1 := h.1
  replace h := h.2
  refine r_iald (c := 101) (N := 2000) dX13_read_5 iM101 sC101 h1 ?_
  refine r_istore_n (l' := [(3, .int (M 101 a1.toNatClampNeg)), (0, .ref (G.1 100)), (1, .int a1), (2, .int a2)]) dX13_read_6 rfl (by decide) rfl ?_
  refine r_iload_n 2 dX13_read_7 rfl rfl ?_
  refine r_iconst (v := 1) dX13_read_8 rfl ?_
  refine r_iadd dX13_read_9 ?_
  refine r_istore (l' := [(4, .int (a1 + 1)), (3, .int (M 101 a1.toNatClampNeg)), (0, .ref (G.1 100)), (1, .int a1), (2, .int a2)]) dX13_read_10 (by decide) rfl ?_
  refine r_aload_n 2 dX13_read_12 rfl rfl ?_
  refine r_getR (c := 100) (k := 6) 104 dX13_read_13 clX13 lFX13_23 (by decide) iM100 sC100 rfl ?_
  refine r_iload_n 4 dX13_read_16 rfl rfl ?_
  refine r_iload_n 3 dX13_read_17 rfl rfl ?_
  have h1 := h.1
  replace h := h.2
  refine r_iast (c := 104) (N := 402) dX13_read_18 iM104 sC104 h1 ?_
  refine r_iload_n 1 dX13_read_19 rfl rfl ?_
  refine r_callSZ (b' := (2, 0, 0)) (S := []) [.int (M 101 a1.toNatClampNeg)] dX13_read_20 mX13_isLetter lMX13_92 rfl (by decide) (Nat.le_of_ble_eq_true rfl) h (fun r1 M1 h => ?_) rfl
  refine r_zif_eq (t := 74) dX13_read_23 (by decide) (fun q => ?_) (fun q => ?_)
  · replace h := h.1 q
    refine r_iload_n 1 dX13_read_74 rfl rfl ?_
    refine r_callSZ (b' := (2, 0, 0)) (S := []) [.int (M 101 a1.toNatClampNeg)] dX13_read_75 mX13_isDigit lMX13_100 rfl (by decide) (Nat.le_of_ble_eq_true rfl) h (fun r2 M2 h => ?_) rfl
    refine r_zif_eq (t := 169) dX13_read_78 (by decide) (fun q => ?_) (fun q => ?_)
    · replace h := h.1 q
      refine r_aload_n 2 dX13_read_169 rfl rfl ?_
      refine r_getR (c := 100) (k := 4) 102 dX13_read_170 clX13 lFX13_17 (by decide) iM100 sC100 rfl ?_
      refine r_iload_n 4 dX13_read_173 rfl rfl ?_
      refine r_iload_n 1 dX13_read_174 rfl rfl ?_
      refine r_callSI (b' := (1, 0, 0)) (S := [.int a2, .ref (G.1 102)]) [.int (M 101 a1.toNatClampNeg)] dX13_read_175 mX13_symbol lMX13_107 rfl (by decide) (Nat.le_of_ble_eq_true rfl) h (fun r3 M3 h => ?_) rfl
      have h1 := h.1
      replace h := h.2
      refine r_iast (c := 102) (N := 402) dX13_read_178 iM102 sC102 h1 ?_
      refine r_aload_n 2 dX13_read_179 rfl rfl ?_
      refine r_getR (c := 100) (k := 4) 102 dX13_read_180 clX13 lFX13_17 (by decide) iM100 sC100 rfl ?_
      refine r_iload_n 4 dX13_read_183 rfl rfl ?_
      have h1 := h.1
      replace h := h.2
      refine r_iald (c := 102) (N := 402) dX13_read_184 iM102 sC102 h1 ?_
      refine r_bipush (v := 44) dX13_read_185 rfl ?_
      refine r_icmp_eq (t := 201) dX13_read_187 (by decide) (fun q => ?_) (fun q => ?_)
      · replace h := h.1 q
        exact Ev.sub (ks := [2, 3, 4, 0]) rfl h
      · replace h := h.2 q
        refine r_aload_n 2 dX13_read_190 rfl rfl ?_
        refine r_getR (c := 100) (k := 4) 102 dX13_read_191 clX13 lFX13_17 (by decide) iM100 sC100 rfl ?_
        refine r_iload_n 4 dX13_read_194 rfl rfl ?_
        have h1 := h.1
        replace h := h.2
        refine r_iald (c := 102) (N := 402) dX13_read_195 iM102 sC102 h1 ?_
        refine r_bipush (v := 45) dX13_read_196 rfl ?_
        refine r_icmp_ne (t := 239) dX13_read_198 (by decide) (fun q => ?_) (fun q => ?_)
        · replace h := h.1 q
          exact Ev.sub (ks := [2, 3, 4, 0]) rfl h
        · replace h := h.2 q
          exact Ev.sub (ks := [2, 3, 4, 0]) rfl h
    · replace h := h.2 q
      refine r_iload_n 1 dX13_read_81 rfl rfl ?_
      refine r_bipush (v := 48) dX13_read_82 rfl ?_
      refine r_isub dX13_read_84 ?_
      refine r_istore (l' := [(5, .int ((M 101 a1.toNatClampNeg) - 48)), (4, .int (a1 + 1)), (3, .int (M 101 a1.toNatClampNeg)), (0, .ref (G.1 100)), (1, .int a1), (2, .int a2)]) dX13_read_85 (by decide) rfl ?_
      exact Ev.sub (ks := [3, 4, 5, 1, 0]) rfl h
  · replace h := h.2 q
    exact Ev.sub (ks := [2, 3, 4, 0]) rfl h
set_option maxHeartbeats 4000000 in
set_option maxRecDepth 100000 in
theorem B_X13_skip_22 (G : eG) (M : eM) (F : Int32 → eM → Prop) (x2 : Int32)
    (h : Ev (eZ G 100 40 0 0 (eFI F)) G 100 40 (2, 0, 0) kX13_skip 2 [(0, .ref (G.1 100)), (2, .int (x2 + 1))] [] M 0 0) :
    Ev (eZ G 100 40 0 0 (eFI F)) G 100 40 (2, 0, 0) kX13_skip 22 [(0, .ref (G.1 100)), (2, .int x2)] [] M 0 0 := by
  refine r_iinc (v := x2 + 1) (l' := [(2, .int (x2 + 1)), (0, .ref (G.1 100))]) 1 dX13_skip_22 rfl rfl (by decide) rfl ?_
  refine r_goto (t := 2) dX13_skip_25 (by decide) ?_
  exact Ev.sub (ks := [1, 0]) rfl h
set_option maxHeartbeats 4000000 in
set_option maxRecDepth 100000 in
theorem B_X13_skip_2 (G : eG) (M : eM) (F : Int32 → eM → Prop) (x2 : Int32)
    (h : Cal G 100 40 (1, 0, 0) kX13_byteAt [.ref (G.1 100), .int x2] M (eFI (fun (r1 : Int32) (M1 : eM) => ((r1 = 32) → Ev (eZ G 100 40 0 0 (eFI F)) G 100 40 (2, 0, 0) kX13_skip 22 [(0, .ref (G.1 100)), (2, .int x2)] [] M1 0 0) ∧ ((¬ r1 = 32) → Cal G 100 40 (1, 0, 0) kX13_byteAt [.ref (G.1 100), .int x2] M1 (eFI (fun (r2 : Int32) (M2 : eM) => ((¬ r2 = 10) → F x2 M2) ∧ ((r2 = 10) → Ev (eZ G 100 40 0 0 (eFI F)) G 100 40 (2, 0, 0) kX13_skip 22 [(0, .ref (G.1 100)), (2, .int x2)] [] M2 0 0))))))) :
    Ev (eZ G 100 40 0 0 (eFI F)) G 100 40 (2, 0, 0) kX13_skip 2 [(0, .ref (G.1 100)), (2, .int x2)] [] M 0 0 := by
  refine r_aload_n 0 dX13_skip_2 rfl rfl ?_
  refine r_iload_n 1 dX13_skip_3 rfl rfl ?_
  refine r_callVI (b' := (1, 0, 0)) (c := 100) (S := []) [.int x2] dX13_skip_4 mX13_byteAt lMX13_96 clX13 rfl iM100 sC100 rfl (by decide) (Nat.le_of_ble_eq_true rfl) h (fun r1 M1 h => ?_) rfl
  refine r_bipush (v := 32) dX13_skip_7 rfl ?_
  refine r_icmp_eq (t := 22) dX13_skip_9 (by decide) (fun q => ?_) (fun q => ?_)
  · replace h := h.1 q
    exact h
  · replace h := h.2 q
    refine r_aload_n 0 dX13_skip_12 rfl rfl ?_
    refine r_iload_n 1 dX13_skip_13 rfl rfl ?_
    refine r_callVI (b' := (1, 0, 0)) (c := 100) (S := []) [.int x2] dX13_skip_14 mX13_byteAt lMX13_96 clX13 rfl iM100 sC100 rfl (by decide) (Nat.le_of_ble_eq_true rfl) h (fun r2 M2 h => ?_) rfl
    refine r_bipush (v := 10) dX13_skip_17 rfl ?_
    refine r_icmp_ne (t := 28) dX13_skip_19 (by decide) (fun q => ?_) (fun q => ?_)
    · replace h := h.1 q
      refine r_iload_n 1 dX13_skip_28 rfl rfl ?_
      refine r_iretI dX13_skip_29 rfl (by decide) (by decide) h
    · replace h := h.2 q
      exact h
set_option maxHeartbeats 4000000 in
set_option maxRecDepth 100000 in
theorem C_X13_skip (G : eG) (M : eM) (F : Int32 → eM → Prop) (a1 : Int32)
    (h : Ev (eZ G 100 40 0 0 (eFI F)) G 100 40 (2, 0, 0) kX13_skip 2 [(0, .ref (G.1 100)), (2, .int a1)] [] M 0 0) :
    Cal G 100 40 (2, 0, 0) kX13_skip [.ref (G.1 100), .int a1] M (eFI F) := by
  refine Cal.of (by decide +kernel) rfl (Nat.le_of_ble_eq_true rfl) ?_
  show Ev (eZ G 100 40 0 0 (eFI F)) G 100 40 (2, 0, 0) kX13_skip 0 [(0, .ref (G.1 100)), (1, .int a1)] [] M 0 0
  refine r_iload_n 1 dX13_skip_0 rfl rfl ?_
  refine r_istore_n (l' := [(2, .int a1), (0, .ref (G.1 100)), (1, .int a1)]) dX13_skip_1 rfl (by decide) rfl ?_
  exact Ev.sub (ks := [1, 0]) rfl h
set_option maxHeartbeats 4000000 in
set_option maxRecDepth 100000 in
theorem B_X13_readAll_65 (G : eG) (M : eM) (F : eM → Prop) (x2 : Int32)
    (h : vp_in x2 402 ∧ (vp_in x2 402 ∧ (F (eU (eU M 102 x2.toNatClampNeg 33) 104 x2.toNatClampNeg ((eU M 102 x2.toNatClampNeg 33) 100 2))))) :
    Ev (eZ G 100 40 0 0 (eFV F)) G 100 40 (9, 0, 0) kX13_readAll 65 [(0, .ref (G.1 100)), (2, .int x2)] [] M 0 0 := by
  refine r_aload_n 0 dX13_readAll_65 rfl rfl ?_
  refine r_getR (c := 100) (k := 4) 102 dX13_readAll_66 clX13 lFX13_17 (by decide) iM100 sC100 rfl ?_
  refine r_iload_n 1 dX13_readAll_69 rfl rfl ?_
  refine r_bipush (v := 33) dX13_readAll_70 rfl ?_
  have h1 := h.1
  replace h := h.2
  refine r_iast (c := 102) (N := 402) dX13_readAll_72 iM102 sC102 h1 ?_
  refine r_aload_n 0 dX13_readAll_73 rfl rfl ?_
  refine r_getR (c := 100) (k := 6) 104 dX13_readAll_74 clX13 lFX13_23 (by decide) iM100 sC100 rfl ?_
  refine r_iload_n 1 dX13_readAll_77 rfl rfl ?_
  refine r_aload_n 0 dX13_readAll_78 rfl rfl ?_
  refine r_getI (c := 100) (k := 2) dX13_readAll_79 clX13 lFX13_72 (by decide) iM100 sC100 rfl ?_
  have h1 := h.1
  replace h := h.2
  refine r_iast (c := 104) (N := 402) dX13_readAll_82 iM104 sC104 h1 ?_
  refine r_vretV dX13_readAll_83 rfl (by decide) (by decide) h
set_option maxHeartbeats 4000000 in
set_option maxRecDepth 100000 in
theorem B_X13_readAll_59 (G : eG) (M : eM) (F : eM → Prop) (x1 : Int32) (x2 : Int32)
    (h : Ev (eZ G 100 40 0 0 (eFV F)) G 100 40 (9, 0, 0) kX13_readAll 8 [(0, .ref (G.1 100)), (1, .int x1), (2, .int (x2 + 1))] [] M 0 0) :
    Ev (eZ G 100 40 0 0 (eFV F)) G 100 40 (9, 0, 0) kX13_readAll 59 [(0, .ref (G.1 100)), (1, .int x1), (2, .int x2)] [] M 0 0 := by
  refine r_iinc (v := x2 + 1) (l' := [(2, .int (x2 + 1)), (0, .ref (G.1 100)), (1, .int x1)]) 2 dX13_readAll_59 rfl rfl (by decide) rfl ?_
  refine r_goto (t := 8) dX13_readAll_62 (by decide) ?_
  exact Ev.sub (ks := [1, 2, 0]) rfl h
set_option maxHeartbeats 4000000 in
set_option maxRecDepth 100000 in
theorem B_X13_readAll_33 (G : eG) (M : eM) (F : eM → Prop) (x1 : Int32) (x2 : Int32)
    (h : Cal G 100 40 (8, 0, 0) kX13_read [.ref (G.1 100), .int x1, .int x2] M (eFI (fun (r1 : Int32) (M1 : eM) => Cal G 100 40 (2, 0, 0) kX13_skip [.ref (G.1 100), .int r1] M1 (eFI (fun (r2 : Int32) (M2 : eM) => ((¬ x2 = 400) → Ev (eZ G 100 40 0 0 (eFV F)) G 100 40 (9, 0, 0) kX13_readAll 59 [(0, .ref (G.1 100)), (1, .int r2), (2, .int x2)] [] M2 0 0) ∧ ((x2 = 400) → vp_in x2 402 ∧ (Ev (eZ G 100 40 0 0 (eFV F)) G 100 40 (9, 0, 0) kX13_readAll 59 [(0, .ref (G.1 100)), (1, .int r2), (2, .int x2)] [] (eU M2 102 x2.toNatClampNeg 32) 0 0))))))) :
    Ev (eZ G 100 40 0 0 (eFV F)) G 100 40 (9, 0, 0) kX13_readAll 33 [(0, .ref (G.1 100)), (1, .int x1), (2, .int x2)] [] M 0 0 := by
  refine r_aload_n 0 dX13_readAll_33 rfl rfl ?_
  refine r_aload_n 0 dX13_readAll_34 rfl rfl ?_
  refine r_iload_n 1 dX13_readAll_35 rfl rfl ?_
  refine r_iload_n 2 dX13_readAll_36 rfl rfl ?_
  refine r_callVI (b' := (8, 0, 0)) (c := 100) (S := [.ref (G.1 100)]) [.int x1, .int x2] dX13_readAll_37 mX13_read lMX13_113 clX13 rfl iM100 sC100 rfl (by decide) (Nat.le_of_ble_eq_true rfl) h (fun r1 M1 h => ?_) rfl
  refine r_callVI (b' := (2, 0, 0)) (c := 100) (S := []) [.int r1] dX13_readAll_40 mX13_skip lMX13_110 clX13 rfl iM100 sC100 rfl (by decide) (Nat.le_of_ble_eq_true rfl) h (fun r2 M2 h => ?_) rfl
  refine r_istore_n (l' := [(1, .int r2), (0, .ref (G.1 100)), (2, .int x2)]) dX13_readAll_43 rfl (by decide) rfl ?_
  refine r_iload_n 2 dX13_readAll_44 rfl rfl ?_
  refine r_sipush (v := 400) dX13_readAll_45 rfl ?_
  refine r_icmp_ne (t := 59) dX13_readAll_48 (by decide) (fun q => ?_) (fun q => ?_)
  · replace h := h.1 q
    exact Ev.sub (ks := [1, 0, 2]) rfl h
  · replace h := h.2 q
    refine r_aload_n 1 dX13_readAll_51 rfl rfl ?_
    refine r_getR (c := 100) (k := 4) 102 dX13_readAll_52 clX13 lFX13_17 (by decide) iM100 sC100 rfl ?_
    refine r_iload_n 2 dX13_readAll_55 rfl rfl ?_
    refine r_bipush (v := 32) dX13_readAll_56 rfl ?_
    have h1 := h.1
    replace h := h.2
    refine r_iast (c := 102) (N := 402) dX13_readAll_58 iM102 sC102 h1 ?_
    exact Ev.sub (ks := [1, 0, 2]) rfl h
set_option maxHeartbeats 4000000 in
set_option maxRecDepth 100000 in
theorem B_X13_readAll_8 (G : eG) (M : eM) (F : eM → Prop) (x1 : Int32) (x2 : Int32)
    (h : (((M 100 2) ≤ x1) → Ev (eZ G 100 40 0 0 (eFV F)) G 100 40 (9, 0, 0) kX13_readAll 65 [(0, .ref (G.1 100)), (2, .int x2)] [] M 0 0) ∧ ((¬ (M 100 2) ≤ x1) → ((x2 = 0) → Ev (eZ G 100 40 0 0 (eFV F)) G 100 40 (9, 0, 0) kX13_readAll 33 [(0, .ref (G.1 100)), (1, .int x1), (2, .int x2)] [] M 0 0) ∧ ((¬ x2 = 0) → vp_in (x2 - 1) 402 ∧ ((((M 102 (x2 - 1).toNatClampNeg) = 32) → Ev (eZ G 100 40 0 0 (eFV F)) G 100 40 (9, 0, 0) kX13_readAll 65 [(0, .ref (G.1 100)), (2, .int x2)] [] M 0 0) ∧ ((¬ (M 102 (x2 - 1).toNatClampNeg) = 32) → Ev (eZ G 100 40 0 0 (eFV F)) G 100 40 (9, 0, 0) kX13_readAll 33 [(0, .ref (G.1 100)), (1, .int x1), (2, .int x2)] [] M 0 0))))) :
    Ev (eZ G 100 40 0 0 (eFV F)) G 100 40 (9, 0, 0) kX13_readAll 8 [(0, .ref (G.1 100)), (1, .int x1), (2, .int x2)] [] M 0 0 := by
  refine r_iload_n 1 dX13_readAll_8 rfl rfl ?_
  refine r_aload_n 0 dX13_readAll_9 rfl rfl ?_
  refine r_getI (c := 100) (k := 2) dX13_readAll_10 clX13 lFX13_72 (by decide) iM100 sC100 rfl ?_
  refine r_icmp_ge (t := 65) dX13_readAll_13 (by decide) (fun q => ?_) (fun q => ?_)
  · replace h := h.1 q
    exact Ev.sub (ks := [0, 2]) rfl h
  · replace h := h.2 q
    refine r_iload_n 2 dX13_readAll_16 rfl rfl ?_
    refine r_if_eq (t := 33) dX13_readAll_17 (by decide) (fun q => ?_) (fun q => ?_)
    · replace h := h.1 q
      exact h
    · replace h := h.2 q
      refine r_aload_n 0 dX13_readAll_20 rfl rfl ?_
      refine r_getR (c := 100) (k := 4) 102 dX13_readAll_21 clX13 lFX13_17 (by decide) iM100 sC100 rfl ?_
      refine r_iload_n 2 dX13_readAll_24 rfl rfl ?_
      refine r_iconst (v := 1) dX13_readAll_25 rfl ?_
      refine r_isub dX13_readAll_26 ?_
      have h1 := h.1
      replace h := h.2
      refine r_iald (c := 102) (N := 402) dX13_readAll_27 iM102 sC102 h1 ?_
      refine r_bipush (v := 32) dX13_readAll_28 rfl ?_
      refine r_icmp_eq (t := 65) dX13_readAll_30 (by decide) (fun q => ?_) (fun q => ?_)
      · replace h := h.1 q
        exact Ev.sub (ks := [0, 2]) rfl h
      · replace h := h.2 q
        exact h
set_option maxHeartbeats 4000000 in
set_option maxRecDepth 100000 in
theorem C_X13_readAll (G : eG) (M : eM) (F : eM → Prop) 
    (h : Cal G 100 40 (2, 0, 0) kX13_skip [.ref (G.1 100), .int 0] M (eFI (fun (r1 : Int32) (M1 : eM) => Ev (eZ G 100 40 0 0 (eFV F)) G 100 40 (9, 0, 0) kX13_readAll 8 [(0, .ref (G.1 100)), (1, .int r1), (2, .int 0)] [] M1 0 0))) :
    Cal G 100 40 (9, 0, 0) kX13_readAll [.ref (G.1 100)] M (eFV F) := by
  refine Cal.of (by decide +kernel) rfl (Nat.le_of_ble_eq_true rfl) ?_
  show Ev (eZ G 100 40 0 0 (eFV F)) G 100 40 (9, 0, 0) kX13_readAll 0 [(0, .ref (G.1 100))] [] M 0 0
  refine r_aload_n 0 dX13_readAll_0 rfl rfl ?_
  refine r_iconst (v := 0) dX13_readAll_1 rfl ?_
  refine r_callVI (b' := (2, 0, 0)) (c := 100) (S := []) [.int 0] dX13_readAll_2 mX13_skip lMX13_110 clX13 rfl iM100 sC100 rfl (by decide) (Nat.le_of_ble_eq_true rfl) h (fun r1 M1 h => ?_) rfl
  refine r_istore_n (l' := [(1, .int r1), (0, .ref (G.1 100))]) dX13_readAll_5 rfl (by decide) rfl ?_
  refine r_iconst (v := 0) dX13_readAll_6 rfl ?_
  refine r_istore_n (l' := [(2, .int 0), (1, .int r1), (0, .ref (G.1 100))]) dX13_readAll_7 rfl (by decide) rfl ?_
  exact Ev.sub (ks := [2, 1, 0]) rfl h
set_option maxHeartbeats 4000000 in
set_option maxRecDepth 100000 in
theorem C_X13_is (G : eG) (M : eM) (F : Bool → eM → Prop) (a1 : Int32)
    (h : ((¬ (M 100 9) = 0) → F false M) ∧ (((M 100 9) = 0) → vp_in (M 100 8) 402 ∧ (((¬ (M 102 (M 100 8).toNatClampNeg) = a1) → F false M) ∧ (((M 102 (M 100 8).toNatClampNeg) = a1) → F true M)))) :
    Cal G 100 40 (1, 0, 0) kX13_is [.ref (G.1 100), .int a1] M (eFZ F) := by
  refine Cal.of (by decide +kernel) rfl (Nat.le_of_ble_eq_true rfl) ?_
  show Ev (eZ G 100 40 0 0 (eFZ F)) G 100 40 (1, 0, 0) kX13_is 0 [(0, .ref (G.1 100)), (1, .int a1)] [] M 0 0
  refine r_aload_n 0 dX13_is_0 rfl rfl ?_
  refine r_getI (c := 100) (k := 9) dX13_is_1 clX13 lFX13_116 (by decide) iM100 sC100 rfl ?_
  refine r_if_ne (t := 24) dX13_is_4 (by decide) (fun q => ?_) (fun q => ?_)
  · replace h := h.1 q
    refine r_iconst (v := 0) dX13_is_24 rfl ?_
    refine r_iretZ0 dX13_is_25 rfl (by decide) (by decide) h
  · replace h := h.2 q
    refine r_aload_n 0 dX13_is_7 rfl rfl ?_
    refine r_getR (c := 100) (k := 4) 102 dX13_is_8 clX13 lFX13_17 (by decide) iM100 sC100 rfl ?_
    refine r_aload_n 0 dX13_is_11 rfl rfl ?_
    refine r_getI (c := 100) (k := 8) dX13_is_12 clX13 lFX13_120 (by decide) iM100 sC100 rfl ?_
    have h1 := h.1
    replace h := h.2
    refine r_iald (c := 102) (N := 402) dX13_is_15 iM102 sC102 h1 ?_
    refine r_iload_n 1 dX13_is_16 rfl rfl ?_
    refine r_icmp_ne (t := 24) dX13_is_17 (by decide) (fun q => ?_) (fun q => ?_)
    · replace h := h.1 q
      refine r_iconst (v := 0) dX13_is_24 rfl ?_
      refine r_iretZ0 dX13_is_25 rfl (by decide) (by decide) h
    · replace h := h.2 q
      refine r_iconst (v := 1) dX13_is_20 rfl ?_
      refine r_goto (t := 25) dX13_is_21 (by decide) ?_
      refine r_iretZ1 dX13_is_25 rfl (by decide) (by decide) h
set_option maxHeartbeats 4000000 in
set_option maxRecDepth 100000 in
theorem C_X13_wrong (G : eG) (M : eM) (F : eM → Prop) 
    (h : (((M 100 9) = 0) → F (eU (eU (eU M 100 9 1) 100 10 1) 100 11 ((eU (eU M 100 9 1) 100 10 1) 100 8))) ∧ ((¬ (M 100 9) = 0) → F M)) :
    Cal G 100 40 (1, 0, 0) kX13_wrong [.ref (G.1 100)] M (eFV F) := by
  refine Cal.of (by decide +kernel) rfl (Nat.le_of_ble_eq_true rfl) ?_
  show Ev (eZ G 100 40 0 0 (eFV F)) G 100 40 (1, 0, 0) kX13_wrong 0 [(0, .ref (G.1 100))] [] M 0 0
  refine r_aload_n 0 dX13_wrong_0 rfl rfl ?_
  refine r_getI (c := 100) (k := 9) dX13_wrong_1 clX13 lFX13_116 (by decide) iM100 sC100 rfl ?_
  refine r_if_eq (t := 8) dX13_wrong_4 (by decide) (fun q => ?_) (fun q => ?_)
  · replace h := h.1 q
    refine r_aload_n 0 dX13_wrong_8 rfl rfl ?_
    refine r_iconst (v := 1) dX13_wrong_9 rfl ?_
    refine r_putZ (c := 100) (k := 9) dX13_wrong_10 clX13 lFX13_116 (by decide) iM100 sC100 rfl rfl rfl (by first | exact Or.inl rfl | exact Or.inr rfl) ?_
    refine r_aload_n 0 dX13_wrong_13 rfl rfl ?_
    refine r_iconst (v := 1) dX13_wrong_14 rfl ?_
    refine r_putI (c := 100) (k := 10) dX13_wrong_15 clX13 lFX13_123 (by decide) iM100 sC100 rfl rfl rfl ?_
    refine r_aload_n 0 dX13_wrong_18 rfl rfl ?_
    refine r_aload_n 0 dX13_wrong_19 rfl rfl ?_
    refine r_getI (c := 100) (k := 8) dX13_wrong_20 clX13 lFX13_120 (by decide) iM100 sC100 rfl ?_
    refine r_putI (c := 100) (k := 11) dX13_wrong_23 clX13 lFX13_126 (by decide) iM100 sC100 rfl rfl rfl ?_
    refine r_vretV dX13_wrong_26 rfl (by decide) (by decide) h
  · replace h := h.2 q
    refine r_vretV dX13_wrong_7 rfl (by decide) (by decide) h
set_option maxHeartbeats 4000000 in
set_option maxRecDepth 100000 in
theorem C_X13_take (G : eG) (M : eM) (F : eM → Prop) (a1 : Int32)
    (h : Cal G 100 40 (1, 0, 0) kX13_is [.ref (G.1 100), .int a1] M (eFZ (fun (r1 : Bool) (M1 : eM) => ((r1 = false) → Cal G 100 40 (1, 0, 0) kX13_wrong [.ref (G.1 100)] M1 (eFV (fun (M2 : eM) => F M2))) ∧ ((r1 = true) → F (eU M1 100 8 ((M1 100 8) + 1)))))) :
    Cal G 100 40 (2, 0, 0) kX13_take [.ref (G.1 100), .int a1] M (eFV F) := by
  refine Cal.of (by decide +kernel) rfl (Nat.le_of_ble_eq_true rfl) ?_
  show Ev (eZ G 100 40 0 0 (eFV F)) G 100 40 (2, 0, 0) kX13_take 0 [(0, .ref (G.1 100)), (1, .int a1)] [] M 0 0
  refine r_aload_n 0 dX13_take_0 rfl rfl ?_
  refine r_iload_n 1 dX13_take_1 rfl rfl ?_
  refine r_callVZ (b' := (1, 0, 0)) (c := 100) (S := []) [.int a1] dX13_take_2 mX13_is lMX13_129 clX13 rfl iM100 sC100 rfl (by decide) (Nat.le_of_ble_eq_true rfl) h (fun r1 M1 h => ?_) rfl
  refine r_zif_eq (t := 21) dX13_take_5 (by decide) (fun q => ?_) (fun q => ?_)
  · replace h := h.1 q
    refine r_aload_n 0 dX13_take_21 rfl rfl ?_
    refine r_callVV (b' := (1, 0, 0)) (c := 100) (S := []) [] dX13_take_22 mX13_wrong lMX13_132 clX13 rfl iM100 sC100 rfl (by decide) (Nat.le_of_ble_eq_true rfl) h (fun M2 h => ?_) rfl
    refine r_vretV dX13_take_25 rfl (by decide) (by decide) h
  · replace h := h.2 q
    refine r_aload_n 0 dX13_take_8 rfl rfl ?_
    refine r_dup dX13_take_9 rfl ?_
    refine r_getI (c := 100) (k := 8) dX13_take_10 clX13 lFX13_120 (by decide) iM100 sC100 rfl ?_
    refine r_iconst (v := 1) dX13_take_13 rfl ?_
    refine r_iadd dX13_take_14 ?_
    refine r_putI (c := 100) (k := 8) dX13_take_15 clX13 lFX13_120 (by decide) iM100 sC100 rfl rfl rfl ?_
    refine r_goto (t := 25) dX13_take_18 (by decide) ?_
    refine r_vretV dX13_take_25 rfl (by decide) (by decide) h
set_option maxHeartbeats 4000000 in
set_option maxRecDepth 100000 in
theorem C_X13_takes (G : eG) (M : eM) (F : Bool → eM → Prop) (a1 : Int32)
    (h : Cal G 100 40 (1, 0, 0) kX13_is [.ref (G.1 100), .int a1] M (eFZ (fun (r1 : Bool) (M1 : eM) => ((r1 = true) → F true (eU M1 100 8 ((M1 100 8) + 1))) ∧ ((r1 = false) → F false M1)))) :
    Cal G 100 40 (2, 0, 0) kX13_takes [.ref (G.1 100), .int a1] M (eFZ F) := by
  refine Cal.of (by decide +kernel) rfl (Nat.le_of_ble_eq_true rfl) ?_
  show Ev (eZ G 100 40 0 0 (eFZ F)) G 100 40 (2, 0, 0) kX13_takes 0 [(0, .ref (G.1 100)), (1, .int a1)] [] M 0 0
  refine r_aload_n 0 dX13_takes_0 rfl rfl ?_
  refine r_iload_n 1 dX13_takes_1 rfl rfl ?_
  refine r_callVZ (b' := (1, 0, 0)) (c := 100) (S := []) [.int a1] dX13_takes_2 mX13_is lMX13_129 clX13 rfl iM100 sC100 rfl (by decide) (Nat.le_of_ble_eq_true rfl) h (fun r1 M1 h => ?_) rfl
  refine r_zif_ne (t := 10) dX13_takes_5 (by decide) (fun q => ?_) (fun q => ?_)
  · replace h := h.1 q
    refine r_aload_n 0 dX13_takes_10 rfl rfl ?_
    refine r_dup dX13_takes_11 rfl ?_
    refine r_getI (c := 100) (k := 8) dX13_takes_12 clX13 lFX13_120 (by decide) iM100 sC100 rfl ?_
    refine r_iconst (v := 1) dX13_takes_15 rfl ?_
    refine r_iadd dX13_takes_16 ?_
    refine r_putI (c := 100) (k := 8) dX13_takes_17 clX13 lFX13_120 (by decide) iM100 sC100 rfl rfl rfl ?_
    refine r_iconst (v := 1) dX13_takes_20 rfl ?_
    refine r_iretZ1 dX13_takes_21 rfl (by decide) (by decide) h
  · replace h := h.2 q
    refine r_iconst (v := 0) dX13_takes_8 rfl ?_
    refine r_iretZ0 dX13_takes_9 rfl (by decide) (by decide) h
set_option maxHeartbeats 4000000 in
set_option maxRecDepth 100000 in
theorem B_X13_deeper_26 (G : eG) (M : eM) (F : eM → Prop) 
    (h : F (eU M 100 12 ((M 100 12) + 1))) :
    Ev (eZ G 100 40 0 0 (eFV F)) G 100 40 (2, 0, 0) kX13_deeper 26 [(0, .ref (G.1 100))] [] M 0 0 := by
  refine r_aload_n 0 dX13_deeper_26 rfl rfl ?_
  refine r_dup dX13_deeper_27 rfl ?_
  refine r_getI (c := 100) (k := 12) dX13_deeper_28 clX13 lFX13_135 (by decide) iM100 sC100 rfl ?_
  refine r_iconst (v := 1) dX13_deeper_31 rfl ?_
  refine r_iadd dX13_deeper_32 ?_
  refine r_putI (c := 100) (k := 12) dX13_deeper_33 clX13 lFX13_135 (by decide) iM100 sC100 rfl rfl rfl ?_
  refine r_vretV dX13_deeper_36 rfl (by decide) (by decide) h
set_option maxHeartbeats 4000000 in
set_option maxRecDepth 100000 in
theorem C_X13_deeper (G : eG) (M : eM) (F : eM → Prop) 
    (h : ((¬ (M 100 12) = 8) → Ev (eZ G 100 40 0 0 (eFV F)) G 100 40 (2, 0, 0) kX13_deeper 26 [(0, .ref (G.1 100))] [] (eU M 100 8 ((M 100 8) + 1)) 0 0) ∧ (((M 100 12) = 8) → Cal G 100 40 (1, 0, 0) kX13_wrong [.ref (G.1 100)] M (eFV (fun (M1 : eM) => Ev (eZ G 100 40 0 0 (eFV F)) G 100 40 (2, 0, 0) kX13_deeper 26 [(0, .ref (G.1 100))] [] M1 0 0)))) :
    Cal G 100 40 (2, 0, 0) kX13_deeper [.ref (G.1 100)] M (eFV F) := by
  refine Cal.of (by decide +kernel) rfl (Nat.le_of_ble_eq_true rfl) ?_
  show Ev (eZ G 100 40 0 0 (eFV F)) G 100 40 (2, 0, 0) kX13_deeper 0 [(0, .ref (G.1 100))] [] M 0 0
  refine r_aload_n 0 dX13_deeper_0 rfl rfl ?_
  refine r_getI (c := 100) (k := 12) dX13_deeper_1 clX13 lFX13_135 (by decide) iM100 sC100 rfl ?_
  refine r_bipush (v := 8) dX13_deeper_4 rfl ?_
  refine r_icmp_ne (t := 16) dX13_deeper_6 (by decide) (fun q => ?_) (fun q => ?_)
  · replace h := h.1 q
    refine r_aload_n 0 dX13_deeper_16 rfl rfl ?_
    refine r_dup dX13_deeper_17 rfl ?_
    refine r_getI (c := 100) (k := 8) dX13_deeper_18 clX13 lFX13_120 (by decide) iM100 sC100 rfl ?_
    refine r_iconst (v := 1) dX13_deeper_21 rfl ?_
    refine r_iadd dX13_deeper_22 ?_
    refine r_putI (c := 100) (k := 8) dX13_deeper_23 clX13 lFX13_120 (by decide) iM100 sC100 rfl rfl rfl ?_
    exact h
  · replace h := h.2 q
    refine r_aload_n 0 dX13_deeper_9 rfl rfl ?_
    refine r_callVV (b' := (1, 0, 0)) (c := 100) (S := []) [] dX13_deeper_10 mX13_wrong lMX13_132 clX13 rfl iM100 sC100 rfl (by decide) (Nat.le_of_ble_eq_true rfl) h (fun M1 h => ?_) rfl
    refine r_goto (t := 26) dX13_deeper_13 (by decide) ?_
    exact h
set_option maxHeartbeats 4000000 in
set_option maxRecDepth 100000 in
theorem C_X13_mark (G : eG) (M : eM) (F : eM → Prop) (a1 : Int32)
    (h : ((¬ (M 100 9) = 0) → F M) ∧ (((M 100 9) = 0) → (((M 100 10) = 0) → F (eU (eU M 100 10 a1) 100 11 ((eU M 100 10 a1) 100 8))) ∧ ((¬ (M 100 10) = 0) → F M))) :
    Cal G 100 40 (1, 0, 0) kX13_mark [.ref (G.1 100), .int a1] M (eFV F) := by
  refine Cal.of (by decide +kernel) rfl (Nat.le_of_ble_eq_true rfl) ?_
  show Ev (eZ G 100 40 0 0 (eFV F)) G 100 40 (1, 0, 0) kX13_mark 0 [(0, .ref (G.1 100)), (1, .int a1)] [] M 0 0
  refine r_aload_n 0 dX13_mark_0 rfl rfl ?_
  refine r_getI (c := 100) (k := 9) dX13_mark_1 clX13 lFX13_116 (by decide) iM100 sC100 rfl ?_
  refine r_if_ne (t := 14) dX13_mark_4 (by decide) (fun q => ?_) (fun q => ?_)
  · replace h := h.1 q
    refine r_vretV dX13_mark_14 rfl (by decide) (by decide) h
  · replace h := h.2 q
    refine r_aload_n 0 dX13_mark_7 rfl rfl ?_
    refine r_getI (c := 100) (k := 10) dX13_mark_8 clX13 lFX13_123 (by decide) iM100 sC100 rfl ?_
    refine r_if_eq (t := 15) dX13_mark_11 (by decide) (fun q => ?_) (fun q => ?_)
    · replace h := h.1 q
      refine r_aload_n 0 dX13_mark_15 rfl rfl ?_
      refine r_iload_n 1 dX13_mark_16 rfl rfl ?_
      refine r_putI (c := 100) (k := 10) dX13_mark_17 clX13 lFX13_123 (by decide) iM100 sC100 rfl rfl rfl ?_
      refine r_aload_n 0 dX13_mark_20 rfl rfl ?_
      refine r_aload_n 0 dX13_mark_21 rfl rfl ?_
      refine r_getI (c := 100) (k := 8) dX13_mark_22 clX13 lFX13_120 (by decide) iM100 sC100 rfl ?_
      refine r_putI (c := 100) (k := 11) dX13_mark_25 clX13 lFX13_126 (by decide) iM100 sC100 rfl rfl rfl ?_
      refine r_vretV dX13_mark_28 rfl (by decide) (by decide) h
    · replace h := h.2 q
      refine r_vretV dX13_mark_14 rfl (by decide) (by decide) h
set_option maxHeartbeats 4000000 in
set_option maxRecDepth 100000 in
theorem C_X13_node (G : eG) (M : eM) (F : Int32 → eM → Prop) (a1 : Int32) (a2 : Int32) (a3 : Int32)
    (h : vp_in (M 118 11) 800 ∧ (vp_in (M 118 11) 800 ∧ (vp_in (M 118 11) 800 ∧ (F (M 118 11) (eU (eU (eU (eU M 126 (M 118 11).toNatClampNeg a1) 127 (M 118 11).toNatClampNeg a2) 128 (M 118 11).toNatClampNeg a3) 118 11 (((eU (eU (eU M 126 (M 118 11).toNatClampNeg a1) 127 (M 118 11).toNatClampNeg a2) 128 (M 118 11).toNatClampNeg a3) 118 11) + 1)))))) :
    Cal G 100 40 (1, 0, 0) kX13_node [.ref (G.1 100), .int a1, .int a2, .int a3] M (eFI F) := by
  refine Cal.of (by decide +kernel) rfl (Nat.le_of_ble_eq_true rfl) ?_
  show Ev (eZ G 100 40 0 0 (eFI F)) G 100 40 (1, 0, 0) kX13_node 0 [(0, .ref (G.1 100)), (1, .int a1), (2, .int a2), (3, .int a3)] [] M 0 0
  refine r_aload_n 0 dX13_node_0 rfl rfl ?_
  refine r_getR (c := 100) (k := 15) 118 dX13_node_1 clX13 lFX13_39 (by decide) iM100 sC100 rfl ?_
  refine r_getNI (c := 118) (k := 11) dX13_node_4 clX12 lFX13_138 (by decide) iM118 sC118 rfl ?_
  refine r_istore (l' := [(4, .int (M 118 11)), (0, .ref (G.1 100)), (1, .int a1), (2, .int a2), (3, .int a3)]) dX13_node_7 (by decide) rfl ?_
  refine r_aload_n 1 dX13_node_9 rfl rfl ?_
  refine r_getR (c := 100) (k := 15) 118 dX13_node_10 clX13 lFX13_39 (by decide) iM100 sC100 rfl ?_
  refine r_getNR (c := 118) (k := 12) 126 dX13_node_13 clX12 lFX13_141 (by decide) iM118 sC118 rfl ?_
  refine r_iload 0 dX13_node_16 rfl ?_
  refine r_iload_n 2 dX13_node_18 rfl rfl ?_
  have h1 := h.1
  replace h := h.2
  refine r_iast (c := 126) (N := 800) dX13_node_19 iM126 sC126 h1 ?_
  refine r_aload_n 1 dX13_node_20 rfl rfl ?_
  refine r_getR (c := 100) (k := 15) 118 dX13_node_21 clX13 lFX13_39 (by decide) iM100 sC100 rfl ?_
  refine r_getNR (c := 118) (k := 13) 127 dX13_node_24 clX12 lFX13_144 (by decide) iM118 sC118 rfl ?_
  refine r_iload 0 dX13_node_27 rfl ?_
  refine r_iload_n 3 dX13_node_29 rfl rfl ?_
  have h1 := h.1
  replace h := h.2
  refine r_iast (c := 127) (N := 800) dX13_node_30 iM127 sC127 h1 ?_
  refine r_aload_n 1 dX13_node_31 rfl rfl ?_
  refine r_getR (c := 100) (k := 15) 118 dX13_node_32 clX13 lFX13_39 (by decide) iM100 sC100 rfl ?_
  refine r_getNR (c := 118) (k := 14) 128 dX13_node_35 clX12 lFX13_147 (by decide) iM118 sC118 rfl ?_
  refine r_iload 0 dX13_node_38 rfl ?_
  refine r_iload_n 4 dX13_node_40 rfl rfl ?_
  have h1 := h.1
  replace h := h.2
  refine r_iast (c := 128) (N := 800) dX13_node_41 iM128 sC128 h1 ?_
  refine r_aload_n 1 dX13_node_42 rfl rfl ?_
  refine r_getR (c := 100) (k := 15) 118 dX13_node_43 clX13 lFX13_39 (by decide) iM100 sC100 rfl ?_
  refine r_dup dX13_node_46 rfl ?_
  refine r_getNI (c := 118) (k := 11) dX13_node_47 clX12 lFX13_138 (by decide) iM118 sC118 rfl ?_
  refine r_iconst (v := 1) dX13_node_50 rfl ?_
  refine r_iadd dX13_node_51 ?_
  refine r_putNI (c := 118) (k := 11) dX13_node_52 clX12 lFX13_138 (by decide) iM118 sC118 rfl rfl rfl ?_
  refine r_iload 0 dX13_node_55 rfl ?_
  refine r_iretI dX13_node_57 rfl (by decide) (by decide) h
set_option maxHeartbeats 4000000 in
set_option maxRecDepth 100000 in
theorem B_X13_isSameName_19 (G : eG) (M : eM) (F : Bool → eM → Prop) (x1 : Int32) (x2 : Int32) (x3 : Int32)
    (h : vp_in x1 402 ∧ ((((M 105 x1.toNatClampNeg) ≤ x3) → F true M) ∧ ((¬ (M 105 x1.toNatClampNeg) ≤ x3) → vp_in x1 402 ∧ (vp_in ((M 104 x1.toNatClampNeg) + x3) 2000 ∧ (vp_in x2 402 ∧ (vp_in ((M 104 x2.toNatClampNeg) + x3) 2000 ∧ ((((M 101 ((M 104 x1.toNatClampNeg) + x3).toNatClampNeg) = (M 101 ((M 104 x2.toNatClampNeg) + x3).toNatClampNeg)) → Ev (eZ G 100 40 0 0 (eFZ F)) G 100 40 (1, 0, 0) kX13_isSameName 19 [(0, .ref (G.1 100)), (1, .int x1), (2, .int x2), (3, .int (x3 + 1))] [] M 0 0) ∧ ((¬ (M 101 ((M 104 x1.toNatClampNeg) + x3).toNatClampNeg) = (M 101 ((M 104 x2.toNatClampNeg) + x3).toNatClampNeg)) → F false M)))))))) :
    Ev (eZ G 100 40 0 0 (eFZ F)) G 100 40 (1, 0, 0) kX13_isSameName 19 [(0, .ref (G.1 100)), (1, .int x1), (2, .int x2), (3, .int x3)] [] M 0 0 := by
  refine r_iload_n 3 dX13_isSameName_19 rfl rfl ?_
  refine r_aload_n 0 dX13_isSameName_20 rfl rfl ?_
  refine r_getR (c := 100) (k := 7) 105 dX13_isSameName_21 clX13 lFX13_26 (by decide) iM100 sC100 rfl ?_
  refine r_iload_n 1 dX13_isSameName_24 rfl rfl ?_
  have h1 := h.1
  replace h := h.2
  refine r_iald (c := 105) (N := 402) dX13_isSameName_25 iM105 sC105 h1 ?_
  refine r_icmp_ge (t := 66) dX13_isSameName_26 (by decide) (fun q => ?_) (fun q => ?_)
  · replace h := h.1 q
    refine r_iconst (v := 1) dX13_isSameName_66 rfl ?_
    refine r_iretZ1 dX13_isSameName_67 rfl (by decide) (by decide) h
  · replace h := h.2 q
    refine r_aload_n 0 dX13_isSameName_29 rfl rfl ?_
    refine r_getR (c := 100) (k := 1) 101 dX13_isSameName_30 clX13 lFX13_9 (by decide) iM100 sC100 rfl ?_
    refine r_aload_n 0 dX13_isSameName_33 rfl rfl ?_
    refine r_getR (c := 100) (k := 6) 104 dX13_isSameName_34 clX13 lFX13_23 (by decide) iM100 sC100 rfl ?_
    refine r_iload_n 1 dX13_isSameName_37 rfl rfl ?_
    have h1 := h.1
    replace h := h.2
    refine r_iald (c := 104) (N := 402) dX13_isSameName_38 iM104 sC104 h1 ?_
    refine r_iload_n 3 dX13_isSameName_39 rfl rfl ?_
    refine r_iadd dX13_isSameName_40 ?_
    have h1 := h.1
    replace h := h.2
    refine r_iald (c := 101) (N := 2000) dX13_isSameName_41 iM101 sC101 h1 ?_
    refine r_aload_n 0 dX13_isSameName_42 rfl rfl ?_
    refine r_getR (c := 100) (k := 1) 101 dX13_isSameName_43 clX13 lFX13_9 (by decide) iM100 sC100 rfl ?_
    refine r_aload_n 0 dX13_isSameName_46 rfl rfl ?_
    refine r_getR (c := 100) (k := 6) 104 dX13_isSameName_47 clX13 lFX13_23 (by decide) iM100 sC100 rfl ?_
    refine r_iload_n 2 dX13_isSameName_50 rfl rfl ?_
    have h1 := h.1
    replace h := h.2
    refine r_iald (c := 104) (N := 402) dX13_isSameName_51 iM104 sC104 h1 ?_
    refine r_iload_n 3 dX13_isSameName_52 rfl rfl ?_
    refine r_iadd dX13_isSameName_53 ?_
    have h1 := h.1
    replace h := h.2
    refine r_iald (c := 101) (N := 2000) dX13_isSameName_54 iM101 sC101 h1 ?_
    refine r_icmp_eq (t := 60) dX13_isSameName_55 (by decide) (fun q => ?_) (fun q => ?_)
    · replace h := h.1 q
      refine r_iinc (v := x3 + 1) (l' := [(3, .int (x3 + 1)), (0, .ref (G.1 100)), (1, .int x1), (2, .int x2)]) 3 dX13_isSameName_60 rfl rfl (by decide) rfl ?_
      refine r_goto (t := 19) dX13_isSameName_63 (by decide) ?_
      exact Ev.sub (ks := [1, 2, 3, 0]) rfl h
    · replace h := h.2 q
      refine r_iconst (v := 0) dX13_isSameName_58 rfl ?_
      refine r_iretZ0 dX13_isSameName_59 rfl (by decide) (by decide) h
set_option maxHeartbeats 4000000 in
set_option maxRecDepth 100000 in
theorem C_X13_isSameName (G : eG) (M : eM) (F : Bool → eM → Prop) (a1 : Int32) (a2 : Int32)
    (h : vp_in a1 402 ∧ (vp_in a2 402 ∧ ((((M 105 a1.toNatClampNeg) = (M 105 a2.toNatClampNeg)) → Ev (eZ G 100 40 0 0 (eFZ F)) G 100 40 (1, 0, 0) kX13_isSameName 19 [(0, .ref (G.1 100)), (1, .int a1), (2, .int a2), (3, .int 0)] [] M 0 0) ∧ ((¬ (M 105 a1.toNatClampNeg) = (M 105 a2.toNatClampNeg)) → F false M)))) :
    Cal G 100 40 (1, 0, 0) kX13_isSameName [.ref (G.1 100), .int a1, .int a2] M (eFZ F) := by
  refine Cal.of (by decide +kernel) rfl (Nat.le_of_ble_eq_true rfl) ?_
  show Ev (eZ G 100 40 0 0 (eFZ F)) G 100 40 (1, 0, 0) kX13_isSameName 0 [(0, .ref (G.1 100)), (1, .int a1), (2, .int a2)] [] M 0 0
  refine r_aload_n 0 dX13_isSameName_0 rfl rfl ?_
  refine r_getR (c := 100) (k := 7) 105 dX13_isSameName_1 clX13 lFX13_26 (by decide) iM100 sC100 rfl ?_
  refine r_iload_n 1 dX13_isSameName_4 rfl rfl ?_
  have h1 := h.1
  replace h := h.2
  refine r_iald (c := 105) (N := 402) dX13_isSameName_5 iM105 sC105 h1 ?_
  refine r_aload_n 0 dX13_isSameName_6 rfl rfl ?_
  refine r_getR (c := 100) (k := 7) 105 dX13_isSameName_7 clX13 lFX13_26 (by decide) iM100 sC100 rfl ?_
  refine r_iload_n 2 dX13_isSameName_10 rfl rfl ?_
  have h1 := h.1
  replace h := h.2
  refine r_iald (c := 105) (N := 402) dX13_isSameName_11 iM105 sC105 h1 ?_
  refine r_icmp_eq (t := 17) dX13_isSameName_12 (by decide) (fun q => ?_) (fun q => ?_)
  · replace h := h.1 q
    refine r_iconst (v := 0) dX13_isSameName_17 rfl ?_
    refine r_istore_n (l' := [(3, .int 0), (0, .ref (G.1 100)), (1, .int a1), (2, .int a2)]) dX13_isSameName_18 rfl (by decide) rfl ?_
    exact Ev.sub (ks := [1, 2, 3, 0]) rfl h
  · replace h := h.2 q
    refine r_iconst (v := 0) dX13_isSameName_15 rfl ?_
    refine r_iretZ0 dX13_isSameName_16 rfl (by decide) (by decide) h
set_option maxHeartbeats 4000000 in
set_option maxRecDepth 100000 in
theorem B_X13_known_2 (G : eG) (M : eM) (F : Int32 → eM → Prop) (x1 : Int32)
    (h : (((M 118 2) ≤ x1) → F (-1) M) ∧ ((¬ (M 118 2) ≤ x1) → vp_in x1 16 ∧ (Cal G 100 40 (1, 0, 0) kX13_isSameName [.ref (G.1 100), .int (M 106 x1.toNatClampNeg), .int (M 100 8)] M (eFZ (fun (r1 : Bool) (M1 : eM) => ((r1 = false) → Ev (eZ G 100 40 0 0 (eFI F)) G 100 40 (2, 0, 0) kX13_known 2 [(0, .ref (G.1 100)), (1, .int (x1 + 1))] [] M1 0 0) ∧ ((r1 = true) → F x1 M1)))))) :
    Ev (eZ G 100 40 0 0 (eFI F)) G 100 40 (2, 0, 0) kX13_known 2 [(0, .ref (G.1 100)), (1, .int x1)] [] M 0 0 := by
  refine r_iload_n 1 dX13_known_2 rfl rfl ?_
  refine r_aload_n 0 dX13_known_3 rfl rfl ?_
  refine r_getR (c := 100) (k := 15) 118 dX13_known_4 clX13 lFX13_39 (by decide) iM100 sC100 rfl ?_
  refine r_getNI (c := 118) (k := 2) dX13_known_7 clX12 lFX13_150 (by decide) iM118 sC118 rfl ?_
  refine r_icmp_ge (t := 38) dX13_known_10 (by decide) (fun q => ?_) (fun q => ?_)
  · replace h := h.1 q
    refine r_iconst (v := (-1)) dX13_known_38 rfl ?_
    refine r_iretI dX13_known_39 rfl (by decide) (by decide) h
  · replace h := h.2 q
    refine r_aload_n 0 dX13_known_13 rfl rfl ?_
    refine r_aload_n 0 dX13_known_14 rfl rfl ?_
    refine r_getR (c := 100) (k := 13) 106 dX13_known_15 clX13 lFX13_29 (by decide) iM100 sC100 rfl ?_
    refine r_iload_n 1 dX13_known_18 rfl rfl ?_
    have h1 := h.1
    replace h := h.2
    refine r_iald (c := 106) (N := 16) dX13_known_19 iM106 sC106 h1 ?_
    refine r_aload_n 0 dX13_known_20 rfl rfl ?_
    refine r_getI (c := 100) (k := 8) dX13_known_21 clX13 lFX13_120 (by decide) iM100 sC100 rfl ?_
    refine r_callVZ (b' := (1, 0, 0)) (c := 100) (S := []) [.int (M 106 x1.toNatClampNeg), .int (M 100 8)] dX13_known_24 mX13_isSameName lMX13_153 clX13 rfl iM100 sC100 rfl (by decide) (Nat.le_of_ble_eq_true rfl) h (fun r1 M1 h => ?_) rfl
    refine r_zif_eq (t := 32) dX13_known_27 (by decide) (fun q => ?_) (fun q => ?_)
    · replace h := h.1 q
      refine r_iinc (v := x1 + 1) (l' := [(1, .int (x1 + 1)), (0, .ref (G.1 100))]) 1 dX13_known_32 rfl rfl (by decide) rfl ?_
      refine r_goto (t := 2) dX13_known_35 (by decide) ?_
      exact Ev.sub (ks := [1, 0]) rfl h
    · replace h := h.2 q
      refine r_iload_n 1 dX13_known_30 rfl rfl ?_
      refine r_iretI dX13_known_31 rfl (by decide) (by decide) h
set_option maxHeartbeats 4000000 in
set_option maxRecDepth 100000 in
theorem C_X13_known (G : eG) (M : eM) (F : Int32 → eM → Prop) 
    (h : Ev (eZ G 100 40 0 0 (eFI F)) G 100 40 (2, 0, 0) kX13_known 2 [(0, .ref (G.1 100)), (1, .int 0)] [] M 0 0) :
    Cal G 100 40 (2, 0, 0) kX13_known [.ref (G.1 100)] M (eFI F) := by
  refine Cal.of (by decide +kernel) rfl (Nat.le_of_ble_eq_true rfl) ?_
  show Ev (eZ G 100 40 0 0 (eFI F)) G 100 40 (2, 0, 0) kX13_known 0 [(0, .ref (G.1 100))] [] M 0 0
  refine r_iconst (v := 0) dX13_known_0 rfl ?_
  refine r_istore_n (l' := [(1, .int 0), (0, .ref (G.1 100))]) dX13_known_1 rfl (by decide) rfl ?_
  exact Ev.sub (ks := [1, 0]) rfl h
set_option maxHeartbeats 4000000 in
set_option maxRecDepth 100000 in
theorem B_X13_name_28 (G : eG) (M : eM) (F : Int32 → eM → Prop) (x1 : Int32)
    (h : Cal G 100 40 (2, 0, 0) kX13_take [.ref (G.1 100), .int 30] M (eFV (fun (M1 : eM) => F (if 0 < x1 then x1 else 0) M1))) :
    Ev (eZ G 100 40 0 0 (eFI F)) G 100 40 (3, 0, 0) kX13_name 28 [(0, .ref (G.1 100)), (1, .int x1)] [] M 0 0 := by
  refine r_aload_n 0 dX13_name_28 rfl rfl ?_
  refine r_bipush (v := 30) dX13_name_29 rfl ?_
  refine r_callVV (b' := (2, 0, 0)) (c := 100) (S := []) [.int 30] dX13_name_31 mX13_take lMX13_164 clX13 rfl iM100 sC100 rfl (by decide) (Nat.le_of_ble_eq_true rfl) h (fun M1 h => ?_) rfl
  refine r_iconst (v := 0) dX13_name_34 rfl ?_
  refine r_iload_n 1 dX13_name_35 rfl rfl ?_
  refine r_mmax dX13_name_36 lMX13_167 eMm_max1 eMm_i eMm_max2 (by decide) (Nat.le_of_ble_eq_true rfl) ⟨Nat.le_refl _, Nat.le_refl _⟩ ?_
  refine r_iretI dX13_name_39 rfl (by decide) (by decide) h
set_option maxHeartbeats 4000000 in
set_option maxRecDepth 100000 in
theorem C_X13_name (G : eG) (M : eM) (F : Int32 → eM → Prop) 
    (h : Cal G 100 40 (1, 0, 0) kX13_is [.ref (G.1 100), .int 30] M (eFZ (fun (r1 : Bool) (M1 : eM) => ((r1 = false) → ((¬ (0 : Int32) = (-1)) → Ev (eZ G 100 40 0 0 (eFI F)) G 100 40 (3, 0, 0) kX13_name 28 [(0, .ref (G.1 100)), (1, .int 0)] [] M1 0 0) ∧ (((0 : Int32) = (-1)) → Cal G 100 40 (1, 0, 0) kX13_mark [.ref (G.1 100), .int 3] M1 (eFV (fun (M2 : eM) => Ev (eZ G 100 40 0 0 (eFI F)) G 100 40 (3, 0, 0) kX13_name 28 [(0, .ref (G.1 100)), (1, .int 0)] [] M2 0 0)))) ∧ ((r1 = true) → Cal G 100 40 (2, 0, 0) kX13_known [.ref (G.1 100)] M1 (eFI (fun (r3 : Int32) (M3 : eM) => ((¬ r3 = (-1)) → Ev (eZ G 100 40 0 0 (eFI F)) G 100 40 (3, 0, 0) kX13_name 28 [(0, .ref (G.1 100)), (1, .int r3)] [] M3 0 0) ∧ ((r3 = (-1)) → Cal G 100 40 (1, 0, 0) kX13_mark [.ref (G.1 100), .int 3] M3 (eFV (fun (M4 : eM) => Ev (eZ G 100 40 0 0 (eFI F)) G 100 40 (3, 0, 0) kX13_name 28 [(0, .ref (G.1 100)), (1, .int r3)] [] M4 0 0))))))))) :
    Cal G 100 40 (3, 0, 0) kX13_name [.ref (G.1 100)] M (eFI F) := by
  refine Cal.of (by decide +kernel) rfl (Nat.le_of_ble_eq_true rfl) ?_
  show Ev (eZ G 100 40 0 0 (eFI F)) G 100 40 (3, 0, 0) kX13_name 0 [(0, .ref (G.1 100))] [] M 0 0
  refine r_aload_n 0 dX13_name_0 rfl rfl ?_
  refine r_bipush (v := 30) dX13_name_1 rfl ?_
  refine r_callVZ (b' := (1, 0, 0)) (c := 100) (S := []) [.int 30] dX13_name_3 mX13_is lMX13_129 clX13 rfl iM100 sC100 rfl (by decide) (Nat.le_of_ble_eq_true rfl) h (fun r1 M1 h => ?_) rfl
  refine r_zif_eq (t := 16) dX13_name_6 (by decide) (fun q => ?_) (fun q => ?_)
  · replace h := h.1 q
    refine r_iconst (v := 0) dX13_name_16 rfl ?_
    refine r_istore_n (l' := [(1, .int 0), (0, .ref (G.1 100))]) dX13_name_17 rfl (by decide) rfl ?_
    refine r_iload_n 0 dX13_name_18 rfl rfl ?_
    refine r_iconst (v := (-1)) dX13_name_19 rfl ?_
    refine r_icmp_ne (t := 28) dX13_name_20 (by decide) (fun q => ?_) (fun q => ?_)
    · replace h := h.1 q
      exact Ev.sub (ks := [1, 0]) rfl h
    · replace h := h.2 q
      refine r_aload_n 1 dX13_name_23 rfl rfl ?_
      refine r_iconst (v := 3) dX13_name_24 rfl ?_
      refine r_callVV (b' := (1, 0, 0)) (c := 100) (S := []) [.int 3] dX13_name_25 mX13_mark lMX13_160 clX13 rfl iM100 sC100 rfl (by decide) (Nat.le_of_ble_eq_true rfl) h (fun M2 h => ?_) rfl
      exact Ev.sub (ks := [1, 0]) rfl h
  · replace h := h.2 q
    refine r_aload_n 0 dX13_name_9 rfl rfl ?_
    refine r_callVI (b' := (2, 0, 0)) (c := 100) (S := []) [] dX13_name_10 mX13_known lMX13_157 clX13 rfl iM100 sC100 rfl (by decide) (Nat.le_of_ble_eq_true rfl) h (fun r3 M3 h => ?_) rfl
    refine r_goto (t := 17) dX13_name_13 (by decide) ?_
    refine r_istore_n (l' := [(1, .int r3), (0, .ref (G.1 100))]) dX13_name_17 rfl (by decide) rfl ?_
    refine r_iload_n 0 dX13_name_18 rfl rfl ?_
    refine r_iconst (v := (-1)) dX13_name_19 rfl ?_
    refine r_icmp_ne (t := 28) dX13_name_20 (by decide) (fun q => ?_) (fun q => ?_)
    · replace h := h.1 q
      exact Ev.sub (ks := [1, 0]) rfl h
    · replace h := h.2 q
      refine r_aload_n 1 dX13_name_23 rfl rfl ?_
      refine r_iconst (v := 3) dX13_name_24 rfl ?_
      refine r_callVV (b' := (1, 0, 0)) (c := 100) (S := []) [.int 3] dX13_name_25 mX13_mark lMX13_160 clX13 rfl iM100 sC100 rfl (by decide) (Nat.le_of_ble_eq_true rfl) h (fun M4 h => ?_) rfl
      exact Ev.sub (ks := [1, 0]) rfl h
set_option maxHeartbeats 4000000 in
set_option maxRecDepth 100000 in
theorem C_X13_inBrackets (G : eG) (d : Nat) (M : eM) (F : Int32 → eM → Prop) 
    (h : Cal G 100 40 (2, 0, 0) kX13_deeper [.ref (G.1 100)] M (eFV (fun (M1 : eM) => Cal G 100 40 (d + 4, 0, 0) kX13_sum [.ref (G.1 100)] M1 (eFI (fun (r2 : Int32) (M2 : eM) => Cal G 100 40 (2, 0, 0) kX13_take [.ref (G.1 100), .int 50] M2 (eFV (fun (M3 : eM) => F r2 (eU M3 100 12 ((M3 100 12) - 1))))))))) :
    Cal G 100 40 (d + 5, 0, 0) kX13_inBrackets [.ref (G.1 100)] M (eFI F) := by
  refine Cal.of (by decide +kernel) rfl (Nat.le_of_ble_eq_true rfl) ?_
  show Ev (eZ G 100 40 0 0 (eFI F)) G 100 40 (d + 5, 0, 0) kX13_inBrackets 0 [(0, .ref (G.1 100))] [] M 0 0
  refine r_aload_n 0 dX13_inBrackets_0 rfl rfl ?_
  refine r_callVV (b' := (2, 0, 0)) (c := 100) (S := []) [] dX13_inBrackets_1 mX13_deeper lMX13_172 clX13 rfl iM100 sC100 rfl (eFitL (by decide) (by decide)) (Nat.le_of_ble_eq_true rfl) h (fun M1 h => ?_) rfl
  refine r_aload_n 0 dX13_inBrackets_4 rfl rfl ?_
  refine r_callVI (b' := (d + 4, 0, 0)) (c := 100) (S := []) [] dX13_inBrackets_5 mX13_sum lMX13_175 clX13 rfl iM100 sC100 rfl (eFitR (by decide)) (Nat.le_of_ble_eq_true rfl) h (fun r2 M2 h => ?_) rfl
  refine r_istore_n (l' := [(1, .int r2), (0, .ref (G.1 100))]) dX13_inBrackets_8 rfl (by decide) rfl ?_
  refine r_aload_n 1 dX13_inBrackets_9 rfl rfl ?_
  refine r_bipush (v := 50) dX13_inBrackets_10 rfl ?_
  refine r_callVV (b' := (2, 0, 0)) (c := 100) (S := []) [.int 50] dX13_inBrackets_12 mX13_take lMX13_164 clX13 rfl iM100 sC100 rfl (eFitL (by decide) (by decide)) (Nat.le_of_ble_eq_true rfl) h (fun M3 h => ?_) rfl
  refine r_aload_n 1 dX13_inBrackets_15 rfl rfl ?_
  refine r_dup dX13_inBrackets_16 rfl ?_
  refine r_getI (c := 100) (k := 12) dX13_inBrackets_17 clX13 lFX13_135 (by decide) iM100 sC100 rfl ?_
  refine r_iconst (v := 1) dX13_inBrackets_20 rfl ?_
  refine r_isub dX13_inBrackets_21 ?_
  refine r_putI (c := 100) (k := 12) dX13_inBrackets_22 clX13 lFX13_135 (by decide) iM100 sC100 rfl rfl rfl ?_
  refine r_iload_n 0 dX13_inBrackets_25 rfl rfl ?_
  refine r_iretI dX13_inBrackets_26 rfl (Nat.le_refl _) (Nat.le_refl _) h
set_option maxHeartbeats 4000000 in
set_option maxRecDepth 100000 in
theorem C_X13_ofTwo (G : eG) (d : Nat) (M : eM) (F : Int32 → eM → Prop) (a1 : Int32)
    (h : Cal G 100 40 (1, 0, 0) kX13_is [.ref (G.1 100), .int 49] (eU M 100 8 ((M 100 8) + 1)) (eFZ (fun (r1 : Bool) (M1 : eM) => ((r1 = true) → Cal G 100 40 (2, 0, 0) kX13_deeper [.ref (G.1 100)] M1 (eFV (fun (M2 : eM) => Cal G 100 40 (d + 4, 0, 0) kX13_sum [.ref (G.1 100)] M2 (eFI (fun (r3 : Int32) (M3 : eM) => Cal G 100 40 (2, 0, 0) kX13_take [.ref (G.1 100), .int 54] M3 (eFV (fun (M4 : eM) => Cal G 100 40 (d + 4, 0, 0) kX13_sum [.ref (G.1 100)] M4 (eFI (fun (r5 : Int32) (M5 : eM) => Cal G 100 40 (2, 0, 0) kX13_take [.ref (G.1 100), .int 50] M5 (eFV (fun (M6 : eM) => Cal G 100 40 (1, 0, 0) kX13_node [.ref (G.1 100), .int a1, .int r3, .int r5] (eU M6 100 12 ((M6 100 12) - 1)) (eFI (fun (r7 : Int32) (M7 : eM) => F r7 M7))))))))))))) ∧ ((r1 = false) → Cal G 100 40 (1, 0, 0) kX13_wrong [.ref (G.1 100)] M1 (eFV (fun (M8 : eM) => F 0 M8)))))) :
    Cal G 100 40 (d + 5, 0, 0) kX13_ofTwo [.ref (G.1 100), .int a1] M (eFI F) := by
  refine Cal.of (by decide +kernel) rfl (Nat.le_of_ble_eq_true rfl) ?_
  show Ev (eZ G 100 40 0 0 (eFI F)) G 100 40 (d + 5, 0, 0) kX13_ofTwo 0 [(0, .ref (G.1 100)), (1, .int a1)] [] M 0 0
  refine r_aload_n 0 dX13_ofTwo_0 rfl rfl ?_
  refine r_dup dX13_ofTwo_1 rfl ?_
  refine r_getI (c := 100) (k := 8) dX13_ofTwo_2 clX13 lFX13_120 (by decide) iM100 sC100 rfl ?_
  refine r_iconst (v := 1) dX13_ofTwo_5 rfl ?_
  refine r_iadd dX13_ofTwo_6 ?_
  refine r_putI (c := 100) (k := 8) dX13_ofTwo_7 clX13 lFX13_120 (by decide) iM100 sC100 rfl rfl rfl ?_
  refine r_aload_n 0 dX13_ofTwo_10 rfl rfl ?_
  refine r_bipush (v := 49) dX13_ofTwo_11 rfl ?_
  refine r_callVZ (b' := (1, 0, 0)) (c := 100) (S := []) [.int 49] dX13_ofTwo_13 mX13_is lMX13_129 clX13 rfl iM100 sC100 rfl (eFitL (by decide) (by decide)) (Nat.le_of_ble_eq_true rfl) h (fun r1 M1 h => ?_) rfl
  refine r_zif_ne (t := 25) dX13_ofTwo_16 (by decide) (fun q => ?_) (fun q => ?_)
  · replace h := h.1 q
    refine r_aload_n 0 dX13_ofTwo_25 rfl rfl ?_
    refine r_callVV (b' := (2, 0, 0)) (c := 100) (S := []) [] dX13_ofTwo_26 mX13_deeper lMX13_172 clX13 rfl iM100 sC100 rfl (eFitL (by decide) (by decide)) (Nat.le_of_ble_eq_true rfl) h (fun M2 h => ?_) rfl
    refine r_aload_n 0 dX13_ofTwo_29 rfl rfl ?_
    refine r_callVI (b' := (d + 4, 0, 0)) (c := 100) (S := []) [] dX13_ofTwo_30 mX13_sum lMX13_175 clX13 rfl iM100 sC100 rfl (eFitR (by decide)) (Nat.le_of_ble_eq_true rfl) h (fun r3 M3 h => ?_) rfl
    refine r_istore_n (l' := [(2, .int r3), (0, .ref (G.1 100)), (1, .int a1)]) dX13_ofTwo_33 rfl (by decide) rfl ?_
    refine r_aload_n 1 dX13_ofTwo_34 rfl rfl ?_
    refine r_bipush (v := 54) dX13_ofTwo_35 rfl ?_
    refine r_callVV (b' := (2, 0, 0)) (c := 100) (S := []) [.int 54] dX13_ofTwo_37 mX13_take lMX13_164 clX13 rfl iM100 sC100 rfl (eFitL (by decide) (by decide)) (Nat.le_of_ble_eq_true rfl) h (fun M4 h => ?_) rfl
    refine r_aload_n 1 dX13_ofTwo_40 rfl rfl ?_
    refine r_callVI (b' := (d + 4, 0, 0)) (c := 100) (S := []) [] dX13_ofTwo_41 mX13_sum lMX13_175 clX13 rfl iM100 sC100 rfl (eFitR (by decide)) (Nat.le_of_ble_eq_true rfl) h (fun r5 M5 h => ?_) rfl
    refine r_istore_n (l' := [(3, .int r5), (2, .int r3), (0, .ref (G.1 100)), (1, .int a1)]) dX13_ofTwo_44 rfl (by decide) rfl ?_
    refine r_aload_n 2 dX13_ofTwo_45 rfl rfl ?_
    refine r_bipush (v := 50) dX13_ofTwo_46 rfl ?_
    refine r_callVV (b' := (2, 0, 0)) (c := 100) (S := []) [.int 50] dX13_ofTwo_48 mX13_take lMX13_164 clX13 rfl iM100 sC100 rfl (eFitL (by decide) (by decide)) (Nat.le_of_ble_eq_true rfl) h (fun M6 h => ?_) rfl
    refine r_aload_n 2 dX13_ofTwo_51 rfl rfl ?_
    refine r_dup dX13_ofTwo_52 rfl ?_
    refine r_getI (c := 100) (k := 12) dX13_ofTwo_53 clX13 lFX13_135 (by decide) iM100 sC100 rfl ?_
    refine r_iconst (v := 1) dX13_ofTwo_56 rfl ?_
    refine r_isub dX13_ofTwo_57 ?_
    refine r_putI (c := 100) (k := 12) dX13_ofTwo_58 clX13 lFX13_135 (by decide) iM100 sC100 rfl rfl rfl ?_
    refine r_aload_n 2 dX13_ofTwo_61 rfl rfl ?_
    refine r_iload_n 3 dX13_ofTwo_62 rfl rfl ?_
    refine r_iload_n 1 dX13_ofTwo_63 rfl rfl ?_
    refine r_iload_n 0 dX13_ofTwo_64 rfl rfl ?_
    refine r_callVI (b' := (1, 0, 0)) (c := 100) (S := []) [.int a1, .int r3, .int r5] dX13_ofTwo_65 mX13_node lMX13_178 clX13 rfl iM100 sC100 rfl (eFitL (by decide) (by decide)) (Nat.le_of_ble_eq_true rfl) h (fun r7 M7 h => ?_) rfl
    refine r_iretI dX13_ofTwo_68 rfl (Nat.le_refl _) (Nat.le_refl _) h
  · replace h := h.2 q
    refine r_aload_n 0 dX13_ofTwo_19 rfl rfl ?_
    refine r_callVV (b' := (1, 0, 0)) (c := 100) (S := []) [] dX13_ofTwo_20 mX13_wrong lMX13_132 clX13 rfl iM100 sC100 rfl (eFitL (by decide) (by decide)) (Nat.le_of_ble_eq_true rfl) h (fun M8 h => ?_) rfl
    refine r_iconst (v := 0) dX13_ofTwo_23 rfl ?_
    refine r_iretI dX13_ofTwo_24 rfl (Nat.le_refl _) (Nat.le_refl _) h
set_option maxHeartbeats 4000000 in
set_option maxRecDepth 100000 in
theorem B_X13_value_114 (G : eG) (d : Nat) (M : eM) (F : Int32 → eM → Prop) 
    (h : vp_in (M 100 8) 402 ∧ (Cal G 100 40 (d + 4, 0, 0) kX13_ofTwo [.ref (G.1 100), .int (M 102 (M 100 8).toNatClampNeg)] M (eFI (fun (r1 : Int32) (M1 : eM) => F r1 M1)))) :
    Ev (eZ G 100 40 0 0 (eFI F)) G 100 40 (d + 5, 0, 0) kX13_value 114 [(0, .ref (G.1 100))] [] M 0 0 := by
  refine r_aload_n 0 dX13_value_114 rfl rfl ?_
  refine r_aload_n 0 dX13_value_115 rfl rfl ?_
  refine r_getR (c := 100) (k := 4) 102 dX13_value_116 clX13 lFX13_17 (by decide) iM100 sC100 rfl ?_
  refine r_aload_n 0 dX13_value_119 rfl rfl ?_
  refine r_getI (c := 100) (k := 8) dX13_value_120 clX13 lFX13_120 (by decide) iM100 sC100 rfl ?_
  have h1 := h.1
  replace h := h.2
  refine r_iald (c := 102) (N := 402) dX13_value_123 iM102 sC102 h1 ?_
  refine r_callVI (b' := (d + 4, 0, 0)) (c := 100) (S := []) [.int (M 102 (M 100 8).toNatClampNeg)] dX13_value_124 mX13_ofTwo lMX13_188 clX13 rfl iM100 sC100 rfl (eFitR (by decide)) (Nat.le_of_ble_eq_true rfl) h (fun r1 M1 h => ?_) rfl
  refine r_iretI dX13_value_127 rfl (Nat.le_refl _) (Nat.le_refl _) h
set_option maxHeartbeats 4000000 in
set_option maxRecDepth 100000 in
theorem B_X13_value_41 (G : eG) (d : Nat) (M : eM) (F : Int32 → eM → Prop) (x1 : Int32)
    (h : ((14 < x1) → Cal G 100 40 (2, 0, 0) kX13_takes [.ref (G.1 100), .int 15] M (eFZ (fun (r1 : Bool) (M1 : eM) => ((r1 = false) → Cal G 100 40 (1, 0, 0) kX13_is [.ref (G.1 100), .int 22] M1 (eFZ (fun (r2 : Bool) (M2 : eM) => ((r2 = true) → Ev (eZ G 100 40 0 0 (eFI F)) G 100 40 (d + 5, 0, 0) kX13_value 114 [(0, .ref (G.1 100))] [] M2 0 0) ∧ ((r2 = false) → Cal G 100 40 (1, 0, 0) kX13_is [.ref (G.1 100), .int 23] M2 (eFZ (fun (r3 : Bool) (M3 : eM) => ((r3 = false) → Cal G 100 40 (1, 0, 0) kX13_is [.ref (G.1 100), .int 49] M3 (eFZ (fun (r4 : Bool) (M4 : eM) => ((r4 = false) → Cal G 100 40 (1, 0, 0) kX13_is [.ref (G.1 100), .int 41] M4 (eFZ (fun (r5 : Bool) (M5 : eM) => ((r5 = true) → Cal G 100 40 (2, 0, 0) kX13_deeper [.ref (G.1 100)] M5 (eFV (fun (M6 : eM) => Cal G 100 40 (d + 4, 0, 0) kX13_value [.ref (G.1 100)] M6 (eFI (fun (r7 : Int32) (M7 : eM) => Cal G 100 40 (1, 0, 0) kX13_node [.ref (G.1 100), .int 60, .int r7, .int 0] (eU M7 100 12 ((M7 100 12) - 1)) (eFI (fun (r8 : Int32) (M8 : eM) => F r8 M8))))))) ∧ ((r5 = false) → Cal G 100 40 (1, 0, 0) kX13_wrong [.ref (G.1 100)] M5 (eFV (fun (M9 : eM) => F 0 M9)))))) ∧ ((r4 = true) → Cal G 100 40 (d + 4, 0, 0) kX13_inBrackets [.ref (G.1 100)] M4 (eFI (fun (r10 : Int32) (M10 : eM) => F r10 M10)))))) ∧ ((r3 = true) → Ev (eZ G 100 40 0 0 (eFI F)) G 100 40 (d + 5, 0, 0) kX13_value 114 [(0, .ref (G.1 100))] [] M3 0 0))))))) ∧ ((r1 = true) → Cal G 100 40 (2, 0, 0) kX13_take [.ref (G.1 100), .int 16] M1 (eFV (fun (M11 : eM) => Cal G 100 40 (3, 0, 0) kX13_name [.ref (G.1 100)] M11 (eFI (fun (r12 : Int32) (M12 : eM) => Cal G 100 40 (1, 0, 0) kX13_node [.ref (G.1 100), .int 15, .int r12, .int 0] M12 (eFI (fun (r13 : Int32) (M13 : eM) => F r13 M13)))))))))) ∧ ((¬ 14 < x1) → Cal G 100 40 (2, 0, 0) kX13_takes [.ref (G.1 100), .int x1] M (eFZ (fun (r14 : Bool) (M14 : eM) => ((r14 = false) → Ev (eZ G 100 40 0 0 (eFI F)) G 100 40 (d + 5, 0, 0) kX13_value 41 [(0, .ref (G.1 100)), (1, .int (x1 + 1))] [] M14 0 0) ∧ ((r14 = true) → Cal G 100 40 (1, 0, 0) kX13_node [.ref (G.1 100), .int x1, .int 0, .int 0] M14 (eFI (fun (r15 : Int32) (M15 : eM) => F r15 M15))))))) :
    Ev (eZ G 100 40 0 0 (eFI F)) G 100 40 (d + 5, 0, 0) kX13_value 41 [(0, .ref (G.1 100)), (1, .int x1)] [] M 0 0 := by
  refine r_iload_n 1 dX13_value_41 rfl rfl ?_
  refine r_bipush (v := 14) dX13_value_42 rfl ?_
  refine r_icmp_gt (t := 69) dX13_value_44 (by decide) (fun q => ?_) (fun q => ?_)
  · replace h := h.1 q
    refine r_aload_n 0 dX13_value_69 rfl rfl ?_
    refine r_bipush (v := 15) dX13_value_70 rfl ?_
    refine r_callVZ (b' := (2, 0, 0)) (c := 100) (S := []) [.int 15] dX13_value_72 mX13_takes lMX13_182 clX13 rfl iM100 sC100 rfl (eFitL (by decide) (by decide)) (Nat.le_of_ble_eq_true rfl) h (fun r1 M1 h => ?_) rfl
    refine r_zif_eq (t := 96) dX13_value_75 (by decide) (fun q => ?_) (fun q => ?_)
    · replace h := h.1 q
      refine r_aload_n 0 dX13_value_96 rfl rfl ?_
      refine r_bipush (v := 22) dX13_value_97 rfl ?_
      refine r_callVZ (b' := (1, 0, 0)) (c := 100) (S := []) [.int 22] dX13_value_99 mX13_is lMX13_129 clX13 rfl iM100 sC100 rfl (eFitL (by decide) (by decide)) (Nat.le_of_ble_eq_true rfl) h (fun r2 M2 h => ?_) rfl
      refine r_zif_ne (t := 114) dX13_value_102 (by decide) (fun q => ?_) (fun q => ?_)
      · replace h := h.1 q
        exact Ev.sub (ks := [0]) rfl h
      · replace h := h.2 q
        refine r_aload_n 0 dX13_value_105 rfl rfl ?_
        refine r_bipush (v := 23) dX13_value_106 rfl ?_
        refine r_callVZ (b' := (1, 0, 0)) (c := 100) (S := []) [.int 23] dX13_value_108 mX13_is lMX13_129 clX13 rfl iM100 sC100 rfl (eFitL (by decide) (by decide)) (Nat.le_of_ble_eq_true rfl) h (fun r3 M3 h => ?_) rfl
        refine r_zif_eq (t := 128) dX13_value_111 (by decide) (fun q => ?_) (fun q => ?_)
        · replace h := h.1 q
          refine r_aload_n 0 dX13_value_128 rfl rfl ?_
          refine r_bipush (v := 49) dX13_value_129 rfl ?_
          refine r_callVZ (b' := (1, 0, 0)) (c := 100) (S := []) [.int 49] dX13_value_131 mX13_is lMX13_129 clX13 rfl iM100 sC100 rfl (eFitL (by decide) (by decide)) (Nat.le_of_ble_eq_true rfl) h (fun r4 M4 h => ?_) rfl
          refine r_zif_eq (t := 142) dX13_value_134 (by decide) (fun q => ?_) (fun q => ?_)
          · replace h := h.1 q
            refine r_aload_n 0 dX13_value_142 rfl rfl ?_
            refine r_bipush (v := 41) dX13_value_143 rfl ?_
            refine r_callVZ (b' := (1, 0, 0)) (c := 100) (S := []) [.int 41] dX13_value_145 mX13_is lMX13_129 clX13 rfl iM100 sC100 rfl (eFitL (by decide) (by decide)) (Nat.le_of_ble_eq_true rfl) h (fun r5 M5 h => ?_) rfl
            refine r_zif_ne (t := 157) dX13_value_148 (by decide) (fun q => ?_) (fun q => ?_)
            · replace h := h.1 q
              refine r_aload_n 0 dX13_value_157 rfl rfl ?_
              refine r_callVV (b' := (2, 0, 0)) (c := 100) (S := []) [] dX13_value_158 mX13_deeper lMX13_172 clX13 rfl iM100 sC100 rfl (eFitL (by decide) (by decide)) (Nat.le_of_ble_eq_true rfl) h (fun M6 h => ?_) rfl
              refine r_aload_n 0 dX13_value_161 rfl rfl ?_
              refine r_callVI (b' := (d + 4, 0, 0)) (c := 100) (S := []) [] dX13_value_162 mX13_value lMX13_194 clX13 rfl iM100 sC100 rfl (eFitR (by decide)) (Nat.le_of_ble_eq_true rfl) h (fun r7 M7 h => ?_) rfl
              refine r_istore_n (l' := [(1, .int r7), (0, .ref (G.1 100))]) dX13_value_165 rfl (by decide) rfl ?_
              refine r_aload_n 1 dX13_value_166 rfl rfl ?_
              refine r_dup dX13_value_167 rfl ?_
              refine r_getI (c := 100) (k := 12) dX13_value_168 clX13 lFX13_135 (by decide) iM100 sC100 rfl ?_
              refine r_iconst (v := 1) dX13_value_171 rfl ?_
              refine r_isub dX13_value_172 ?_
              refine r_putI (c := 100) (k := 12) dX13_value_173 clX13 lFX13_135 (by decide) iM100 sC100 rfl rfl rfl ?_
              refine r_aload_n 1 dX13_value_176 rfl rfl ?_
              refine r_bipush (v := 60) dX13_value_177 rfl ?_
              refine r_iload_n 0 dX13_value_179 rfl rfl ?_
              refine r_iconst (v := 0) dX13_value_180 rfl ?_
              refine r_callVI (b' := (1, 0, 0)) (c := 100) (S := []) [.int 60, .int r7, .int 0] dX13_value_181 mX13_node lMX13_178 clX13 rfl iM100 sC100 rfl (eFitL (by decide) (by decide)) (Nat.le_of_ble_eq_true rfl) h (fun r8 M8 h => ?_) rfl
              refine r_iretI dX13_value_184 rfl (Nat.le_refl _) (Nat.le_refl _) h
            · replace h := h.2 q
              refine r_aload_n 0 dX13_value_151 rfl rfl ?_
              refine r_callVV (b' := (1, 0, 0)) (c := 100) (S := []) [] dX13_value_152 mX13_wrong lMX13_132 clX13 rfl iM100 sC100 rfl (eFitL (by decide) (by decide)) (Nat.le_of_ble_eq_true rfl) h (fun M9 h => ?_) rfl
              refine r_iconst (v := 0) dX13_value_155 rfl ?_
              refine r_iretI dX13_value_156 rfl (Nat.le_refl _) (Nat.le_refl _) h
          · replace h := h.2 q
            refine r_aload_n 0 dX13_value_137 rfl rfl ?_
            refine r_callVI (b' := (d + 4, 0, 0)) (c := 100) (S := []) [] dX13_value_138 mX13_inBrackets lMX13_191 clX13 rfl iM100 sC100 rfl (eFitR (by decide)) (Nat.le_of_ble_eq_true rfl) h (fun r10 M10 h => ?_) rfl
            refine r_iretI dX13_value_141 rfl (Nat.le_refl _) (Nat.le_refl _) h
        · replace h := h.2 q
          exact Ev.sub (ks := [0]) rfl h
    · replace h := h.2 q
      refine r_aload_n 0 dX13_value_78 rfl rfl ?_
      refine r_bipush (v := 16) dX13_value_79 rfl ?_
      refine r_callVV (b' := (2, 0, 0)) (c := 100) (S := []) [.int 16] dX13_value_81 mX13_take lMX13_164 clX13 rfl iM100 sC100 rfl (eFitL (by decide) (by decide)) (Nat.le_of_ble_eq_true rfl) h (fun M11 h => ?_) rfl
      refine r_aload_n 0 dX13_value_84 rfl rfl ?_
      refine r_bipush (v := 15) dX13_value_85 rfl ?_
      refine r_aload_n 0 dX13_value_87 rfl rfl ?_
      refine r_callVI (b' := (3, 0, 0)) (c := 100) (S := [.int 15, .ref (G.1 100)]) [] dX13_value_88 mX13_name lMX13_185 clX13 rfl iM100 sC100 rfl (eFitL (by decide) (by decide)) (Nat.le_of_ble_eq_true rfl) h (fun r12 M12 h => ?_) rfl
      refine r_iconst (v := 0) dX13_value_91 rfl ?_
      refine r_callVI (b' := (1, 0, 0)) (c := 100) (S := []) [.int 15, .int r12, .int 0] dX13_value_92 mX13_node lMX13_178 clX13 rfl iM100 sC100 rfl (eFitL (by decide) (by decide)) (Nat.le_of_ble_eq_true rfl) h (fun r13 M13 h => ?_) rfl
      refine r_iretI dX13_value_95 rfl (Nat.le_refl _) (Nat.le_refl _) h
  · replace h := h.2 q
    refine r_aload_n 0 dX13_value_47 rfl rfl ?_
    refine r_iload_n 1 dX13_value_48 rfl rfl ?_
    refine r_callVZ (b' := (2, 0, 0)) (c := 100) (S := []) [.int x1] dX13_value_49 mX13_takes lMX13_182 clX13 rfl iM100 sC100 rfl (eFitL (by decide) (by decide)) (Nat.le_of_ble_eq_true rfl) h (fun r14 M14 h => ?_) rfl
    refine r_zif_eq (t := 63) dX13_value_52 (by decide) (fun q => ?_) (fun q => ?_)
    · replace h := h.1 q
      refine r_iinc (v := x1 + 1) (l' := [(1, .int (x1 + 1)), (0, .ref (G.1 100))]) 1 dX13_value_63 rfl rfl (by decide) rfl ?_
      refine r_goto (t := 41) dX13_value_66 (by decide) ?_
      exact Ev.sub (ks := [1, 0]) rfl h
    · replace h := h.2 q
      refine r_aload_n 0 dX13_value_55 rfl rfl ?_
      refine r_iload_n 1 dX13_value_56 rfl rfl ?_
      refine r_iconst (v := 0) dX13_value_57 rfl ?_
      refine r_iconst (v := 0) dX13_value_58 rfl ?_
      refine r_callVI (b' := (1, 0, 0)) (c := 100) (S := []) [.int x1, .int 0, .int 0] dX13_value_59 mX13_node lMX13_178 clX13 rfl iM100 sC100 rfl (eFitL (by decide) (by decide)) (Nat.le_of_ble_eq_true rfl) h (fun r15 M15 h => ?_) rfl
      refine r_iretI dX13_value_62 rfl (Nat.le_refl _) (Nat.le_refl _) h
set_option maxHeartbeats 4000000 in
set_option maxRecDepth 100000 in
theorem C_X13_value (G : eG) (d : Nat) (M : eM) (F : Int32 → eM → Prop) 
    (h : Cal G 100 40 (1, 0, 0) kX13_is [.ref (G.1 100), .int 31] M (eFZ (fun (r1 : Bool) (M1 : eM) => ((r1 = false) → Ev (eZ G 100 40 0 0 (eFI F)) G 100 40 (d + 5, 0, 0) kX13_value 41 [(0, .ref (G.1 100)), (1, .int 9)] [] M1 0 0) ∧ ((r1 = true) → vp_in (((eU M1 100 8 ((M1 100 8) + 1)) 100 8) - 1) 402 ∧ (Cal G 100 40 (1, 0, 0) kX13_node [.ref (G.1 100), .int 31, .int ((eU M1 100 8 ((M1 100 8) + 1)) 103 (((eU M1 100 8 ((M1 100 8) + 1)) 100 8) - 1).toNatClampNeg), .int 0] (eU M1 100 8 ((M1 100 8) + 1)) (eFI (fun (r2 : Int32) (M2 : eM) => F r2 M2))))))) :
    Cal G 100 40 (d + 5, 0, 0) kX13_value [.ref (G.1 100)] M (eFI F) := by
  refine Cal.of (by decide +kernel) rfl (Nat.le_of_ble_eq_true rfl) ?_
  show Ev (eZ G 100 40 0 0 (eFI F)) G 100 40 (d + 5, 0, 0) kX13_value 0 [(0, .ref (G.1 100))] [] M 0 0
  refine r_aload_n 0 dX13_value_0 rfl rfl ?_
  refine r_bipush (v := 31) dX13_value_1 rfl ?_
  refine r_callVZ (b' := (1, 0, 0)) (c := 100) (S := []) [.int 31] dX13_value_3 mX13_is lMX13_129 clX13 rfl iM100 sC100 rfl (eFitL (by decide) (by decide)) (Nat.le_of_ble_eq_true rfl) h (fun r1 M1 h => ?_) rfl
  refine r_zif_eq (t := 38) dX13_value_6 (by decide) (fun q => ?_) (fun q => ?_)
  · replace h := h.1 q
    refine r_bipush (v := 9) dX13_value_38 rfl ?_
    refine r_istore_n (l' := [(1, .int 9), (0, .ref (G.1 100))]) dX13_value_40 rfl (by decide) rfl ?_
    exact Ev.sub (ks := [1, 0]) rfl h
  · replace h := h.2 q
    refine r_aload_n 0 dX13_value_9 rfl rfl ?_
    refine r_dup dX13_value_10 rfl ?_
    refine r_getI (c := 100) (k := 8) dX13_value_11 clX13 lFX13_120 (by decide) iM100 sC100 rfl ?_
    refine r_iconst (v := 1) dX13_value_14 rfl ?_
    refine r_iadd dX13_value_15 ?_
    refine r_putI (c := 100) (k := 8) dX13_value_16 clX13 lFX13_120 (by decide) iM100 sC100 rfl rfl rfl ?_
    refine r_aload_n 0 dX13_value_19 rfl rfl ?_
    refine r_bipush (v := 31) dX13_value_20 rfl ?_
    refine r_aload_n 0 dX13_value_22 rfl rfl ?_
    refine r_getR (c := 100) (k := 5) 103 dX13_value_23 clX13 lFX13_20 (by decide) iM100 sC100 rfl ?_
    refine r_aload_n 0 dX13_value_26 rfl rfl ?_
    refine r_getI (c := 100) (k := 8) dX13_value_27 clX13 lFX13_120 (by decide) iM100 sC100 rfl ?_
    refine r_iconst (v := 1) dX13_value_30 rfl ?_
    refine r_isub dX13_value_31 ?_
    have h1 := h.1
    replace h := h.2
    refine r_iald (c := 103) (N := 402) dX13_value_32 iM103 sC103 h1 ?_
    refine r_iconst (v := 0) dX13_value_33 rfl ?_
    refine r_callVI (b' := (1, 0, 0)) (c := 100) (S := []) [.int 31, .int ((eU M1 100 8 ((M1 100 8) + 1)) 103 (((eU M1 100 8 ((M1 100 8) + 1)) 100 8) - 1).toNatClampNeg), .int 0] dX13_value_34 mX13_node lMX13_178 clX13 rfl iM100 sC100 rfl (eFitL (by decide) (by decide)) (Nat.le_of_ble_eq_true rfl) h (fun r2 M2 h => ?_) rfl
    refine r_iretI dX13_value_37 rfl (Nat.le_refl _) (Nat.le_refl _) h
set_option maxHeartbeats 4000000 in
set_option maxRecDepth 100000 in
theorem B_X13_product_23 (G : eG) (d : Nat) (M : eM) (F : Int32 → eM → Prop) (x1 : Int32)
    (h : vp_in (M 100 8) 402 ∧ (Cal G 100 40 (d + 4, 0, 0) kX13_value [.ref (G.1 100)] (eU M 100 8 ((M 100 8) + 1)) (eFI (fun (r1 : Int32) (M1 : eM) => Cal G 100 40 (1, 0, 0) kX13_node [.ref (G.1 100), .int (M 102 (M 100 8).toNatClampNeg), .int x1, .int r1] M1 (eFI (fun (r2 : Int32) (M2 : eM) => Ev (eZ G 100 40 0 0 (eFI F)) G 100 40 (d + 5, 0, 0) kX13_product 5 [(0, .ref (G.1 100)), (1, .int r2)] [] M2 0 0)))))) :
    Ev (eZ G 100 40 0 0 (eFI F)) G 100 40 (d + 5, 0, 0) kX13_product 23 [(0, .ref (G.1 100)), (1, .int x1)] [] M 0 0 := by
  refine r_aload_n 0 dX13_product_23 rfl rfl ?_
  refine r_getR (c := 100) (k := 4) 102 dX13_product_24 clX13 lFX13_17 (by decide) iM100 sC100 rfl ?_
  refine r_aload_n 0 dX13_product_27 rfl rfl ?_
  refine r_getI (c := 100) (k := 8) dX13_product_28 clX13 lFX13_120 (by decide) iM100 sC100 rfl ?_
  have h1 := h.1
  replace h := h.2
  refine r_iald (c := 102) (N := 402) dX13_product_31 iM102 sC102 h1 ?_
  refine r_istore_n (l' := [(2, .int (M 102 (M 100 8).toNatClampNeg)), (0, .ref (G.1 100)), (1, .int x1)]) dX13_product_32 rfl (by decide) rfl ?_
  refine r_aload_n 1 dX13_product_33 rfl rfl ?_
  refine r_dup dX13_product_34 rfl ?_
  refine r_getI (c := 100) (k := 8) dX13_product_35 clX13 lFX13_120 (by decide) iM100 sC100 rfl ?_
  refine r_iconst (v := 1) dX13_product_38 rfl ?_
  refine r_iadd dX13_product_39 ?_
  refine r_putI (c := 100) (k := 8) dX13_product_40 clX13 lFX13_120 (by decide) iM100 sC100 rfl rfl rfl ?_
  refine r_aload_n 1 dX13_product_43 rfl rfl ?_
  refine r_iload_n 0 dX13_product_44 rfl rfl ?_
  refine r_iload_n 2 dX13_product_45 rfl rfl ?_
  refine r_aload_n 1 dX13_product_46 rfl rfl ?_
  refine r_callVI (b' := (d + 4, 0, 0)) (c := 100) (S := [.int x1, .int (M 102 (M 100 8).toNatClampNeg), .ref (G.1 100)]) [] dX13_product_47 mX13_value lMX13_194 clX13 rfl iM100 sC100 rfl (eFitR (by decide)) (Nat.le_of_ble_eq_true rfl) h (fun r1 M1 h => ?_) rfl
  refine r_callVI (b' := (1, 0, 0)) (c := 100) (S := []) [.int (M 102 (M 100 8).toNatClampNeg), .int x1, .int r1] dX13_product_50 mX13_node lMX13_178 clX13 rfl iM100 sC100 rfl (eFitL (by decide) (by decide)) (Nat.le_of_ble_eq_true rfl) h (fun r2 M2 h => ?_) rfl
  refine r_istore_n (l' := [(1, .int r2), (2, .int (M 102 (M 100 8).toNatClampNeg)), (0, .ref (G.1 100))]) dX13_product_53 rfl (by decide) rfl ?_
  refine r_goto (t := 5) dX13_product_54 (by decide) ?_
  exact Ev.sub (ks := [2, 0]) rfl h
set_option maxHeartbeats 4000000 in
set_option maxRecDepth 100000 in
theorem B_X13_product_5 (G : eG) (d : Nat) (M : eM) (F : Int32 → eM → Prop) (x1 : Int32)
    (h : Cal G 100 40 (1, 0, 0) kX13_is [.ref (G.1 100), .int 42] M (eFZ (fun (r1 : Bool) (M1 : eM) => ((r1 = true) → Ev (eZ G 100 40 0 0 (eFI F)) G 100 40 (d + 5, 0, 0) kX13_product 23 [(0, .ref (G.1 100)), (1, .int x1)] [] M1 0 0) ∧ ((r1 = false) → Cal G 100 40 (1, 0, 0) kX13_is [.ref (G.1 100), .int 43] M1 (eFZ (fun (r2 : Bool) (M2 : eM) => ((r2 = false) → F x1 M2) ∧ ((r2 = true) → Ev (eZ G 100 40 0 0 (eFI F)) G 100 40 (d + 5, 0, 0) kX13_product 23 [(0, .ref (G.1 100)), (1, .int x1)] [] M2 0 0))))))) :
    Ev (eZ G 100 40 0 0 (eFI F)) G 100 40 (d + 5, 0, 0) kX13_product 5 [(0, .ref (G.1 100)), (1, .int x1)] [] M 0 0 := by
  refine r_aload_n 0 dX13_product_5 rfl rfl ?_
  refine r_bipush (v := 42) dX13_product_6 rfl ?_
  refine r_callVZ (b' := (1, 0, 0)) (c := 100) (S := []) [.int 42] dX13_product_8 mX13_is lMX13_129 clX13 rfl iM100 sC100 rfl (eFitL (by decide) (by decide)) (Nat.le_of_ble_eq_true rfl) h (fun r1 M1 h => ?_) rfl
  refine r_zif_ne (t := 23) dX13_product_11 (by decide) (fun q => ?_) (fun q => ?_)
  · replace h := h.1 q
    exact h
  · replace h := h.2 q
    refine r_aload_n 0 dX13_product_14 rfl rfl ?_
    refine r_bipush (v := 43) dX13_product_15 rfl ?_
    refine r_callVZ (b' := (1, 0, 0)) (c := 100) (S := []) [.int 43] dX13_product_17 mX13_is lMX13_129 clX13 rfl iM100 sC100 rfl (eFitL (by decide) (by decide)) (Nat.le_of_ble_eq_true rfl) h (fun r2 M2 h => ?_) rfl
    refine r_zif_eq (t := 57) dX13_product_20 (by decide) (fun q => ?_) (fun q => ?_)
    · replace h := h.1 q
      refine r_iload_n 1 dX13_product_57 rfl rfl ?_
      refine r_iretI dX13_product_58 rfl (Nat.le_refl _) (Nat.le_refl _) h
    · replace h := h.2 q
      exact h
set_option maxHeartbeats 4000000 in
set_option maxRecDepth 100000 in
theorem C_X13_product (G : eG) (d : Nat) (M : eM) (F : Int32 → eM → Prop) 
    (h : Cal G 100 40 (d + 4, 0, 0) kX13_value [.ref (G.1 100)] M (eFI (fun (r1 : Int32) (M1 : eM) => Ev (eZ G 100 40 0 0 (eFI F)) G 100 40 (d + 5, 0, 0) kX13_product 5 [(0, .ref (G.1 100)), (1, .int r1)] [] M1 0 0))) :
    Cal G 100 40 (d + 5, 0, 0) kX13_product [.ref (G.1 100)] M (eFI F) := by
  refine Cal.of (by decide +kernel) rfl (Nat.le_of_ble_eq_true rfl) ?_
  show Ev (eZ G 100 40 0 0 (eFI F)) G 100 40 (d + 5, 0, 0) kX13_product 0 [(0, .ref (G.1 100))] [] M 0 0
  refine r_aload_n 0 dX13_product_0 rfl rfl ?_
  refine r_callVI (b' := (d + 4, 0, 0)) (c := 100) (S := []) [] dX13_product_1 mX13_value lMX13_194 clX13 rfl iM100 sC100 rfl (eFitR (by decide)) (Nat.le_of_ble_eq_true rfl) h (fun r1 M1 h => ?_) rfl
  refine r_istore_n (l' := [(1, .int r1), (0, .ref (G.1 100))]) dX13_product_4 rfl (by decide) rfl ?_
  exact Ev.sub (ks := [1, 0]) rfl h
set_option maxHeartbeats 4000000 in
set_option maxRecDepth 100000 in
theorem B_X13_sum_23 (G : eG) (d : Nat) (M : eM) (F : Int32 → eM → Prop) (x1 : Int32)
    (h : vp_in (M 100 8) 402 ∧ (Cal G 100 40 (d + 4, 0, 0) kX13_product [.ref (G.1 100)] (eU M 100 8 ((M 100 8) + 1)) (eFI (fun (r1 : Int32) (M1 : eM) => Cal G 100 40 (1, 0, 0) kX13_node [.ref (G.1 100), .int (M 102 (M 100 8).toNatClampNeg), .int x1, .int r1] M1 (eFI (fun (r2 : Int32) (M2 : eM) => Ev (eZ G 100 40 0 0 (eFI F)) G 100 40 (d + 5, 0, 0) kX13_sum 5 [(0, .ref (G.1 100)), (1, .int r2)] [] M2 0 0)))))) :
    Ev (eZ G 100 40 0 0 (eFI F)) G 100 40 (d + 5, 0, 0) kX13_sum 23 [(0, .ref (G.1 100)), (1, .int x1)] [] M 0 0 := by
  refine r_aload_n 0 dX13_sum_23 rfl rfl ?_
  refine r_getR (c := 100) (k := 4) 102 dX13_sum_24 clX13 lFX13_17 (by decide) iM100 sC100 rfl ?_
  refine r_aload_n 0 dX13_sum_27 rfl rfl ?_
  refine r_getI (c := 100) (k := 8) dX13_sum_28 clX13 lFX13_120 (by decide) iM100 sC100 rfl ?_
  have h1 := h.1
  replace h := h.2
  refine r_iald (c := 102) (N := 402) dX13_sum_31 iM102 sC102 h1 ?_
  refine r_istore_n (l' := [(2, .int (M 102 (M 100 8).toNatClampNeg)), (0, .ref (G.1 100)), (1, .int x1)]) dX13_sum_32 rfl (by decide) rfl ?_
  refine r_aload_n 1 dX13_sum_33 rfl rfl ?_
  refine r_dup dX13_sum_34 rfl ?_
  refine r_getI (c := 100) (k := 8) dX13_sum_35 clX13 lFX13_120 (by decide) iM100 sC100 rfl ?_
  refine r_iconst (v := 1) dX13_sum_38 rfl ?_
  refine r_iadd dX13_sum_39 ?_
  refine r_putI (c := 100) (k := 8) dX13_sum_40 clX13 lFX13_120 (by decide) iM100 sC100 rfl rfl rfl ?_
  refine r_aload_n 1 dX13_sum_43 rfl rfl ?_
  refine r_iload_n 0 dX13_sum_44 rfl rfl ?_
  refine r_iload_n 2 dX13_sum_45 rfl rfl ?_
  refine r_aload_n 1 dX13_sum_46 rfl rfl ?_
  refine r_callVI (b' := (d + 4, 0, 0)) (c := 100) (S := [.int x1, .int (M 102 (M 100 8).toNatClampNeg), .ref (G.1 100)]) [] dX13_sum_47 mX13_product lMX13_196 clX13 rfl iM100 sC100 rfl (eFitR (by decide)) (Nat.le_of_ble_eq_true rfl) h (fun r1 M1 h => ?_) rfl
  refine r_callVI (b' := (1, 0, 0)) (c := 100) (S := []) [.int (M 102 (M 100 8).toNatClampNeg), .int x1, .int r1] dX13_sum_50 mX13_node lMX13_178 clX13 rfl iM100 sC100 rfl (eFitL (by decide) (by decide)) (Nat.le_of_ble_eq_true rfl) h (fun r2 M2 h => ?_) rfl
  refine r_istore_n (l' := [(1, .int r2), (2, .int (M 102 (M 100 8).toNatClampNeg)), (0, .ref (G.1 100))]) dX13_sum_53 rfl (by decide) rfl ?_
  refine r_goto (t := 5) dX13_sum_54 (by decide) ?_
  exact Ev.sub (ks := [2, 0]) rfl h
set_option maxHeartbeats 4000000 in
set_option maxRecDepth 100000 in
theorem B_X13_sum_5 (G : eG) (d : Nat) (M : eM) (F : Int32 → eM → Prop) (x1 : Int32)
    (h : Cal G 100 40 (1, 0, 0) kX13_is [.ref (G.1 100), .int 40] M (eFZ (fun (r1 : Bool) (M1 : eM) => ((r1 = true) → Ev (eZ G 100 40 0 0 (eFI F)) G 100 40 (d + 5, 0, 0) kX13_sum 23 [(0, .ref (G.1 100)), (1, .int x1)] [] M1 0 0) ∧ ((r1 = false) → Cal G 100 40 (1, 0, 0) kX13_is [.ref (G.1 100), .int 41] M1 (eFZ (fun (r2 : Bool) (M2 : eM) => ((r2 = false) → F x1 M2) ∧ ((r2 = true) → Ev (eZ G 100 40 0 0 (eFI F)) G 100 40 (d + 5, 0, 0) kX13_sum 23 [(0, .ref (G.1 100)), (1, .int x1)] [] M2 0 0))))))) :
    Ev (eZ G 100 40 0 0 (eFI F)) G 100 40 (d + 5, 0, 0) kX13_sum 5 [(0, .ref (G.1 100)), (1, .int x1)] [] M 0 0 := by
  refine r_aload_n 0 dX13_sum_5 rfl rfl ?_
  refine r_bipush (v := 40) dX13_sum_6 rfl ?_
  refine r_callVZ (b' := (1, 0, 0)) (c := 100) (S := []) [.int 40] dX13_sum_8 mX13_is lMX13_129 clX13 rfl iM100 sC100 rfl (eFitL (by decide) (by decide)) (Nat.le_of_ble_eq_true rfl) h (fun r1 M1 h => ?_) rfl
  refine r_zif_ne (t := 23) dX13_sum_11 (by decide) (fun q => ?_) (fun q => ?_)
  · replace h := h.1 q
    exact h
  · replace h := h.2 q
    refine r_aload_n 0 dX13_sum_14 rfl rfl ?_
    refine r_bipush (v := 41) dX13_sum_15 rfl ?_
    refine r_callVZ (b' := (1, 0, 0)) (c := 100) (S := []) [.int 41] dX13_sum_17 mX13_is lMX13_129 clX13 rfl iM100 sC100 rfl (eFitL (by decide) (by decide)) (Nat.le_of_ble_eq_true rfl) h (fun r2 M2 h => ?_) rfl
    refine r_zif_eq (t := 57) dX13_sum_20 (by decide) (fun q => ?_) (fun q => ?_)
    · replace h := h.1 q
      refine r_iload_n 1 dX13_sum_57 rfl rfl ?_
      refine r_iretI dX13_sum_58 rfl (Nat.le_refl _) (Nat.le_refl _) h
    · replace h := h.2 q
      exact h
set_option maxHeartbeats 4000000 in
set_option maxRecDepth 100000 in
theorem C_X13_sum (G : eG) (d : Nat) (M : eM) (F : Int32 → eM → Prop) 
    (h : Cal G 100 40 (d + 4, 0, 0) kX13_product [.ref (G.1 100)] M (eFI (fun (r1 : Int32) (M1 : eM) => Ev (eZ G 100 40 0 0 (eFI F)) G 100 40 (d + 5, 0, 0) kX13_sum 5 [(0, .ref (G.1 100)), (1, .int r1)] [] M1 0 0))) :
    Cal G 100 40 (d + 5, 0, 0) kX13_sum [.ref (G.1 100)] M (eFI F) := by
  refine Cal.of (by decide +kernel) rfl (Nat.le_of_ble_eq_true rfl) ?_
  show Ev (eZ G 100 40 0 0 (eFI F)) G 100 40 (d + 5, 0, 0) kX13_sum 0 [(0, .ref (G.1 100))] [] M 0 0
  refine r_aload_n 0 dX13_sum_0 rfl rfl ?_
  refine r_callVI (b' := (d + 4, 0, 0)) (c := 100) (S := []) [] dX13_sum_1 mX13_product lMX13_196 clX13 rfl iM100 sC100 rfl (eFitR (by decide)) (Nat.le_of_ble_eq_true rfl) h (fun r1 M1 h => ?_) rfl
  refine r_istore_n (l' := [(1, .int r1), (0, .ref (G.1 100))]) dX13_sum_4 rfl (by decide) rfl ?_
  exact Ev.sub (ks := [1, 0]) rfl h
set_option maxHeartbeats 4000000 in
set_option maxRecDepth 100000 in
theorem C_X13_comparison (G : eG) (d : Nat) (M : eM) (F : Int32 → eM → Prop) 
    (h : Cal G 100 40 (d + 4, 0, 0) kX13_sum [.ref (G.1 100)] M (eFI (fun (r1 : Int32) (M1 : eM) => vp_in (M1 100 8) 402 ∧ (((¬ (M1 100 9) = 0) → Cal G 100 40 (1, 0, 0) kX13_wrong [.ref (G.1 100)] M1 (eFV (fun (M2 : eM) => F 0 M2))) ∧ (((M1 100 9) = 0) → Cal G 100 40 (1, 0, 0) kX13_isIn [.int (M1 102 (M1 100 8).toNatClampNeg), .int 44, .int 48] M1 (eFZ (fun (r3 : Bool) (M3 : eM) => ((r3 = true) → Cal G 100 40 (d + 4, 0, 0) kX13_sum [.ref (G.1 100)] (eU M3 100 8 ((M3 100 8) + 1)) (eFI (fun (r4 : Int32) (M4 : eM) => Cal G 100 40 (1, 0, 0) kX13_node [.ref (G.1 100), .int (M1 102 (M1 100 8).toNatClampNeg), .int r1, .int r4] M4 (eFI (fun (r5 : Int32) (M5 : eM) => F r5 M5))))) ∧ ((r3 = false) → Cal G 100 40 (1, 0, 0) kX13_wrong [.ref (G.1 100)] M3 (eFV (fun (M6 : eM) => F 0 M6)))))))))) :
    Cal G 100 40 (d + 5, 0, 0) kX13_comparison [.ref (G.1 100)] M (eFI F) := by
  refine Cal.of (by decide +kernel) rfl (Nat.le_of_ble_eq_true rfl) ?_
  show Ev (eZ G 100 40 0 0 (eFI F)) G 100 40 (d + 5, 0, 0) kX13_comparison 0 [(0, .ref (G.1 100))] [] M 0 0
  refine r_aload_n 0 dX13_comparison_0 rfl rfl ?_
  refine r_callVI (b' := (d + 4, 0, 0)) (c := 100) (S := []) [] dX13_comparison_1 mX13_sum lMX13_175 clX13 rfl iM100 sC100 rfl (eFitR (by decide)) (Nat.le_of_ble_eq_true rfl) h (fun r1 M1 h => ?_) rfl
  refine r_istore_n (l' := [(1, .int r1), (0, .ref (G.1 100))]) dX13_comparison_4 rfl (by decide) rfl ?_
  refine r_aload_n 1 dX13_comparison_5 rfl rfl ?_
  refine r_getR (c := 100) (k := 4) 102 dX13_comparison_6 clX13 lFX13_17 (by decide) iM100 sC100 rfl ?_
  refine r_aload_n 1 dX13_comparison_9 rfl rfl ?_
  refine r_getI (c := 100) (k := 8) dX13_comparison_10 clX13 lFX13_120 (by decide) iM100 sC100 rfl ?_
  have h1 := h.1
  replace h := h.2
  refine r_iald (c := 102) (N := 402) dX13_comparison_13 iM102 sC102 h1 ?_
  refine r_istore_n (l' := [(2, .int (M1 102 (M1 100 8).toNatClampNeg)), (1, .int r1), (0, .ref (G.1 100))]) dX13_comparison_14 rfl (by decide) rfl ?_
  refine r_aload_n 2 dX13_comparison_15 rfl rfl ?_
  refine r_getI (c := 100) (k := 9) dX13_comparison_16 clX13 lFX13_116 (by decide) iM100 sC100 rfl ?_
  refine r_if_ne (t := 33) dX13_comparison_19 (by decide) (fun q => ?_) (fun q => ?_)
  · replace h := h.1 q
    refine r_aload_n 2 dX13_comparison_33 rfl rfl ?_
    refine r_callVV (b' := (1, 0, 0)) (c := 100) (S := []) [] dX13_comparison_34 mX13_wrong lMX13_132 clX13 rfl iM100 sC100 rfl (eFitL (by decide) (by decide)) (Nat.le_of_ble_eq_true rfl) h (fun M2 h => ?_) rfl
    refine r_iconst (v := 0) dX13_comparison_37 rfl ?_
    refine r_iretI dX13_comparison_38 rfl (Nat.le_refl _) (Nat.le_refl _) h
  · replace h := h.2 q
    refine r_iload_n 0 dX13_comparison_22 rfl rfl ?_
    refine r_bipush (v := 44) dX13_comparison_23 rfl ?_
    refine r_bipush (v := 48) dX13_comparison_25 rfl ?_
    refine r_callSZ (b' := (1, 0, 0)) (S := []) [.int (M1 102 (M1 100 8).toNatClampNeg), .int 44, .int 48] dX13_comparison_27 mX13_isIn lMX13_68 rfl (eFitL (by decide) (by decide)) (Nat.le_of_ble_eq_true rfl) h (fun r3 M3 h => ?_) rfl
    refine r_zif_ne (t := 39) dX13_comparison_30 (by decide) (fun q => ?_) (fun q => ?_)
    · replace h := h.1 q
      refine r_aload_n 2 dX13_comparison_39 rfl rfl ?_
      refine r_dup dX13_comparison_40 rfl ?_
      refine r_getI (c := 100) (k := 8) dX13_comparison_41 clX13 lFX13_120 (by decide) iM100 sC100 rfl ?_
      refine r_iconst (v := 1) dX13_comparison_44 rfl ?_
      refine r_iadd dX13_comparison_45 ?_
      refine r_putI (c := 100) (k := 8) dX13_comparison_46 clX13 lFX13_120 (by decide) iM100 sC100 rfl rfl rfl ?_
      refine r_aload_n 2 dX13_comparison_49 rfl rfl ?_
      refine r_iload_n 0 dX13_comparison_50 rfl rfl ?_
      refine r_iload_n 1 dX13_comparison_51 rfl rfl ?_
      refine r_aload_n 2 dX13_comparison_52 rfl rfl ?_
      refine r_callVI (b' := (d + 4, 0, 0)) (c := 100) (S := [.int r1, .int (M1 102 (M1 100 8).toNatClampNeg), .ref (G.1 100)]) [] dX13_comparison_53 mX13_sum lMX13_175 clX13 rfl iM100 sC100 rfl (eFitR (by decide)) (Nat.le_of_ble_eq_true rfl) h (fun r4 M4 h => ?_) rfl
      refine r_callVI (b' := (1, 0, 0)) (c := 100) (S := []) [.int (M1 102 (M1 100 8).toNatClampNeg), .int r1, .int r4] dX13_comparison_56 mX13_node lMX13_178 clX13 rfl iM100 sC100 rfl (eFitL (by decide) (by decide)) (Nat.le_of_ble_eq_true rfl) h (fun r5 M5 h => ?_) rfl
      refine r_iretI dX13_comparison_59 rfl (Nat.le_refl _) (Nat.le_refl _) h
    · replace h := h.2 q
      refine r_aload_n 2 dX13_comparison_33 rfl rfl ?_
      refine r_callVV (b' := (1, 0, 0)) (c := 100) (S := []) [] dX13_comparison_34 mX13_wrong lMX13_132 clX13 rfl iM100 sC100 rfl (eFitL (by decide) (by decide)) (Nat.le_of_ble_eq_true rfl) h (fun M6 h => ?_) rfl
      refine r_iconst (v := 0) dX13_comparison_37 rfl ?_
      refine r_iretI dX13_comparison_38 rfl (Nat.le_refl _) (Nat.le_refl _) h
set_option maxHeartbeats 4000000 in
set_option maxRecDepth 100000 in
theorem C_X13_single (G : eG) (d : Nat) (M : eM) (F : Int32 → eM → Prop) 
    (h : Cal G 100 40 (1, 0, 0) kX13_is [.ref (G.1 100), .int 19] M (eFZ (fun (r1 : Bool) (M1 : eM) => ((r1 = false) → Cal G 100 40 (1, 0, 0) kX13_is [.ref (G.1 100), .int 51] M1 (eFZ (fun (r2 : Bool) (M2 : eM) => ((r2 = false) → Cal G 100 40 (2, 0, 0) kX13_takes [.ref (G.1 100), .int 17] M2 (eFZ (fun (r3 : Bool) (M3 : eM) => ((r3 = false) → Cal G 100 40 (2, 0, 0) kX13_takes [.ref (G.1 100), .int 18] M3 (eFZ (fun (r4 : Bool) (M4 : eM) => ((r4 = false) → Cal G 100 40 (d + 4, 0, 0) kX13_comparison [.ref (G.1 100)] M4 (eFI (fun (r5 : Int32) (M5 : eM) => F r5 M5))) ∧ ((r4 = true) → Cal G 100 40 (3, 0, 0) kX13_name [.ref (G.1 100)] M4 (eFI (fun (r6 : Int32) (M6 : eM) => Cal G 100 40 (1, 0, 0) kX13_node [.ref (G.1 100), .int 18, .int r6, .int 0] M6 (eFI (fun (r7 : Int32) (M7 : eM) => F r7 M7)))))))) ∧ ((r3 = true) → Cal G 100 40 (3, 0, 0) kX13_name [.ref (G.1 100)] M3 (eFI (fun (r8 : Int32) (M8 : eM) => Cal G 100 40 (1, 0, 0) kX13_node [.ref (G.1 100), .int 17, .int r8, .int 0] M8 (eFI (fun (r9 : Int32) (M9 : eM) => F r9 M9)))))))) ∧ ((r2 = true) → Cal G 100 40 (2, 0, 0) kX13_deeper [.ref (G.1 100)] M2 (eFV (fun (M10 : eM) => Cal G 100 40 (d + 4, 0, 0) kX13_test [.ref (G.1 100)] M10 (eFI (fun (r11 : Int32) (M11 : eM) => Cal G 100 40 (2, 0, 0) kX13_take [.ref (G.1 100), .int 52] M11 (eFV (fun (M12 : eM) => F r11 (eU M12 100 12 ((M12 100 12) - 1)))))))))))) ∧ ((r1 = true) → Cal G 100 40 (2, 0, 0) kX13_deeper [.ref (G.1 100)] M1 (eFV (fun (M13 : eM) => Cal G 100 40 (d + 4, 0, 0) kX13_single [.ref (G.1 100)] M13 (eFI (fun (r14 : Int32) (M14 : eM) => Cal G 100 40 (1, 0, 0) kX13_node [.ref (G.1 100), .int 19, .int r14, .int 0] (eU M14 100 12 ((M14 100 12) - 1)) (eFI (fun (r15 : Int32) (M15 : eM) => F r15 M15)))))))))) :
    Cal G 100 40 (d + 5, 0, 0) kX13_single [.ref (G.1 100)] M (eFI F) := by
  refine Cal.of (by decide +kernel) rfl (Nat.le_of_ble_eq_true rfl) ?_
  show Ev (eZ G 100 40 0 0 (eFI F)) G 100 40 (d + 5, 0, 0) kX13_single 0 [(0, .ref (G.1 100))] [] M 0 0
  refine r_aload_n 0 dX13_single_0 rfl rfl ?_
  refine r_bipush (v := 19) dX13_single_1 rfl ?_
  refine r_callVZ (b' := (1, 0, 0)) (c := 100) (S := []) [.int 19] dX13_single_3 mX13_is lMX13_129 clX13 rfl iM100 sC100 rfl (eFitL (by decide) (by decide)) (Nat.le_of_ble_eq_true rfl) h (fun r1 M1 h => ?_) rfl
  refine r_zif_eq (t := 37) dX13_single_6 (by decide) (fun q => ?_) (fun q => ?_)
  · replace h := h.1 q
    refine r_aload_n 0 dX13_single_37 rfl rfl ?_
    refine r_bipush (v := 51) dX13_single_38 rfl ?_
    refine r_callVZ (b' := (1, 0, 0)) (c := 100) (S := []) [.int 51] dX13_single_40 mX13_is lMX13_129 clX13 rfl iM100 sC100 rfl (eFitL (by decide) (by decide)) (Nat.le_of_ble_eq_true rfl) h (fun r2 M2 h => ?_) rfl
    refine r_zif_eq (t := 73) dX13_single_43 (by decide) (fun q => ?_) (fun q => ?_)
    · replace h := h.1 q
      refine r_aload_n 0 dX13_single_73 rfl rfl ?_
      refine r_bipush (v := 17) dX13_single_74 rfl ?_
      refine r_callVZ (b' := (2, 0, 0)) (c := 100) (S := []) [.int 17] dX13_single_76 mX13_takes lMX13_182 clX13 rfl iM100 sC100 rfl (eFitL (by decide) (by decide)) (Nat.le_of_ble_eq_true rfl) h (fun r3 M3 h => ?_) rfl
      refine r_zif_eq (t := 94) dX13_single_79 (by decide) (fun q => ?_) (fun q => ?_)
      · replace h := h.1 q
        refine r_aload_n 0 dX13_single_94 rfl rfl ?_
        refine r_bipush (v := 18) dX13_single_95 rfl ?_
        refine r_callVZ (b' := (2, 0, 0)) (c := 100) (S := []) [.int 18] dX13_single_97 mX13_takes lMX13_182 clX13 rfl iM100 sC100 rfl (eFitL (by decide) (by decide)) (Nat.le_of_ble_eq_true rfl) h (fun r4 M4 h => ?_) rfl
        refine r_zif_eq (t := 117) dX13_single_100 (by decide) (fun q => ?_) (fun q => ?_)
        · replace h := h.1 q
          refine r_aload_n 0 dX13_single_117 rfl rfl ?_
          refine r_callVI (b' := (d + 4, 0, 0)) (c := 100) (S := []) [] dX13_single_118 mX13_comparison lMX13_205 clX13 rfl iM100 sC100 rfl (eFitR (by decide)) (Nat.le_of_ble_eq_true rfl) h (fun r5 M5 h => ?_) rfl
          refine r_iretI dX13_single_121 rfl (Nat.le_refl _) (Nat.le_refl _) h
        · replace h := h.2 q
          refine r_aload_n 0 dX13_single_103 rfl rfl ?_
          refine r_bipush (v := 18) dX13_single_104 rfl ?_
          refine r_aload_n 0 dX13_single_106 rfl rfl ?_
          refine r_callVI (b' := (3, 0, 0)) (c := 100) (S := [.int 18, .ref (G.1 100)]) [] dX13_single_107 mX13_name lMX13_185 clX13 rfl iM100 sC100 rfl (eFitL (by decide) (by decide)) (Nat.le_of_ble_eq_true rfl) h (fun r6 M6 h => ?_) rfl
          refine r_iconst (v := 0) dX13_single_110 rfl ?_
          refine r_callVI (b' := (1, 0, 0)) (c := 100) (S := []) [.int 18, .int r6, .int 0] dX13_single_111 mX13_node lMX13_178 clX13 rfl iM100 sC100 rfl (eFitL (by decide) (by decide)) (Nat.le_of_ble_eq_true rfl) h (fun r7 M7 h => ?_) rfl
          refine r_goto (t := 121) dX13_single_114 (by decide) ?_
          refine r_iretI dX13_single_121 rfl (Nat.le_refl _) (Nat.le_refl _) h
      · replace h := h.2 q
        refine r_aload_n 0 dX13_single_82 rfl rfl ?_
        refine r_bipush (v := 17) dX13_single_83 rfl ?_
        refine r_aload_n 0 dX13_single_85 rfl rfl ?_
        refine r_callVI (b' := (3, 0, 0)) (c := 100) (S := [.int 17, .ref (G.1 100)]) [] dX13_single_86 mX13_name lMX13_185 clX13 rfl iM100 sC100 rfl (eFitL (by decide) (by decide)) (Nat.le_of_ble_eq_true rfl) h (fun r8 M8 h => ?_) rfl
        refine r_iconst (v := 0) dX13_single_89 rfl ?_
        refine r_callVI (b' := (1, 0, 0)) (c := 100) (S := []) [.int 17, .int r8, .int 0] dX13_single_90 mX13_node lMX13_178 clX13 rfl iM100 sC100 rfl (eFitL (by decide) (by decide)) (Nat.le_of_ble_eq_true rfl) h (fun r9 M9 h => ?_) rfl
        refine r_iretI dX13_single_93 rfl (Nat.le_refl _) (Nat.le_refl _) h
    · replace h := h.2 q
      refine r_aload_n 0 dX13_single_46 rfl rfl ?_
      refine r_callVV (b' := (2, 0, 0)) (c := 100) (S := []) [] dX13_single_47 mX13_deeper lMX13_172 clX13 rfl iM100 sC100 rfl (eFitL (by decide) (by decide)) (Nat.le_of_ble_eq_true rfl) h (fun M10 h => ?_) rfl
      refine r_aload_n 0 dX13_single_50 rfl rfl ?_
      refine r_callVI (b' := (d + 4, 0, 0)) (c := 100) (S := []) [] dX13_single_51 mX13_test lMX13_202 clX13 rfl iM100 sC100 rfl (eFitR (by decide)) (Nat.le_of_ble_eq_true rfl) h (fun r11 M11 h => ?_) rfl
      refine r_istore_n (l' := [(1, .int r11), (0, .ref (G.1 100))]) dX13_single_54 rfl (by decide) rfl ?_
      refine r_aload_n 1 dX13_single_55 rfl rfl ?_
      refine r_bipush (v := 52) dX13_single_56 rfl ?_
      refine r_callVV (b' := (2, 0, 0)) (c := 100) (S := []) [.int 52] dX13_single_58 mX13_take lMX13_164 clX13 rfl iM100 sC100 rfl (eFitL (by decide) (by decide)) (Nat.le_of_ble_eq_true rfl) h (fun M12 h => ?_) rfl
      refine r_aload_n 1 dX13_single_61 rfl rfl ?_
      refine r_dup dX13_single_62 rfl ?_
      refine r_getI (c := 100) (k := 12) dX13_single_63 clX13 lFX13_135 (by decide) iM100 sC100 rfl ?_
      refine r_iconst (v := 1) dX13_single_66 rfl ?_
      refine r_isub dX13_single_67 ?_
      refine r_putI (c := 100) (k := 12) dX13_single_68 clX13 lFX13_135 (by decide) iM100 sC100 rfl rfl rfl ?_
      refine r_iload_n 0 dX13_single_71 rfl rfl ?_
      refine r_iretI dX13_single_72 rfl (Nat.le_refl _) (Nat.le_refl _) h
  · replace h := h.2 q
    refine r_aload_n 0 dX13_single_9 rfl rfl ?_
    refine r_callVV (b' := (2, 0, 0)) (c := 100) (S := []) [] dX13_single_10 mX13_deeper lMX13_172 clX13 rfl iM100 sC100 rfl (eFitL (by decide) (by decide)) (Nat.le_of_ble_eq_true rfl) h (fun M13 h => ?_) rfl
    refine r_aload_n 0 dX13_single_13 rfl rfl ?_
    refine r_callVI (b' := (d + 4, 0, 0)) (c := 100) (S := []) [] dX13_single_14 mX13_single lMX13_199 clX13 rfl iM100 sC100 rfl (eFitR (by decide)) (Nat.le_of_ble_eq_true rfl) h (fun r14 M14 h => ?_) rfl
    refine r_istore_n (l' := [(1, .int r14), (0, .ref (G.1 100))]) dX13_single_17 rfl (by decide) rfl ?_
    refine r_aload_n 1 dX13_single_18 rfl rfl ?_
    refine r_dup dX13_single_19 rfl ?_
    refine r_getI (c := 100) (k := 12) dX13_single_20 clX13 lFX13_135 (by decide) iM100 sC100 rfl ?_
    refine r_iconst (v := 1) dX13_single_23 rfl ?_
    refine r_isub dX13_single_24 ?_
    refine r_putI (c := 100) (k := 12) dX13_single_25 clX13 lFX13_135 (by decide) iM100 sC100 rfl rfl rfl ?_
    refine r_aload_n 1 dX13_single_28 rfl rfl ?_
    refine r_bipush (v := 19) dX13_single_29 rfl ?_
    refine r_iload_n 0 dX13_single_31 rfl rfl ?_
    refine r_iconst (v := 0) dX13_single_32 rfl ?_
    refine r_callVI (b' := (1, 0, 0)) (c := 100) (S := []) [.int 19, .int r14, .int 0] dX13_single_33 mX13_node lMX13_178 clX13 rfl iM100 sC100 rfl (eFitL (by decide) (by decide)) (Nat.le_of_ble_eq_true rfl) h (fun r15 M15 h => ?_) rfl
    refine r_iretI dX13_single_36 rfl (Nat.le_refl _) (Nat.le_refl _) h
set_option maxHeartbeats 4000000 in
set_option maxRecDepth 100000 in
theorem B_X13_both_5 (G : eG) (d : Nat) (M : eM) (F : Int32 → eM → Prop) (x1 : Int32)
    (h : Cal G 100 40 (2, 0, 0) kX13_takes [.ref (G.1 100), .int 20] M (eFZ (fun (r1 : Bool) (M1 : eM) => ((r1 = false) → F x1 M1) ∧ ((r1 = true) → Cal G 100 40 (d + 4, 0, 0) kX13_single [.ref (G.1 100)] M1 (eFI (fun (r2 : Int32) (M2 : eM) => Cal G 100 40 (1, 0, 0) kX13_node [.ref (G.1 100), .int 20, .int x1, .int r2] M2 (eFI (fun (r3 : Int32) (M3 : eM) => Ev (eZ G 100 40 0 0 (eFI F)) G 100 40 (d + 5, 0, 0) kX13_both 5 [(0, .ref (G.1 100)), (1, .int r3)] [] M3 0 0)))))))) :
    Ev (eZ G 100 40 0 0 (eFI F)) G 100 40 (d + 5, 0, 0) kX13_both 5 [(0, .ref (G.1 100)), (1, .int x1)] [] M 0 0 := by
  refine r_aload_n 0 dX13_both_5 rfl rfl ?_
  refine r_bipush (v := 20) dX13_both_6 rfl ?_
  refine r_callVZ (b' := (2, 0, 0)) (c := 100) (S := []) [.int 20] dX13_both_8 mX13_takes lMX13_182 clX13 rfl iM100 sC100 rfl (eFitL (by decide) (by decide)) (Nat.le_of_ble_eq_true rfl) h (fun r1 M1 h => ?_) rfl
  refine r_zif_eq (t := 29) dX13_both_11 (by decide) (fun q => ?_) (fun q => ?_)
  · replace h := h.1 q
    refine r_iload_n 1 dX13_both_29 rfl rfl ?_
    refine r_iretI dX13_both_30 rfl (Nat.le_refl _) (Nat.le_refl _) h
  · replace h := h.2 q
    refine r_aload_n 0 dX13_both_14 rfl rfl ?_
    refine r_bipush (v := 20) dX13_both_15 rfl ?_
    refine r_iload_n 1 dX13_both_17 rfl rfl ?_
    refine r_aload_n 0 dX13_both_18 rfl rfl ?_
    refine r_callVI (b' := (d + 4, 0, 0)) (c := 100) (S := [.int x1, .int 20, .ref (G.1 100)]) [] dX13_both_19 mX13_single lMX13_199 clX13 rfl iM100 sC100 rfl (eFitR (by decide)) (Nat.le_of_ble_eq_true rfl) h (fun r2 M2 h => ?_) rfl
    refine r_callVI (b' := (1, 0, 0)) (c := 100) (S := []) [.int 20, .int x1, .int r2] dX13_both_22 mX13_node lMX13_178 clX13 rfl iM100 sC100 rfl (eFitL (by decide) (by decide)) (Nat.le_of_ble_eq_true rfl) h (fun r3 M3 h => ?_) rfl
    refine r_istore_n (l' := [(1, .int r3), (0, .ref (G.1 100))]) dX13_both_25 rfl (by decide) rfl ?_
    refine r_goto (t := 5) dX13_both_26 (by decide) ?_
    exact Ev.sub (ks := [1, 0]) rfl h
set_option maxHeartbeats 4000000 in
set_option maxRecDepth 100000 in
theorem C_X13_both (G : eG) (d : Nat) (M : eM) (F : Int32 → eM → Prop) 
    (h : Cal G 100 40 (d + 4, 0, 0) kX13_single [.ref (G.1 100)] M (eFI (fun (r1 : Int32) (M1 : eM) => Ev (eZ G 100 40 0 0 (eFI F)) G 100 40 (d + 5, 0, 0) kX13_both 5 [(0, .ref (G.1 100)), (1, .int r1)] [] M1 0 0))) :
    Cal G 100 40 (d + 5, 0, 0) kX13_both [.ref (G.1 100)] M (eFI F) := by
  refine Cal.of (by decide +kernel) rfl (Nat.le_of_ble_eq_true rfl) ?_
  show Ev (eZ G 100 40 0 0 (eFI F)) G 100 40 (d + 5, 0, 0) kX13_both 0 [(0, .ref (G.1 100))] [] M 0 0
  refine r_aload_n 0 dX13_both_0 rfl rfl ?_
  refine r_callVI (b' := (d + 4, 0, 0)) (c := 100) (S := []) [] dX13_both_1 mX13_single lMX13_199 clX13 rfl iM100 sC100 rfl (eFitR (by decide)) (Nat.le_of_ble_eq_true rfl) h (fun r1 M1 h => ?_) rfl
  refine r_istore_n (l' := [(1, .int r1), (0, .ref (G.1 100))]) dX13_both_4 rfl (by decide) rfl ?_
  exact Ev.sub (ks := [1, 0]) rfl h
set_option maxHeartbeats 4000000 in
set_option maxRecDepth 100000 in
theorem B_X13_test_5 (G : eG) (d : Nat) (M : eM) (F : Int32 → eM → Prop) (x1 : Int32)
    (h : Cal G 100 40 (2, 0, 0) kX13_takes [.ref (G.1 100), .int 21] M (eFZ (fun (r1 : Bool) (M1 : eM) => ((r1 = false) → F x1 M1) ∧ ((r1 = true) → Cal G 100 40 (d + 4, 0, 0) kX13_both [.ref (G.1 100)] M1 (eFI (fun (r2 : Int32) (M2 : eM) => Cal G 100 40 (1, 0, 0) kX13_node [.ref (G.1 100), .int 21, .int x1, .int r2] M2 (eFI (fun (r3 : Int32) (M3 : eM) => Ev (eZ G 100 40 0 0 (eFI F)) G 100 40 (d + 5, 0, 0) kX13_test 5 [(0, .ref (G.1 100)), (1, .int r3)] [] M3 0 0)))))))) :
    Ev (eZ G 100 40 0 0 (eFI F)) G 100 40 (d + 5, 0, 0) kX13_test 5 [(0, .ref (G.1 100)), (1, .int x1)] [] M 0 0 := by
  refine r_aload_n 0 dX13_test_5 rfl rfl ?_
  refine r_bipush (v := 21) dX13_test_6 rfl ?_
  refine r_callVZ (b' := (2, 0, 0)) (c := 100) (S := []) [.int 21] dX13_test_8 mX13_takes lMX13_182 clX13 rfl iM100 sC100 rfl (eFitL (by decide) (by decide)) (Nat.le_of_ble_eq_true rfl) h (fun r1 M1 h => ?_) rfl
  refine r_zif_eq (t := 29) dX13_test_11 (by decide) (fun q => ?_) (fun q => ?_)
  · replace h := h.1 q
    refine r_iload_n 1 dX13_test_29 rfl rfl ?_
    refine r_iretI dX13_test_30 rfl (Nat.le_refl _) (Nat.le_refl _) h
  · replace h := h.2 q
    refine r_aload_n 0 dX13_test_14 rfl rfl ?_
    refine r_bipush (v := 21) dX13_test_15 rfl ?_
    refine r_iload_n 1 dX13_test_17 rfl rfl ?_
    refine r_aload_n 0 dX13_test_18 rfl rfl ?_
    refine r_callVI (b' := (d + 4, 0, 0)) (c := 100) (S := [.int x1, .int 21, .ref (G.1 100)]) [] dX13_test_19 mX13_both lMX13_208 clX13 rfl iM100 sC100 rfl (eFitR (by decide)) (Nat.le_of_ble_eq_true rfl) h (fun r2 M2 h => ?_) rfl
    refine r_callVI (b' := (1, 0, 0)) (c := 100) (S := []) [.int 21, .int x1, .int r2] dX13_test_22 mX13_node lMX13_178 clX13 rfl iM100 sC100 rfl (eFitL (by decide) (by decide)) (Nat.le_of_ble_eq_true rfl) h (fun r3 M3 h => ?_) rfl
    refine r_istore_n (l' := [(1, .int r3), (0, .ref (G.1 100))]) dX13_test_25 rfl (by decide) rfl ?_
    refine r_goto (t := 5) dX13_test_26 (by decide) ?_
    exact Ev.sub (ks := [1, 0]) rfl h
set_option maxHeartbeats 4000000 in
set_option maxRecDepth 100000 in
theorem C_X13_test (G : eG) (d : Nat) (M : eM) (F : Int32 → eM → Prop) 
    (h : Cal G 100 40 (d + 4, 0, 0) kX13_both [.ref (G.1 100)] M (eFI (fun (r1 : Int32) (M1 : eM) => Ev (eZ G 100 40 0 0 (eFI F)) G 100 40 (d + 5, 0, 0) kX13_test 5 [(0, .ref (G.1 100)), (1, .int r1)] [] M1 0 0))) :
    Cal G 100 40 (d + 5, 0, 0) kX13_test [.ref (G.1 100)] M (eFI F) := by
  refine Cal.of (by decide +kernel) rfl (Nat.le_of_ble_eq_true rfl) ?_
  show Ev (eZ G 100 40 0 0 (eFI F)) G 100 40 (d + 5, 0, 0) kX13_test 0 [(0, .ref (G.1 100))] [] M 0 0
  refine r_aload_n 0 dX13_test_0 rfl rfl ?_
  refine r_callVI (b' := (d + 4, 0, 0)) (c := 100) (S := []) [] dX13_test_1 mX13_both lMX13_208 clX13 rfl iM100 sC100 rfl (eFitR (by decide)) (Nat.le_of_ble_eq_true rfl) h (fun r1 M1 h => ?_) rfl
  refine r_istore_n (l' := [(1, .int r1), (0, .ref (G.1 100))]) dX13_test_4 rfl (by decide) rfl ?_
  exact Ev.sub (ks := [1, 0]) rfl h
set_option maxHeartbeats 4000000 in
set_option maxRecDepth 100000 in
theorem C_X13_numberIn (G : eG) (M : eM) (F : Int32 → eM → Prop) (a1 : Int32) (a2 : Int32)
    (h : vp_in (M 100 8) 402 ∧ (Cal G 100 40 (1, 0, 0) kX13_is [.ref (G.1 100), .int 31] M (eFZ (fun (r1 : Bool) (M1 : eM) => ((r1 = false) → Cal G 100 40 (2, 0, 0) kX13_take [.ref (G.1 100), .int 31] M1 (eFV (fun (M2 : eM) => F (M 103 (M 100 8).toNatClampNeg) M2))) ∧ ((r1 = true) → Cal G 100 40 (1, 0, 0) kX13_isIn [.int (M 103 (M 100 8).toNatClampNeg), .int a1, .int a2] M1 (eFZ (fun (r3 : Bool) (M3 : eM) => ((r3 = true) → Cal G 100 40 (2, 0, 0) kX13_take [.ref (G.1 100), .int 31] M3 (eFV (fun (M4 : eM) => F (M 103 (M 100 8).toNatClampNeg) M4))) ∧ ((r3 = false) → Cal G 100 40 (1, 0, 0) kX13_mark [.ref (G.1 100), .int 5] M3 (eFV (fun (M5 : eM) => Cal G 100 40 (2, 0, 0) kX13_take [.ref (G.1 100), .int 31] M5 (eFV (fun (M6 : eM) => F (M 103 (M 100 8).toNatClampNeg) M6)))))))))))) :
    Cal G 100 40 (3, 0, 0) kX13_numberIn [.ref (G.1 100), .int a1, .int a2] M (eFI F) := by
  refine Cal.of (by decide +kernel) rfl (Nat.le_of_ble_eq_true rfl) ?_
  show Ev (eZ G 100 40 0 0 (eFI F)) G 100 40 (3, 0, 0) kX13_numberIn 0 [(0, .ref (G.1 100)), (1, .int a1), (2, .int a2)] [] M 0 0
  refine r_aload_n 0 dX13_numberIn_0 rfl rfl ?_
  refine r_getR (c := 100) (k := 5) 103 dX13_numberIn_1 clX13 lFX13_20 (by decide) iM100 sC100 rfl ?_
  refine r_aload_n 0 dX13_numberIn_4 rfl rfl ?_
  refine r_getI (c := 100) (k := 8) dX13_numberIn_5 clX13 lFX13_120 (by decide) iM100 sC100 rfl ?_
  have h1 := h.1
  replace h := h.2
  refine r_iald (c := 103) (N := 402) dX13_numberIn_8 iM103 sC103 h1 ?_
  refine r_istore_n (l' := [(3, .int (M 103 (M 100 8).toNatClampNeg)), (0, .ref (G.1 100)), (1, .int a1), (2, .int a2)]) dX13_numberIn_9 rfl (by decide) rfl ?_
  refine r_aload_n 1 dX13_numberIn_10 rfl rfl ?_
  refine r_bipush (v := 31) dX13_numberIn_11 rfl ?_
  refine r_callVZ (b' := (1, 0, 0)) (c := 100) (S := []) [.int 31] dX13_numberIn_13 mX13_is lMX13_129 clX13 rfl iM100 sC100 rfl (by decide) (Nat.le_of_ble_eq_true rfl) h (fun r1 M1 h => ?_) rfl
  refine r_zif_eq (t := 33) dX13_numberIn_16 (by decide) (fun q => ?_) (fun q => ?_)
  · replace h := h.1 q
    refine r_aload_n 1 dX13_numberIn_33 rfl rfl ?_
    refine r_bipush (v := 31) dX13_numberIn_34 rfl ?_
    refine r_callVV (b' := (2, 0, 0)) (c := 100) (S := []) [.int 31] dX13_numberIn_36 mX13_take lMX13_164 clX13 rfl iM100 sC100 rfl (by decide) (Nat.le_of_ble_eq_true rfl) h (fun M2 h => ?_) rfl
    refine r_iload_n 0 dX13_numberIn_39 rfl rfl ?_
    refine r_iretI dX13_numberIn_40 rfl (by decide) (by decide) h
  · replace h := h.2 q
    refine r_iload_n 0 dX13_numberIn_19 rfl rfl ?_
    refine r_iload_n 2 dX13_numberIn_20 rfl rfl ?_
    refine r_iload_n 3 dX13_numberIn_21 rfl rfl ?_
    refine r_callSZ (b' := (1, 0, 0)) (S := []) [.int (M 103 (M 100 8).toNatClampNeg), .int a1, .int a2] dX13_numberIn_22 mX13_isIn lMX13_68 rfl (by decide) (Nat.le_of_ble_eq_true rfl) h (fun r3 M3 h => ?_) rfl
    refine r_zif_ne (t := 33) dX13_numberIn_25 (by decide) (fun q => ?_) (fun q => ?_)
    · replace h := h.1 q
      refine r_aload_n 1 dX13_numberIn_33 rfl rfl ?_
      refine r_bipush (v := 31) dX13_numberIn_34 rfl ?_
      refine r_callVV (b' := (2, 0, 0)) (c := 100) (S := []) [.int 31] dX13_numberIn_36 mX13_take lMX13_164 clX13 rfl iM100 sC100 rfl (by decide) (Nat.le_of_ble_eq_true rfl) h (fun M4 h => ?_) rfl
      refine r_iload_n 0 dX13_numberIn_39 rfl rfl ?_
      refine r_iretI dX13_numberIn_40 rfl (by decide) (by decide) h
    · replace h := h.2 q
      refine r_aload_n 1 dX13_numberIn_28 rfl rfl ?_
      refine r_iconst (v := 5) dX13_numberIn_29 rfl ?_
      refine r_callVV (b' := (1, 0, 0)) (c := 100) (S := []) [.int 5] dX13_numberIn_30 mX13_mark lMX13_160 clX13 rfl iM100 sC100 rfl (by decide) (Nat.le_of_ble_eq_true rfl) h (fun M5 h => ?_) rfl
      refine r_aload_n 1 dX13_numberIn_33 rfl rfl ?_
      refine r_bipush (v := 31) dX13_numberIn_34 rfl ?_
      refine r_callVV (b' := (2, 0, 0)) (c := 100) (S := []) [.int 31] dX13_numberIn_36 mX13_take lMX13_164 clX13 rfl iM100 sC100 rfl (by decide) (Nat.le_of_ble_eq_true rfl) h (fun M6 h => ?_) rfl
      refine r_iload_n 0 dX13_numberIn_39 rfl rfl ?_
      refine r_iretI dX13_numberIn_40 rfl (by decide) (by decide) h
set_option maxHeartbeats 4000000 in
set_option maxRecDepth 100000 in
theorem B_X13_tile_88 (G : eG) (M : eM) (F : eM → Prop) (x1 : Int32) (x2 : Int32)
    (h : ((3 ≤ x2) → F (eU M 118 2 (if (x1 + 1) < 16 then (x1 + 1) else 16))) ∧ ((¬ 3 ≤ x2) → Cal G 100 40 (3, 0, 0) kX13_numberIn [.ref (G.1 100), .int 0, .int 9] M (eFI (fun (r1 : Int32) (M1 : eM) => vp_in ((3 * x1) + x2) 51 ∧ (Ev (eZ G 100 40 0 0 (eFV F)) G 100 40 (4, 0, 0) kX13_tile 88 [(0, .ref (G.1 100)), (1, .int x1), (2, .int (x2 + 1))] [] (eU M1 119 ((3 * x1) + x2).toNatClampNeg r1) 0 0))))) :
    Ev (eZ G 100 40 0 0 (eFV F)) G 100 40 (4, 0, 0) kX13_tile 88 [(0, .ref (G.1 100)), (1, .int x1), (2, .int x2)] [] M 0 0 := by
  refine r_iload_n 2 dX13_tile_88 rfl rfl ?_
  refine r_iconst (v := 3) dX13_tile_89 rfl ?_
  refine r_icmp_ge (t := 119) dX13_tile_90 (by decide) (fun q => ?_) (fun q => ?_)
  · replace h := h.1 q
    refine r_aload_n 0 dX13_tile_119 rfl rfl ?_
    refine r_getR (c := 100) (k := 15) 118 dX13_tile_120 clX13 lFX13_39 (by decide) iM100 sC100 rfl ?_
    refine r_bipush (v := 16) dX13_tile_123 rfl ?_
    refine r_iload_n 1 dX13_tile_125 rfl rfl ?_
    refine r_iconst (v := 1) dX13_tile_126 rfl ?_
    refine r_iadd dX13_tile_127 ?_
    refine r_mmin dX13_tile_128 lMX13_211 eMm_min1 eMm_i eMm_min2 (by decide) (Nat.le_of_ble_eq_true rfl) ⟨Nat.le_refl _, Nat.le_refl _⟩ ?_
    refine r_putNI (c := 118) (k := 2) dX13_tile_131 clX12 lFX13_150 (by decide) iM118 sC118 rfl rfl rfl ?_
    refine r_vretV dX13_tile_134 rfl (by decide) (by decide) h
  · replace h := h.2 q
    refine r_aload_n 0 dX13_tile_93 rfl rfl ?_
    refine r_getR (c := 100) (k := 15) 118 dX13_tile_94 clX13 lFX13_39 (by decide) iM100 sC100 rfl ?_
    refine r_getNR (c := 118) (k := 3) 119 dX13_tile_97 clX12 lFX13_214 (by decide) iM118 sC118 rfl ?_
    refine r_iconst (v := 3) dX13_tile_100 rfl ?_
    refine r_iload_n 1 dX13_tile_101 rfl rfl ?_
    refine r_imul dX13_tile_102 ?_
    refine r_iload_n 2 dX13_tile_103 rfl rfl ?_
    refine r_iadd dX13_tile_104 ?_
    refine r_aload_n 0 dX13_tile_105 rfl rfl ?_
    refine r_iconst (v := 0) dX13_tile_106 rfl ?_
    refine r_bipush (v := 9) dX13_tile_107 rfl ?_
    refine r_callVI (b' := (3, 0, 0)) (c := 100) (S := [.int ((3 * x1) + x2), .ref (G.1 119)]) [.int 0, .int 9] dX13_tile_109 mX13_numberIn lMX13_217 clX13 rfl iM100 sC100 rfl (by decide) (Nat.le_of_ble_eq_true rfl) h (fun r1 M1 h => ?_) rfl
    have h1 := h.1
    replace h := h.2
    refine r_iast (c := 119) (N := 51) dX13_tile_112 iM119 sC119 h1 ?_
    refine r_iinc (v := x2 + 1) (l' := [(2, .int (x2 + 1)), (0, .ref (G.1 100)), (1, .int x1)]) 2 dX13_tile_113 rfl rfl (by decide) rfl ?_
    refine r_goto (t := 88) dX13_tile_116 (by decide) ?_
    exact Ev.sub (ks := [1, 2, 0]) rfl h
set_option maxHeartbeats 4000000 in
set_option maxRecDepth 100000 in
theorem B_X13_tile_80 (G : eG) (M : eM) (F : eM → Prop) (x1 : Int32)
    (h : Cal G 100 40 (2, 0, 0) kX13_take [.ref (G.1 100), .int 30] M (eFV (fun (M1 : eM) => Ev (eZ G 100 40 0 0 (eFV F)) G 100 40 (4, 0, 0) kX13_tile 88 [(0, .ref (G.1 100)), (1, .int x1), (2, .int 0)] [] M1 0 0))) :
    Ev (eZ G 100 40 0 0 (eFV F)) G 100 40 (4, 0, 0) kX13_tile 80 [(0, .ref (G.1 100)), (1, .int x1)] [] M 0 0 := by
  refine r_aload_n 0 dX13_tile_80 rfl rfl ?_
  refine r_bipush (v := 30) dX13_tile_81 rfl ?_
  refine r_callVV (b' := (2, 0, 0)) (c := 100) (S := []) [.int 30] dX13_tile_83 mX13_take lMX13_164 clX13 rfl iM100 sC100 rfl (by decide) (Nat.le_of_ble_eq_true rfl) h (fun M1 h => ?_) rfl
  refine r_iconst (v := 0) dX13_tile_86 rfl ?_
  refine r_istore_n (l' := [(2, .int 0), (0, .ref (G.1 100)), (1, .int x1)]) dX13_tile_87 rfl (by decide) rfl ?_
  exact Ev.sub (ks := [1, 2, 0]) rfl h
set_option maxHeartbeats 4000000 in
set_option maxRecDepth 100000 in
theorem B_X13_tile_55 (G : eG) (M : eM) (F : eM → Prop) (x1 : Int32)
    (h : Cal G 100 40 (1, 0, 0) kX13_is [.ref (G.1 100), .int 30] M (eFZ (fun (r1 : Bool) (M1 : eM) => ((r1 = false) → Ev (eZ G 100 40 0 0 (eFV F)) G 100 40 (4, 0, 0) kX13_tile 80 [(0, .ref (G.1 100)), (1, .int x1)] [] M1 0 0) ∧ ((r1 = true) → ((16 ≤ x1) → Ev (eZ G 100 40 0 0 (eFV F)) G 100 40 (4, 0, 0) kX13_tile 80 [(0, .ref (G.1 100)), (1, .int x1)] [] M1 0 0) ∧ ((¬ 16 ≤ x1) → vp_in x1 16 ∧ (Ev (eZ G 100 40 0 0 (eFV F)) G 100 40 (4, 0, 0) kX13_tile 80 [(0, .ref (G.1 100)), (1, .int x1)] [] (eU M1 106 x1.toNatClampNeg (M1 100 8)) 0 0)))))) :
    Ev (eZ G 100 40 0 0 (eFV F)) G 100 40 (4, 0, 0) kX13_tile 55 [(0, .ref (G.1 100)), (1, .int x1)] [] M 0 0 := by
  refine r_aload_n 0 dX13_tile_55 rfl rfl ?_
  refine r_bipush (v := 30) dX13_tile_56 rfl ?_
  refine r_callVZ (b' := (1, 0, 0)) (c := 100) (S := []) [.int 30] dX13_tile_58 mX13_is lMX13_129 clX13 rfl iM100 sC100 rfl (by decide) (Nat.le_of_ble_eq_true rfl) h (fun r1 M1 h => ?_) rfl
  refine r_zif_eq (t := 80) dX13_tile_61 (by decide) (fun q => ?_) (fun q => ?_)
  · replace h := h.1 q
    exact h
  · replace h := h.2 q
    refine r_iload_n 1 dX13_tile_64 rfl rfl ?_
    refine r_bipush (v := 16) dX13_tile_65 rfl ?_
    refine r_icmp_ge (t := 80) dX13_tile_67 (by decide) (fun q => ?_) (fun q => ?_)
    · replace h := h.1 q
      exact h
    · replace h := h.2 q
      refine r_aload_n 0 dX13_tile_70 rfl rfl ?_
      refine r_getR (c := 100) (k := 13) 106 dX13_tile_71 clX13 lFX13_29 (by decide) iM100 sC100 rfl ?_
      refine r_iload_n 1 dX13_tile_74 rfl rfl ?_
      refine r_aload_n 0 dX13_tile_75 rfl rfl ?_
      refine r_getI (c := 100) (k := 8) dX13_tile_76 clX13 lFX13_120 (by decide) iM100 sC100 rfl ?_
      have h1 := h.1
      replace h := h.2
      refine r_iast (c := 106) (N := 16) dX13_tile_79 iM106 sC106 h1 ?_
      exact h
set_option maxHeartbeats 4000000 in
set_option maxRecDepth 100000 in
theorem B_X13_tile_35 (G : eG) (M : eM) (F : eM → Prop) (x1 : Int32)
    (h : Cal G 100 40 (1, 0, 0) kX13_is [.ref (G.1 100), .int 30] M (eFZ (fun (r1 : Bool) (M1 : eM) => ((r1 = false) → Ev (eZ G 100 40 0 0 (eFV F)) G 100 40 (4, 0, 0) kX13_tile 55 [(0, .ref (G.1 100)), (1, .int x1)] [] M1 0 0) ∧ ((r1 = true) → ((¬ x1 = 16) → Ev (eZ G 100 40 0 0 (eFV F)) G 100 40 (4, 0, 0) kX13_tile 55 [(0, .ref (G.1 100)), (1, .int x1)] [] M1 0 0) ∧ ((x1 = 16) → Cal G 100 40 (1, 0, 0) kX13_mark [.ref (G.1 100), .int 4] M1 (eFV (fun (M2 : eM) => Ev (eZ G 100 40 0 0 (eFV F)) G 100 40 (4, 0, 0) kX13_tile 55 [(0, .ref (G.1 100)), (1, .int x1)] [] M2 0 0))))))) :
    Ev (eZ G 100 40 0 0 (eFV F)) G 100 40 (4, 0, 0) kX13_tile 35 [(0, .ref (G.1 100)), (1, .int x1)] [] M 0 0 := by
  refine r_aload_n 0 dX13_tile_35 rfl rfl ?_
  refine r_bipush (v := 30) dX13_tile_36 rfl ?_
  refine r_callVZ (b' := (1, 0, 0)) (c := 100) (S := []) [.int 30] dX13_tile_38 mX13_is lMX13_129 clX13 rfl iM100 sC100 rfl (by decide) (Nat.le_of_ble_eq_true rfl) h (fun r1 M1 h => ?_) rfl
  refine r_zif_eq (t := 55) dX13_tile_41 (by decide) (fun q => ?_) (fun q => ?_)
  · replace h := h.1 q
    exact h
  · replace h := h.2 q
    refine r_iload_n 1 dX13_tile_44 rfl rfl ?_
    refine r_bipush (v := 16) dX13_tile_45 rfl ?_
    refine r_icmp_ne (t := 55) dX13_tile_47 (by decide) (fun q => ?_) (fun q => ?_)
    · replace h := h.1 q
      exact h
    · replace h := h.2 q
      refine r_aload_n 0 dX13_tile_50 rfl rfl ?_
      refine r_iconst (v := 4) dX13_tile_51 rfl ?_
      refine r_callVV (b' := (1, 0, 0)) (c := 100) (S := []) [.int 4] dX13_tile_52 mX13_mark lMX13_160 clX13 rfl iM100 sC100 rfl (by decide) (Nat.le_of_ble_eq_true rfl) h (fun M2 h => ?_) rfl
      exact h
set_option maxHeartbeats 4000000 in
set_option maxRecDepth 100000 in
theorem C_X13_tile (G : eG) (M : eM) (F : eM → Prop) 
    (h : Cal G 100 40 (1, 0, 0) kX13_is [.ref (G.1 100), .int 30] M (eFZ (fun (r1 : Bool) (M1 : eM) => ((r1 = false) → Ev (eZ G 100 40 0 0 (eFV F)) G 100 40 (4, 0, 0) kX13_tile 35 [(0, .ref (G.1 100)), (1, .int (if (M 118 2) < 16 then (M 118 2) else 16))] [] M1 0 0) ∧ ((r1 = true) → Cal G 100 40 (2, 0, 0) kX13_known [.ref (G.1 100)] M1 (eFI (fun (r2 : Int32) (M2 : eM) => ((r2 = (-1)) → Ev (eZ G 100 40 0 0 (eFV F)) G 100 40 (4, 0, 0) kX13_tile 35 [(0, .ref (G.1 100)), (1, .int (if (M 118 2) < 16 then (M 118 2) else 16))] [] M2 0 0) ∧ ((¬ r2 = (-1)) → Cal G 100 40 (1, 0, 0) kX13_mark [.ref (G.1 100), .int 2] M2 (eFV (fun (M3 : eM) => Ev (eZ G 100 40 0 0 (eFV F)) G 100 40 (4, 0, 0) kX13_tile 35 [(0, .ref (G.1 100)), (1, .int (if (M 118 2) < 16 then (M 118 2) else 16))] [] M3 0 0))))))))) :
    Cal G 100 40 (4, 0, 0) kX13_tile [.ref (G.1 100)] M (eFV F) := by
  refine Cal.of (by decide +kernel) rfl (Nat.le_of_ble_eq_true rfl) ?_
  show Ev (eZ G 100 40 0 0 (eFV F)) G 100 40 (4, 0, 0) kX13_tile 0 [(0, .ref (G.1 100))] [] M 0 0
  refine r_bipush (v := 16) dX13_tile_0 rfl ?_
  refine r_aload_n 0 dX13_tile_2 rfl rfl ?_
  refine r_getR (c := 100) (k := 15) 118 dX13_tile_3 clX13 lFX13_39 (by decide) iM100 sC100 rfl ?_
  refine r_getNI (c := 118) (k := 2) dX13_tile_6 clX12 lFX13_150 (by decide) iM118 sC118 rfl ?_
  refine r_mmin dX13_tile_9 lMX13_211 eMm_min1 eMm_i eMm_min2 (by decide) (Nat.le_of_ble_eq_true rfl) ⟨Nat.le_refl _, Nat.le_refl _⟩ ?_
  refine r_istore_n (l' := [(1, .int (if (M 118 2) < 16 then (M 118 2) else 16)), (0, .ref (G.1 100))]) dX13_tile_12 rfl (by decide) rfl ?_
  refine r_aload_n 1 dX13_tile_13 rfl rfl ?_
  refine r_bipush (v := 30) dX13_tile_14 rfl ?_
  refine r_callVZ (b' := (1, 0, 0)) (c := 100) (S := []) [.int 30] dX13_tile_16 mX13_is lMX13_129 clX13 rfl iM100 sC100 rfl (by decide) (Nat.le_of_ble_eq_true rfl) h (fun r1 M1 h => ?_) rfl
  refine r_zif_eq (t := 35) dX13_tile_19 (by decide) (fun q => ?_) (fun q => ?_)
  · replace h := h.1 q
    exact Ev.sub (ks := [1, 0]) rfl h
  · replace h := h.2 q
    refine r_aload_n 1 dX13_tile_22 rfl rfl ?_
    refine r_callVI (b' := (2, 0, 0)) (c := 100) (S := []) [] dX13_tile_23 mX13_known lMX13_157 clX13 rfl iM100 sC100 rfl (by decide) (Nat.le_of_ble_eq_true rfl) h (fun r2 M2 h => ?_) rfl
    refine r_iconst (v := (-1)) dX13_tile_26 rfl ?_
    refine r_icmp_eq (t := 35) dX13_tile_27 (by decide) (fun q => ?_) (fun q => ?_)
    · replace h := h.1 q
      exact Ev.sub (ks := [1, 0]) rfl h
    · replace h := h.2 q
      refine r_aload_n 1 dX13_tile_30 rfl rfl ?_
      refine r_iconst (v := 2) dX13_tile_31 rfl ?_
      refine r_callVV (b' := (1, 0, 0)) (c := 100) (S := []) [.int 2] dX13_tile_32 mX13_mark lMX13_160 clX13 rfl iM100 sC100 rfl (by decide) (Nat.le_of_ble_eq_true rfl) h (fun M3 h => ?_) rfl
      exact Ev.sub (ks := [1, 0]) rfl h
set_option maxHeartbeats 4000000 in
set_option maxRecDepth 100000 in
theorem B_X13_order_142 (G : eG) (M : eM) (F : eM → Prop) (x2 : Int32)
    (h : Cal G 100 40 (2, 0, 0) kX13_takes [.ref (G.1 100), .int 8] M (eFZ (fun (r1 : Bool) (M1 : eM) => ((r1 = false) → vp_in x2 17 ∧ (vp_in x2 17 ∧ (F (eU (eU (eU M1 125 x2.toNatClampNeg (-1)) 123 x2.toNatClampNeg ((eU M1 125 x2.toNatClampNeg (-1)) 118 11)) 118 4 (if (x2 + 1) < 16 then (x2 + 1) else 16))))) ∧ ((r1 = true) → Cal G 100 40 (100, 0, 0) kX13_test [.ref (G.1 100)] M1 (eFI (fun (r2 : Int32) (M2 : eM) => vp_in x2 17 ∧ (vp_in x2 17 ∧ (F (eU (eU (eU M2 125 x2.toNatClampNeg r2) 123 x2.toNatClampNeg ((eU M2 125 x2.toNatClampNeg r2) 118 11)) 118 4 (if (x2 + 1) < 16 then (x2 + 1) else 16)))))))))) :
    Ev (eZ G 100 40 0 0 (eFV F)) G 100 40 (101, 0, 0) kX13_order 142 [(0, .ref (G.1 100)), (2, .int x2)] [] M 0 0 := by
  refine r_aload_n 0 dX13_order_142 rfl rfl ?_
  refine r_getR (c := 100) (k := 15) 118 dX13_order_143 clX13 lFX13_39 (by decide) iM100 sC100 rfl ?_
  refine r_getNR (c := 118) (k := 10) 125 dX13_order_146 clX12 lFX13_235 (by decide) iM118 sC118 rfl ?_
  refine r_iload_n 1 dX13_order_149 rfl rfl ?_
  refine r_aload_n 0 dX13_order_150 rfl rfl ?_
  refine r_bipush (v := 8) dX13_order_151 rfl ?_
  refine r_callVZ (b' := (2, 0, 0)) (c := 100) (S := [.int x2, .ref (G.1 125)]) [.int 8] dX13_order_153 mX13_takes lMX13_182 clX13 rfl iM100 sC100 rfl (by decide) (Nat.le_of_ble_eq_true rfl) h (fun r1 M1 h => ?_) rfl
  refine r_zif_eq (t := 166) dX13_order_156 (by decide) (fun q => ?_) (fun q => ?_)
  · replace h := h.1 q
    refine r_iconst (v := (-1)) dX13_order_166 rfl ?_
    have h1 := h.1
    replace h := h.2
    refine r_iast (c := 125) (N := 17) dX13_order_167 iM125 sC125 h1 ?_
    refine r_aload_n 0 dX13_order_168 rfl rfl ?_
    refine r_getR (c := 100) (k := 15) 118 dX13_order_169 clX13 lFX13_39 (by decide) iM100 sC100 rfl ?_
    refine r_getNR (c := 118) (k := 8) 123 dX13_order_172 clX12 lFX13_237 (by decide) iM118 sC118 rfl ?_
    refine r_iload_n 1 dX13_order_175 rfl rfl ?_
    refine r_aload_n 0 dX13_order_176 rfl rfl ?_
    refine r_getR (c := 100) (k := 15) 118 dX13_order_177 clX13 lFX13_39 (by decide) iM100 sC100 rfl ?_
    refine r_getNI (c := 118) (k := 11) dX13_order_180 clX12 lFX13_138 (by decide) iM118 sC118 rfl ?_
    have h1 := h.1
    replace h := h.2
    refine r_iast (c := 123) (N := 17) dX13_order_183 iM123 sC123 h1 ?_
    refine r_aload_n 0 dX13_order_184 rfl rfl ?_
    refine r_getR (c := 100) (k := 15) 118 dX13_order_185 clX13 lFX13_39 (by decide) iM100 sC100 rfl ?_
    refine r_bipush (v := 16) dX13_order_188 rfl ?_
    refine r_iload_n 1 dX13_order_190 rfl rfl ?_
    refine r_iconst (v := 1) dX13_order_191 rfl ?_
    refine r_iadd dX13_order_192 ?_
    refine r_mmin dX13_order_193 lMX13_211 eMm_min1 eMm_i eMm_min2 (by decide) (Nat.le_of_ble_eq_true rfl) ⟨Nat.le_refl _, Nat.le_refl _⟩ ?_
    refine r_putNI (c := 118) (k := 4) dX13_order_196 clX12 lFX13_220 (by decide) iM118 sC118 rfl rfl rfl ?_
    refine r_vretV dX13_order_199 rfl (by decide) (by decide) h
  · replace h := h.2 q
    refine r_aload_n 0 dX13_order_159 rfl rfl ?_
    refine r_callVI (b' := (100, 0, 0)) (c := 100) (S := [.int x2, .ref (G.1 125)]) [] dX13_order_160 mX13_test lMX13_202 clX13 rfl iM100 sC100 rfl (by decide) (Nat.le_of_ble_eq_true rfl) h (fun r2 M2 h => ?_) rfl
    refine r_goto (t := 167) dX13_order_163 (by decide) ?_
    have h1 := h.1
    replace h := h.2
    refine r_iast (c := 125) (N := 17) dX13_order_167 iM125 sC125 h1 ?_
    refine r_aload_n 0 dX13_order_168 rfl rfl ?_
    refine r_getR (c := 100) (k := 15) 118 dX13_order_169 clX13 lFX13_39 (by decide) iM100 sC100 rfl ?_
    refine r_getNR (c := 118) (k := 8) 123 dX13_order_172 clX12 lFX13_237 (by decide) iM118 sC118 rfl ?_
    refine r_iload_n 1 dX13_order_175 rfl rfl ?_
    refine r_aload_n 0 dX13_order_176 rfl rfl ?_
    refine r_getR (c := 100) (k := 15) 118 dX13_order_177 clX13 lFX13_39 (by decide) iM100 sC100 rfl ?_
    refine r_getNI (c := 118) (k := 11) dX13_order_180 clX12 lFX13_138 (by decide) iM118 sC118 rfl ?_
    have h1 := h.1
    replace h := h.2
    refine r_iast (c := 123) (N := 17) dX13_order_183 iM123 sC123 h1 ?_
    refine r_aload_n 0 dX13_order_184 rfl rfl ?_
    refine r_getR (c := 100) (k := 15) 118 dX13_order_185 clX13 lFX13_39 (by decide) iM100 sC100 rfl ?_
    refine r_bipush (v := 16) dX13_order_188 rfl ?_
    refine r_iload_n 1 dX13_order_190 rfl rfl ?_
    refine r_iconst (v := 1) dX13_order_191 rfl ?_
    refine r_iadd dX13_order_192 ?_
    refine r_mmin dX13_order_193 lMX13_211 eMm_min1 eMm_i eMm_min2 (by decide) (Nat.le_of_ble_eq_true rfl) ⟨Nat.le_refl _, Nat.le_refl _⟩ ?_
    refine r_putNI (c := 118) (k := 4) dX13_order_196 clX12 lFX13_220 (by decide) iM118 sC118 rfl rfl rfl ?_
    refine r_vretV dX13_order_199 rfl (by decide) (by decide) h
set_option maxHeartbeats 4000000 in
set_option maxRecDepth 100000 in
theorem B_X13_order_24 (G : eG) (M : eM) (F : eM → Prop) (x1 : Int32) (x2 : Int32)
    (h : vp_in x2 17 ∧ (vp_in x2 17 ∧ (Cal G 100 40 (3, 0, 0) kX13_name [.ref (G.1 100)] (eU (eU (eU M 100 8 ((M 100 8) + 1)) 122 x2.toNatClampNeg ((eU M 100 8 ((M 100 8) + 1)) 118 11)) 120 x2.toNatClampNeg x1) (eFI (fun (r1 : Int32) (M1 : eM) => vp_in x2 17 ∧ (((¬ x1 = 0) → Ev (eZ G 100 40 0 0 (eFV F)) G 100 40 (101, 0, 0) kX13_order 142 [(0, .ref (G.1 100)), (2, .int x2)] [] (eU M1 121 x2.toNatClampNeg r1) 0 0) ∧ ((x1 = 0) → Cal G 100 40 (2, 0, 0) kX13_take [.ref (G.1 100), .int 4] (eU M1 121 x2.toNatClampNeg r1) (eFV (fun (M2 : eM) => Cal G 100 40 (100, 0, 0) kX13_sum [.ref (G.1 100)] M2 (eFI (fun (r3 : Int32) (M3 : eM) => vp_in (3 * x2) 51 ∧ (Cal G 100 40 (2, 0, 0) kX13_take [.ref (G.1 100), .int 54] (eU M3 124 (3 * x2).toNatClampNeg r3) (eFV (fun (M4 : eM) => Cal G 100 40 (100, 0, 0) kX13_sum [.ref (G.1 100)] M4 (eFI (fun (r5 : Int32) (M5 : eM) => vp_in ((3 * x2) + 1) 51 ∧ (Cal G 100 40 (2, 0, 0) kX13_take [.ref (G.1 100), .int 5] (eU M5 124 ((3 * x2) + 1).toNatClampNeg r5) (eFV (fun (M6 : eM) => Cal G 100 40 (100, 0, 0) kX13_sum [.ref (G.1 100)] M6 (eFI (fun (r7 : Int32) (M7 : eM) => vp_in ((3 * x2) + 2) 51 ∧ (Ev (eZ G 100 40 0 0 (eFV F)) G 100 40 (101, 0, 0) kX13_order 142 [(0, .ref (G.1 100)), (2, .int x2)] [] (eU M7 124 ((3 * x2) + 2).toNatClampNeg r7) 0 0)))))))))))))))))))))) :
    Ev (eZ G 100 40 0 0 (eFV F)) G 100 40 (101, 0, 0) kX13_order 24 [(0, .ref (G.1 100)), (1, .int x1), (2, .int x2)] [] M 0 0 := by
  refine r_aload_n 0 dX13_order_24 rfl rfl ?_
  refine r_dup dX13_order_25 rfl ?_
  refine r_getI (c := 100) (k := 8) dX13_order_26 clX13 lFX13_120 (by decide) iM100 sC100 rfl ?_
  refine r_iconst (v := 1) dX13_order_29 rfl ?_
  refine r_iadd dX13_order_30 ?_
  refine r_putI (c := 100) (k := 8) dX13_order_31 clX13 lFX13_120 (by decide) iM100 sC100 rfl rfl rfl ?_
  refine r_aload_n 0 dX13_order_34 rfl rfl ?_
  refine r_getR (c := 100) (k := 15) 118 dX13_order_35 clX13 lFX13_39 (by decide) iM100 sC100 rfl ?_
  refine r_getNR (c := 118) (k := 7) 122 dX13_order_38 clX12 lFX13_223 (by decide) iM118 sC118 rfl ?_
  refine r_iload_n 2 dX13_order_41 rfl rfl ?_
  refine r_aload_n 0 dX13_order_42 rfl rfl ?_
  refine r_getR (c := 100) (k := 15) 118 dX13_order_43 clX13 lFX13_39 (by decide) iM100 sC100 rfl ?_
  refine r_getNI (c := 118) (k := 11) dX13_order_46 clX12 lFX13_138 (by decide) iM118 sC118 rfl ?_
  have h1 := h.1
  replace h := h.2
  refine r_iast (c := 122) (N := 17) dX13_order_49 iM122 sC122 h1 ?_
  refine r_aload_n 0 dX13_order_50 rfl rfl ?_
  refine r_getR (c := 100) (k := 15) 118 dX13_order_51 clX13 lFX13_39 (by decide) iM100 sC100 rfl ?_
  refine r_getNR (c := 118) (k := 5) 120 dX13_order_54 clX12 lFX13_226 (by decide) iM118 sC118 rfl ?_
  refine r_iload_n 2 dX13_order_57 rfl rfl ?_
  refine r_iload_n 1 dX13_order_58 rfl rfl ?_
  have h1 := h.1
  replace h := h.2
  refine r_iast (c := 120) (N := 17) dX13_order_59 iM120 sC120 h1 ?_
  refine r_aload_n 0 dX13_order_60 rfl rfl ?_
  refine r_getR (c := 100) (k := 15) 118 dX13_order_61 clX13 lFX13_39 (by decide) iM100 sC100 rfl ?_
  refine r_getNR (c := 118) (k := 6) 121 dX13_order_64 clX12 lFX13_229 (by decide) iM118 sC118 rfl ?_
  refine r_iload_n 2 dX13_order_67 rfl rfl ?_
  refine r_aload_n 0 dX13_order_68 rfl rfl ?_
  refine r_callVI (b' := (3, 0, 0)) (c := 100) (S := [.int x2, .ref (G.1 121)]) [] dX13_order_69 mX13_name lMX13_185 clX13 rfl iM100 sC100 rfl (by decide) (Nat.le_of_ble_eq_true rfl) h (fun r1 M1 h => ?_) rfl
  have h1 := h.1
  replace h := h.2
  refine r_iast (c := 121) (N := 17) dX13_order_72 iM121 sC121 h1 ?_
  refine r_iload_n 1 dX13_order_73 rfl rfl ?_
  refine r_if_ne (t := 142) dX13_order_74 (by decide) (fun q => ?_) (fun q => ?_)
  · replace h := h.1 q
    exact Ev.sub (ks := [0, 2]) rfl h
  · replace h := h.2 q
    refine r_aload_n 0 dX13_order_77 rfl rfl ?_
    refine r_iconst (v := 4) dX13_order_78 rfl ?_
    refine r_callVV (b' := (2, 0, 0)) (c := 100) (S := []) [.int 4] dX13_order_79 mX13_take lMX13_164 clX13 rfl iM100 sC100 rfl (by decide) (Nat.le_of_ble_eq_true rfl) h (fun M2 h => ?_) rfl
    refine r_aload_n 0 dX13_order_82 rfl rfl ?_
    refine r_getR (c := 100) (k := 15) 118 dX13_order_83 clX13 lFX13_39 (by decide) iM100 sC100 rfl ?_
    refine r_getNR (c := 118) (k := 9) 124 dX13_order_86 clX12 lFX13_232 (by decide) iM118 sC118 rfl ?_
    refine r_iconst (v := 3) dX13_order_89 rfl ?_
    refine r_iload_n 2 dX13_order_90 rfl rfl ?_
    refine r_imul dX13_order_91 ?_
    refine r_aload_n 0 dX13_order_92 rfl rfl ?_
    refine r_callVI (b' := (100, 0, 0)) (c := 100) (S := [.int (3 * x2), .ref (G.1 124)]) [] dX13_order_93 mX13_sum lMX13_175 clX13 rfl iM100 sC100 rfl (by decide) (Nat.le_of_ble_eq_true rfl) h (fun r3 M3 h => ?_) rfl
    have h1 := h.1
    replace h := h.2
    refine r_iast (c := 124) (N := 51) dX13_order_96 iM124 sC124 h1 ?_
    refine r_aload_n 0 dX13_order_97 rfl rfl ?_
    refine r_bipush (v := 54) dX13_order_98 rfl ?_
    refine r_callVV (b' := (2, 0, 0)) (c := 100) (S := []) [.int 54] dX13_order_100 mX13_take lMX13_164 clX13 rfl iM100 sC100 rfl (by decide) (Nat.le_of_ble_eq_true rfl) h (fun M4 h => ?_) rfl
    refine r_aload_n 0 dX13_order_103 rfl rfl ?_
    refine r_getR (c := 100) (k := 15) 118 dX13_order_104 clX13 lFX13_39 (by decide) iM100 sC100 rfl ?_
    refine r_getNR (c := 118) (k := 9) 124 dX13_order_107 clX12 lFX13_232 (by decide) iM118 sC118 rfl ?_
    refine r_iconst (v := 3) dX13_order_110 rfl ?_
    refine r_iload_n 2 dX13_order_111 rfl rfl ?_
    refine r_imul dX13_order_112 ?_
    refine r_iconst (v := 1) dX13_order_113 rfl ?_
    refine r_iadd dX13_order_114 ?_
    refine r_aload_n 0 dX13_order_115 rfl rfl ?_
    refine r_callVI (b' := (100, 0, 0)) (c := 100) (S := [.int ((3 * x2) + 1), .ref (G.1 124)]) [] dX13_order_116 mX13_sum lMX13_175 clX13 rfl iM100 sC100 rfl (by decide) (Nat.le_of_ble_eq_true rfl) h (fun r5 M5 h => ?_) rfl
    have h1 := h.1
    replace h := h.2
    refine r_iast (c := 124) (N := 51) dX13_order_119 iM124 sC124 h1 ?_
    refine r_aload_n 0 dX13_order_120 rfl rfl ?_
    refine r_iconst (v := 5) dX13_order_121 rfl ?_
    refine r_callVV (b' := (2, 0, 0)) (c := 100) (S := []) [.int 5] dX13_order_122 mX13_take lMX13_164 clX13 rfl iM100 sC100 rfl (by decide) (Nat.le_of_ble_eq_true rfl) h (fun M6 h => ?_) rfl
    refine r_aload_n 0 dX13_order_125 rfl rfl ?_
    refine r_getR (c := 100) (k := 15) 118 dX13_order_126 clX13 lFX13_39 (by decide) iM100 sC100 rfl ?_
    refine r_getNR (c := 118) (k := 9) 124 dX13_order_129 clX12 lFX13_232 (by decide) iM118 sC118 rfl ?_
    refine r_iconst (v := 3) dX13_order_132 rfl ?_
    refine r_iload_n 2 dX13_order_133 rfl rfl ?_
    refine r_imul dX13_order_134 ?_
    refine r_iconst (v := 2) dX13_order_135 rfl ?_
    refine r_iadd dX13_order_136 ?_
    refine r_aload_n 0 dX13_order_137 rfl rfl ?_
    refine r_callVI (b' := (100, 0, 0)) (c := 100) (S := [.int ((3 * x2) + 2), .ref (G.1 124)]) [] dX13_order_138 mX13_sum lMX13_175 clX13 rfl iM100 sC100 rfl (by decide) (Nat.le_of_ble_eq_true rfl) h (fun r7 M7 h => ?_) rfl
    have h1 := h.1
    replace h := h.2
    refine r_iast (c := 124) (N := 51) dX13_order_141 iM124 sC124 h1 ?_
    exact Ev.sub (ks := [0, 2]) rfl h
set_option maxHeartbeats 4000000 in
set_option maxRecDepth 100000 in
theorem C_X13_order (G : eG) (M : eM) (F : eM → Prop) (a1 : Int32)
    (h : ((¬ (if (M 118 4) < 16 then (M 118 4) else 16) = 16) → Ev (eZ G 100 40 0 0 (eFV F)) G 100 40 (101, 0, 0) kX13_order 24 [(0, .ref (G.1 100)), (1, .int a1), (2, .int (if (M 118 4) < 16 then (M 118 4) else 16))] [] M 0 0) ∧ (((if (M 118 4) < 16 then (M 118 4) else 16) = 16) → Cal G 100 40 (1, 0, 0) kX13_mark [.ref (G.1 100), .int 4] M (eFV (fun (M1 : eM) => Ev (eZ G 100 40 0 0 (eFV F)) G 100 40 (101, 0, 0) kX13_order 24 [(0, .ref (G.1 100)), (1, .int a1), (2, .int (if (M 118 4) < 16 then (M 118 4) else 16))] [] M1 0 0)))) :
    Cal G 100 40 (101, 0, 0) kX13_order [.ref (G.1 100), .int a1] M (eFV F) := by
  refine Cal.of (by decide +kernel) rfl (Nat.le_of_ble_eq_true rfl) ?_
  show Ev (eZ G 100 40 0 0 (eFV F)) G 100 40 (101, 0, 0) kX13_order 0 [(0, .ref (G.1 100)), (1, .int a1)] [] M 0 0
  refine r_bipush (v := 16) dX13_order_0 rfl ?_
  refine r_aload_n 0 dX13_order_2 rfl rfl ?_
  refine r_getR (c := 100) (k := 15) 118 dX13_order_3 clX13 lFX13_39 (by decide) iM100 sC100 rfl ?_
  refine r_getNI (c := 118) (k := 4) dX13_order_6 clX12 lFX13_220 (by decide) iM118 sC118 rfl ?_
  refine r_mmin dX13_order_9 lMX13_211 eMm_min1 eMm_i eMm_min2 (by decide) (Nat.le_of_ble_eq_true rfl) ⟨Nat.le_refl _, Nat.le_refl _⟩ ?_
  refine r_istore_n (l' := [(2, .int (if (M 118 4) < 16 then (M 118 4) else 16)), (0, .ref (G.1 100)), (1, .int a1)]) dX13_order_12 rfl (by decide) rfl ?_
  refine r_iload_n 0 dX13_order_13 rfl rfl ?_
  refine r_bipush (v := 16) dX13_order_14 rfl ?_
  refine r_icmp_ne (t := 24) dX13_order_16 (by decide) (fun q => ?_) (fun q => ?_)
  · replace h := h.1 q
    exact Ev.sub (ks := [1, 2, 0]) rfl h
  · replace h := h.2 q
    refine r_aload_n 1 dX13_order_19 rfl rfl ?_
    refine r_iconst (v := 4) dX13_order_20 rfl ?_
    refine r_callVV (b' := (1, 0, 0)) (c := 100) (S := []) [.int 4] dX13_order_21 mX13_mark lMX13_160 clX13 rfl iM100 sC100 rfl (by decide) (Nat.le_of_ble_eq_true rfl) h (fun M1 h => ?_) rfl
    exact Ev.sub (ks := [1, 2, 0]) rfl h
set_option maxHeartbeats 4000000 in
set_option maxRecDepth 100000 in
theorem C_X13_line (G : eG) (M : eM) (F : eM → Prop) 
    (h : Cal G 100 40 (2, 0, 0) kX13_takes [.ref (G.1 100), .int 2] M (eFZ (fun (r1 : Bool) (M1 : eM) => ((r1 = false) → Cal G 100 40 (1, 0, 0) kX13_is [.ref (G.1 100), .int 3] M1 (eFZ (fun (r2 : Bool) (M2 : eM) => ((r2 = false) → Cal G 100 40 (1, 0, 0) kX13_is [.ref (G.1 100), .int 6] M2 (eFZ (fun (r3 : Bool) (M3 : eM) => ((r3 = false) → Cal G 100 40 (1, 0, 0) kX13_is [.ref (G.1 100), .int 7] M3 (eFZ (fun (r4 : Bool) (M4 : eM) => ((r4 = false) → Cal G 100 40 (1, 0, 0) kX13_wrong [.ref (G.1 100)] M4 (eFV (fun (M5 : eM) => F M5))) ∧ ((r4 = true) → Cal G 100 40 (101, 0, 0) kX13_order [.ref (G.1 100), .int 2] M4 (eFV (fun (M6 : eM) => F M6)))))) ∧ ((r3 = true) → Cal G 100 40 (101, 0, 0) kX13_order [.ref (G.1 100), .int 1] M3 (eFV (fun (M7 : eM) => F M7)))))) ∧ ((r2 = true) → Cal G 100 40 (101, 0, 0) kX13_order [.ref (G.1 100), .int 0] M2 (eFV (fun (M8 : eM) => F M8)))))) ∧ ((r1 = true) → Cal G 100 40 (4, 0, 0) kX13_tile [.ref (G.1 100)] M1 (eFV (fun (M9 : eM) => F M9)))))) :
    Cal G 100 40 (102, 0, 0) kX13_line [.ref (G.1 100)] M (eFV F) := by
  refine Cal.of (by decide +kernel) rfl (Nat.le_of_ble_eq_true rfl) ?_
  show Ev (eZ G 100 40 0 0 (eFV F)) G 100 40 (102, 0, 0) kX13_line 0 [(0, .ref (G.1 100))] [] M 0 0
  refine r_aload_n 0 dX13_line_0 rfl rfl ?_
  refine r_iconst (v := 2) dX13_line_1 rfl ?_
  refine r_callVZ (b' := (2, 0, 0)) (c := 100) (S := []) [.int 2] dX13_line_2 mX13_takes lMX13_182 clX13 rfl iM100 sC100 rfl (by decide) (Nat.le_of_ble_eq_true rfl) h (fun r1 M1 h => ?_) rfl
  refine r_zif_eq (t := 15) dX13_line_5 (by decide) (fun q => ?_) (fun q => ?_)
  · replace h := h.1 q
    refine r_aload_n 0 dX13_line_15 rfl rfl ?_
    refine r_iconst (v := 3) dX13_line_16 rfl ?_
    refine r_callVZ (b' := (1, 0, 0)) (c := 100) (S := []) [.int 3] dX13_line_17 mX13_is lMX13_129 clX13 rfl iM100 sC100 rfl (by decide) (Nat.le_of_ble_eq_true rfl) h (fun r2 M2 h => ?_) rfl
    refine r_zif_eq (t := 31) dX13_line_20 (by decide) (fun q => ?_) (fun q => ?_)
    · replace h := h.1 q
      refine r_aload_n 0 dX13_line_31 rfl rfl ?_
      refine r_bipush (v := 6) dX13_line_32 rfl ?_
      refine r_callVZ (b' := (1, 0, 0)) (c := 100) (S := []) [.int 6] dX13_line_34 mX13_is lMX13_129 clX13 rfl iM100 sC100 rfl (by decide) (Nat.le_of_ble_eq_true rfl) h (fun r3 M3 h => ?_) rfl
      refine r_zif_eq (t := 48) dX13_line_37 (by decide) (fun q => ?_) (fun q => ?_)
      · replace h := h.1 q
        refine r_aload_n 0 dX13_line_48 rfl rfl ?_
        refine r_bipush (v := 7) dX13_line_49 rfl ?_
        refine r_callVZ (b' := (1, 0, 0)) (c := 100) (S := []) [.int 7] dX13_line_51 mX13_is lMX13_129 clX13 rfl iM100 sC100 rfl (by decide) (Nat.le_of_ble_eq_true rfl) h (fun r4 M4 h => ?_) rfl
        refine r_zif_eq (t := 65) dX13_line_54 (by decide) (fun q => ?_) (fun q => ?_)
        · replace h := h.1 q
          refine r_aload_n 0 dX13_line_65 rfl rfl ?_
          refine r_callVV (b' := (1, 0, 0)) (c := 100) (S := []) [] dX13_line_66 mX13_wrong lMX13_132 clX13 rfl iM100 sC100 rfl (by decide) (Nat.le_of_ble_eq_true rfl) h (fun M5 h => ?_) rfl
          refine r_vretV dX13_line_69 rfl (by decide) (by decide) h
        · replace h := h.2 q
          refine r_aload_n 0 dX13_line_57 rfl rfl ?_
          refine r_iconst (v := 2) dX13_line_58 rfl ?_
          refine r_callVV (b' := (101, 0, 0)) (c := 100) (S := []) [.int 2] dX13_line_59 mX13_order lMX13_242 clX13 rfl iM100 sC100 rfl (by decide) (Nat.le_of_ble_eq_true rfl) h (fun M6 h => ?_) rfl
          refine r_goto (t := 69) dX13_line_62 (by decide) ?_
          refine r_vretV dX13_line_69 rfl (by decide) (by decide) h
      · replace h := h.2 q
        refine r_aload_n 0 dX13_line_40 rfl rfl ?_
        refine r_iconst (v := 1) dX13_line_41 rfl ?_
        refine r_callVV (b' := (101, 0, 0)) (c := 100) (S := []) [.int 1] dX13_line_42 mX13_order lMX13_242 clX13 rfl iM100 sC100 rfl (by decide) (Nat.le_of_ble_eq_true rfl) h (fun M7 h => ?_) rfl
        refine r_goto (t := 69) dX13_line_45 (by decide) ?_
        refine r_vretV dX13_line_69 rfl (by decide) (by decide) h
    · replace h := h.2 q
      refine r_aload_n 0 dX13_line_23 rfl rfl ?_
      refine r_iconst (v := 0) dX13_line_24 rfl ?_
      refine r_callVV (b' := (101, 0, 0)) (c := 100) (S := []) [.int 0] dX13_line_25 mX13_order lMX13_242 clX13 rfl iM100 sC100 rfl (by decide) (Nat.le_of_ble_eq_true rfl) h (fun M8 h => ?_) rfl
      refine r_goto (t := 69) dX13_line_28 (by decide) ?_
      refine r_vretV dX13_line_69 rfl (by decide) (by decide) h
  · replace h := h.2 q
    refine r_aload_n 0 dX13_line_8 rfl rfl ?_
    refine r_callVV (b' := (4, 0, 0)) (c := 100) (S := []) [] dX13_line_9 mX13_tile lMX13_240 clX13 rfl iM100 sC100 rfl (by decide) (Nat.le_of_ble_eq_true rfl) h (fun M9 h => ?_) rfl
    refine r_goto (t := 69) dX13_line_12 (by decide) ?_
    refine r_vretV dX13_line_69 rfl (by decide) (by decide) h
set_option maxHeartbeats 4000000 in
set_option maxRecDepth 100000 in
theorem B_X13_game_47 (G : eG) (M : eM) (F : eM → Prop) 
    (h : ((¬ (M 100 9) = 0) → F M) ∧ (((M 100 9) = 0) → vp_in (M 100 8) 402 ∧ ((((M 102 (M 100 8).toNatClampNeg) = 33) → F M) ∧ ((¬ (M 102 (M 100 8).toNatClampNeg) = 33) → Cal G 100 40 (102, 0, 0) kX13_line [.ref (G.1 100)] M (eFV (fun (M1 : eM) => Cal G 100 40 (2, 0, 0) kX13_take [.ref (G.1 100), .int 53] M1 (eFV (fun (M2 : eM) => Ev (eZ G 100 40 0 0 (eFV F)) G 100 40 (103, 0, 0) kX13_game 47 [(0, .ref (G.1 100))] [] M2 0 0)))))))) :
    Ev (eZ G 100 40 0 0 (eFV F)) G 100 40 (103, 0, 0) kX13_game 47 [(0, .ref (G.1 100))] [] M 0 0 := by
  refine r_aload_n 0 dX13_game_47 rfl rfl ?_
  refine r_getI (c := 100) (k := 9) dX13_game_48 clX13 lFX13_116 (by decide) iM100 sC100 rfl ?_
  refine r_if_ne (t := 81) dX13_game_51 (by decide) (fun q => ?_) (fun q => ?_)
  · replace h := h.1 q
    refine r_vretV dX13_game_81 rfl (by decide) (by decide) h
  · replace h := h.2 q
    refine r_aload_n 0 dX13_game_54 rfl rfl ?_
    refine r_getR (c := 100) (k := 4) 102 dX13_game_55 clX13 lFX13_17 (by decide) iM100 sC100 rfl ?_
    refine r_aload_n 0 dX13_game_58 rfl rfl ?_
    refine r_getI (c := 100) (k := 8) dX13_game_59 clX13 lFX13_120 (by decide) iM100 sC100 rfl ?_
    have h1 := h.1
    replace h := h.2
    refine r_iald (c := 102) (N := 402) dX13_game_62 iM102 sC102 h1 ?_
    refine r_bipush (v := 33) dX13_game_63 rfl ?_
    refine r_icmp_eq (t := 81) dX13_game_65 (by decide) (fun q => ?_) (fun q => ?_)
    · replace h := h.1 q
      refine r_vretV dX13_game_81 rfl (by decide) (by decide) h
    · replace h := h.2 q
      refine r_aload_n 0 dX13_game_68 rfl rfl ?_
      refine r_callVV (b' := (102, 0, 0)) (c := 100) (S := []) [] dX13_game_69 mX13_line lMX13_251 clX13 rfl iM100 sC100 rfl (by decide) (Nat.le_of_ble_eq_true rfl) h (fun M1 h => ?_) rfl
      refine r_aload_n 0 dX13_game_72 rfl rfl ?_
      refine r_bipush (v := 53) dX13_game_73 rfl ?_
      refine r_callVV (b' := (2, 0, 0)) (c := 100) (S := []) [.int 53] dX13_game_75 mX13_take lMX13_164 clX13 rfl iM100 sC100 rfl (by decide) (Nat.le_of_ble_eq_true rfl) h (fun M2 h => ?_) rfl
      refine r_goto (t := 47) dX13_game_78 (by decide) ?_
      exact h
set_option maxHeartbeats 4000000 in
set_option maxRecDepth 100000 in
theorem C_X13_game (G : eG) (M : eM) (F : eM → Prop) 
    (h : Cal G 100 40 (2, 0, 0) kX13_takes [.ref (G.1 100), .int 0] M (eFZ (fun (r1 : Bool) (M1 : eM) => ((r1 = false) → Ev (eZ G 100 40 0 0 (eFV F)) G 100 40 (103, 0, 0) kX13_game 47 [(0, .ref (G.1 100))] [] M1 0 0) ∧ ((r1 = true) → Cal G 100 40 (3, 0, 0) kX13_numberIn [.ref (G.1 100), .int 3, .int 7] M1 (eFI (fun (r2 : Int32) (M2 : eM) => Cal G 100 40 (2, 0, 0) kX13_take [.ref (G.1 100), .int 1] (eU M2 118 0 r2) (eFV (fun (M3 : eM) => Cal G 100 40 (3, 0, 0) kX13_numberIn [.ref (G.1 100), .int 3, .int 7] M3 (eFI (fun (r4 : Int32) (M4 : eM) => Cal G 100 40 (2, 0, 0) kX13_take [.ref (G.1 100), .int 53] (eU M4 118 1 r4) (eFV (fun (M5 : eM) => Ev (eZ G 100 40 0 0 (eFV F)) G 100 40 (103, 0, 0) kX13_game 47 [(0, .ref (G.1 100))] [] M5 0 0)))))))))))) :
    Cal G 100 40 (103, 0, 0) kX13_game [.ref (G.1 100)] M (eFV F) := by
  refine Cal.of (by decide +kernel) rfl (Nat.le_of_ble_eq_true rfl) ?_
  show Ev (eZ G 100 40 0 0 (eFV F)) G 100 40 (103, 0, 0) kX13_game 0 [(0, .ref (G.1 100))] [] M 0 0
  refine r_aload_n 0 dX13_game_0 rfl rfl ?_
  refine r_iconst (v := 0) dX13_game_1 rfl ?_
  refine r_callVZ (b' := (2, 0, 0)) (c := 100) (S := []) [.int 0] dX13_game_2 mX13_takes lMX13_182 clX13 rfl iM100 sC100 rfl (by decide) (Nat.le_of_ble_eq_true rfl) h (fun r1 M1 h => ?_) rfl
  refine r_zif_eq (t := 47) dX13_game_5 (by decide) (fun q => ?_) (fun q => ?_)
  · replace h := h.1 q
    exact h
  · replace h := h.2 q
    refine r_aload_n 0 dX13_game_8 rfl rfl ?_
    refine r_getR (c := 100) (k := 15) 118 dX13_game_9 clX13 lFX13_39 (by decide) iM100 sC100 rfl ?_
    refine r_aload_n 0 dX13_game_12 rfl rfl ?_
    refine r_iconst (v := 3) dX13_game_13 rfl ?_
    refine r_bipush (v := 7) dX13_game_14 rfl ?_
    refine r_callVI (b' := (3, 0, 0)) (c := 100) (S := [.ref (G.1 118)]) [.int 3, .int 7] dX13_game_16 mX13_numberIn lMX13_217 clX13 rfl iM100 sC100 rfl (by decide) (Nat.le_of_ble_eq_true rfl) h (fun r2 M2 h => ?_) rfl
    refine r_putNI (c := 118) (k := 0) dX13_game_19 clX12 lFX13_245 (by decide) iM118 sC118 rfl rfl rfl ?_
    refine r_aload_n 0 dX13_game_22 rfl rfl ?_
    refine r_iconst (v := 1) dX13_game_23 rfl ?_
    refine r_callVV (b' := (2, 0, 0)) (c := 100) (S := []) [.int 1] dX13_game_24 mX13_take lMX13_164 clX13 rfl iM100 sC100 rfl (by decide) (Nat.le_of_ble_eq_true rfl) h (fun M3 h => ?_) rfl
    refine r_aload_n 0 dX13_game_27 rfl rfl ?_
    refine r_getR (c := 100) (k := 15) 118 dX13_game_28 clX13 lFX13_39 (by decide) iM100 sC100 rfl ?_
    refine r_aload_n 0 dX13_game_31 rfl rfl ?_
    refine r_iconst (v := 3) dX13_game_32 rfl ?_
    refine r_bipush (v := 7) dX13_game_33 rfl ?_
    refine r_callVI (b' := (3, 0, 0)) (c := 100) (S := [.ref (G.1 118)]) [.int 3, .int 7] dX13_game_35 mX13_numberIn lMX13_217 clX13 rfl iM100 sC100 rfl (by decide) (Nat.le_of_ble_eq_true rfl) h (fun r4 M4 h => ?_) rfl
    refine r_putNI (c := 118) (k := 1) dX13_game_38 clX12 lFX13_248 (by decide) iM118 sC118 rfl rfl rfl ?_
    refine r_aload_n 0 dX13_game_41 rfl rfl ?_
    refine r_bipush (v := 53) dX13_game_42 rfl ?_
    refine r_callVV (b' := (2, 0, 0)) (c := 100) (S := []) [.int 53] dX13_game_44 mX13_take lMX13_164 clX13 rfl iM100 sC100 rfl (by decide) (Nat.le_of_ble_eq_true rfl) h (fun M5 h => ?_) rfl
    exact h
set_option maxHeartbeats 4000000 in
set_option maxRecDepth 100000 in
theorem C_X13_trim (G : eG) (M : eM) (F : Int32 → eM → Prop) (a1 : Int32)
    (h : Cal G 100 40 (1, 0, 0) kX13_isIn [.int a1, .int 0, .int ((eU M 100 0 0) 100 2)] (eU M 100 0 0) (eFZ (fun (r1 : Bool) (M1 : eM) => ((r1 = true) → F a1 (eU M1 100 2 a1)) ∧ ((r1 = false) → Cal G 100 40 (1, 0, 0) kX13_no [.ref (G.1 100), .int 1] M1 (eFI (fun (r2 : Int32) (M2 : eM) => F r2 M2)))))) :
    Cal G 100 40 (2, 0, 0) kX13_trim [.ref (G.1 100), .int a1] M (eFI F) := by
  refine Cal.of (by decide +kernel) rfl (Nat.le_of_ble_eq_true rfl) ?_
  show Ev (eZ G 100 40 0 0 (eFI F)) G 100 40 (2, 0, 0) kX13_trim 0 [(0, .ref (G.1 100)), (1, .int a1)] [] M 0 0
  refine r_aload_n 0 dX13_trim_0 rfl rfl ?_
  refine r_iconst (v := 0) dX13_trim_1 rfl ?_
  refine r_putI (c := 100) (k := 0) dX13_trim_2 clX13 lFX13_65 (by decide) iM100 sC100 rfl rfl rfl ?_
  refine r_iload_n 1 dX13_trim_5 rfl rfl ?_
  refine r_iconst (v := 0) dX13_trim_6 rfl ?_
  refine r_aload_n 0 dX13_trim_7 rfl rfl ?_
  refine r_getI (c := 100) (k := 2) dX13_trim_8 clX13 lFX13_72 (by decide) iM100 sC100 rfl ?_
  refine r_callSZ (b' := (1, 0, 0)) (S := []) [.int a1, .int 0, .int ((eU M 100 0 0) 100 2)] dX13_trim_11 mX13_isIn lMX13_68 rfl (by decide) (Nat.le_of_ble_eq_true rfl) h (fun r1 M1 h => ?_) rfl
  refine r_zif_ne (t := 23) dX13_trim_14 (by decide) (fun q => ?_) (fun q => ?_)
  · replace h := h.1 q
    refine r_aload_n 0 dX13_trim_23 rfl rfl ?_
    refine r_iload_n 1 dX13_trim_24 rfl rfl ?_
    refine r_putI (c := 100) (k := 2) dX13_trim_25 clX13 lFX13_72 (by decide) iM100 sC100 rfl rfl rfl ?_
    refine r_iload_n 1 dX13_trim_28 rfl rfl ?_
    refine r_iretI dX13_trim_29 rfl (by decide) (by decide) h
  · replace h := h.2 q
    refine r_aload_n 0 dX13_trim_17 rfl rfl ?_
    refine r_iconst (v := 1) dX13_trim_18 rfl ?_
    refine r_callVI (b' := (1, 0, 0)) (c := 100) (S := []) [.int 1] dX13_trim_19 mX13_no lMX13_254 clX13 rfl iM100 sC100 rfl (by decide) (Nat.le_of_ble_eq_true rfl) h (fun r2 M2 h => ?_) rfl
    refine r_iretI dX13_trim_22 rfl (by decide) (by decide) h
set_option maxHeartbeats 4000000 in
set_option maxRecDepth 100000 in
theorem C_X13_teach (G : eG) (M : eM) (F : Int32 → eM → Prop) 
    (h : Cal G 100 40 (1, 0, 0) kX12_begin [.ref (G.1 118)] (eU (eU (eU (eU (eU M 100 0 0) 100 8 0) 100 9 0) 100 10 0) 100 12 0) (eFV (fun (M1 : eM) => Cal G 100 40 (9, 0, 0) kX13_readAll [.ref (G.1 100)] M1 (eFV (fun (M2 : eM) => Cal G 100 40 (103, 0, 0) kX13_game [.ref (G.1 100)] M2 (eFV (fun (M3 : eM) => ((¬ ((eU M3 100 2 0) 100 10) = 0) → vp_in ((eU M3 100 2 0) 100 11) 402 ∧ (((((eU (eU M3 100 2 0) 100 3 ((eU M3 100 2 0) 104 ((eU M3 100 2 0) 100 11).toNatClampNeg)) 100 10) = 0) → Cal G 100 40 (2, 0, 0) kX12_become [.ref (G.1 107), .ref (G.1 118)] (eU (eU M3 100 2 0) 100 3 ((eU M3 100 2 0) 104 ((eU M3 100 2 0) 100 11).toNatClampNeg)) (eFV (fun (M4 : eM) => Cal G 100 40 (1, 0, 0) kX11_begin [.ref (G.1 130)] M4 (eFV (fun (M5 : eM) => F 0 M5))))) ∧ ((¬ ((eU (eU M3 100 2 0) 100 3 ((eU M3 100 2 0) 104 ((eU M3 100 2 0) 100 11).toNatClampNeg)) 100 10) = 0) → F ((eU (eU M3 100 2 0) 100 3 ((eU M3 100 2 0) 104 ((eU M3 100 2 0) 100 11).toNatClampNeg)) 100 10) (eU (eU M3 100 2 0) 100 3 ((eU M3 100 2 0) 104 ((eU M3 100 2 0) 100 11).toNatClampNeg))))) ∧ ((((eU M3 100 2 0) 100 10) = 0) → ((((eU (eU M3 100 2 0) 100 3 (-1)) 100 10) = 0) → Cal G 100 40 (2, 0, 0) kX12_become [.ref (G.1 107), .ref (G.1 118)] (eU (eU M3 100 2 0) 100 3 (-1)) (eFV (fun (M6 : eM) => Cal G 100 40 (1, 0, 0) kX11_begin [.ref (G.1 130)] M6 (eFV (fun (M7 : eM) => F 0 M7))))) ∧ ((¬ ((eU (eU M3 100 2 0) 100 3 (-1)) 100 10) = 0) → F ((eU (eU M3 100 2 0) 100 3 (-1)) 100 10) (eU (eU M3 100 2 0) 100 3 (-1))))))))))) :
    Cal G 100 40 (104, 0, 0) kX13_teach [.ref (G.1 100)] M (eFI F) := by
  refine Cal.of (by decide +kernel) rfl (Nat.le_of_ble_eq_true rfl) ?_
  show Ev (eZ G 100 40 0 0 (eFI F)) G 100 40 (104, 0, 0) kX13_teach 0 [(0, .ref (G.1 100))] [] M 0 0
  refine r_aload_n 0 dX13_teach_0 rfl rfl ?_
  refine r_iconst (v := 0) dX13_teach_1 rfl ?_
  refine r_putI (c := 100) (k := 0) dX13_teach_2 clX13 lFX13_65 (by decide) iM100 sC100 rfl rfl rfl ?_
  refine r_aload_n 0 dX13_teach_5 rfl rfl ?_
  refine r_iconst (v := 0) dX13_teach_6 rfl ?_
  refine r_putI (c := 100) (k := 8) dX13_teach_7 clX13 lFX13_120 (by decide) iM100 sC100 rfl rfl rfl ?_
  refine r_aload_n 0 dX13_teach_10 rfl rfl ?_
  refine r_iconst (v := 0) dX13_teach_11 rfl ?_
  refine r_putZ (c := 100) (k := 9) dX13_teach_12 clX13 lFX13_116 (by decide) iM100 sC100 rfl rfl rfl (by first | exact Or.inl rfl | exact Or.inr rfl) ?_
  refine r_aload_n 0 dX13_teach_15 rfl rfl ?_
  refine r_iconst (v := 0) dX13_teach_16 rfl ?_
  refine r_putI (c := 100) (k := 10) dX13_teach_17 clX13 lFX13_123 (by decide) iM100 sC100 rfl rfl rfl ?_
  refine r_aload_n 0 dX13_teach_20 rfl rfl ?_
  refine r_iconst (v := 0) dX13_teach_21 rfl ?_
  refine r_putI (c := 100) (k := 12) dX13_teach_22 clX13 lFX13_135 (by decide) iM100 sC100 rfl rfl rfl ?_
  refine r_aload_n 0 dX13_teach_25 rfl rfl ?_
  refine r_getR (c := 100) (k := 15) 118 dX13_teach_26 clX13 lFX13_39 (by decide) iM100 sC100 rfl ?_
  refine r_callVV (b' := (1, 0, 0)) (c := 118) (S := []) [] dX13_teach_29 mX12_begin lMX13_257 clX12 rfl iM118 sC118 rfl (by decide) (Nat.le_of_ble_eq_true rfl) h (fun M1 h => ?_) rfl
  refine r_aload_n 0 dX13_teach_32 rfl rfl ?_
  refine r_callVV (b' := (9, 0, 0)) (c := 100) (S := []) [] dX13_teach_33 mX13_readAll lMX13_258 clX13 rfl iM100 sC100 rfl (by decide) (Nat.le_of_ble_eq_true rfl) h (fun M2 h => ?_) rfl
  refine r_aload_n 0 dX13_teach_36 rfl rfl ?_
  refine r_callVV (b' := (103, 0, 0)) (c := 100) (S := []) [] dX13_teach_37 mX13_game lMX13_261 clX13 rfl iM100 sC100 rfl (by decide) (Nat.le_of_ble_eq_true rfl) h (fun M3 h => ?_) rfl
  refine r_aload_n 0 dX13_teach_40 rfl rfl ?_
  refine r_iconst (v := 0) dX13_teach_41 rfl ?_
  refine r_putI (c := 100) (k := 2) dX13_teach_42 clX13 lFX13_72 (by decide) iM100 sC100 rfl rfl rfl ?_
  refine r_aload_n 0 dX13_teach_45 rfl rfl ?_
  refine r_aload_n 0 dX13_teach_46 rfl rfl ?_
  refine r_getI (c := 100) (k := 10) dX13_teach_47 clX13 lFX13_123 (by decide) iM100 sC100 rfl ?_
  refine r_if_ne (t := 57) dX13_teach_50 (by decide) (fun q => ?_) (fun q => ?_)
  · replace h := h.1 q
    refine r_aload_n 0 dX13_teach_57 rfl rfl ?_
    refine r_getR (c := 100) (k := 6) 104 dX13_teach_58 clX13 lFX13_23 (by decide) iM100 sC100 rfl ?_
    refine r_aload_n 0 dX13_teach_61 rfl rfl ?_
    refine r_getI (c := 100) (k := 11) dX13_teach_62 clX13 lFX13_126 (by decide) iM100 sC100 rfl ?_
    have h1 := h.1
    replace h := h.2
    refine r_iald (c := 104) (N := 402) dX13_teach_65 iM104 sC104 h1 ?_
    refine r_putI (c := 100) (k := 3) dX13_teach_66 clX13 lFX13_13 (by decide) iM100 sC100 rfl rfl rfl ?_
    refine r_aload_n 0 dX13_teach_69 rfl rfl ?_
    refine r_getI (c := 100) (k := 10) dX13_teach_70 clX13 lFX13_123 (by decide) iM100 sC100 rfl ?_
    refine r_if_eq (t := 81) dX13_teach_73 (by decide) (fun q => ?_) (fun q => ?_)
    · replace h := h.1 q
      refine r_aload_n 0 dX13_teach_81 rfl rfl ?_
      refine r_getR (c := 100) (k := 14) 107 dX13_teach_82 clX13 lFX13_35 (by decide) iM100 sC100 rfl ?_
      refine r_aload_n 0 dX13_teach_85 rfl rfl ?_
      refine r_getR (c := 100) (k := 15) 118 dX13_teach_86 clX13 lFX13_39 (by decide) iM100 sC100 rfl ?_
      refine r_callVV (b' := (2, 0, 0)) (c := 107) (S := []) [.ref (G.1 118)] dX13_teach_89 mX12_become lMX13_264 clX12 rfl iM107 sC107 rfl (by decide) (Nat.le_of_ble_eq_true rfl) h (fun M4 h => ?_) rfl
      refine r_aload_n 0 dX13_teach_92 rfl rfl ?_
      refine r_getR (c := 100) (k := 17) 130 dX13_teach_93 clX13 lFX13_48 (by decide) iM100 sC100 rfl ?_
      refine r_callVV (b' := (1, 0, 0)) (c := 130) (S := []) [] dX13_teach_96 mX11_begin lMX13_62 clX11 rfl iM130 sC130 rfl (by decide) (Nat.le_of_ble_eq_true rfl) h (fun M5 h => ?_) rfl
      refine r_iconst (v := 0) dX13_teach_99 rfl ?_
      refine r_iretI dX13_teach_100 rfl (by decide) (by decide) h
    · replace h := h.2 q
      refine r_aload_n 0 dX13_teach_76 rfl rfl ?_
      refine r_getI (c := 100) (k := 10) dX13_teach_77 clX13 lFX13_123 (by decide) iM100 sC100 rfl ?_
      refine r_iretI dX13_teach_80 rfl (by decide) (by decide) h
  · replace h := h.2 q
    refine r_iconst (v := (-1)) dX13_teach_53 rfl ?_
    refine r_goto (t := 66) dX13_teach_54 (by decide) ?_
    refine r_putI (c := 100) (k := 3) dX13_teach_66 clX13 lFX13_13 (by decide) iM100 sC100 rfl rfl rfl ?_
    refine r_aload_n 0 dX13_teach_69 rfl rfl ?_
    refine r_getI (c := 100) (k := 10) dX13_teach_70 clX13 lFX13_123 (by decide) iM100 sC100 rfl ?_
    refine r_if_eq (t := 81) dX13_teach_73 (by decide) (fun q => ?_) (fun q => ?_)
    · replace h := h.1 q
      refine r_aload_n 0 dX13_teach_81 rfl rfl ?_
      refine r_getR (c := 100) (k := 14) 107 dX13_teach_82 clX13 lFX13_35 (by decide) iM100 sC100 rfl ?_
      refine r_aload_n 0 dX13_teach_85 rfl rfl ?_
      refine r_getR (c := 100) (k := 15) 118 dX13_teach_86 clX13 lFX13_39 (by decide) iM100 sC100 rfl ?_
      refine r_callVV (b' := (2, 0, 0)) (c := 107) (S := []) [.ref (G.1 118)] dX13_teach_89 mX12_become lMX13_264 clX12 rfl iM107 sC107 rfl (by decide) (Nat.le_of_ble_eq_true rfl) h (fun M6 h => ?_) rfl
      refine r_aload_n 0 dX13_teach_92 rfl rfl ?_
      refine r_getR (c := 100) (k := 17) 130 dX13_teach_93 clX13 lFX13_48 (by decide) iM100 sC100 rfl ?_
      refine r_callVV (b' := (1, 0, 0)) (c := 130) (S := []) [] dX13_teach_96 mX11_begin lMX13_62 clX11 rfl iM130 sC130 rfl (by decide) (Nat.le_of_ble_eq_true rfl) h (fun M7 h => ?_) rfl
      refine r_iconst (v := 0) dX13_teach_99 rfl ?_
      refine r_iretI dX13_teach_100 rfl (by decide) (by decide) h
    · replace h := h.2 q
      refine r_aload_n 0 dX13_teach_76 rfl rfl ?_
      refine r_getI (c := 100) (k := 10) dX13_teach_77 clX13 lFX13_123 (by decide) iM100 sC100 rfl ?_
      refine r_iretI dX13_teach_80 rfl (by decide) (by decide) h
