set_option maxHeartbeats 4000000 in
set_option maxRecDepth 100000 in
theorem B_X11_begin_130_23 (G : eG) (M : eM) (F : eM → Prop) (x1 : Int32)
    (h : ((16 ≤ x1) → F (eU (eU M 130 3 0) 130 4 0)) ∧ ((¬ 16 ≤ x1) → vp_in x1 16 ∧ (Ev (eZ G 100 40 0 0 (eFV F)) G 100 40 (1, 0, 0) kX11_begin 23 [(0, .ref (G.1 130)), (1, .int (x1 + 1))] [] (eU M 132 x1.toNatClampNeg (-1)) 0 0))) :
    Ev (eZ G 100 40 0 0 (eFV F)) G 100 40 (1, 0, 0) kX11_begin 23 [(0, .ref (G.1 130)), (1, .int x1)] [] M 0 0 := by
  refine r_iload_n 1 dX11_begin_23 rfl rfl ?_
  refine r_bipush (v := 16) dX11_begin_24 rfl ?_
  refine r_icmp_ge (t := 42) dX11_begin_26 (by decide) (fun q => ?_) (fun q => ?_)
  · replace h := h.1 q
    refine r_aload_n 0 dX11_begin_42 rfl rfl ?_
    refine r_iconst (v := 0) dX11_begin_43 rfl ?_
    refine r_putI (c := 130) (k := 3) dX11_begin_44 clX11 lFX11_21 (by decide) iM130 sC130 rfl rfl rfl ?_
    refine r_aload_n 0 dX11_begin_47 rfl rfl ?_
    refine r_iconst (v := 0) dX11_begin_48 rfl ?_
    refine r_putI (c := 130) (k := 4) dX11_begin_49 clX11 lFX11_25 (by decide) iM130 sC130 rfl rfl rfl ?_
    refine r_vretV dX11_begin_52 rfl (by decide) (by decide) h
  · replace h := h.2 q
    refine r_aload_n 0 dX11_begin_29 rfl rfl ?_
    refine r_getR (c := 130) (k := 1) 132 dX11_begin_30 clX11 lFX11_15 (by decide) iM130 sC130 rfl ?_
    refine r_iload_n 1 dX11_begin_33 rfl rfl ?_
    refine r_iconst (v := (-1)) dX11_begin_34 rfl ?_
    have h1 := h.1
    replace h := h.2
    refine r_iast (c := 132) (N := 16) dX11_begin_35 iM132 sC132 h1 ?_
    refine r_iinc (v := x1 + 1) (l' := [(1, .int (x1 + 1)), (0, .ref (G.1 130))]) 1 dX11_begin_36 rfl rfl (by decide) rfl ?_
    refine r_goto (t := 23) dX11_begin_39 (by decide) ?_
    exact Ev.sub (ks := [1, 0]) rfl h
set_option maxHeartbeats 4000000 in
set_option maxRecDepth 100000 in
theorem B_X11_begin_130_2 (G : eG) (M : eM) (F : eM → Prop) (x1 : Int32)
    (h : ((49 ≤ x1) → Ev (eZ G 100 40 0 0 (eFV F)) G 100 40 (1, 0, 0) kX11_begin 23 [(0, .ref (G.1 130)), (1, .int 0)] [] M 0 0) ∧ ((¬ 49 ≤ x1) → vp_in x1 49 ∧ (Ev (eZ G 100 40 0 0 (eFV F)) G 100 40 (1, 0, 0) kX11_begin 2 [(0, .ref (G.1 130)), (1, .int (x1 + 1))] [] (eU M 131 x1.toNatClampNeg (-1)) 0 0))) :
    Ev (eZ G 100 40 0 0 (eFV F)) G 100 40 (1, 0, 0) kX11_begin 2 [(0, .ref (G.1 130)), (1, .int x1)] [] M 0 0 := by
  refine r_iload_n 1 dX11_begin_2 rfl rfl ?_
  refine r_bipush (v := 49) dX11_begin_3 rfl ?_
  refine r_icmp_ge (t := 21) dX11_begin_5 (by decide) (fun q => ?_) (fun q => ?_)
  · replace h := h.1 q
    refine r_iconst (v := 0) dX11_begin_21 rfl ?_
    refine r_istore_n (l' := [(1, .int 0), (0, .ref (G.1 130))]) dX11_begin_22 rfl (by decide) rfl ?_
    exact Ev.sub (ks := [1, 0]) rfl h
  · replace h := h.2 q
    refine r_aload_n 0 dX11_begin_8 rfl rfl ?_
    refine r_getR (c := 130) (k := 0) 131 dX11_begin_9 clX11 lFX11_9 (by decide) iM130 sC130 rfl ?_
    refine r_iload_n 1 dX11_begin_12 rfl rfl ?_
    refine r_iconst (v := (-1)) dX11_begin_13 rfl ?_
    have h1 := h.1
    replace h := h.2
    refine r_iast (c := 131) (N := 49) dX11_begin_14 iM131 sC131 h1 ?_
    refine r_iinc (v := x1 + 1) (l' := [(1, .int (x1 + 1)), (0, .ref (G.1 130))]) 1 dX11_begin_15 rfl rfl (by decide) rfl ?_
    refine r_goto (t := 2) dX11_begin_18 (by decide) ?_
    exact Ev.sub (ks := [1, 0]) rfl h
set_option maxHeartbeats 4000000 in
set_option maxRecDepth 100000 in
theorem C_X11_begin_130 (G : eG) (M : eM) (F : eM → Prop) 
    (h : Ev (eZ G 100 40 0 0 (eFV F)) G 100 40 (1, 0, 0) kX11_begin 2 [(0, .ref (G.1 130)), (1, .int 0)] [] M 0 0) :
    Cal G 100 40 (1, 0, 0) kX11_begin [.ref (G.1 130)] M (eFV F) := by
  refine Cal.of (by decide +kernel) rfl (Nat.le_of_ble_eq_true rfl) ?_
  show Ev (eZ G 100 40 0 0 (eFV F)) G 100 40 (1, 0, 0) kX11_begin 0 [(0, .ref (G.1 130))] [] M 0 0
  refine r_iconst (v := 0) dX11_begin_0 rfl ?_
  refine r_istore_n (l' := [(1, .int 0), (0, .ref (G.1 130))]) dX11_begin_1 rfl (by decide) rfl ?_
  exact Ev.sub (ks := [1, 0]) rfl h
set_option maxHeartbeats 4000000 in
set_option maxRecDepth 100000 in
theorem B_X11_begin_134_23 (G : eG) (M : eM) (F : eM → Prop) (x1 : Int32)
    (h : ((16 ≤ x1) → F (eU (eU M 134 3 0) 134 4 0)) ∧ ((¬ 16 ≤ x1) → vp_in x1 16 ∧ (Ev (eZ G 100 40 0 0 (eFV F)) G 100 40 (1, 0, 0) kX11_begin 23 [(0, .ref (G.1 134)), (1, .int (x1 + 1))] [] (eU M 136 x1.toNatClampNeg (-1)) 0 0))) :
    Ev (eZ G 100 40 0 0 (eFV F)) G 100 40 (1, 0, 0) kX11_begin 23 [(0, .ref (G.1 134)), (1, .int x1)] [] M 0 0 := by
  refine r_iload_n 1 dX11_begin_23 rfl rfl ?_
  refine r_bipush (v := 16) dX11_begin_24 rfl ?_
  refine r_icmp_ge (t := 42) dX11_begin_26 (by decide) (fun q => ?_) (fun q => ?_)
  · replace h := h.1 q
    refine r_aload_n 0 dX11_begin_42 rfl rfl ?_
    refine r_iconst (v := 0) dX11_begin_43 rfl ?_
    refine r_putI (c := 134) (k := 3) dX11_begin_44 clX11 lFX11_21 (by decide) iM134 sC134 rfl rfl rfl ?_
    refine r_aload_n 0 dX11_begin_47 rfl rfl ?_
    refine r_iconst (v := 0) dX11_begin_48 rfl ?_
    refine r_putI (c := 134) (k := 4) dX11_begin_49 clX11 lFX11_25 (by decide) iM134 sC134 rfl rfl rfl ?_
    refine r_vretV dX11_begin_52 rfl (by decide) (by decide) h
  · replace h := h.2 q
    refine r_aload_n 0 dX11_begin_29 rfl rfl ?_
    refine r_getR (c := 134) (k := 1) 136 dX11_begin_30 clX11 lFX11_15 (by decide) iM134 sC134 rfl ?_
    refine r_iload_n 1 dX11_begin_33 rfl rfl ?_
    refine r_iconst (v := (-1)) dX11_begin_34 rfl ?_
    have h1 := h.1
    replace h := h.2
    refine r_iast (c := 136) (N := 16) dX11_begin_35 iM136 sC136 h1 ?_
    refine r_iinc (v := x1 + 1) (l' := [(1, .int (x1 + 1)), (0, .ref (G.1 134))]) 1 dX11_begin_36 rfl rfl (by decide) rfl ?_
    refine r_goto (t := 23) dX11_begin_39 (by decide) ?_
    exact Ev.sub (ks := [1, 0]) rfl h
set_option maxHeartbeats 4000000 in
set_option maxRecDepth 100000 in
theorem B_X11_begin_134_2 (G : eG) (M : eM) (F : eM → Prop) (x1 : Int32)
    (h : ((49 ≤ x1) → Ev (eZ G 100 40 0 0 (eFV F)) G 100 40 (1, 0, 0) kX11_begin 23 [(0, .ref (G.1 134)), (1, .int 0)] [] M 0 0) ∧ ((¬ 49 ≤ x1) → vp_in x1 49 ∧ (Ev (eZ G 100 40 0 0 (eFV F)) G 100 40 (1, 0, 0) kX11_begin 2 [(0, .ref (G.1 134)), (1, .int (x1 + 1))] [] (eU M 135 x1.toNatClampNeg (-1)) 0 0))) :
    Ev (eZ G 100 40 0 0 (eFV F)) G 100 40 (1, 0, 0) kX11_begin 2 [(0, .ref (G.1 134)), (1, .int x1)] [] M 0 0 := by
  refine r_iload_n 1 dX11_begin_2 rfl rfl ?_
  refine r_bipush (v := 49) dX11_begin_3 rfl ?_
  refine r_icmp_ge (t := 21) dX11_begin_5 (by decide) (fun q => ?_) (fun q => ?_)
  · replace h := h.1 q
    refine r_iconst (v := 0) dX11_begin_21 rfl ?_
    refine r_istore_n (l' := [(1, .int 0), (0, .ref (G.1 134))]) dX11_begin_22 rfl (by decide) rfl ?_
    exact Ev.sub (ks := [1, 0]) rfl h
  · replace h := h.2 q
    refine r_aload_n 0 dX11_begin_8 rfl rfl ?_
    refine r_getR (c := 134) (k := 0) 135 dX11_begin_9 clX11 lFX11_9 (by decide) iM134 sC134 rfl ?_
    refine r_iload_n 1 dX11_begin_12 rfl rfl ?_
    refine r_iconst (v := (-1)) dX11_begin_13 rfl ?_
    have h1 := h.1
    replace h := h.2
    refine r_iast (c := 135) (N := 49) dX11_begin_14 iM135 sC135 h1 ?_
    refine r_iinc (v := x1 + 1) (l' := [(1, .int (x1 + 1)), (0, .ref (G.1 134))]) 1 dX11_begin_15 rfl rfl (by decide) rfl ?_
    refine r_goto (t := 2) dX11_begin_18 (by decide) ?_
    exact Ev.sub (ks := [1, 0]) rfl h
set_option maxHeartbeats 4000000 in
set_option maxRecDepth 100000 in
theorem C_X11_begin_134 (G : eG) (M : eM) (F : eM → Prop) 
    (h : Ev (eZ G 100 40 0 0 (eFV F)) G 100 40 (1, 0, 0) kX11_begin 2 [(0, .ref (G.1 134)), (1, .int 0)] [] M 0 0) :
    Cal G 100 40 (1, 0, 0) kX11_begin [.ref (G.1 134)] M (eFV F) := by
  refine Cal.of (by decide +kernel) rfl (Nat.le_of_ble_eq_true rfl) ?_
  show Ev (eZ G 100 40 0 0 (eFV F)) G 100 40 (1, 0, 0) kX11_begin 0 [(0, .ref (G.1 134))] [] M 0 0
  refine r_iconst (v := 0) dX11_begin_0 rfl ?_
  refine r_istore_n (l' := [(1, .int 0), (0, .ref (G.1 134))]) dX11_begin_1 rfl (by decide) rfl ?_
  exact Ev.sub (ks := [1, 0]) rfl h
set_option maxHeartbeats 4000000 in
set_option maxRecDepth 100000 in
theorem C_X11_become (G : eG) (M : eM) (F : eM → Prop) 
    (h : Cal G 100 40 (1, 0, 0) kX12_copy [.ref (G.1 131), .ref (G.1 135)] M (eFV (fun (M1 : eM) => Cal G 100 40 (1, 0, 0) kX12_copy [.ref (G.1 132), .ref (G.1 136)] M1 (eFV (fun (M2 : eM) => Cal G 100 40 (1, 0, 0) kX12_copy [.ref (G.1 133), .ref (G.1 137)] M2 (eFV (fun (M3 : eM) => F (eU (eU M3 134 3 (M3 130 3)) 134 4 ((eU M3 134 3 (M3 130 3)) 130 4))))))))) :
    Cal G 100 40 (2, 0, 0) kX11_become [.ref (G.1 134), .ref (G.1 130)] M (eFV F) := by
  refine Cal.of (by decide +kernel) rfl (Nat.le_of_ble_eq_true rfl) ?_
  show Ev (eZ G 100 40 0 0 (eFV F)) G 100 40 (2, 0, 0) kX11_become 0 [(0, .ref (G.1 134)), (1, .ref (G.1 130))] [] M 0 0
  refine r_aload_n 1 dX11_become_0 rfl rfl ?_
  refine r_getR (c := 130) (k := 0) 131 dX11_become_1 clX11 lFX11_9 (by decide) iM130 sC130 rfl ?_
  refine r_aload_n 0 dX11_become_4 rfl rfl ?_
  refine r_getR (c := 134) (k := 0) 135 dX11_become_5 clX11 lFX11_9 (by decide) iM134 sC134 rfl ?_
  refine r_callSNV (b' := (1, 0, 0)) (S := []) [.ref (G.1 131), .ref (G.1 135)] dX11_become_8 mX12_copy lMX11_28 rfl (by decide) (Nat.le_of_ble_eq_true rfl) h (fun M1 h => ?_) rfl
  refine r_aload_n 1 dX11_become_11 rfl rfl ?_
  refine r_getR (c := 130) (k := 1) 132 dX11_become_12 clX11 lFX11_15 (by decide) iM130 sC130 rfl ?_
  refine r_aload_n 0 dX11_become_15 rfl rfl ?_
  refine r_getR (c := 134) (k := 1) 136 dX11_become_16 clX11 lFX11_15 (by decide) iM134 sC134 rfl ?_
  refine r_callSNV (b' := (1, 0, 0)) (S := []) [.ref (G.1 132), .ref (G.1 136)] dX11_become_19 mX12_copy lMX11_28 rfl (by decide) (Nat.le_of_ble_eq_true rfl) h (fun M2 h => ?_) rfl
  refine r_aload_n 1 dX11_become_22 rfl rfl ?_
  refine r_getR (c := 130) (k := 2) 133 dX11_become_23 clX11 lFX11_18 (by decide) iM130 sC130 rfl ?_
  refine r_aload_n 0 dX11_become_26 rfl rfl ?_
  refine r_getR (c := 134) (k := 2) 137 dX11_become_27 clX11 lFX11_18 (by decide) iM134 sC134 rfl ?_
  refine r_callSNV (b' := (1, 0, 0)) (S := []) [.ref (G.1 133), .ref (G.1 137)] dX11_become_30 mX12_copy lMX11_28 rfl (by decide) (Nat.le_of_ble_eq_true rfl) h (fun M3 h => ?_) rfl
  refine r_aload_n 0 dX11_become_33 rfl rfl ?_
  refine r_aload_n 1 dX11_become_34 rfl rfl ?_
  refine r_getI (c := 130) (k := 3) dX11_become_35 clX11 lFX11_21 (by decide) iM130 sC130 rfl ?_
  refine r_putI (c := 134) (k := 3) dX11_become_38 clX11 lFX11_21 (by decide) iM134 sC134 rfl rfl rfl ?_
  refine r_aload_n 0 dX11_become_41 rfl rfl ?_
  refine r_aload_n 1 dX11_become_42 rfl rfl ?_
  refine r_getI (c := 130) (k := 4) dX11_become_43 clX11 lFX11_25 (by decide) iM130 sC130 rfl ?_
  refine r_putI (c := 134) (k := 4) dX11_become_46 clX11 lFX11_25 (by decide) iM134 sC134 rfl rfl rfl ?_
  refine r_vretV dX11_become_49 rfl (by decide) (by decide) h
set_option maxHeartbeats 4000000 in
set_option maxRecDepth 100000 in
theorem C_X11_put_130 (G : eG) (M : eM) (F : eM → Prop) (a1 : Int32) (a2 : Int32) (a3 : Int32)
    (h : vp_in a2 49 ∧ (vp_in a1 16 ∧ (vp_in a1 16 ∧ (F (eU (eU (eU (eU M 131 a2.toNatClampNeg a1) 132 a1.toNatClampNeg a2) 133 a1.toNatClampNeg a3) 130 3 (((eU (eU (eU M 131 a2.toNatClampNeg a1) 132 a1.toNatClampNeg a2) 133 a1.toNatClampNeg a3) 130 3) + 1)))))) :
    Cal G 100 40 (1, 0, 0) kX11_put [.ref (G.1 130), .int a1, .int a2, .int a3] M (eFV F) := by
  refine Cal.of (by decide +kernel) rfl (Nat.le_of_ble_eq_true rfl) ?_
  show Ev (eZ G 100 40 0 0 (eFV F)) G 100 40 (1, 0, 0) kX11_put 0 [(0, .ref (G.1 130)), (1, .int a1), (2, .int a2), (3, .int a3)] [] M 0 0
  refine r_aload_n 0 dX11_put_0 rfl rfl ?_
  refine r_getR (c := 130) (k := 0) 131 dX11_put_1 clX11 lFX11_9 (by decide) iM130 sC130 rfl ?_
  refine r_iload_n 2 dX11_put_4 rfl rfl ?_
  refine r_iload_n 1 dX11_put_5 rfl rfl ?_
  have h1 := h.1
  replace h := h.2
  refine r_iast (c := 131) (N := 49) dX11_put_6 iM131 sC131 h1 ?_
  refine r_aload_n 0 dX11_put_7 rfl rfl ?_
  refine r_getR (c := 130) (k := 1) 132 dX11_put_8 clX11 lFX11_15 (by decide) iM130 sC130 rfl ?_
  refine r_iload_n 1 dX11_put_11 rfl rfl ?_
  refine r_iload_n 2 dX11_put_12 rfl rfl ?_
  have h1 := h.1
  replace h := h.2
  refine r_iast (c := 132) (N := 16) dX11_put_13 iM132 sC132 h1 ?_
  refine r_aload_n 0 dX11_put_14 rfl rfl ?_
  refine r_getR (c := 130) (k := 2) 133 dX11_put_15 clX11 lFX11_18 (by decide) iM130 sC130 rfl ?_
  refine r_iload_n 1 dX11_put_18 rfl rfl ?_
  refine r_iload_n 3 dX11_put_19 rfl rfl ?_
  have h1 := h.1
  replace h := h.2
  refine r_iast (c := 133) (N := 16) dX11_put_20 iM133 sC133 h1 ?_
  refine r_aload_n 0 dX11_put_21 rfl rfl ?_
  refine r_dup dX11_put_22 rfl ?_
  refine r_getI (c := 130) (k := 3) dX11_put_23 clX11 lFX11_21 (by decide) iM130 sC130 rfl ?_
  refine r_iconst (v := 1) dX11_put_26 rfl ?_
  refine r_iadd dX11_put_27 ?_
  refine r_putI (c := 130) (k := 3) dX11_put_28 clX11 lFX11_21 (by decide) iM130 sC130 rfl rfl rfl ?_
  refine r_vretV dX11_put_31 rfl (by decide) (by decide) h
set_option maxHeartbeats 4000000 in
set_option maxRecDepth 100000 in
theorem C_X11_put_134 (G : eG) (M : eM) (F : eM → Prop) (a1 : Int32) (a2 : Int32) (a3 : Int32)
    (h : vp_in a2 49 ∧ (vp_in a1 16 ∧ (vp_in a1 16 ∧ (F (eU (eU (eU (eU M 135 a2.toNatClampNeg a1) 136 a1.toNatClampNeg a2) 137 a1.toNatClampNeg a3) 134 3 (((eU (eU (eU M 135 a2.toNatClampNeg a1) 136 a1.toNatClampNeg a2) 137 a1.toNatClampNeg a3) 134 3) + 1)))))) :
    Cal G 100 40 (1, 0, 0) kX11_put [.ref (G.1 134), .int a1, .int a2, .int a3] M (eFV F) := by
  refine Cal.of (by decide +kernel) rfl (Nat.le_of_ble_eq_true rfl) ?_
  show Ev (eZ G 100 40 0 0 (eFV F)) G 100 40 (1, 0, 0) kX11_put 0 [(0, .ref (G.1 134)), (1, .int a1), (2, .int a2), (3, .int a3)] [] M 0 0
  refine r_aload_n 0 dX11_put_0 rfl rfl ?_
  refine r_getR (c := 134) (k := 0) 135 dX11_put_1 clX11 lFX11_9 (by decide) iM134 sC134 rfl ?_
  refine r_iload_n 2 dX11_put_4 rfl rfl ?_
  refine r_iload_n 1 dX11_put_5 rfl rfl ?_
  have h1 := h.1
  replace h := h.2
  refine r_iast (c := 135) (N := 49) dX11_put_6 iM135 sC135 h1 ?_
  refine r_aload_n 0 dX11_put_7 rfl rfl ?_
  refine r_getR (c := 134) (k := 1) 136 dX11_put_8 clX11 lFX11_15 (by decide) iM134 sC134 rfl ?_
  refine r_iload_n 1 dX11_put_11 rfl rfl ?_
  refine r_iload_n 2 dX11_put_12 rfl rfl ?_
  have h1 := h.1
  replace h := h.2
  refine r_iast (c := 136) (N := 16) dX11_put_13 iM136 sC136 h1 ?_
  refine r_aload_n 0 dX11_put_14 rfl rfl ?_
  refine r_getR (c := 134) (k := 2) 137 dX11_put_15 clX11 lFX11_18 (by decide) iM134 sC134 rfl ?_
  refine r_iload_n 1 dX11_put_18 rfl rfl ?_
  refine r_iload_n 3 dX11_put_19 rfl rfl ?_
  have h1 := h.1
  replace h := h.2
  refine r_iast (c := 137) (N := 16) dX11_put_20 iM137 sC137 h1 ?_
  refine r_aload_n 0 dX11_put_21 rfl rfl ?_
  refine r_dup dX11_put_22 rfl ?_
  refine r_getI (c := 134) (k := 3) dX11_put_23 clX11 lFX11_21 (by decide) iM134 sC134 rfl ?_
  refine r_iconst (v := 1) dX11_put_26 rfl ?_
  refine r_iadd dX11_put_27 ?_
  refine r_putI (c := 134) (k := 3) dX11_put_28 clX11 lFX11_21 (by decide) iM134 sC134 rfl rfl rfl ?_
  refine r_vretV dX11_put_31 rfl (by decide) (by decide) h
set_option maxHeartbeats 4000000 in
set_option maxRecDepth 100000 in
theorem C_X11_take_130 (G : eG) (M : eM) (F : eM → Prop) (a1 : Int32)
    (h : vp_in a1 16 ∧ (vp_in (M 132 a1.toNatClampNeg) 49 ∧ (vp_in a1 16 ∧ (F (eU (eU (eU M 131 (M 132 a1.toNatClampNeg).toNatClampNeg (-1)) 132 a1.toNatClampNeg (-1)) 130 3 (((eU (eU M 131 (M 132 a1.toNatClampNeg).toNatClampNeg (-1)) 132 a1.toNatClampNeg (-1)) 130 3) - 1)))))) :
    Cal G 100 40 (1, 0, 0) kX11_take [.ref (G.1 130), .int a1] M (eFV F) := by
  refine Cal.of (by decide +kernel) rfl (Nat.le_of_ble_eq_true rfl) ?_
  show Ev (eZ G 100 40 0 0 (eFV F)) G 100 40 (1, 0, 0) kX11_take 0 [(0, .ref (G.1 130)), (1, .int a1)] [] M 0 0
  refine r_aload_n 0 dX11_take_0 rfl rfl ?_
  refine r_getR (c := 130) (k := 0) 131 dX11_take_1 clX11 lFX11_9 (by decide) iM130 sC130 rfl ?_
  refine r_aload_n 0 dX11_take_4 rfl rfl ?_
  refine r_getR (c := 130) (k := 1) 132 dX11_take_5 clX11 lFX11_15 (by decide) iM130 sC130 rfl ?_
  refine r_iload_n 1 dX11_take_8 rfl rfl ?_
  have h1 := h.1
  replace h := h.2
  refine r_iald (c := 132) (N := 16) dX11_take_9 iM132 sC132 h1 ?_
  refine r_iconst (v := (-1)) dX11_take_10 rfl ?_
  have h1 := h.1
  replace h := h.2
  refine r_iast (c := 131) (N := 49) dX11_take_11 iM131 sC131 h1 ?_
  refine r_aload_n 0 dX11_take_12 rfl rfl ?_
  refine r_getR (c := 130) (k := 1) 132 dX11_take_13 clX11 lFX11_15 (by decide) iM130 sC130 rfl ?_
  refine r_iload_n 1 dX11_take_16 rfl rfl ?_
  refine r_iconst (v := (-1)) dX11_take_17 rfl ?_
  have h1 := h.1
  replace h := h.2
  refine r_iast (c := 132) (N := 16) dX11_take_18 iM132 sC132 h1 ?_
  refine r_aload_n 0 dX11_take_19 rfl rfl ?_
  refine r_dup dX11_take_20 rfl ?_
  refine r_getI (c := 130) (k := 3) dX11_take_21 clX11 lFX11_21 (by decide) iM130 sC130 rfl ?_
  refine r_iconst (v := 1) dX11_take_24 rfl ?_
  refine r_isub dX11_take_25 ?_
  refine r_putI (c := 130) (k := 3) dX11_take_26 clX11 lFX11_21 (by decide) iM130 sC130 rfl rfl rfl ?_
  refine r_vretV dX11_take_29 rfl (by decide) (by decide) h
set_option maxHeartbeats 4000000 in
set_option maxRecDepth 100000 in
theorem C_X11_take_134 (G : eG) (M : eM) (F : eM → Prop) (a1 : Int32)
    (h : vp_in a1 16 ∧ (vp_in (M 136 a1.toNatClampNeg) 49 ∧ (vp_in a1 16 ∧ (F (eU (eU (eU M 135 (M 136 a1.toNatClampNeg).toNatClampNeg (-1)) 136 a1.toNatClampNeg (-1)) 134 3 (((eU (eU M 135 (M 136 a1.toNatClampNeg).toNatClampNeg (-1)) 136 a1.toNatClampNeg (-1)) 134 3) - 1)))))) :
    Cal G 100 40 (1, 0, 0) kX11_take [.ref (G.1 134), .int a1] M (eFV F) := by
  refine Cal.of (by decide +kernel) rfl (Nat.le_of_ble_eq_true rfl) ?_
  show Ev (eZ G 100 40 0 0 (eFV F)) G 100 40 (1, 0, 0) kX11_take 0 [(0, .ref (G.1 134)), (1, .int a1)] [] M 0 0
  refine r_aload_n 0 dX11_take_0 rfl rfl ?_
  refine r_getR (c := 134) (k := 0) 135 dX11_take_1 clX11 lFX11_9 (by decide) iM134 sC134 rfl ?_
  refine r_aload_n 0 dX11_take_4 rfl rfl ?_
  refine r_getR (c := 134) (k := 1) 136 dX11_take_5 clX11 lFX11_15 (by decide) iM134 sC134 rfl ?_
  refine r_iload_n 1 dX11_take_8 rfl rfl ?_
  have h1 := h.1
  replace h := h.2
  refine r_iald (c := 136) (N := 16) dX11_take_9 iM136 sC136 h1 ?_
  refine r_iconst (v := (-1)) dX11_take_10 rfl ?_
  have h1 := h.1
  replace h := h.2
  refine r_iast (c := 135) (N := 49) dX11_take_11 iM135 sC135 h1 ?_
  refine r_aload_n 0 dX11_take_12 rfl rfl ?_
  refine r_getR (c := 134) (k := 1) 136 dX11_take_13 clX11 lFX11_15 (by decide) iM134 sC134 rfl ?_
  refine r_iload_n 1 dX11_take_16 rfl rfl ?_
  refine r_iconst (v := (-1)) dX11_take_17 rfl ?_
  have h1 := h.1
  replace h := h.2
  refine r_iast (c := 136) (N := 16) dX11_take_18 iM136 sC136 h1 ?_
  refine r_aload_n 0 dX11_take_19 rfl rfl ?_
  refine r_dup dX11_take_20 rfl ?_
  refine r_getI (c := 134) (k := 3) dX11_take_21 clX11 lFX11_21 (by decide) iM134 sC134 rfl ?_
  refine r_iconst (v := 1) dX11_take_24 rfl ?_
  refine r_isub dX11_take_25 ?_
  refine r_putI (c := 134) (k := 3) dX11_take_26 clX11 lFX11_21 (by decide) iM134 sC134 rfl rfl rfl ?_
  refine r_vretV dX11_take_29 rfl (by decide) (by decide) h
set_option maxHeartbeats 4000000 in
set_option maxRecDepth 100000 in
theorem C_X12_begin (G : eG) (M : eM) (F : eM → Prop) 
    (h : F (eU (eU (eU (eU (eU M 118 0 5) 118 1 5) 118 2 0) 118 4 0) 118 11 0)) :
    Cal G 100 40 (1, 0, 0) kX12_begin [.ref (G.1 118)] M (eFV F) := by
  refine Cal.of (by decide +kernel) rfl (Nat.le_of_ble_eq_true rfl) ?_
  show Ev (eZ G 100 40 0 0 (eFV F)) G 100 40 (1, 0, 0) kX12_begin 0 [(0, .ref (G.1 118))] [] M 0 0
  refine r_aload_n 0 dX12_begin_0 rfl rfl ?_
  refine r_iconst (v := 5) dX12_begin_1 rfl ?_
  refine r_putI (c := 118) (k := 0) dX12_begin_2 clX12 lFX12_9 (by decide) iM118 sC118 rfl rfl rfl ?_
  refine r_aload_n 0 dX12_begin_5 rfl rfl ?_
  refine r_iconst (v := 5) dX12_begin_6 rfl ?_
  refine r_putI (c := 118) (k := 1) dX12_begin_7 clX12 lFX12_15 (by decide) iM118 sC118 rfl rfl rfl ?_
  refine r_aload_n 0 dX12_begin_10 rfl rfl ?_
  refine r_iconst (v := 0) dX12_begin_11 rfl ?_
  refine r_putI (c := 118) (k := 2) dX12_begin_12 clX12 lFX12_49 (by decide) iM118 sC118 rfl rfl rfl ?_
  refine r_aload_n 0 dX12_begin_15 rfl rfl ?_
  refine r_iconst (v := 0) dX12_begin_16 rfl ?_
  refine r_putI (c := 118) (k := 4) dX12_begin_17 clX12 lFX12_52 (by decide) iM118 sC118 rfl rfl rfl ?_
  refine r_aload_n 0 dX12_begin_20 rfl rfl ?_
  refine r_iconst (v := 0) dX12_begin_21 rfl ?_
  refine r_putI (c := 118) (k := 11) dX12_begin_22 clX12 lFX12_55 (by decide) iM118 sC118 rfl rfl rfl ?_
  refine r_vretV dX12_begin_25 rfl (by decide) (by decide) h
set_option maxHeartbeats 4000000 in
set_option maxRecDepth 100000 in
theorem C_X12_copy_119_108 (G : eG) (M : eM) (F : eM → Prop) 
    (h : ((¬ (0 : Int32) < 0) ∧ (¬ (0 : Int32) < 0) ∧ (¬ (51 : Int32) < 0) ∧ (0 : Int32).toNatClampNeg + (51 : Int32).toNatClampNeg ≤ 51 ∧ (0 : Int32).toNatClampNeg + (51 : Int32).toNatClampNeg ≤ 51) ∧ (F (eCp M 119 108 (0 : Int32).toNatClampNeg (0 : Int32).toNatClampNeg (51 : Int32).toNatClampNeg))) :
    Cal G 100 40 (1, 0, 0) kX12_copy [.ref (G.1 119), .ref (G.1 108)] M (eFV F) := by
  refine Cal.of (by decide +kernel) rfl (Nat.le_of_ble_eq_true rfl) ?_
  show Ev (eZ G 100 40 0 0 (eFV F)) G 100 40 (1, 0, 0) kX12_copy 0 [(0, .ref (G.1 119)), (1, .ref (G.1 108))] [] M 0 0
  refine r_aload_n 0 dX12_copy_0 rfl rfl ?_
  refine r_iconst (v := 0) dX12_copy_1 rfl ?_
  refine r_aload_n 1 dX12_copy_2 rfl rfl ?_
  refine r_iconst (v := 0) dX12_copy_3 rfl ?_
  refine r_aload_n 1 dX12_copy_4 rfl rfl ?_
  refine r_alen (c := 108) (v := 51) dX12_copy_5 iM108 sC108 rfl ?_
  have h1 := h.1
  replace h := h.2
  refine r_copy (c := 119) (c1 := 108) (N := 51) (N1 := 51) dX12_copy_6 lAX12_58 eCy_n eCy_s eCy_i iM119 sC119 iM108 sC108 h1.1 h1.2.1 h1.2.2.1 h1.2.2.2.1 h1.2.2.2.2 (by decide) (Nat.le_of_ble_eq_true rfl) ?_
  refine r_vretV dX12_copy_9 rfl (by decide) (by decide) h
set_option maxHeartbeats 4000000 in
set_option maxRecDepth 100000 in
theorem C_X12_copy_120_109 (G : eG) (M : eM) (F : eM → Prop) 
    (h : ((¬ (0 : Int32) < 0) ∧ (¬ (0 : Int32) < 0) ∧ (¬ (17 : Int32) < 0) ∧ (0 : Int32).toNatClampNeg + (17 : Int32).toNatClampNeg ≤ 17 ∧ (0 : Int32).toNatClampNeg + (17 : Int32).toNatClampNeg ≤ 17) ∧ (F (eCp M 120 109 (0 : Int32).toNatClampNeg (0 : Int32).toNatClampNeg (17 : Int32).toNatClampNeg))) :
    Cal G 100 40 (1, 0, 0) kX12_copy [.ref (G.1 120), .ref (G.1 109)] M (eFV F) := by
  refine Cal.of (by decide +kernel) rfl (Nat.le_of_ble_eq_true rfl) ?_
  show Ev (eZ G 100 40 0 0 (eFV F)) G 100 40 (1, 0, 0) kX12_copy 0 [(0, .ref (G.1 120)), (1, .ref (G.1 109))] [] M 0 0
  refine r_aload_n 0 dX12_copy_0 rfl rfl ?_
  refine r_iconst (v := 0) dX12_copy_1 rfl ?_
  refine r_aload_n 1 dX12_copy_2 rfl rfl ?_
  refine r_iconst (v := 0) dX12_copy_3 rfl ?_
  refine r_aload_n 1 dX12_copy_4 rfl rfl ?_
  refine r_alen (c := 109) (v := 17) dX12_copy_5 iM109 sC109 rfl ?_
  have h1 := h.1
  replace h := h.2
  refine r_copy (c := 120) (c1 := 109) (N := 17) (N1 := 17) dX12_copy_6 lAX12_58 eCy_n eCy_s eCy_i iM120 sC120 iM109 sC109 h1.1 h1.2.1 h1.2.2.1 h1.2.2.2.1 h1.2.2.2.2 (by decide) (Nat.le_of_ble_eq_true rfl) ?_
  refine r_vretV dX12_copy_9 rfl (by decide) (by decide) h
set_option maxHeartbeats 4000000 in
set_option maxRecDepth 100000 in
theorem C_X12_copy_121_110 (G : eG) (M : eM) (F : eM → Prop) 
    (h : ((¬ (0 : Int32) < 0) ∧ (¬ (0 : Int32) < 0) ∧ (¬ (17 : Int32) < 0) ∧ (0 : Int32).toNatClampNeg + (17 : Int32).toNatClampNeg ≤ 17 ∧ (0 : Int32).toNatClampNeg + (17 : Int32).toNatClampNeg ≤ 17) ∧ (F (eCp M 121 110 (0 : Int32).toNatClampNeg (0 : Int32).toNatClampNeg (17 : Int32).toNatClampNeg))) :
    Cal G 100 40 (1, 0, 0) kX12_copy [.ref (G.1 121), .ref (G.1 110)] M (eFV F) := by
  refine Cal.of (by decide +kernel) rfl (Nat.le_of_ble_eq_true rfl) ?_
  show Ev (eZ G 100 40 0 0 (eFV F)) G 100 40 (1, 0, 0) kX12_copy 0 [(0, .ref (G.1 121)), (1, .ref (G.1 110))] [] M 0 0
  refine r_aload_n 0 dX12_copy_0 rfl rfl ?_
  refine r_iconst (v := 0) dX12_copy_1 rfl ?_
  refine r_aload_n 1 dX12_copy_2 rfl rfl ?_
  refine r_iconst (v := 0) dX12_copy_3 rfl ?_
  refine r_aload_n 1 dX12_copy_4 rfl rfl ?_
  refine r_alen (c := 110) (v := 17) dX12_copy_5 iM110 sC110 rfl ?_
  have h1 := h.1
  replace h := h.2
  refine r_copy (c := 121) (c1 := 110) (N := 17) (N1 := 17) dX12_copy_6 lAX12_58 eCy_n eCy_s eCy_i iM121 sC121 iM110 sC110 h1.1 h1.2.1 h1.2.2.1 h1.2.2.2.1 h1.2.2.2.2 (by decide) (Nat.le_of_ble_eq_true rfl) ?_
  refine r_vretV dX12_copy_9 rfl (by decide) (by decide) h
set_option maxHeartbeats 4000000 in
set_option maxRecDepth 100000 in
theorem C_X12_copy_122_111 (G : eG) (M : eM) (F : eM → Prop) 
    (h : ((¬ (0 : Int32) < 0) ∧ (¬ (0 : Int32) < 0) ∧ (¬ (17 : Int32) < 0) ∧ (0 : Int32).toNatClampNeg + (17 : Int32).toNatClampNeg ≤ 17 ∧ (0 : Int32).toNatClampNeg + (17 : Int32).toNatClampNeg ≤ 17) ∧ (F (eCp M 122 111 (0 : Int32).toNatClampNeg (0 : Int32).toNatClampNeg (17 : Int32).toNatClampNeg))) :
    Cal G 100 40 (1, 0, 0) kX12_copy [.ref (G.1 122), .ref (G.1 111)] M (eFV F) := by
  refine Cal.of (by decide +kernel) rfl (Nat.le_of_ble_eq_true rfl) ?_
  show Ev (eZ G 100 40 0 0 (eFV F)) G 100 40 (1, 0, 0) kX12_copy 0 [(0, .ref (G.1 122)), (1, .ref (G.1 111))] [] M 0 0
  refine r_aload_n 0 dX12_copy_0 rfl rfl ?_
  refine r_iconst (v := 0) dX12_copy_1 rfl ?_
  refine r_aload_n 1 dX12_copy_2 rfl rfl ?_
  refine r_iconst (v := 0) dX12_copy_3 rfl ?_
  refine r_aload_n 1 dX12_copy_4 rfl rfl ?_
  refine r_alen (c := 111) (v := 17) dX12_copy_5 iM111 sC111 rfl ?_
  have h1 := h.1
  replace h := h.2
  refine r_copy (c := 122) (c1 := 111) (N := 17) (N1 := 17) dX12_copy_6 lAX12_58 eCy_n eCy_s eCy_i iM122 sC122 iM111 sC111 h1.1 h1.2.1 h1.2.2.1 h1.2.2.2.1 h1.2.2.2.2 (by decide) (Nat.le_of_ble_eq_true rfl) ?_
  refine r_vretV dX12_copy_9 rfl (by decide) (by decide) h
set_option maxHeartbeats 4000000 in
set_option maxRecDepth 100000 in
theorem C_X12_copy_123_112 (G : eG) (M : eM) (F : eM → Prop) 
    (h : ((¬ (0 : Int32) < 0) ∧ (¬ (0 : Int32) < 0) ∧ (¬ (17 : Int32) < 0) ∧ (0 : Int32).toNatClampNeg + (17 : Int32).toNatClampNeg ≤ 17 ∧ (0 : Int32).toNatClampNeg + (17 : Int32).toNatClampNeg ≤ 17) ∧ (F (eCp M 123 112 (0 : Int32).toNatClampNeg (0 : Int32).toNatClampNeg (17 : Int32).toNatClampNeg))) :
    Cal G 100 40 (1, 0, 0) kX12_copy [.ref (G.1 123), .ref (G.1 112)] M (eFV F) := by
  refine Cal.of (by decide +kernel) rfl (Nat.le_of_ble_eq_true rfl) ?_
  show Ev (eZ G 100 40 0 0 (eFV F)) G 100 40 (1, 0, 0) kX12_copy 0 [(0, .ref (G.1 123)), (1, .ref (G.1 112))] [] M 0 0
  refine r_aload_n 0 dX12_copy_0 rfl rfl ?_
  refine r_iconst (v := 0) dX12_copy_1 rfl ?_
  refine r_aload_n 1 dX12_copy_2 rfl rfl ?_
  refine r_iconst (v := 0) dX12_copy_3 rfl ?_
  refine r_aload_n 1 dX12_copy_4 rfl rfl ?_
  refine r_alen (c := 112) (v := 17) dX12_copy_5 iM112 sC112 rfl ?_
  have h1 := h.1
  replace h := h.2
  refine r_copy (c := 123) (c1 := 112) (N := 17) (N1 := 17) dX12_copy_6 lAX12_58 eCy_n eCy_s eCy_i iM123 sC123 iM112 sC112 h1.1 h1.2.1 h1.2.2.1 h1.2.2.2.1 h1.2.2.2.2 (by decide) (Nat.le_of_ble_eq_true rfl) ?_
  refine r_vretV dX12_copy_9 rfl (by decide) (by decide) h
set_option maxHeartbeats 4000000 in
set_option maxRecDepth 100000 in
theorem C_X12_copy_124_113 (G : eG) (M : eM) (F : eM → Prop) 
    (h : ((¬ (0 : Int32) < 0) ∧ (¬ (0 : Int32) < 0) ∧ (¬ (51 : Int32) < 0) ∧ (0 : Int32).toNatClampNeg + (51 : Int32).toNatClampNeg ≤ 51 ∧ (0 : Int32).toNatClampNeg + (51 : Int32).toNatClampNeg ≤ 51) ∧ (F (eCp M 124 113 (0 : Int32).toNatClampNeg (0 : Int32).toNatClampNeg (51 : Int32).toNatClampNeg))) :
    Cal G 100 40 (1, 0, 0) kX12_copy [.ref (G.1 124), .ref (G.1 113)] M (eFV F) := by
  refine Cal.of (by decide +kernel) rfl (Nat.le_of_ble_eq_true rfl) ?_
  show Ev (eZ G 100 40 0 0 (eFV F)) G 100 40 (1, 0, 0) kX12_copy 0 [(0, .ref (G.1 124)), (1, .ref (G.1 113))] [] M 0 0
  refine r_aload_n 0 dX12_copy_0 rfl rfl ?_
  refine r_iconst (v := 0) dX12_copy_1 rfl ?_
  refine r_aload_n 1 dX12_copy_2 rfl rfl ?_
  refine r_iconst (v := 0) dX12_copy_3 rfl ?_
  refine r_aload_n 1 dX12_copy_4 rfl rfl ?_
  refine r_alen (c := 113) (v := 51) dX12_copy_5 iM113 sC113 rfl ?_
  have h1 := h.1
  replace h := h.2
  refine r_copy (c := 124) (c1 := 113) (N := 51) (N1 := 51) dX12_copy_6 lAX12_58 eCy_n eCy_s eCy_i iM124 sC124 iM113 sC113 h1.1 h1.2.1 h1.2.2.1 h1.2.2.2.1 h1.2.2.2.2 (by decide) (Nat.le_of_ble_eq_true rfl) ?_
  refine r_vretV dX12_copy_9 rfl (by decide) (by decide) h
set_option maxHeartbeats 4000000 in
set_option maxRecDepth 100000 in
theorem C_X12_copy_125_114 (G : eG) (M : eM) (F : eM → Prop) 
    (h : ((¬ (0 : Int32) < 0) ∧ (¬ (0 : Int32) < 0) ∧ (¬ (17 : Int32) < 0) ∧ (0 : Int32).toNatClampNeg + (17 : Int32).toNatClampNeg ≤ 17 ∧ (0 : Int32).toNatClampNeg + (17 : Int32).toNatClampNeg ≤ 17) ∧ (F (eCp M 125 114 (0 : Int32).toNatClampNeg (0 : Int32).toNatClampNeg (17 : Int32).toNatClampNeg))) :
    Cal G 100 40 (1, 0, 0) kX12_copy [.ref (G.1 125), .ref (G.1 114)] M (eFV F) := by
  refine Cal.of (by decide +kernel) rfl (Nat.le_of_ble_eq_true rfl) ?_
  show Ev (eZ G 100 40 0 0 (eFV F)) G 100 40 (1, 0, 0) kX12_copy 0 [(0, .ref (G.1 125)), (1, .ref (G.1 114))] [] M 0 0
  refine r_aload_n 0 dX12_copy_0 rfl rfl ?_
  refine r_iconst (v := 0) dX12_copy_1 rfl ?_
  refine r_aload_n 1 dX12_copy_2 rfl rfl ?_
  refine r_iconst (v := 0) dX12_copy_3 rfl ?_
  refine r_aload_n 1 dX12_copy_4 rfl rfl ?_
  refine r_alen (c := 114) (v := 17) dX12_copy_5 iM114 sC114 rfl ?_
  have h1 := h.1
  replace h := h.2
  refine r_copy (c := 125) (c1 := 114) (N := 17) (N1 := 17) dX12_copy_6 lAX12_58 eCy_n eCy_s eCy_i iM125 sC125 iM114 sC114 h1.1 h1.2.1 h1.2.2.1 h1.2.2.2.1 h1.2.2.2.2 (by decide) (Nat.le_of_ble_eq_true rfl) ?_
  refine r_vretV dX12_copy_9 rfl (by decide) (by decide) h
set_option maxHeartbeats 4000000 in
set_option maxRecDepth 100000 in
theorem C_X12_copy_126_115 (G : eG) (M : eM) (F : eM → Prop) 
    (h : ((¬ (0 : Int32) < 0) ∧ (¬ (0 : Int32) < 0) ∧ (¬ (800 : Int32) < 0) ∧ (0 : Int32).toNatClampNeg + (800 : Int32).toNatClampNeg ≤ 800 ∧ (0 : Int32).toNatClampNeg + (800 : Int32).toNatClampNeg ≤ 800) ∧ (F (eCp M 126 115 (0 : Int32).toNatClampNeg (0 : Int32).toNatClampNeg (800 : Int32).toNatClampNeg))) :
    Cal G 100 40 (1, 0, 0) kX12_copy [.ref (G.1 126), .ref (G.1 115)] M (eFV F) := by
  refine Cal.of (by decide +kernel) rfl (Nat.le_of_ble_eq_true rfl) ?_
  show Ev (eZ G 100 40 0 0 (eFV F)) G 100 40 (1, 0, 0) kX12_copy 0 [(0, .ref (G.1 126)), (1, .ref (G.1 115))] [] M 0 0
  refine r_aload_n 0 dX12_copy_0 rfl rfl ?_
  refine r_iconst (v := 0) dX12_copy_1 rfl ?_
  refine r_aload_n 1 dX12_copy_2 rfl rfl ?_
  refine r_iconst (v := 0) dX12_copy_3 rfl ?_
  refine r_aload_n 1 dX12_copy_4 rfl rfl ?_
  refine r_alen (c := 115) (v := 800) dX12_copy_5 iM115 sC115 rfl ?_
  have h1 := h.1
  replace h := h.2
  refine r_copy (c := 126) (c1 := 115) (N := 800) (N1 := 800) dX12_copy_6 lAX12_58 eCy_n eCy_s eCy_i iM126 sC126 iM115 sC115 h1.1 h1.2.1 h1.2.2.1 h1.2.2.2.1 h1.2.2.2.2 (by decide) (Nat.le_of_ble_eq_true rfl) ?_
  refine r_vretV dX12_copy_9 rfl (by decide) (by decide) h
set_option maxHeartbeats 4000000 in
set_option maxRecDepth 100000 in
theorem C_X12_copy_127_116 (G : eG) (M : eM) (F : eM → Prop) 
    (h : ((¬ (0 : Int32) < 0) ∧ (¬ (0 : Int32) < 0) ∧ (¬ (800 : Int32) < 0) ∧ (0 : Int32).toNatClampNeg + (800 : Int32).toNatClampNeg ≤ 800 ∧ (0 : Int32).toNatClampNeg + (800 : Int32).toNatClampNeg ≤ 800) ∧ (F (eCp M 127 116 (0 : Int32).toNatClampNeg (0 : Int32).toNatClampNeg (800 : Int32).toNatClampNeg))) :
    Cal G 100 40 (1, 0, 0) kX12_copy [.ref (G.1 127), .ref (G.1 116)] M (eFV F) := by
  refine Cal.of (by decide +kernel) rfl (Nat.le_of_ble_eq_true rfl) ?_
  show Ev (eZ G 100 40 0 0 (eFV F)) G 100 40 (1, 0, 0) kX12_copy 0 [(0, .ref (G.1 127)), (1, .ref (G.1 116))] [] M 0 0
  refine r_aload_n 0 dX12_copy_0 rfl rfl ?_
  refine r_iconst (v := 0) dX12_copy_1 rfl ?_
  refine r_aload_n 1 dX12_copy_2 rfl rfl ?_
  refine r_iconst (v := 0) dX12_copy_3 rfl ?_
  refine r_aload_n 1 dX12_copy_4 rfl rfl ?_
  refine r_alen (c := 116) (v := 800) dX12_copy_5 iM116 sC116 rfl ?_
  have h1 := h.1
  replace h := h.2
  refine r_copy (c := 127) (c1 := 116) (N := 800) (N1 := 800) dX12_copy_6 lAX12_58 eCy_n eCy_s eCy_i iM127 sC127 iM116 sC116 h1.1 h1.2.1 h1.2.2.1 h1.2.2.2.1 h1.2.2.2.2 (by decide) (Nat.le_of_ble_eq_true rfl) ?_
  refine r_vretV dX12_copy_9 rfl (by decide) (by decide) h
set_option maxHeartbeats 4000000 in
set_option maxRecDepth 100000 in
theorem C_X12_copy_128_117 (G : eG) (M : eM) (F : eM → Prop) 
    (h : ((¬ (0 : Int32) < 0) ∧ (¬ (0 : Int32) < 0) ∧ (¬ (800 : Int32) < 0) ∧ (0 : Int32).toNatClampNeg + (800 : Int32).toNatClampNeg ≤ 800 ∧ (0 : Int32).toNatClampNeg + (800 : Int32).toNatClampNeg ≤ 800) ∧ (F (eCp M 128 117 (0 : Int32).toNatClampNeg (0 : Int32).toNatClampNeg (800 : Int32).toNatClampNeg))) :
    Cal G 100 40 (1, 0, 0) kX12_copy [.ref (G.1 128), .ref (G.1 117)] M (eFV F) := by
  refine Cal.of (by decide +kernel) rfl (Nat.le_of_ble_eq_true rfl) ?_
  show Ev (eZ G 100 40 0 0 (eFV F)) G 100 40 (1, 0, 0) kX12_copy 0 [(0, .ref (G.1 128)), (1, .ref (G.1 117))] [] M 0 0
  refine r_aload_n 0 dX12_copy_0 rfl rfl ?_
  refine r_iconst (v := 0) dX12_copy_1 rfl ?_
  refine r_aload_n 1 dX12_copy_2 rfl rfl ?_
  refine r_iconst (v := 0) dX12_copy_3 rfl ?_
  refine r_aload_n 1 dX12_copy_4 rfl rfl ?_
  refine r_alen (c := 117) (v := 800) dX12_copy_5 iM117 sC117 rfl ?_
  have h1 := h.1
  replace h := h.2
  refine r_copy (c := 128) (c1 := 117) (N := 800) (N1 := 800) dX12_copy_6 lAX12_58 eCy_n eCy_s eCy_i iM128 sC128 iM117 sC117 h1.1 h1.2.1 h1.2.2.1 h1.2.2.2.1 h1.2.2.2.2 (by decide) (Nat.le_of_ble_eq_true rfl) ?_
  refine r_vretV dX12_copy_9 rfl (by decide) (by decide) h
set_option maxHeartbeats 4000000 in
set_option maxRecDepth 100000 in
theorem C_X12_copy_131_135 (G : eG) (M : eM) (F : eM → Prop) 
    (h : ((¬ (0 : Int32) < 0) ∧ (¬ (0 : Int32) < 0) ∧ (¬ (49 : Int32) < 0) ∧ (0 : Int32).toNatClampNeg + (49 : Int32).toNatClampNeg ≤ 49 ∧ (0 : Int32).toNatClampNeg + (49 : Int32).toNatClampNeg ≤ 49) ∧ (F (eCp M 131 135 (0 : Int32).toNatClampNeg (0 : Int32).toNatClampNeg (49 : Int32).toNatClampNeg))) :
    Cal G 100 40 (1, 0, 0) kX12_copy [.ref (G.1 131), .ref (G.1 135)] M (eFV F) := by
  refine Cal.of (by decide +kernel) rfl (Nat.le_of_ble_eq_true rfl) ?_
  show Ev (eZ G 100 40 0 0 (eFV F)) G 100 40 (1, 0, 0) kX12_copy 0 [(0, .ref (G.1 131)), (1, .ref (G.1 135))] [] M 0 0
  refine r_aload_n 0 dX12_copy_0 rfl rfl ?_
  refine r_iconst (v := 0) dX12_copy_1 rfl ?_
  refine r_aload_n 1 dX12_copy_2 rfl rfl ?_
  refine r_iconst (v := 0) dX12_copy_3 rfl ?_
  refine r_aload_n 1 dX12_copy_4 rfl rfl ?_
  refine r_alen (c := 135) (v := 49) dX12_copy_5 iM135 sC135 rfl ?_
  have h1 := h.1
  replace h := h.2
  refine r_copy (c := 131) (c1 := 135) (N := 49) (N1 := 49) dX12_copy_6 lAX12_58 eCy_n eCy_s eCy_i iM131 sC131 iM135 sC135 h1.1 h1.2.1 h1.2.2.1 h1.2.2.2.1 h1.2.2.2.2 (by decide) (Nat.le_of_ble_eq_true rfl) ?_
  refine r_vretV dX12_copy_9 rfl (by decide) (by decide) h
set_option maxHeartbeats 4000000 in
set_option maxRecDepth 100000 in
theorem C_X12_copy_132_136 (G : eG) (M : eM) (F : eM → Prop) 
    (h : ((¬ (0 : Int32) < 0) ∧ (¬ (0 : Int32) < 0) ∧ (¬ (16 : Int32) < 0) ∧ (0 : Int32).toNatClampNeg + (16 : Int32).toNatClampNeg ≤ 16 ∧ (0 : Int32).toNatClampNeg + (16 : Int32).toNatClampNeg ≤ 16) ∧ (F (eCp M 132 136 (0 : Int32).toNatClampNeg (0 : Int32).toNatClampNeg (16 : Int32).toNatClampNeg))) :
    Cal G 100 40 (1, 0, 0) kX12_copy [.ref (G.1 132), .ref (G.1 136)] M (eFV F) := by
  refine Cal.of (by decide +kernel) rfl (Nat.le_of_ble_eq_true rfl) ?_
  show Ev (eZ G 100 40 0 0 (eFV F)) G 100 40 (1, 0, 0) kX12_copy 0 [(0, .ref (G.1 132)), (1, .ref (G.1 136))] [] M 0 0
  refine r_aload_n 0 dX12_copy_0 rfl rfl ?_
  refine r_iconst (v := 0) dX12_copy_1 rfl ?_
  refine r_aload_n 1 dX12_copy_2 rfl rfl ?_
  refine r_iconst (v := 0) dX12_copy_3 rfl ?_
  refine r_aload_n 1 dX12_copy_4 rfl rfl ?_
  refine r_alen (c := 136) (v := 16) dX12_copy_5 iM136 sC136 rfl ?_
  have h1 := h.1
  replace h := h.2
  refine r_copy (c := 132) (c1 := 136) (N := 16) (N1 := 16) dX12_copy_6 lAX12_58 eCy_n eCy_s eCy_i iM132 sC132 iM136 sC136 h1.1 h1.2.1 h1.2.2.1 h1.2.2.2.1 h1.2.2.2.2 (by decide) (Nat.le_of_ble_eq_true rfl) ?_
  refine r_vretV dX12_copy_9 rfl (by decide) (by decide) h
set_option maxHeartbeats 4000000 in
set_option maxRecDepth 100000 in
theorem C_X12_copy_133_137 (G : eG) (M : eM) (F : eM → Prop) 
    (h : ((¬ (0 : Int32) < 0) ∧ (¬ (0 : Int32) < 0) ∧ (¬ (16 : Int32) < 0) ∧ (0 : Int32).toNatClampNeg + (16 : Int32).toNatClampNeg ≤ 16 ∧ (0 : Int32).toNatClampNeg + (16 : Int32).toNatClampNeg ≤ 16) ∧ (F (eCp M 133 137 (0 : Int32).toNatClampNeg (0 : Int32).toNatClampNeg (16 : Int32).toNatClampNeg))) :
    Cal G 100 40 (1, 0, 0) kX12_copy [.ref (G.1 133), .ref (G.1 137)] M (eFV F) := by
  refine Cal.of (by decide +kernel) rfl (Nat.le_of_ble_eq_true rfl) ?_
  show Ev (eZ G 100 40 0 0 (eFV F)) G 100 40 (1, 0, 0) kX12_copy 0 [(0, .ref (G.1 133)), (1, .ref (G.1 137))] [] M 0 0
  refine r_aload_n 0 dX12_copy_0 rfl rfl ?_
  refine r_iconst (v := 0) dX12_copy_1 rfl ?_
  refine r_aload_n 1 dX12_copy_2 rfl rfl ?_
  refine r_iconst (v := 0) dX12_copy_3 rfl ?_
  refine r_aload_n 1 dX12_copy_4 rfl rfl ?_
  refine r_alen (c := 137) (v := 16) dX12_copy_5 iM137 sC137 rfl ?_
  have h1 := h.1
  replace h := h.2
  refine r_copy (c := 133) (c1 := 137) (N := 16) (N1 := 16) dX12_copy_6 lAX12_58 eCy_n eCy_s eCy_i iM133 sC133 iM137 sC137 h1.1 h1.2.1 h1.2.2.1 h1.2.2.2.1 h1.2.2.2.2 (by decide) (Nat.le_of_ble_eq_true rfl) ?_
  refine r_vretV dX12_copy_9 rfl (by decide) (by decide) h
set_option maxHeartbeats 4000000 in
set_option maxRecDepth 100000 in
theorem C_X12_become (G : eG) (M : eM) (F : eM → Prop) 
    (h : Cal G 100 40 (1, 0, 0) kX12_copy [.ref (G.1 119), .ref (G.1 108)] (eU (eU (eU (eU (eU M 107 0 (M 118 0)) 107 1 ((eU M 107 0 (M 118 0)) 118 1)) 107 2 ((eU (eU M 107 0 (M 118 0)) 107 1 ((eU M 107 0 (M 118 0)) 118 1)) 118 2)) 107 4 ((eU (eU (eU M 107 0 (M 118 0)) 107 1 ((eU M 107 0 (M 118 0)) 118 1)) 107 2 ((eU (eU M 107 0 (M 118 0)) 107 1 ((eU M 107 0 (M 118 0)) 118 1)) 118 2)) 118 4)) 107 11 ((eU (eU (eU (eU M 107 0 (M 118 0)) 107 1 ((eU M 107 0 (M 118 0)) 118 1)) 107 2 ((eU (eU M 107 0 (M 118 0)) 107 1 ((eU M 107 0 (M 118 0)) 118 1)) 118 2)) 107 4 ((eU (eU (eU M 107 0 (M 118 0)) 107 1 ((eU M 107 0 (M 118 0)) 118 1)) 107 2 ((eU (eU M 107 0 (M 118 0)) 107 1 ((eU M 107 0 (M 118 0)) 118 1)) 118 2)) 118 4)) 118 11)) (eFV (fun (M1 : eM) => Cal G 100 40 (1, 0, 0) kX12_copy [.ref (G.1 120), .ref (G.1 109)] M1 (eFV (fun (M2 : eM) => Cal G 100 40 (1, 0, 0) kX12_copy [.ref (G.1 121), .ref (G.1 110)] M2 (eFV (fun (M3 : eM) => Cal G 100 40 (1, 0, 0) kX12_copy [.ref (G.1 122), .ref (G.1 111)] M3 (eFV (fun (M4 : eM) => Cal G 100 40 (1, 0, 0) kX12_copy [.ref (G.1 123), .ref (G.1 112)] M4 (eFV (fun (M5 : eM) => Cal G 100 40 (1, 0, 0) kX12_copy [.ref (G.1 124), .ref (G.1 113)] M5 (eFV (fun (M6 : eM) => Cal G 100 40 (1, 0, 0) kX12_copy [.ref (G.1 125), .ref (G.1 114)] M6 (eFV (fun (M7 : eM) => Cal G 100 40 (1, 0, 0) kX12_copy [.ref (G.1 126), .ref (G.1 115)] M7 (eFV (fun (M8 : eM) => Cal G 100 40 (1, 0, 0) kX12_copy [.ref (G.1 127), .ref (G.1 116)] M8 (eFV (fun (M9 : eM) => Cal G 100 40 (1, 0, 0) kX12_copy [.ref (G.1 128), .ref (G.1 117)] M9 (eFV (fun (M10 : eM) => F M10))))))))))))))))))))) :
    Cal G 100 40 (2, 0, 0) kX12_become [.ref (G.1 107), .ref (G.1 118)] M (eFV F) := by
  refine Cal.of (by decide +kernel) rfl (Nat.le_of_ble_eq_true rfl) ?_
  show Ev (eZ G 100 40 0 0 (eFV F)) G 100 40 (2, 0, 0) kX12_become 0 [(0, .ref (G.1 107)), (1, .ref (G.1 118))] [] M 0 0
  refine r_aload_n 0 dX12_become_0 rfl rfl ?_
  refine r_aload_n 1 dX12_become_1 rfl rfl ?_
  refine r_getI (c := 118) (k := 0) dX12_become_2 clX12 lFX12_9 (by decide) iM118 sC118 rfl ?_
  refine r_putI (c := 107) (k := 0) dX12_become_5 clX12 lFX12_9 (by decide) iM107 sC107 rfl rfl rfl ?_
  refine r_aload_n 0 dX12_become_8 rfl rfl ?_
  refine r_aload_n 1 dX12_become_9 rfl rfl ?_
  refine r_getI (c := 118) (k := 1) dX12_become_10 clX12 lFX12_15 (by decide) iM118 sC118 rfl ?_
  refine r_putI (c := 107) (k := 1) dX12_become_13 clX12 lFX12_15 (by decide) iM107 sC107 rfl rfl rfl ?_
  refine r_aload_n 0 dX12_become_16 rfl rfl ?_
  refine r_aload_n 1 dX12_become_17 rfl rfl ?_
  refine r_getI (c := 118) (k := 2) dX12_become_18 clX12 lFX12_49 (by decide) iM118 sC118 rfl ?_
  refine r_putI (c := 107) (k := 2) dX12_become_21 clX12 lFX12_49 (by decide) iM107 sC107 rfl rfl rfl ?_
  refine r_aload_n 0 dX12_become_24 rfl rfl ?_
  refine r_aload_n 1 dX12_become_25 rfl rfl ?_
  refine r_getI (c := 118) (k := 4) dX12_become_26 clX12 lFX12_52 (by decide) iM118 sC118 rfl ?_
  refine r_putI (c := 107) (k := 4) dX12_become_29 clX12 lFX12_52 (by decide) iM107 sC107 rfl rfl rfl ?_
  refine r_aload_n 0 dX12_become_32 rfl rfl ?_
  refine r_aload_n 1 dX12_become_33 rfl rfl ?_
  refine r_getI (c := 118) (k := 11) dX12_become_34 clX12 lFX12_55 (by decide) iM118 sC118 rfl ?_
  refine r_putI (c := 107) (k := 11) dX12_become_37 clX12 lFX12_55 (by decide) iM107 sC107 rfl rfl rfl ?_
  refine r_aload_n 1 dX12_become_40 rfl rfl ?_
  refine r_getR (c := 118) (k := 3) 119 dX12_become_41 clX12 lFX12_18 (by decide) iM118 sC118 rfl ?_
  refine r_aload_n 0 dX12_become_44 rfl rfl ?_
  refine r_getR (c := 107) (k := 3) 108 dX12_become_45 clX12 lFX12_18 (by decide) iM107 sC107 rfl ?_
  refine r_callSV (b' := (1, 0, 0)) (S := []) [.ref (G.1 119), .ref (G.1 108)] dX12_become_48 mX12_copy lMX12_64 rfl (by decide) (Nat.le_of_ble_eq_true rfl) h (fun M1 h => ?_) rfl
  refine r_aload_n 1 dX12_become_51 rfl rfl ?_
  refine r_getR (c := 118) (k := 5) 120 dX12_become_52 clX12 lFX12_22 (by decide) iM118 sC118 rfl ?_
  refine r_aload_n 0 dX12_become_55 rfl rfl ?_
  refine r_getR (c := 107) (k := 5) 109 dX12_become_56 clX12 lFX12_22 (by decide) iM107 sC107 rfl ?_
  refine r_callSV (b' := (1, 0, 0)) (S := []) [.ref (G.1 120), .ref (G.1 109)] dX12_become_59 mX12_copy lMX12_64 rfl (by decide) (Nat.le_of_ble_eq_true rfl) h (fun M2 h => ?_) rfl
  refine r_aload_n 1 dX12_become_62 rfl rfl ?_
  refine r_getR (c := 118) (k := 6) 121 dX12_become_63 clX12 lFX12_25 (by decide) iM118 sC118 rfl ?_
  refine r_aload_n 0 dX12_become_66 rfl rfl ?_
  refine r_getR (c := 107) (k := 6) 110 dX12_become_67 clX12 lFX12_25 (by decide) iM107 sC107 rfl ?_
  refine r_callSV (b' := (1, 0, 0)) (S := []) [.ref (G.1 121), .ref (G.1 110)] dX12_become_70 mX12_copy lMX12_64 rfl (by decide) (Nat.le_of_ble_eq_true rfl) h (fun M3 h => ?_) rfl
  refine r_aload_n 1 dX12_become_73 rfl rfl ?_
  refine r_getR (c := 118) (k := 7) 122 dX12_become_74 clX12 lFX12_28 (by decide) iM118 sC118 rfl ?_
  refine r_aload_n 0 dX12_become_77 rfl rfl ?_
  refine r_getR (c := 107) (k := 7) 111 dX12_become_78 clX12 lFX12_28 (by decide) iM107 sC107 rfl ?_
  refine r_callSV (b' := (1, 0, 0)) (S := []) [.ref (G.1 122), .ref (G.1 111)] dX12_become_81 mX12_copy lMX12_64 rfl (by decide) (Nat.le_of_ble_eq_true rfl) h (fun M4 h => ?_) rfl
  refine r_aload_n 1 dX12_become_84 rfl rfl ?_
  refine r_getR (c := 118) (k := 8) 123 dX12_become_85 clX12 lFX12_31 (by decide) iM118 sC118 rfl ?_
  refine r_aload_n 0 dX12_become_88 rfl rfl ?_
  refine r_getR (c := 107) (k := 8) 112 dX12_become_89 clX12 lFX12_31 (by decide) iM107 sC107 rfl ?_
  refine r_callSV (b' := (1, 0, 0)) (S := []) [.ref (G.1 123), .ref (G.1 112)] dX12_become_92 mX12_copy lMX12_64 rfl (by decide) (Nat.le_of_ble_eq_true rfl) h (fun M5 h => ?_) rfl
  refine r_aload_n 1 dX12_become_95 rfl rfl ?_
  refine r_getR (c := 118) (k := 9) 124 dX12_become_96 clX12 lFX12_34 (by decide) iM118 sC118 rfl ?_
  refine r_aload_n 0 dX12_become_99 rfl rfl ?_
  refine r_getR (c := 107) (k := 9) 113 dX12_become_100 clX12 lFX12_34 (by decide) iM107 sC107 rfl ?_
  refine r_callSV (b' := (1, 0, 0)) (S := []) [.ref (G.1 124), .ref (G.1 113)] dX12_become_103 mX12_copy lMX12_64 rfl (by decide) (Nat.le_of_ble_eq_true rfl) h (fun M6 h => ?_) rfl
  refine r_aload_n 1 dX12_become_106 rfl rfl ?_
  refine r_getR (c := 118) (k := 10) 125 dX12_become_107 clX12 lFX12_37 (by decide) iM118 sC118 rfl ?_
  refine r_aload_n 0 dX12_become_110 rfl rfl ?_
  refine r_getR (c := 107) (k := 10) 114 dX12_become_111 clX12 lFX12_37 (by decide) iM107 sC107 rfl ?_
  refine r_callSV (b' := (1, 0, 0)) (S := []) [.ref (G.1 125), .ref (G.1 114)] dX12_become_114 mX12_copy lMX12_64 rfl (by decide) (Nat.le_of_ble_eq_true rfl) h (fun M7 h => ?_) rfl
  refine r_aload_n 1 dX12_become_117 rfl rfl ?_
  refine r_getR (c := 118) (k := 12) 126 dX12_become_118 clX12 lFX12_40 (by decide) iM118 sC118 rfl ?_
  refine r_aload_n 0 dX12_become_121 rfl rfl ?_
  refine r_getR (c := 107) (k := 12) 115 dX12_become_122 clX12 lFX12_40 (by decide) iM107 sC107 rfl ?_
  refine r_callSV (b' := (1, 0, 0)) (S := []) [.ref (G.1 126), .ref (G.1 115)] dX12_become_125 mX12_copy lMX12_64 rfl (by decide) (Nat.le_of_ble_eq_true rfl) h (fun M8 h => ?_) rfl
  refine r_aload_n 1 dX12_become_128 rfl rfl ?_
  refine r_getR (c := 118) (k := 13) 127 dX12_become_129 clX12 lFX12_43 (by decide) iM118 sC118 rfl ?_
  refine r_aload_n 0 dX12_become_132 rfl rfl ?_
  refine r_getR (c := 107) (k := 13) 116 dX12_become_133 clX12 lFX12_43 (by decide) iM107 sC107 rfl ?_
  refine r_callSV (b' := (1, 0, 0)) (S := []) [.ref (G.1 127), .ref (G.1 116)] dX12_become_136 mX12_copy lMX12_64 rfl (by decide) (Nat.le_of_ble_eq_true rfl) h (fun M9 h => ?_) rfl
  refine r_aload_n 1 dX12_become_139 rfl rfl ?_
  refine r_getR (c := 118) (k := 14) 128 dX12_become_140 clX12 lFX12_46 (by decide) iM118 sC118 rfl ?_
  refine r_aload_n 0 dX12_become_143 rfl rfl ?_
  refine r_getR (c := 107) (k := 14) 117 dX12_become_144 clX12 lFX12_46 (by decide) iM107 sC107 rfl ?_
  refine r_callSV (b' := (1, 0, 0)) (S := []) [.ref (G.1 128), .ref (G.1 117)] dX12_become_147 mX12_copy lMX12_64 rfl (by decide) (Nat.le_of_ble_eq_true rfl) h (fun M10 h => ?_) rfl
  refine r_vretV dX12_become_150 rfl (by decide) (by decide) h
