set_option maxHeartbeats 4000000 in
set_option maxRecDepth 100000 in
theorem B_X3_readsGame_148 (G : eG) (M : eM) (F : Bool → eM → Prop) (x1 : Int32)
    (h : ((x1 = 0) → F false M) ∧ ((¬ x1 = 0) → ((¬ eKn1 (M 13 2) = eKn1 42) → F false M) ∧ ((eKn1 (M 13 2) = eKn1 42) → F true M))) :
    Ev (eZ G 0 68 0 0 (eFZ F)) G 0 68 (102, 0, 0) kX3_readsGame 148 [(0, .ref (G.1 13)), (1, .int x1)] [] M 0 0 := by
  refine r_iload_n 1 dX3_readsGame_148 rfl rfl ?_
  refine r_if_eq (t := 166) dX3_readsGame_149 (by decide) (fun q => ?_) (fun q => ?_)
  · replace h := h.1 q
    refine r_iconst (v := 0) dX3_readsGame_166 rfl ?_
    refine r_iretZ0 dX3_readsGame_167 rfl (by decide) (by decide) h
  · replace h := h.2 q
    refine r_aload_n 0 dX3_readsGame_152 rfl rfl ?_
    refine r_getK (c := 13) (k := 2) dX3_readsGame_153 clX3 lFX3_15 (by decide) iF13 sC13 rfl ?_
    refine r_getsK (w := 42) 41 dX3_readsGame_156 lFX3_9 (by decide) rfl rfl ?_
    refine r_kcmp_ne (tg := 166) dX3_readsGame_159 (by decide) (fun q => ?_) (fun q => ?_)
    · replace h := h.1 q
      refine r_iconst (v := 0) dX3_readsGame_166 rfl ?_
      refine r_iretZ0 dX3_readsGame_167 rfl (by decide) (by decide) h
    · replace h := h.2 q
      refine r_iconst (v := 1) dX3_readsGame_162 rfl ?_
      refine r_goto (t := 167) dX3_readsGame_163 (by decide) ?_
      refine r_iretZ1 dX3_readsGame_167 rfl (by decide) (by decide) h
set_option maxHeartbeats 4000000 in
set_option maxRecDepth 100000 in
theorem B_X3_readsGame_140 (G : eG) (M : eM) (F : Bool → eM → Prop) (x2 : Int32)
    (h : Ev (eZ G 0 68 0 0 (eFZ F)) G 0 68 (102, 0, 0) kX3_readsGame 78 [(0, .ref (G.1 13)), (1, .int 0), (2, .int (x2 + 1))] [] M 0 0) :
    Ev (eZ G 0 68 0 0 (eFZ F)) G 0 68 (102, 0, 0) kX3_readsGame 140 [(0, .ref (G.1 13)), (2, .int x2)] [] M 0 0 := by
  refine r_iconst (v := 0) dX3_readsGame_140 rfl ?_
  refine r_istore_n (l' := [(1, .int 0), (0, .ref (G.1 13)), (2, .int x2)]) dX3_readsGame_141 rfl (by decide) rfl ?_
  refine r_iinc (v := x2 + 1) (l' := [(2, .int (x2 + 1)), (1, .int 0), (0, .ref (G.1 13))]) 2 dX3_readsGame_142 rfl rfl (by decide) rfl ?_
  refine r_goto (t := 78) dX3_readsGame_145 (by decide) ?_
  exact Ev.sub (ks := [2, 1, 0]) rfl h
set_option maxHeartbeats 4000000 in
set_option maxRecDepth 100000 in
theorem B_X3_readsGame_126 (G : eG) (M : eM) (F : Bool → eM → Prop) (x2 : Int32)
    (h : Cal G 0 68 (2, 0, 0) kX3_accept [.ref (G.1 13), eV G 1 29] M (eFZ (fun (r1 : Bool) (M1 : eM) => ((r1 = false) → Ev (eZ G 0 68 0 0 (eFZ F)) G 0 68 (102, 0, 0) kX3_readsGame 140 [(0, .ref (G.1 13)), (2, .int x2)] [] M1 0 0) ∧ ((r1 = true) → Ev (eZ G 0 68 0 0 (eFZ F)) G 0 68 (102, 0, 0) kX3_readsGame 78 [(0, .ref (G.1 13)), (1, .int 1), (2, .int (x2 + 1))] [] M1 0 0)))) :
    Ev (eZ G 0 68 0 0 (eFZ F)) G 0 68 (102, 0, 0) kX3_readsGame 126 [(0, .ref (G.1 13)), (2, .int x2)] [] M 0 0 := by
  refine r_aload_n 0 dX3_readsGame_126 rfl rfl ?_
  refine r_getsK (w := 29) 28 dX3_readsGame_127 lFX3_51 (by decide) rfl rfl ?_
  refine r_callVZ (b' := (2, 0, 0)) (c := 13) (S := []) [eV G 1 29] dX3_readsGame_130 mX3_accept lMX3_41 clX3 rfl iF13 sC13 rfl (by decide) (Nat.le_of_ble_eq_true rfl) h (fun r1 M1 h => ?_) rfl
  refine r_zif_eq (t := 140) dX3_readsGame_133 (by decide) (fun q => ?_) (fun q => ?_)
  · replace h := h.1 q
    exact h
  · replace h := h.2 q
    refine r_iconst (v := 1) dX3_readsGame_136 rfl ?_
    refine r_goto (t := 141) dX3_readsGame_137 (by decide) ?_
    refine r_istore_n (l' := [(1, .int 1), (0, .ref (G.1 13)), (2, .int x2)]) dX3_readsGame_141 rfl (by decide) rfl ?_
    refine r_iinc (v := x2 + 1) (l' := [(2, .int (x2 + 1)), (1, .int 1), (0, .ref (G.1 13))]) 2 dX3_readsGame_142 rfl rfl (by decide) rfl ?_
    refine r_goto (t := 78) dX3_readsGame_145 (by decide) ?_
    exact Ev.sub (ks := [2, 1, 0]) rfl h
set_option maxHeartbeats 4000000 in
set_option maxRecDepth 100000 in
theorem B_X3_readsGame_78 (G : eG) (M : eM) (F : Bool → eM → Prop) (x1 : Int32) (x2 : Int32)
    (h : ((400 ≤ x2) → Ev (eZ G 0 68 0 0 (eFZ F)) G 0 68 (102, 0, 0) kX3_readsGame 148 [(0, .ref (G.1 13)), (1, .int x1)] [] M 0 0) ∧ ((¬ 400 ≤ x2) → ((x1 = 0) → Ev (eZ G 0 68 0 0 (eFZ F)) G 0 68 (102, 0, 0) kX3_readsGame 148 [(0, .ref (G.1 13)), (1, .int x1)] [] M 0 0) ∧ ((¬ x1 = 0) → ((eKn1 (M 13 2) = eKn1 42) → Ev (eZ G 0 68 0 0 (eFZ F)) G 0 68 (102, 0, 0) kX3_readsGame 148 [(0, .ref (G.1 13)), (1, .int x1)] [] M 0 0) ∧ ((¬ eKn1 (M 13 2) = eKn1 42) → ((¬ eKn1 (M 13 2) = eKn1 3) → Cal G 0 68 (101, 0, 0) kX3_readsOrder [.ref (G.1 13)] M (eFZ (fun (r1 : Bool) (M1 : eM) => ((r1 = false) → Ev (eZ G 0 68 0 0 (eFZ F)) G 0 68 (102, 0, 0) kX3_readsGame 140 [(0, .ref (G.1 13)), (2, .int x2)] [] M1 0 0) ∧ ((r1 = true) → Ev (eZ G 0 68 0 0 (eFZ F)) G 0 68 (102, 0, 0) kX3_readsGame 126 [(0, .ref (G.1 13)), (2, .int x2)] [] M1 0 0)))) ∧ ((eKn1 (M 13 2) = eKn1 3) → Cal G 0 68 (3, 0, 0) kX3_readsTile [.ref (G.1 13)] M (eFZ (fun (r2 : Bool) (M2 : eM) => ((r2 = false) → Ev (eZ G 0 68 0 0 (eFZ F)) G 0 68 (102, 0, 0) kX3_readsGame 140 [(0, .ref (G.1 13)), (2, .int x2)] [] M2 0 0) ∧ ((r2 = true) → Ev (eZ G 0 68 0 0 (eFZ F)) G 0 68 (102, 0, 0) kX3_readsGame 126 [(0, .ref (G.1 13)), (2, .int x2)] [] M2 0 0)))))))) :
    Ev (eZ G 0 68 0 0 (eFZ F)) G 0 68 (102, 0, 0) kX3_readsGame 78 [(0, .ref (G.1 13)), (1, .int x1), (2, .int x2)] [] M 0 0 := by
  refine r_iload_n 2 dX3_readsGame_78 rfl rfl ?_
  refine r_sipush (v := 400) dX3_readsGame_79 rfl ?_
  refine r_icmp_ge (t := 148) dX3_readsGame_82 (by decide) (fun q => ?_) (fun q => ?_)
  · replace h := h.1 q
    exact Ev.sub (ks := [0, 1]) rfl h
  · replace h := h.2 q
    refine r_iload_n 1 dX3_readsGame_85 rfl rfl ?_
    refine r_if_eq (t := 148) dX3_readsGame_86 (by decide) (fun q => ?_) (fun q => ?_)
    · replace h := h.1 q
      exact Ev.sub (ks := [0, 1]) rfl h
    · replace h := h.2 q
      refine r_aload_n 0 dX3_readsGame_89 rfl rfl ?_
      refine r_getK (c := 13) (k := 2) dX3_readsGame_90 clX3 lFX3_15 (by decide) iF13 sC13 rfl ?_
      refine r_getsK (w := 42) 41 dX3_readsGame_93 lFX3_9 (by decide) rfl rfl ?_
      refine r_kcmp_eq (tg := 148) dX3_readsGame_96 (by decide) (fun q => ?_) (fun q => ?_)
      · replace h := h.1 q
        exact Ev.sub (ks := [0, 1]) rfl h
      · replace h := h.2 q
        refine r_aload_n 0 dX3_readsGame_99 rfl rfl ?_
        refine r_getK (c := 13) (k := 2) dX3_readsGame_100 clX3 lFX3_15 (by decide) iF13 sC13 rfl ?_
        refine r_getsK (w := 3) 2 dX3_readsGame_103 lFX3_54 (by decide) rfl rfl ?_
        refine r_kcmp_ne (tg := 119) dX3_readsGame_106 (by decide) (fun q => ?_) (fun q => ?_)
        · replace h := h.1 q
          refine r_aload_n 0 dX3_readsGame_119 rfl rfl ?_
          refine r_callVZ (b' := (101, 0, 0)) (c := 13) (S := []) [] dX3_readsGame_120 mX3_readsOrder lMX3_61 clX3 rfl iF13 sC13 rfl (by decide) (Nat.le_of_ble_eq_true rfl) h (fun r1 M1 h => ?_) rfl
          refine r_zif_eq (t := 140) dX3_readsGame_123 (by decide) (fun q => ?_) (fun q => ?_)
          · replace h := h.1 q
            exact Ev.sub (ks := [0, 2]) rfl h
          · replace h := h.2 q
            exact Ev.sub (ks := [0, 2]) rfl h
        · replace h := h.2 q
          refine r_aload_n 0 dX3_readsGame_109 rfl rfl ?_
          refine r_callVZ (b' := (3, 0, 0)) (c := 13) (S := []) [] dX3_readsGame_110 mX3_readsTile lMX3_57 clX3 rfl iF13 sC13 rfl (by decide) (Nat.le_of_ble_eq_true rfl) h (fun r2 M2 h => ?_) rfl
          refine r_zif_eq (t := 140) dX3_readsGame_113 (by decide) (fun q => ?_) (fun q => ?_)
          · replace h := h.1 q
            exact Ev.sub (ks := [0, 2]) rfl h
          · replace h := h.2 q
            refine r_goto (t := 126) dX3_readsGame_116 (by decide) ?_
            exact Ev.sub (ks := [0, 2]) rfl h
set_option maxHeartbeats 4000000 in
set_option maxRecDepth 100000 in
theorem B_X3_readsGame_74 (G : eG) (M : eM) (F : Bool → eM → Prop) 
    (h : Ev (eZ G 0 68 0 0 (eFZ F)) G 0 68 (102, 0, 0) kX3_readsGame 78 [(0, .ref (G.1 13)), (1, .int 0), (2, .int 0)] [] M 0 0) :
    Ev (eZ G 0 68 0 0 (eFZ F)) G 0 68 (102, 0, 0) kX3_readsGame 74 [(0, .ref (G.1 13))] [] M 0 0 := by
  refine r_iconst (v := 0) dX3_readsGame_74 rfl ?_
  refine r_istore_n (l' := [(1, .int 0), (0, .ref (G.1 13))]) dX3_readsGame_75 rfl (by decide) rfl ?_
  refine r_iconst (v := 0) dX3_readsGame_76 rfl ?_
  refine r_istore_n (l' := [(2, .int 0), (1, .int 0), (0, .ref (G.1 13))]) dX3_readsGame_77 rfl (by decide) rfl ?_
  exact Ev.sub (ks := [2, 1, 0]) rfl h
set_option maxHeartbeats 4000000 in
set_option maxRecDepth 100000 in
theorem B_X3_readsGame_70 (G : eG) (M : eM) (F : Bool → eM → Prop) 
    (h : Ev (eZ G 0 68 0 0 (eFZ F)) G 0 68 (102, 0, 0) kX3_readsGame 78 [(0, .ref (G.1 13)), (1, .int 1), (2, .int 0)] [] M 0 0) :
    Ev (eZ G 0 68 0 0 (eFZ F)) G 0 68 (102, 0, 0) kX3_readsGame 70 [(0, .ref (G.1 13))] [] M 0 0 := by
  refine r_iconst (v := 1) dX3_readsGame_70 rfl ?_
  refine r_goto (t := 75) dX3_readsGame_71 (by decide) ?_
  refine r_istore_n (l' := [(1, .int 1), (0, .ref (G.1 13))]) dX3_readsGame_75 rfl (by decide) rfl ?_
  refine r_iconst (v := 0) dX3_readsGame_76 rfl ?_
  refine r_istore_n (l' := [(2, .int 0), (1, .int 1), (0, .ref (G.1 13))]) dX3_readsGame_77 rfl (by decide) rfl ?_
  exact Ev.sub (ks := [2, 1, 0]) rfl h
set_option maxHeartbeats 4000000 in
set_option maxRecDepth 100000 in
theorem C_X3_readsGame (G : eG) (M : eM) (F : Bool → eM → Prop) 
    (h : Cal G 0 68 (1, 0, 0) kX9_kindOf [.ref (G.1 3), .int ((eU M 13 3 0) 13 3)] (eU M 13 3 0) (eFK G (fun (r1 : Int32) (M1 : eM) => Cal G 0 68 (2, 0, 0) kX3_accept [.ref (G.1 13), eV G 1 1] (eU M1 13 2 r1) (eFZ (fun (r2 : Bool) (M2 : eM) => ((r2 = false) → Ev (eZ G 0 68 0 0 (eFZ F)) G 0 68 (102, 0, 0) kX3_readsGame 70 [(0, .ref (G.1 13))] [] M2 0 0) ∧ ((r2 = true) → Cal G 0 68 (2, 0, 0) kX3_accept [.ref (G.1 13), eV G 1 40] M2 (eFZ (fun (r3 : Bool) (M3 : eM) => ((r3 = false) → Ev (eZ G 0 68 0 0 (eFZ F)) G 0 68 (102, 0, 0) kX3_readsGame 74 [(0, .ref (G.1 13))] [] M3 0 0) ∧ ((r3 = true) → Cal G 0 68 (2, 0, 0) kX3_accept [.ref (G.1 13), eV G 1 2] M3 (eFZ (fun (r4 : Bool) (M4 : eM) => ((r4 = false) → Ev (eZ G 0 68 0 0 (eFZ F)) G 0 68 (102, 0, 0) kX3_readsGame 74 [(0, .ref (G.1 13))] [] M4 0 0) ∧ ((r4 = true) → Cal G 0 68 (2, 0, 0) kX3_accept [.ref (G.1 13), eV G 1 40] M4 (eFZ (fun (r5 : Bool) (M5 : eM) => ((r5 = false) → Ev (eZ G 0 68 0 0 (eFZ F)) G 0 68 (102, 0, 0) kX3_readsGame 74 [(0, .ref (G.1 13))] [] M5 0 0) ∧ ((r5 = true) → Cal G 0 68 (2, 0, 0) kX3_accept [.ref (G.1 13), eV G 1 29] M5 (eFZ (fun (r6 : Bool) (M6 : eM) => ((r6 = false) → Ev (eZ G 0 68 0 0 (eFZ F)) G 0 68 (102, 0, 0) kX3_readsGame 74 [(0, .ref (G.1 13))] [] M6 0 0) ∧ ((r6 = true) → Ev (eZ G 0 68 0 0 (eFZ F)) G 0 68 (102, 0, 0) kX3_readsGame 70 [(0, .ref (G.1 13))] [] M6 0 0)))))))))))))))))) :
    Cal G 0 68 (102, 0, 0) kX3_readsGame [.ref (G.1 13)] M (eFZ F) := by
  refine Cal.of (by decide +kernel) rfl (Nat.le_of_ble_eq_true rfl) ?_
  show Ev (eZ G 0 68 0 0 (eFZ F)) G 0 68 (102, 0, 0) kX3_readsGame 0 [(0, .ref (G.1 13))] [] M 0 0
  refine r_aload_n 0 dX3_readsGame_0 rfl rfl ?_
  refine r_iconst (v := 0) dX3_readsGame_1 rfl ?_
  refine r_putI (c := 13) (k := 3) dX3_readsGame_2 clX3 lFX3_28 (by decide) iF13 sC13 rfl rfl rfl ?_
  refine r_aload_n 0 dX3_readsGame_5 rfl rfl ?_
  refine r_aload_n 0 dX3_readsGame_6 rfl rfl ?_
  refine r_getR (c := 13) (k := 0) 3 dX3_readsGame_7 clX3 lFX3_20 (by decide) iF13 sC13 rfl ?_
  refine r_aload_n 0 dX3_readsGame_10 rfl rfl ?_
  refine r_getI (c := 13) (k := 3) dX3_readsGame_11 clX3 lFX3_28 (by decide) iF13 sC13 rfl ?_
  refine r_callVK (b' := (1, 0, 0)) (c := 3) (S := [.ref (G.1 13)]) [.int ((eU M 13 3 0) 13 3)] dX3_readsGame_14 mX9_kindOf lMX3_32 clX9 rfl iF3 sC3 rfl (by decide) (Nat.le_of_ble_eq_true rfl) h (fun r1 M1 h => ?_) rfl
  refine r_putK (c := 13) (k := 2) dX3_readsGame_17 clX3 lFX3_15 (by decide) iF13 sC13 rfl rfl rfl ?_
  refine r_aload_n 0 dX3_readsGame_20 rfl rfl ?_
  refine r_getsK (w := 1) 0 dX3_readsGame_21 lFX3_38 (by decide) rfl rfl ?_
  refine r_callVZ (b' := (2, 0, 0)) (c := 13) (S := []) [eV G 1 1] dX3_readsGame_24 mX3_accept lMX3_41 clX3 rfl iF13 sC13 rfl (by decide) (Nat.le_of_ble_eq_true rfl) h (fun r2 M2 h => ?_) rfl
  refine r_zif_eq (t := 70) dX3_readsGame_27 (by decide) (fun q => ?_) (fun q => ?_)
  · replace h := h.1 q
    exact h
  · replace h := h.2 q
    refine r_aload_n 0 dX3_readsGame_30 rfl rfl ?_
    refine r_getsK (w := 40) 39 dX3_readsGame_31 lFX3_45 (by decide) rfl rfl ?_
    refine r_callVZ (b' := (2, 0, 0)) (c := 13) (S := []) [eV G 1 40] dX3_readsGame_34 mX3_accept lMX3_41 clX3 rfl iF13 sC13 rfl (by decide) (Nat.le_of_ble_eq_true rfl) h (fun r3 M3 h => ?_) rfl
    refine r_zif_eq (t := 74) dX3_readsGame_37 (by decide) (fun q => ?_) (fun q => ?_)
    · replace h := h.1 q
      exact h
    · replace h := h.2 q
      refine r_aload_n 0 dX3_readsGame_40 rfl rfl ?_
      refine r_getsK (w := 2) 1 dX3_readsGame_41 lFX3_48 (by decide) rfl rfl ?_
      refine r_callVZ (b' := (2, 0, 0)) (c := 13) (S := []) [eV G 1 2] dX3_readsGame_44 mX3_accept lMX3_41 clX3 rfl iF13 sC13 rfl (by decide) (Nat.le_of_ble_eq_true rfl) h (fun r4 M4 h => ?_) rfl
      refine r_zif_eq (t := 74) dX3_readsGame_47 (by decide) (fun q => ?_) (fun q => ?_)
      · replace h := h.1 q
        exact h
      · replace h := h.2 q
        refine r_aload_n 0 dX3_readsGame_50 rfl rfl ?_
        refine r_getsK (w := 40) 39 dX3_readsGame_51 lFX3_45 (by decide) rfl rfl ?_
        refine r_callVZ (b' := (2, 0, 0)) (c := 13) (S := []) [eV G 1 40] dX3_readsGame_54 mX3_accept lMX3_41 clX3 rfl iF13 sC13 rfl (by decide) (Nat.le_of_ble_eq_true rfl) h (fun r5 M5 h => ?_) rfl
        refine r_zif_eq (t := 74) dX3_readsGame_57 (by decide) (fun q => ?_) (fun q => ?_)
        · replace h := h.1 q
          exact h
        · replace h := h.2 q
          refine r_aload_n 0 dX3_readsGame_60 rfl rfl ?_
          refine r_getsK (w := 29) 28 dX3_readsGame_61 lFX3_51 (by decide) rfl rfl ?_
          refine r_callVZ (b' := (2, 0, 0)) (c := 13) (S := []) [eV G 1 29] dX3_readsGame_64 mX3_accept lMX3_41 clX3 rfl iF13 sC13 rfl (by decide) (Nat.le_of_ble_eq_true rfl) h (fun r6 M6 h => ?_) rfl
          refine r_zif_eq (t := 74) dX3_readsGame_67 (by decide) (fun q => ?_) (fun q => ?_)
          · replace h := h.1 q
            exact h
          · replace h := h.2 q
            exact h
set_option maxHeartbeats 4000000 in
set_option maxRecDepth 100000 in
theorem C_X3_readsTile (G : eG) (M : eM) (F : Bool → eM → Prop) 
    (h : Cal G 0 68 (2, 0, 0) kX3_accept [.ref (G.1 13), eV G 1 3] M (eFZ (fun (r1 : Bool) (M1 : eM) => ((r1 = false) → F false M1) ∧ ((r1 = true) → Cal G 0 68 (2, 0, 0) kX3_accept [.ref (G.1 13), eV G 1 41] M1 (eFZ (fun (r2 : Bool) (M2 : eM) => ((r2 = false) → F false M2) ∧ ((r2 = true) → Cal G 0 68 (2, 0, 0) kX3_accept [.ref (G.1 13), eV G 1 40] M2 (eFZ (fun (r3 : Bool) (M3 : eM) => ((r3 = false) → F false M3) ∧ ((r3 = true) → Cal G 0 68 (2, 0, 0) kX3_accept [.ref (G.1 13), eV G 1 40] M3 (eFZ (fun (r4 : Bool) (M4 : eM) => ((r4 = false) → F false M4) ∧ ((r4 = true) → Cal G 0 68 (2, 0, 0) kX3_accept [.ref (G.1 13), eV G 1 40] M4 (eFZ (fun (r5 : Bool) (M5 : eM) => ((r5 = false) → F false M5) ∧ ((r5 = true) → F true M5)))))))))))))))) :
    Cal G 0 68 (3, 0, 0) kX3_readsTile [.ref (G.1 13)] M (eFZ F) := by
  refine Cal.of (by decide +kernel) rfl (Nat.le_of_ble_eq_true rfl) ?_
  show Ev (eZ G 0 68 0 0 (eFZ F)) G 0 68 (3, 0, 0) kX3_readsTile 0 [(0, .ref (G.1 13))] [] M 0 0
  refine r_aload_n 0 dX3_readsTile_0 rfl rfl ?_
  refine r_getsK (w := 3) 2 dX3_readsTile_1 lFX3_54 (by decide) rfl rfl ?_
  refine r_callVZ (b' := (2, 0, 0)) (c := 13) (S := []) [eV G 1 3] dX3_readsTile_4 mX3_accept lMX3_41 clX3 rfl iF13 sC13 rfl (by decide) (Nat.le_of_ble_eq_true rfl) h (fun r1 M1 h => ?_) rfl
  refine r_zif_eq (t := 54) dX3_readsTile_7 (by decide) (fun q => ?_) (fun q => ?_)
  · replace h := h.1 q
    refine r_iconst (v := 0) dX3_readsTile_54 rfl ?_
    refine r_iretZ0 dX3_readsTile_55 rfl (by decide) (by decide) h
  · replace h := h.2 q
    refine r_aload_n 0 dX3_readsTile_10 rfl rfl ?_
    refine r_getsK (w := 41) 40 dX3_readsTile_11 lFX3_64 (by decide) rfl rfl ?_
    refine r_callVZ (b' := (2, 0, 0)) (c := 13) (S := []) [eV G 1 41] dX3_readsTile_14 mX3_accept lMX3_41 clX3 rfl iF13 sC13 rfl (by decide) (Nat.le_of_ble_eq_true rfl) h (fun r2 M2 h => ?_) rfl
    refine r_zif_eq (t := 54) dX3_readsTile_17 (by decide) (fun q => ?_) (fun q => ?_)
    · replace h := h.1 q
      refine r_iconst (v := 0) dX3_readsTile_54 rfl ?_
      refine r_iretZ0 dX3_readsTile_55 rfl (by decide) (by decide) h
    · replace h := h.2 q
      refine r_aload_n 0 dX3_readsTile_20 rfl rfl ?_
      refine r_getsK (w := 40) 39 dX3_readsTile_21 lFX3_45 (by decide) rfl rfl ?_
      refine r_callVZ (b' := (2, 0, 0)) (c := 13) (S := []) [eV G 1 40] dX3_readsTile_24 mX3_accept lMX3_41 clX3 rfl iF13 sC13 rfl (by decide) (Nat.le_of_ble_eq_true rfl) h (fun r3 M3 h => ?_) rfl
      refine r_zif_eq (t := 54) dX3_readsTile_27 (by decide) (fun q => ?_) (fun q => ?_)
      · replace h := h.1 q
        refine r_iconst (v := 0) dX3_readsTile_54 rfl ?_
        refine r_iretZ0 dX3_readsTile_55 rfl (by decide) (by decide) h
      · replace h := h.2 q
        refine r_aload_n 0 dX3_readsTile_30 rfl rfl ?_
        refine r_getsK (w := 40) 39 dX3_readsTile_31 lFX3_45 (by decide) rfl rfl ?_
        refine r_callVZ (b' := (2, 0, 0)) (c := 13) (S := []) [eV G 1 40] dX3_readsTile_34 mX3_accept lMX3_41 clX3 rfl iF13 sC13 rfl (by decide) (Nat.le_of_ble_eq_true rfl) h (fun r4 M4 h => ?_) rfl
        refine r_zif_eq (t := 54) dX3_readsTile_37 (by decide) (fun q => ?_) (fun q => ?_)
        · replace h := h.1 q
          refine r_iconst (v := 0) dX3_readsTile_54 rfl ?_
          refine r_iretZ0 dX3_readsTile_55 rfl (by decide) (by decide) h
        · replace h := h.2 q
          refine r_aload_n 0 dX3_readsTile_40 rfl rfl ?_
          refine r_getsK (w := 40) 39 dX3_readsTile_41 lFX3_45 (by decide) rfl rfl ?_
          refine r_callVZ (b' := (2, 0, 0)) (c := 13) (S := []) [eV G 1 40] dX3_readsTile_44 mX3_accept lMX3_41 clX3 rfl iF13 sC13 rfl (by decide) (Nat.le_of_ble_eq_true rfl) h (fun r5 M5 h => ?_) rfl
          refine r_zif_eq (t := 54) dX3_readsTile_47 (by decide) (fun q => ?_) (fun q => ?_)
          · replace h := h.1 q
            refine r_iconst (v := 0) dX3_readsTile_54 rfl ?_
            refine r_iretZ0 dX3_readsTile_55 rfl (by decide) (by decide) h
          · replace h := h.2 q
            refine r_iconst (v := 1) dX3_readsTile_50 rfl ?_
            refine r_goto (t := 55) dX3_readsTile_51 (by decide) ?_
            refine r_iretZ1 dX3_readsTile_55 rfl (by decide) (by decide) h
set_option maxHeartbeats 4000000 in
set_option maxRecDepth 100000 in
theorem B_X3_readsOrder_128 (G : eG) (M : eM) (F : Bool → eM → Prop) (x2 : Bool)
    (h : Cal G 0 68 (1, 0, 0) kX7_beginTest [.ref (G.1 8)] M (eFV (fun (M1 : eM) => ((x2 = false) → Cal G 0 68 (1, 0, 0) kX7_endOrder [.ref (G.1 8)] M1 (eFV (fun (M2 : eM) => F x2 M2))) ∧ ((x2 = true) → Cal G 0 68 (2, 0, 0) kX3_accept [.ref (G.1 13), eV G 1 9] M1 (eFZ (fun (r3 : Bool) (M3 : eM) => ((r3 = false) → Cal G 0 68 (1, 0, 0) kX7_endOrder [.ref (G.1 8)] M3 (eFV (fun (M4 : eM) => F x2 M4))) ∧ ((r3 = true) → Cal G 0 68 (100, 0, 0) kX3_readsTest [.ref (G.1 13), .int 0] M3 (eFZ (fun (r5 : Bool) (M5 : eM) => Cal G 0 68 (1, 0, 0) kX7_endOrder [.ref (G.1 8)] M5 (eFV (fun (M6 : eM) => F r5 M6))))))))))) :
    Ev (eZ G 0 68 0 0 (eFZ F)) G 0 68 (101, 0, 0) kX3_readsOrder 128 [(0, .ref (G.1 13)), (2, .int (eZi x2))] [] M 0 0 := by
  refine r_aload_n 0 dX3_readsOrder_128 rfl rfl ?_
  refine r_getR (c := 13) (k := 1) 8 dX3_readsOrder_129 clX3 lFX3_24 (by decide) iF13 sC13 rfl ?_
  refine r_callVV (b' := (1, 0, 0)) (c := 8) (S := []) [] dX3_readsOrder_132 mX7_beginTest lMX3_95 clX7 rfl iF8 sC8 rfl (by decide) (Nat.le_of_ble_eq_true rfl) h (fun M1 h => ?_) rfl
  refine r_iload_n 1 dX3_readsOrder_135 rfl rfl ?_
  refine r_zif_eq (t := 155) dX3_readsOrder_136 (by decide) (fun q => ?_) (fun q => ?_)
  · replace h := h.1 q
    refine r_aload_n 0 dX3_readsOrder_155 rfl rfl ?_
    refine r_getR (c := 13) (k := 1) 8 dX3_readsOrder_156 clX3 lFX3_24 (by decide) iF13 sC13 rfl ?_
    refine r_callVV (b' := (1, 0, 0)) (c := 8) (S := []) [] dX3_readsOrder_159 mX7_endOrder lMX3_104 clX7 rfl iF8 sC8 rfl (by decide) (Nat.le_of_ble_eq_true rfl) h (fun M2 h => ?_) rfl
    refine r_iload_n 1 dX3_readsOrder_162 rfl rfl ?_
    refine r_iretZ dX3_readsOrder_163 rfl (by decide) (by decide) h
  · replace h := h.2 q
    refine r_aload_n 0 dX3_readsOrder_139 rfl rfl ?_
    refine r_getsK (w := 9) 8 dX3_readsOrder_140 lFX3_98 (by decide) rfl rfl ?_
    refine r_callVZ (b' := (2, 0, 0)) (c := 13) (S := []) [eV G 1 9] dX3_readsOrder_143 mX3_accept lMX3_41 clX3 rfl iF13 sC13 rfl (by decide) (Nat.le_of_ble_eq_true rfl) h (fun r3 M3 h => ?_) rfl
    refine r_zif_eq (t := 155) dX3_readsOrder_146 (by decide) (fun q => ?_) (fun q => ?_)
    · replace h := h.1 q
      refine r_aload_n 0 dX3_readsOrder_155 rfl rfl ?_
      refine r_getR (c := 13) (k := 1) 8 dX3_readsOrder_156 clX3 lFX3_24 (by decide) iF13 sC13 rfl ?_
      refine r_callVV (b' := (1, 0, 0)) (c := 8) (S := []) [] dX3_readsOrder_159 mX7_endOrder lMX3_104 clX7 rfl iF8 sC8 rfl (by decide) (Nat.le_of_ble_eq_true rfl) h (fun M4 h => ?_) rfl
      refine r_iload_n 1 dX3_readsOrder_162 rfl rfl ?_
      refine r_iretZ dX3_readsOrder_163 rfl (by decide) (by decide) h
    · replace h := h.2 q
      refine r_aload_n 0 dX3_readsOrder_149 rfl rfl ?_
      refine r_iconst (v := 0) dX3_readsOrder_150 rfl ?_
      refine r_callVZ (b' := (100, 0, 0)) (c := 13) (S := []) [.int 0] dX3_readsOrder_151 mX3_readsTest lMX3_101 clX3 rfl iF13 sC13 rfl (by decide) (Nat.le_of_ble_eq_true rfl) h (fun r5 M5 h => ?_) rfl
      refine r_istore_n (l' := [(2, .int (eZi r5)), (0, .ref (G.1 13))]) dX3_readsOrder_154 rfl (by decide) rfl ?_
      refine r_aload_n 1 dX3_readsOrder_155 rfl rfl ?_
      refine r_getR (c := 13) (k := 1) 8 dX3_readsOrder_156 clX3 lFX3_24 (by decide) iF13 sC13 rfl ?_
      refine r_callVV (b' := (1, 0, 0)) (c := 8) (S := []) [] dX3_readsOrder_159 mX7_endOrder lMX3_104 clX7 rfl iF8 sC8 rfl (by decide) (Nat.le_of_ble_eq_true rfl) h (fun M6 h => ?_) rfl
      refine r_iload_n 0 dX3_readsOrder_162 rfl rfl ?_
      refine r_iretZ dX3_readsOrder_163 rfl (by decide) (by decide) h
set_option maxHeartbeats 4000000 in
set_option maxRecDepth 100000 in
theorem B_X3_readsOrder_126 (G : eG) (M : eM) (F : Bool → eM → Prop) 
    (h : Ev (eZ G 0 68 0 0 (eFZ F)) G 0 68 (101, 0, 0) kX3_readsOrder 128 [(0, .ref (G.1 13)), (2, .int (eZi false))] [] M 0 0) :
    Ev (eZ G 0 68 0 0 (eFZ F)) G 0 68 (101, 0, 0) kX3_readsOrder 126 [(0, .ref (G.1 13))] [] M 0 0 := by
  refine r_iconst (v := 0) dX3_readsOrder_126 rfl ?_
  refine r_istore_n (l' := [(2, .int 0), (0, .ref (G.1 13))]) dX3_readsOrder_127 rfl (by decide) rfl ?_
  exact Ev.sub (ks := [1, 0]) rfl h
set_option maxHeartbeats 4000000 in
set_option maxRecDepth 100000 in
theorem B_X3_readsOrder_37 (G : eG) (M : eM) (F : Bool → eM → Prop) (x1 : Int32)
    (h : Cal G 0 68 (1, 0, 0) kX7_beginOrder [.ref (G.1 8), eV G 1 x1, .int (M 13 3)] M (eFV (fun (M1 : eM) => Cal G 0 68 (2, 0, 0) kX3_accept [.ref (G.1 13), eV G 1 41] M1 (eFZ (fun (r2 : Bool) (M2 : eM) => ((r2 = false) → Ev (eZ G 0 68 0 0 (eFZ F)) G 0 68 (101, 0, 0) kX3_readsOrder 128 [(0, .ref (G.1 13)), (2, .int (eZi r2))] [] M2 0 0) ∧ ((r2 = true) → ((¬ eKn1 x1 = eKn1 4) → Ev (eZ G 0 68 0 0 (eFZ F)) G 0 68 (101, 0, 0) kX3_readsOrder 128 [(0, .ref (G.1 13)), (2, .int (eZi r2))] [] M2 0 0) ∧ ((eKn1 x1 = eKn1 4) → Cal G 0 68 (2, 0, 0) kX3_accept [.ref (G.1 13), eV G 1 5] M2 (eFZ (fun (r3 : Bool) (M3 : eM) => ((r3 = false) → Ev (eZ G 0 68 0 0 (eFZ F)) G 0 68 (101, 0, 0) kX3_readsOrder 126 [(0, .ref (G.1 13))] [] M3 0 0) ∧ ((r3 = true) → Cal G 0 68 (100, 0, 0) kX3_readsSum [.ref (G.1 13), .int 0] M3 (eFZ (fun (r4 : Bool) (M4 : eM) => ((r4 = false) → Ev (eZ G 0 68 0 0 (eFZ F)) G 0 68 (101, 0, 0) kX3_readsOrder 126 [(0, .ref (G.1 13))] [] M4 0 0) ∧ ((r4 = true) → Cal G 0 68 (2, 0, 0) kX3_accept [.ref (G.1 13), eV G 1 30] M4 (eFZ (fun (r5 : Bool) (M5 : eM) => ((r5 = false) → Ev (eZ G 0 68 0 0 (eFZ F)) G 0 68 (101, 0, 0) kX3_readsOrder 126 [(0, .ref (G.1 13))] [] M5 0 0) ∧ ((r5 = true) → Cal G 0 68 (100, 0, 0) kX3_readsSum [.ref (G.1 13), .int 0] M5 (eFZ (fun (r6 : Bool) (M6 : eM) => ((r6 = false) → Ev (eZ G 0 68 0 0 (eFZ F)) G 0 68 (101, 0, 0) kX3_readsOrder 126 [(0, .ref (G.1 13))] [] M6 0 0) ∧ ((r6 = true) → Cal G 0 68 (2, 0, 0) kX3_accept [.ref (G.1 13), eV G 1 6] M6 (eFZ (fun (r7 : Bool) (M7 : eM) => ((r7 = false) → Ev (eZ G 0 68 0 0 (eFZ F)) G 0 68 (101, 0, 0) kX3_readsOrder 126 [(0, .ref (G.1 13))] [] M7 0 0) ∧ ((r7 = true) → Cal G 0 68 (100, 0, 0) kX3_readsSum [.ref (G.1 13), .int 0] M7 (eFZ (fun (r8 : Bool) (M8 : eM) => ((r8 = false) → Ev (eZ G 0 68 0 0 (eFZ F)) G 0 68 (101, 0, 0) kX3_readsOrder 126 [(0, .ref (G.1 13))] [] M8 0 0) ∧ ((r8 = true) → Ev (eZ G 0 68 0 0 (eFZ F)) G 0 68 (101, 0, 0) kX3_readsOrder 128 [(0, .ref (G.1 13)), (2, .int (eZi true))] [] M8 0 0))))))))))))))))))))))))) :
    Ev (eZ G 0 68 0 0 (eFZ F)) G 0 68 (101, 0, 0) kX3_readsOrder 37 [(0, .ref (G.1 13)), (1, eV G 1 x1)] [] M 0 0 := by
  refine r_aload_n 0 dX3_readsOrder_37 rfl rfl ?_
  refine r_getR (c := 13) (k := 1) 8 dX3_readsOrder_38 clX3 lFX3_24 (by decide) iF13 sC13 rfl ?_
  refine r_kload_n 1 dX3_readsOrder_41 rfl rfl ?_
  refine r_aload_n 0 dX3_readsOrder_42 rfl rfl ?_
  refine r_getI (c := 13) (k := 3) dX3_readsOrder_43 clX3 lFX3_28 (by decide) iF13 sC13 rfl ?_
  refine r_callVV (b' := (1, 0, 0)) (c := 8) (S := []) [eV G 1 x1, .int (M 13 3)] dX3_readsOrder_46 mX7_beginOrder lMX3_76 clX7 rfl iF8 sC8 rfl (by decide) (Nat.le_of_ble_eq_true rfl) h (fun M1 h => ?_) rfl
  refine r_aload_n 0 dX3_readsOrder_49 rfl rfl ?_
  refine r_getsK (w := 41) 40 dX3_readsOrder_50 lFX3_64 (by decide) rfl rfl ?_
  refine r_callVZ (b' := (2, 0, 0)) (c := 13) (S := []) [eV G 1 41] dX3_readsOrder_53 mX3_accept lMX3_41 clX3 rfl iF13 sC13 rfl (by decide) (Nat.le_of_ble_eq_true rfl) h (fun r2 M2 h => ?_) rfl
  refine r_istore_n (i := 2) (l' := [(2, .int (eZi r2)), (0, .ref (G.1 13)), (1, eV G 1 x1)]) dX3_readsOrder_56 rfl (by decide) (by simp [List.filter_cons, eV_cat, eCatI, eCatR]) ?_
  refine r_iload_n 0 dX3_readsOrder_57 rfl rfl ?_
  refine r_zif_eq (t := 128) dX3_readsOrder_58 (by decide) (fun q => ?_) (fun q => ?_)
  · replace h := h.1 q
    exact Ev.sub (ks := [1, 0]) rfl h
  · replace h := h.2 q
    refine r_kload_n 2 dX3_readsOrder_61 rfl rfl ?_
    refine r_getsK (w := 4) 3 dX3_readsOrder_62 lFX3_67 (by decide) rfl rfl ?_
    refine r_kcmp_ne (tg := 128) dX3_readsOrder_65 (by decide) (fun q => ?_) (fun q => ?_)
    · replace h := h.1 q
      exact Ev.sub (ks := [1, 0]) rfl h
    · replace h := h.2 q
      refine r_aload_n 1 dX3_readsOrder_68 rfl rfl ?_
      refine r_getsK (w := 5) 4 dX3_readsOrder_69 lFX3_82 (by decide) rfl rfl ?_
      refine r_callVZ (b' := (2, 0, 0)) (c := 13) (S := []) [eV G 1 5] dX3_readsOrder_72 mX3_accept lMX3_41 clX3 rfl iF13 sC13 rfl (by decide) (Nat.le_of_ble_eq_true rfl) h (fun r3 M3 h => ?_) rfl
      refine r_zif_eq (t := 126) dX3_readsOrder_75 (by decide) (fun q => ?_) (fun q => ?_)
      · replace h := h.1 q
        exact Ev.sub (ks := [1]) rfl h
      · replace h := h.2 q
        refine r_aload_n 1 dX3_readsOrder_78 rfl rfl ?_
        refine r_iconst (v := 0) dX3_readsOrder_79 rfl ?_
        refine r_callVZ (b' := (100, 0, 0)) (c := 13) (S := []) [.int 0] dX3_readsOrder_80 mX3_readsSum lMX3_85 clX3 rfl iF13 sC13 rfl (by decide) (Nat.le_of_ble_eq_true rfl) h (fun r4 M4 h => ?_) rfl
        refine r_zif_eq (t := 126) dX3_readsOrder_83 (by decide) (fun q => ?_) (fun q => ?_)
        · replace h := h.1 q
          exact Ev.sub (ks := [1]) rfl h
        · replace h := h.2 q
          refine r_aload_n 1 dX3_readsOrder_86 rfl rfl ?_
          refine r_getsK (w := 30) 29 dX3_readsOrder_87 lFX3_89 (by decide) rfl rfl ?_
          refine r_callVZ (b' := (2, 0, 0)) (c := 13) (S := []) [eV G 1 30] dX3_readsOrder_90 mX3_accept lMX3_41 clX3 rfl iF13 sC13 rfl (by decide) (Nat.le_of_ble_eq_true rfl) h (fun r5 M5 h => ?_) rfl
          refine r_zif_eq (t := 126) dX3_readsOrder_93 (by decide) (fun q => ?_) (fun q => ?_)
          · replace h := h.1 q
            exact Ev.sub (ks := [1]) rfl h
          · replace h := h.2 q
            refine r_aload_n 1 dX3_readsOrder_96 rfl rfl ?_
            refine r_iconst (v := 0) dX3_readsOrder_97 rfl ?_
            refine r_callVZ (b' := (100, 0, 0)) (c := 13) (S := []) [.int 0] dX3_readsOrder_98 mX3_readsSum lMX3_85 clX3 rfl iF13 sC13 rfl (by decide) (Nat.le_of_ble_eq_true rfl) h (fun r6 M6 h => ?_) rfl
            refine r_zif_eq (t := 126) dX3_readsOrder_101 (by decide) (fun q => ?_) (fun q => ?_)
            · replace h := h.1 q
              exact Ev.sub (ks := [1]) rfl h
            · replace h := h.2 q
              refine r_aload_n 1 dX3_readsOrder_104 rfl rfl ?_
              refine r_getsK (w := 6) 5 dX3_readsOrder_105 lFX3_92 (by decide) rfl rfl ?_
              refine r_callVZ (b' := (2, 0, 0)) (c := 13) (S := []) [eV G 1 6] dX3_readsOrder_108 mX3_accept lMX3_41 clX3 rfl iF13 sC13 rfl (by decide) (Nat.le_of_ble_eq_true rfl) h (fun r7 M7 h => ?_) rfl
              refine r_zif_eq (t := 126) dX3_readsOrder_111 (by decide) (fun q => ?_) (fun q => ?_)
              · replace h := h.1 q
                exact Ev.sub (ks := [1]) rfl h
              · replace h := h.2 q
                refine r_aload_n 1 dX3_readsOrder_114 rfl rfl ?_
                refine r_iconst (v := 0) dX3_readsOrder_115 rfl ?_
                refine r_callVZ (b' := (100, 0, 0)) (c := 13) (S := []) [.int 0] dX3_readsOrder_116 mX3_readsSum lMX3_85 clX3 rfl iF13 sC13 rfl (by decide) (Nat.le_of_ble_eq_true rfl) h (fun r8 M8 h => ?_) rfl
                refine r_zif_eq (t := 126) dX3_readsOrder_119 (by decide) (fun q => ?_) (fun q => ?_)
                · replace h := h.1 q
                  exact Ev.sub (ks := [1]) rfl h
                · replace h := h.2 q
                  refine r_iconst (v := 1) dX3_readsOrder_122 rfl ?_
                  refine r_goto (t := 127) dX3_readsOrder_123 (by decide) ?_
                  refine r_istore_n (i := 2) (l' := [(2, .int 1), (0, .ref (G.1 13)), (1, eV G 1 x1)]) dX3_readsOrder_127 rfl (by decide) (by simp [List.filter_cons, eV_cat, eCatI, eCatR]) ?_
                  exact Ev.sub (ks := [1, 0]) rfl h
set_option maxHeartbeats 4000000 in
set_option maxRecDepth 100000 in
theorem C_X3_readsOrder (G : eG) (M : eM) (F : Bool → eM → Prop) 
    (h : Cal G 0 68 (2, 0, 0) kX3_accept [.ref (G.1 13), eV G 1 4] M (eFZ (fun (r1 : Bool) (M1 : eM) => ((r1 = true) → Ev (eZ G 0 68 0 0 (eFZ F)) G 0 68 (101, 0, 0) kX3_readsOrder 37 [(0, .ref (G.1 13)), (1, eV G 1 (M 13 2))] [] M1 0 0) ∧ ((r1 = false) → Cal G 0 68 (2, 0, 0) kX3_accept [.ref (G.1 13), eV G 1 7] M1 (eFZ (fun (r2 : Bool) (M2 : eM) => ((r2 = true) → Ev (eZ G 0 68 0 0 (eFZ F)) G 0 68 (101, 0, 0) kX3_readsOrder 37 [(0, .ref (G.1 13)), (1, eV G 1 (M 13 2))] [] M2 0 0) ∧ ((r2 = false) → Cal G 0 68 (2, 0, 0) kX3_accept [.ref (G.1 13), eV G 1 8] M2 (eFZ (fun (r3 : Bool) (M3 : eM) => ((r3 = true) → Ev (eZ G 0 68 0 0 (eFZ F)) G 0 68 (101, 0, 0) kX3_readsOrder 37 [(0, .ref (G.1 13)), (1, eV G 1 (M 13 2))] [] M3 0 0) ∧ ((r3 = false) → F false M3)))))))))) :
    Cal G 0 68 (101, 0, 0) kX3_readsOrder [.ref (G.1 13)] M (eFZ F) := by
  refine Cal.of (by decide +kernel) rfl (Nat.le_of_ble_eq_true rfl) ?_
  show Ev (eZ G 0 68 0 0 (eFZ F)) G 0 68 (101, 0, 0) kX3_readsOrder 0 [(0, .ref (G.1 13))] [] M 0 0
  refine r_aload_n 0 dX3_readsOrder_0 rfl rfl ?_
  refine r_getK (c := 13) (k := 2) dX3_readsOrder_1 clX3 lFX3_15 (by decide) iF13 sC13 rfl ?_
  refine r_kstore_n (l' := [(1, eV G 1 (M 13 2)), (0, .ref (G.1 13))]) dX3_readsOrder_4 rfl (by decide) rfl ?_
  refine r_aload_n 1 dX3_readsOrder_5 rfl rfl ?_
  refine r_getsK (w := 4) 3 dX3_readsOrder_6 lFX3_67 (by decide) rfl rfl ?_
  refine r_callVZ (b' := (2, 0, 0)) (c := 13) (S := []) [eV G 1 4] dX3_readsOrder_9 mX3_accept lMX3_41 clX3 rfl iF13 sC13 rfl (by decide) (Nat.le_of_ble_eq_true rfl) h (fun r1 M1 h => ?_) rfl
  refine r_zif_ne (t := 37) dX3_readsOrder_12 (by decide) (fun q => ?_) (fun q => ?_)
  · replace h := h.1 q
    exact Ev.sub (ks := [1, 0]) rfl h
  · replace h := h.2 q
    refine r_aload_n 1 dX3_readsOrder_15 rfl rfl ?_
    refine r_getsK (w := 7) 6 dX3_readsOrder_16 lFX3_70 (by decide) rfl rfl ?_
    refine r_callVZ (b' := (2, 0, 0)) (c := 13) (S := []) [eV G 1 7] dX3_readsOrder_19 mX3_accept lMX3_41 clX3 rfl iF13 sC13 rfl (by decide) (Nat.le_of_ble_eq_true rfl) h (fun r2 M2 h => ?_) rfl
    refine r_zif_ne (t := 37) dX3_readsOrder_22 (by decide) (fun q => ?_) (fun q => ?_)
    · replace h := h.1 q
      exact Ev.sub (ks := [1, 0]) rfl h
    · replace h := h.2 q
      refine r_aload_n 1 dX3_readsOrder_25 rfl rfl ?_
      refine r_getsK (w := 8) 7 dX3_readsOrder_26 lFX3_73 (by decide) rfl rfl ?_
      refine r_callVZ (b' := (2, 0, 0)) (c := 13) (S := []) [eV G 1 8] dX3_readsOrder_29 mX3_accept lMX3_41 clX3 rfl iF13 sC13 rfl (by decide) (Nat.le_of_ble_eq_true rfl) h (fun r3 M3 h => ?_) rfl
      refine r_zif_ne (t := 37) dX3_readsOrder_32 (by decide) (fun q => ?_) (fun q => ?_)
      · replace h := h.1 q
        exact Ev.sub (ks := [1, 0]) rfl h
      · replace h := h.2 q
        refine r_iconst (v := 0) dX3_readsOrder_35 rfl ?_
        refine r_iretZ0 dX3_readsOrder_36 rfl (by decide) (by decide) h
set_option maxHeartbeats 4000000 in
set_option maxRecDepth 100000 in
theorem B_X3_readsTest_58 (G : eG) (d : Nat) (M : eM) (F : Bool → eM → Prop) (x1 : Int32) (x3 : Int32)
    (h : Ev (eZ G 0 68 0 0 (eFZ F)) G 0 68 (d + 5, 0, 0) kX3_readsTest 8 [(0, .ref (G.1 13)), (1, .int x1), (2, .int (eZi false)), (3, .int (x3 + 1))] [] M 0 0) :
    Ev (eZ G 0 68 0 0 (eFZ F)) G 0 68 (d + 5, 0, 0) kX3_readsTest 58 [(0, .ref (G.1 13)), (1, .int x1), (3, .int x3)] [] M 0 0 := by
  refine r_iconst (v := 0) dX3_readsTest_58 rfl ?_
  refine r_istore_n (l' := [(2, .int 0), (0, .ref (G.1 13)), (1, .int x1), (3, .int x3)]) dX3_readsTest_59 rfl (by decide) rfl ?_
  refine r_iinc (v := x3 + 1) (l' := [(3, .int (x3 + 1)), (2, .int 0), (0, .ref (G.1 13)), (1, .int x1)]) 3 dX3_readsTest_60 rfl rfl (by decide) rfl ?_
  refine r_goto (t := 8) dX3_readsTest_63 (by decide) ?_
  exact Ev.sub (ks := [2, 3, 1, 0]) rfl h
set_option maxHeartbeats 4000000 in
set_option maxRecDepth 100000 in
theorem B_X3_readsTest_8 (G : eG) (d : Nat) (M : eM) (F : Bool → eM → Prop) (x1 : Int32) (x2 : Bool) (x3 : Int32)
    (h : ((400 ≤ x3) → F x2 M) ∧ ((¬ 400 ≤ x3) → ((x2 = false) → F x2 M) ∧ ((x2 = true) → Cal G 0 68 (2, 0, 0) kX3_accept [.ref (G.1 13), eV G 1 22] M (eFZ (fun (r1 : Bool) (M1 : eM) => ((r1 = false) → F x2 M1) ∧ ((r1 = true) → Cal G 0 68 (d + 4, 0, 0) kX3_readsBoth [.ref (G.1 13), .int x1] M1 (eFZ (fun (r2 : Bool) (M2 : eM) => ((r2 = false) → Ev (eZ G 0 68 0 0 (eFZ F)) G 0 68 (d + 5, 0, 0) kX3_readsTest 58 [(0, .ref (G.1 13)), (1, .int x1), (3, .int x3)] [] M2 0 0) ∧ ((r2 = true) → Cal G 0 68 (1, 0, 0) kX7_add [.ref (G.1 8), eV G 1 22, .int (M2 13 3)] M2 (eFZ (fun (r3 : Bool) (M3 : eM) => ((r3 = false) → Ev (eZ G 0 68 0 0 (eFZ F)) G 0 68 (d + 5, 0, 0) kX3_readsTest 58 [(0, .ref (G.1 13)), (1, .int x1), (3, .int x3)] [] M3 0 0) ∧ ((r3 = true) → Ev (eZ G 0 68 0 0 (eFZ F)) G 0 68 (d + 5, 0, 0) kX3_readsTest 8 [(0, .ref (G.1 13)), (1, .int x1), (2, .int (eZi true)), (3, .int (x3 + 1))] [] M3 0 0)))))))))))) :
    Ev (eZ G 0 68 0 0 (eFZ F)) G 0 68 (d + 5, 0, 0) kX3_readsTest 8 [(0, .ref (G.1 13)), (1, .int x1), (2, .int (eZi x2)), (3, .int x3)] [] M 0 0 := by
  refine r_iload_n 3 dX3_readsTest_8 rfl rfl ?_
  refine r_sipush (v := 400) dX3_readsTest_9 rfl ?_
  refine r_icmp_ge (t := 66) dX3_readsTest_12 (by decide) (fun q => ?_) (fun q => ?_)
  · replace h := h.1 q
    refine r_iload_n 2 dX3_readsTest_66 rfl rfl ?_
    refine r_iretZ dX3_readsTest_67 rfl (Nat.le_refl _) (Nat.le_refl _) h
  · replace h := h.2 q
    refine r_iload_n 2 dX3_readsTest_15 rfl rfl ?_
    refine r_zif_eq (t := 66) dX3_readsTest_16 (by decide) (fun q => ?_) (fun q => ?_)
    · replace h := h.1 q
      refine r_iload_n 2 dX3_readsTest_66 rfl rfl ?_
      refine r_iretZ dX3_readsTest_67 rfl (Nat.le_refl _) (Nat.le_refl _) h
    · replace h := h.2 q
      refine r_aload_n 0 dX3_readsTest_19 rfl rfl ?_
      refine r_getsK (w := 22) 21 dX3_readsTest_20 lFX3_110 (by decide) rfl rfl ?_
      refine r_callVZ (b' := (2, 0, 0)) (c := 13) (S := []) [eV G 1 22] dX3_readsTest_23 mX3_accept lMX3_41 clX3 rfl iF13 sC13 rfl (eFitL (by decide) (by decide)) (Nat.le_of_ble_eq_true rfl) h (fun r1 M1 h => ?_) rfl
      refine r_zif_eq (t := 66) dX3_readsTest_26 (by decide) (fun q => ?_) (fun q => ?_)
      · replace h := h.1 q
        refine r_iload_n 2 dX3_readsTest_66 rfl rfl ?_
        refine r_iretZ dX3_readsTest_67 rfl (Nat.le_refl _) (Nat.le_refl _) h
      · replace h := h.2 q
        refine r_aload_n 0 dX3_readsTest_29 rfl rfl ?_
        refine r_iload_n 1 dX3_readsTest_30 rfl rfl ?_
        refine r_callVZ (b' := (d + 4, 0, 0)) (c := 13) (S := []) [.int x1] dX3_readsTest_31 mX3_readsBoth lMX3_107 clX3 rfl iF13 sC13 rfl (eFitR (by decide)) (Nat.le_of_ble_eq_true rfl) h (fun r2 M2 h => ?_) rfl
        refine r_zif_eq (t := 58) dX3_readsTest_34 (by decide) (fun q => ?_) (fun q => ?_)
        · replace h := h.1 q
          exact Ev.sub (ks := [0, 1, 3]) rfl h
        · replace h := h.2 q
          refine r_aload_n 0 dX3_readsTest_37 rfl rfl ?_
          refine r_getR (c := 13) (k := 1) 8 dX3_readsTest_38 clX3 lFX3_24 (by decide) iF13 sC13 rfl ?_
          refine r_getsK (w := 22) 21 dX3_readsTest_41 lFX3_110 (by decide) rfl rfl ?_
          refine r_aload_n 0 dX3_readsTest_44 rfl rfl ?_
          refine r_getI (c := 13) (k := 3) dX3_readsTest_45 clX3 lFX3_28 (by decide) iF13 sC13 rfl ?_
          refine r_callVZ (b' := (1, 0, 0)) (c := 8) (S := []) [eV G 1 22, .int (M2 13 3)] dX3_readsTest_48 mX7_add lMX3_113 clX7 rfl iF8 sC8 rfl (eFitL (by decide) (by decide)) (Nat.le_of_ble_eq_true rfl) h (fun r3 M3 h => ?_) rfl
          refine r_zif_eq (t := 58) dX3_readsTest_51 (by decide) (fun q => ?_) (fun q => ?_)
          · replace h := h.1 q
            exact Ev.sub (ks := [0, 1, 3]) rfl h
          · replace h := h.2 q
            refine r_iconst (v := 1) dX3_readsTest_54 rfl ?_
            refine r_goto (t := 59) dX3_readsTest_55 (by decide) ?_
            refine r_istore_n (l' := [(2, .int 1), (0, .ref (G.1 13)), (1, .int x1), (3, .int x3)]) dX3_readsTest_59 rfl (by decide) rfl ?_
            refine r_iinc (v := x3 + 1) (l' := [(3, .int (x3 + 1)), (2, .int 1), (0, .ref (G.1 13)), (1, .int x1)]) 3 dX3_readsTest_60 rfl rfl (by decide) rfl ?_
            refine r_goto (t := 8) dX3_readsTest_63 (by decide) ?_
            exact Ev.sub (ks := [2, 3, 1, 0]) rfl h
set_option maxHeartbeats 4000000 in
set_option maxRecDepth 100000 in
theorem C_X3_readsTest (G : eG) (d : Nat) (M : eM) (F : Bool → eM → Prop) (a1 : Int32)
    (h : Cal G 0 68 (d + 4, 0, 0) kX3_readsBoth [.ref (G.1 13), .int a1] M (eFZ (fun (r1 : Bool) (M1 : eM) => Ev (eZ G 0 68 0 0 (eFZ F)) G 0 68 (d + 5, 0, 0) kX3_readsTest 8 [(0, .ref (G.1 13)), (1, .int a1), (2, .int (eZi r1)), (3, .int 0)] [] M1 0 0))) :
    Cal G 0 68 (d + 5, 0, 0) kX3_readsTest [.ref (G.1 13), .int a1] M (eFZ F) := by
  refine Cal.of (by decide +kernel) rfl (Nat.le_of_ble_eq_true rfl) ?_
  show Ev (eZ G 0 68 0 0 (eFZ F)) G 0 68 (d + 5, 0, 0) kX3_readsTest 0 [(0, .ref (G.1 13)), (1, .int a1)] [] M 0 0
  refine r_aload_n 0 dX3_readsTest_0 rfl rfl ?_
  refine r_iload_n 1 dX3_readsTest_1 rfl rfl ?_
  refine r_callVZ (b' := (d + 4, 0, 0)) (c := 13) (S := []) [.int a1] dX3_readsTest_2 mX3_readsBoth lMX3_107 clX3 rfl iF13 sC13 rfl (eFitR (by decide)) (Nat.le_of_ble_eq_true rfl) h (fun r1 M1 h => ?_) rfl
  refine r_istore_n (l' := [(2, .int (eZi r1)), (0, .ref (G.1 13)), (1, .int a1)]) dX3_readsTest_5 rfl (by decide) rfl ?_
  refine r_iconst (v := 0) dX3_readsTest_6 rfl ?_
  refine r_istore_n (l' := [(3, .int 0), (2, .int (eZi r1)), (0, .ref (G.1 13)), (1, .int a1)]) dX3_readsTest_7 rfl (by decide) rfl ?_
  exact Ev.sub (ks := [2, 3, 1, 0]) rfl h
set_option maxHeartbeats 4000000 in
set_option maxRecDepth 100000 in
theorem B_X3_readsBoth_58 (G : eG) (d : Nat) (M : eM) (F : Bool → eM → Prop) (x1 : Int32) (x3 : Int32)
    (h : Ev (eZ G 0 68 0 0 (eFZ F)) G 0 68 (d + 5, 0, 0) kX3_readsBoth 8 [(0, .ref (G.1 13)), (1, .int x1), (2, .int (eZi false)), (3, .int (x3 + 1))] [] M 0 0) :
    Ev (eZ G 0 68 0 0 (eFZ F)) G 0 68 (d + 5, 0, 0) kX3_readsBoth 58 [(0, .ref (G.1 13)), (1, .int x1), (3, .int x3)] [] M 0 0 := by
  refine r_iconst (v := 0) dX3_readsBoth_58 rfl ?_
  refine r_istore_n (l' := [(2, .int 0), (0, .ref (G.1 13)), (1, .int x1), (3, .int x3)]) dX3_readsBoth_59 rfl (by decide) rfl ?_
  refine r_iinc (v := x3 + 1) (l' := [(3, .int (x3 + 1)), (2, .int 0), (0, .ref (G.1 13)), (1, .int x1)]) 3 dX3_readsBoth_60 rfl rfl (by decide) rfl ?_
  refine r_goto (t := 8) dX3_readsBoth_63 (by decide) ?_
  exact Ev.sub (ks := [2, 3, 1, 0]) rfl h
set_option maxHeartbeats 4000000 in
set_option maxRecDepth 100000 in
theorem B_X3_readsBoth_8 (G : eG) (d : Nat) (M : eM) (F : Bool → eM → Prop) (x1 : Int32) (x2 : Bool) (x3 : Int32)
    (h : ((400 ≤ x3) → F x2 M) ∧ ((¬ 400 ≤ x3) → ((x2 = false) → F x2 M) ∧ ((x2 = true) → Cal G 0 68 (2, 0, 0) kX3_accept [.ref (G.1 13), eV G 1 21] M (eFZ (fun (r1 : Bool) (M1 : eM) => ((r1 = false) → F x2 M1) ∧ ((r1 = true) → Cal G 0 68 (d + 4, 0, 0) kX3_readsSingle [.ref (G.1 13), .int x1] M1 (eFZ (fun (r2 : Bool) (M2 : eM) => ((r2 = false) → Ev (eZ G 0 68 0 0 (eFZ F)) G 0 68 (d + 5, 0, 0) kX3_readsBoth 58 [(0, .ref (G.1 13)), (1, .int x1), (3, .int x3)] [] M2 0 0) ∧ ((r2 = true) → Cal G 0 68 (1, 0, 0) kX7_add [.ref (G.1 8), eV G 1 21, .int (M2 13 3)] M2 (eFZ (fun (r3 : Bool) (M3 : eM) => ((r3 = false) → Ev (eZ G 0 68 0 0 (eFZ F)) G 0 68 (d + 5, 0, 0) kX3_readsBoth 58 [(0, .ref (G.1 13)), (1, .int x1), (3, .int x3)] [] M3 0 0) ∧ ((r3 = true) → Ev (eZ G 0 68 0 0 (eFZ F)) G 0 68 (d + 5, 0, 0) kX3_readsBoth 8 [(0, .ref (G.1 13)), (1, .int x1), (2, .int (eZi true)), (3, .int (x3 + 1))] [] M3 0 0)))))))))))) :
    Ev (eZ G 0 68 0 0 (eFZ F)) G 0 68 (d + 5, 0, 0) kX3_readsBoth 8 [(0, .ref (G.1 13)), (1, .int x1), (2, .int (eZi x2)), (3, .int x3)] [] M 0 0 := by
  refine r_iload_n 3 dX3_readsBoth_8 rfl rfl ?_
  refine r_sipush (v := 400) dX3_readsBoth_9 rfl ?_
  refine r_icmp_ge (t := 66) dX3_readsBoth_12 (by decide) (fun q => ?_) (fun q => ?_)
  · replace h := h.1 q
    refine r_iload_n 2 dX3_readsBoth_66 rfl rfl ?_
    refine r_iretZ dX3_readsBoth_67 rfl (Nat.le_refl _) (Nat.le_refl _) h
  · replace h := h.2 q
    refine r_iload_n 2 dX3_readsBoth_15 rfl rfl ?_
    refine r_zif_eq (t := 66) dX3_readsBoth_16 (by decide) (fun q => ?_) (fun q => ?_)
    · replace h := h.1 q
      refine r_iload_n 2 dX3_readsBoth_66 rfl rfl ?_
      refine r_iretZ dX3_readsBoth_67 rfl (Nat.le_refl _) (Nat.le_refl _) h
    · replace h := h.2 q
      refine r_aload_n 0 dX3_readsBoth_19 rfl rfl ?_
      refine r_getsK (w := 21) 20 dX3_readsBoth_20 lFX3_120 (by decide) rfl rfl ?_
      refine r_callVZ (b' := (2, 0, 0)) (c := 13) (S := []) [eV G 1 21] dX3_readsBoth_23 mX3_accept lMX3_41 clX3 rfl iF13 sC13 rfl (eFitL (by decide) (by decide)) (Nat.le_of_ble_eq_true rfl) h (fun r1 M1 h => ?_) rfl
      refine r_zif_eq (t := 66) dX3_readsBoth_26 (by decide) (fun q => ?_) (fun q => ?_)
      · replace h := h.1 q
        refine r_iload_n 2 dX3_readsBoth_66 rfl rfl ?_
        refine r_iretZ dX3_readsBoth_67 rfl (Nat.le_refl _) (Nat.le_refl _) h
      · replace h := h.2 q
        refine r_aload_n 0 dX3_readsBoth_29 rfl rfl ?_
        refine r_iload_n 1 dX3_readsBoth_30 rfl rfl ?_
        refine r_callVZ (b' := (d + 4, 0, 0)) (c := 13) (S := []) [.int x1] dX3_readsBoth_31 mX3_readsSingle lMX3_117 clX3 rfl iF13 sC13 rfl (eFitR (by decide)) (Nat.le_of_ble_eq_true rfl) h (fun r2 M2 h => ?_) rfl
        refine r_zif_eq (t := 58) dX3_readsBoth_34 (by decide) (fun q => ?_) (fun q => ?_)
        · replace h := h.1 q
          exact Ev.sub (ks := [0, 1, 3]) rfl h
        · replace h := h.2 q
          refine r_aload_n 0 dX3_readsBoth_37 rfl rfl ?_
          refine r_getR (c := 13) (k := 1) 8 dX3_readsBoth_38 clX3 lFX3_24 (by decide) iF13 sC13 rfl ?_
          refine r_getsK (w := 21) 20 dX3_readsBoth_41 lFX3_120 (by decide) rfl rfl ?_
          refine r_aload_n 0 dX3_readsBoth_44 rfl rfl ?_
          refine r_getI (c := 13) (k := 3) dX3_readsBoth_45 clX3 lFX3_28 (by decide) iF13 sC13 rfl ?_
          refine r_callVZ (b' := (1, 0, 0)) (c := 8) (S := []) [eV G 1 21, .int (M2 13 3)] dX3_readsBoth_48 mX7_add lMX3_113 clX7 rfl iF8 sC8 rfl (eFitL (by decide) (by decide)) (Nat.le_of_ble_eq_true rfl) h (fun r3 M3 h => ?_) rfl
          refine r_zif_eq (t := 58) dX3_readsBoth_51 (by decide) (fun q => ?_) (fun q => ?_)
          · replace h := h.1 q
            exact Ev.sub (ks := [0, 1, 3]) rfl h
          · replace h := h.2 q
            refine r_iconst (v := 1) dX3_readsBoth_54 rfl ?_
            refine r_goto (t := 59) dX3_readsBoth_55 (by decide) ?_
            refine r_istore_n (l' := [(2, .int 1), (0, .ref (G.1 13)), (1, .int x1), (3, .int x3)]) dX3_readsBoth_59 rfl (by decide) rfl ?_
            refine r_iinc (v := x3 + 1) (l' := [(3, .int (x3 + 1)), (2, .int 1), (0, .ref (G.1 13)), (1, .int x1)]) 3 dX3_readsBoth_60 rfl rfl (by decide) rfl ?_
            refine r_goto (t := 8) dX3_readsBoth_63 (by decide) ?_
            exact Ev.sub (ks := [2, 3, 1, 0]) rfl h
set_option maxHeartbeats 4000000 in
set_option maxRecDepth 100000 in
theorem C_X3_readsBoth (G : eG) (d : Nat) (M : eM) (F : Bool → eM → Prop) (a1 : Int32)
    (h : Cal G 0 68 (d + 4, 0, 0) kX3_readsSingle [.ref (G.1 13), .int a1] M (eFZ (fun (r1 : Bool) (M1 : eM) => Ev (eZ G 0 68 0 0 (eFZ F)) G 0 68 (d + 5, 0, 0) kX3_readsBoth 8 [(0, .ref (G.1 13)), (1, .int a1), (2, .int (eZi r1)), (3, .int 0)] [] M1 0 0))) :
    Cal G 0 68 (d + 5, 0, 0) kX3_readsBoth [.ref (G.1 13), .int a1] M (eFZ F) := by
  refine Cal.of (by decide +kernel) rfl (Nat.le_of_ble_eq_true rfl) ?_
  show Ev (eZ G 0 68 0 0 (eFZ F)) G 0 68 (d + 5, 0, 0) kX3_readsBoth 0 [(0, .ref (G.1 13)), (1, .int a1)] [] M 0 0
  refine r_aload_n 0 dX3_readsBoth_0 rfl rfl ?_
  refine r_iload_n 1 dX3_readsBoth_1 rfl rfl ?_
  refine r_callVZ (b' := (d + 4, 0, 0)) (c := 13) (S := []) [.int a1] dX3_readsBoth_2 mX3_readsSingle lMX3_117 clX3 rfl iF13 sC13 rfl (eFitR (by decide)) (Nat.le_of_ble_eq_true rfl) h (fun r1 M1 h => ?_) rfl
  refine r_istore_n (l' := [(2, .int (eZi r1)), (0, .ref (G.1 13)), (1, .int a1)]) dX3_readsBoth_5 rfl (by decide) rfl ?_
  refine r_iconst (v := 0) dX3_readsBoth_6 rfl ?_
  refine r_istore_n (l' := [(3, .int 0), (2, .int (eZi r1)), (0, .ref (G.1 13)), (1, .int a1)]) dX3_readsBoth_7 rfl (by decide) rfl ?_
  exact Ev.sub (ks := [2, 3, 1, 0]) rfl h
set_option maxHeartbeats 4000000 in
set_option maxRecDepth 100000 in
theorem B_X3_readsSingle_239 (G : eG) (d : Nat) (M : eM) (F : Bool → eM → Prop) (x1 : Int32) (x3 : Int32)
    (h : Cal G 0 68 (d + 4, 0, 0) kX3_readsSum [.ref (G.1 13), .int x1] M (eFZ (fun (r1 : Bool) (M1 : eM) => ((r1 = false) → F false M1) ∧ ((r1 = true) → Cal G 0 68 (1, 0, 0) kX7_add [.ref (G.1 8), eV G 1 x3, .int (M1 13 3)] M1 (eFZ (fun (r2 : Bool) (M2 : eM) => ((r2 = false) → F false M2) ∧ ((r2 = true) → F true M2))))))) :
    Ev (eZ G 0 68 0 0 (eFZ F)) G 0 68 (d + 5, 0, 0) kX3_readsSingle 239 [(0, .ref (G.1 13)), (1, .int x1), (3, eV G 1 x3)] [] M 0 0 := by
  refine r_aload_n 0 dX3_readsSingle_239 rfl rfl ?_
  refine r_iload_n 1 dX3_readsSingle_240 rfl rfl ?_
  refine r_callVZ (b' := (d + 4, 0, 0)) (c := 13) (S := []) [.int x1] dX3_readsSingle_241 mX3_readsSum lMX3_85 clX3 rfl iF13 sC13 rfl (eFitR (by decide)) (Nat.le_of_ble_eq_true rfl) h (fun r1 M1 h => ?_) rfl
  refine r_zif_eq (t := 266) dX3_readsSingle_244 (by decide) (fun q => ?_) (fun q => ?_)
  · replace h := h.1 q
    refine r_iconst (v := 0) dX3_readsSingle_266 rfl ?_
    refine r_iretZ0 dX3_readsSingle_267 rfl (Nat.le_refl _) (Nat.le_refl _) h
  · replace h := h.2 q
    refine r_aload_n 0 dX3_readsSingle_247 rfl rfl ?_
    refine r_getR (c := 13) (k := 1) 8 dX3_readsSingle_248 clX3 lFX3_24 (by decide) iF13 sC13 rfl ?_
    refine r_kload_n 2 dX3_readsSingle_251 rfl rfl ?_
    refine r_aload_n 0 dX3_readsSingle_252 rfl rfl ?_
    refine r_getI (c := 13) (k := 3) dX3_readsSingle_253 clX3 lFX3_28 (by decide) iF13 sC13 rfl ?_
    refine r_callVZ (b' := (1, 0, 0)) (c := 8) (S := []) [eV G 1 x3, .int (M1 13 3)] dX3_readsSingle_256 mX7_add lMX3_113 clX7 rfl iF8 sC8 rfl (eFitL (by decide) (by decide)) (Nat.le_of_ble_eq_true rfl) h (fun r2 M2 h => ?_) rfl
    refine r_zif_eq (t := 266) dX3_readsSingle_259 (by decide) (fun q => ?_) (fun q => ?_)
    · replace h := h.1 q
      refine r_iconst (v := 0) dX3_readsSingle_266 rfl ?_
      refine r_iretZ0 dX3_readsSingle_267 rfl (Nat.le_refl _) (Nat.le_refl _) h
    · replace h := h.2 q
      refine r_iconst (v := 1) dX3_readsSingle_262 rfl ?_
      refine r_goto (t := 267) dX3_readsSingle_263 (by decide) ?_
      refine r_iretZ1 dX3_readsSingle_267 rfl (Nat.le_refl _) (Nat.le_refl _) h
set_option maxHeartbeats 4000000 in
set_option maxRecDepth 100000 in
theorem C_X3_readsSingle (G : eG) (d : Nat) (M : eM) (F : Bool → eM → Prop) (a1 : Int32)
    (h : (1 ≤ (M 13 2) ∧ (M 13 2) ≤ 44) ∧ (vp_in ((M 13 2) - 1) 44 ∧ ((((eSw ((M 13 2) - 1).toNatClampNeg : Int32).toInt < 1 ∨ 4 < (eSw ((M 13 2) - 1).toNatClampNeg : Int32).toInt) → Cal G 0 68 (d + 4, 0, 0) kX3_readsSum [.ref (G.1 13), .int a1] M (eFZ (fun (r1 : Bool) (M1 : eM) => ((r1 = true) → Cal G 0 68 (2, 0, 0) kX3_accept [.ref (G.1 13), eV G 1 35] M1 (eFZ (fun (r2 : Bool) (M2 : eM) => ((r2 = true) → Ev (eZ G 0 68 0 0 (eFZ F)) G 0 68 (d + 5, 0, 0) kX3_readsSingle 239 [(0, .ref (G.1 13)), (1, .int a1), (3, eV G 1 (M1 13 2))] [] M2 0 0) ∧ ((r2 = false) → Cal G 0 68 (2, 0, 0) kX3_accept [.ref (G.1 13), eV G 1 36] M2 (eFZ (fun (r3 : Bool) (M3 : eM) => ((r3 = true) → Ev (eZ G 0 68 0 0 (eFZ F)) G 0 68 (d + 5, 0, 0) kX3_readsSingle 239 [(0, .ref (G.1 13)), (1, .int a1), (3, eV G 1 (M1 13 2))] [] M3 0 0) ∧ ((r3 = false) → Cal G 0 68 (2, 0, 0) kX3_accept [.ref (G.1 13), eV G 1 37] M3 (eFZ (fun (r4 : Bool) (M4 : eM) => ((r4 = true) → Ev (eZ G 0 68 0 0 (eFZ F)) G 0 68 (d + 5, 0, 0) kX3_readsSingle 239 [(0, .ref (G.1 13)), (1, .int a1), (3, eV G 1 (M1 13 2))] [] M4 0 0) ∧ ((r4 = false) → Cal G 0 68 (2, 0, 0) kX3_accept [.ref (G.1 13), eV G 1 38] M4 (eFZ (fun (r5 : Bool) (M5 : eM) => ((r5 = true) → Ev (eZ G 0 68 0 0 (eFZ F)) G 0 68 (d + 5, 0, 0) kX3_readsSingle 239 [(0, .ref (G.1 13)), (1, .int a1), (3, eV G 1 (M1 13 2))] [] M5 0 0) ∧ ((r5 = false) → Cal G 0 68 (2, 0, 0) kX3_accept [.ref (G.1 13), eV G 1 39] M5 (eFZ (fun (r6 : Bool) (M6 : eM) => ((r6 = false) → F false M6) ∧ ((r6 = true) → Ev (eZ G 0 68 0 0 (eFZ F)) G 0 68 (d + 5, 0, 0) kX3_readsSingle 239 [(0, .ref (G.1 13)), (1, .int a1), (3, eV G 1 (M1 13 2))] [] M6 0 0)))))))))))))))) ∧ ((r1 = false) → F false M1)))) ∧ ((eSw ((M 13 2) - 1).toNatClampNeg : Int32) = 1 → ((8 ≤ a1) → F false M) ∧ ((¬ 8 ≤ a1) → Cal G 0 68 (2, 0, 0) kX3_accept [.ref (G.1 13), eV G 1 20] M (eFZ (fun (r7 : Bool) (M7 : eM) => ((r7 = false) → F false M7) ∧ ((r7 = true) → Cal G 0 68 (d + 4, 0, 0) kX3_readsSingle [.ref (G.1 13), .int (a1 + 1)] M7 (eFZ (fun (r8 : Bool) (M8 : eM) => ((r8 = false) → F false M8) ∧ ((r8 = true) → Cal G 0 68 (1, 0, 0) kX7_add [.ref (G.1 8), eV G 1 20, .int (M8 13 3)] M8 (eFZ (fun (r9 : Bool) (M9 : eM) => ((r9 = false) → F false M9) ∧ ((r9 = true) → F true M9))))))))))) ∧ ((eSw ((M 13 2) - 1).toNatClampNeg : Int32) = 2 → ((8 ≤ a1) → F false M) ∧ ((¬ 8 ≤ a1) → Cal G 0 68 (2, 0, 0) kX3_accept [.ref (G.1 13), eV G 1 27] M (eFZ (fun (r10 : Bool) (M10 : eM) => ((r10 = false) → F false M10) ∧ ((r10 = true) → Cal G 0 68 (d + 4, 0, 0) kX3_readsTest [.ref (G.1 13), .int (a1 + 1)] M10 (eFZ (fun (r11 : Bool) (M11 : eM) => ((r11 = false) → F false M11) ∧ ((r11 = true) → Cal G 0 68 (2, 0, 0) kX3_accept [.ref (G.1 13), eV G 1 28] M11 (eFZ (fun (r12 : Bool) (M12 : eM) => ((r12 = false) → F false M12) ∧ ((r12 = true) → F true M12))))))))))) ∧ ((eSw ((M 13 2) - 1).toNatClampNeg : Int32) = 3 → Cal G 0 68 (2, 0, 0) kX3_accept [.ref (G.1 13), eV G 1 (M 13 2)] M (eFZ (fun (r13 : Bool) (M13 : eM) => ((r13 = false) → F false M13) ∧ ((r13 = true) → Cal G 0 68 (1, 0, 0) kX7_add [.ref (G.1 8), eV G 1 (M 13 2), .int (M13 13 3)] M13 (eFZ (fun (r14 : Bool) (M14 : eM) => ((r14 = false) → F false M14) ∧ ((r14 = true) → Cal G 0 68 (2, 0, 0) kX3_accept [.ref (G.1 13), eV G 1 41] M14 (eFZ (fun (r15 : Bool) (M15 : eM) => ((r15 = false) → F false M15) ∧ ((r15 = true) → F true M15)))))))))) ∧ ((eSw ((M 13 2) - 1).toNatClampNeg : Int32) = 4 → Cal G 0 68 (2, 0, 0) kX3_accept [.ref (G.1 13), eV G 1 (M 13 2)] M (eFZ (fun (r16 : Bool) (M16 : eM) => ((r16 = false) → F false M16) ∧ ((r16 = true) → Cal G 0 68 (1, 0, 0) kX7_add [.ref (G.1 8), eV G 1 (M 13 2), .int (M16 13 3)] M16 (eFZ (fun (r17 : Bool) (M17 : eM) => ((r17 = false) → F false M17) ∧ ((r17 = true) → Cal G 0 68 (2, 0, 0) kX3_accept [.ref (G.1 13), eV G 1 41] M17 (eFZ (fun (r18 : Bool) (M18 : eM) => ((r18 = false) → F false M18) ∧ ((r18 = true) → F true M18))))))))))))) :
    Cal G 0 68 (d + 5, 0, 0) kX3_readsSingle [.ref (G.1 13), .int a1] M (eFZ F) := by
  refine Cal.of (by decide +kernel) rfl (Nat.le_of_ble_eq_true rfl) ?_
  show Ev (eZ G 0 68 0 0 (eFZ F)) G 0 68 (d + 5, 0, 0) kX3_readsSingle 0 [(0, .ref (G.1 13)), (1, .int a1)] [] M 0 0
  refine r_aload_n 0 dX3_readsSingle_0 rfl rfl ?_
  refine r_getK (c := 13) (k := 2) dX3_readsSingle_1 clX3 lFX3_15 (by decide) iF13 sC13 rfl ?_
  refine r_kstore_n (l' := [(2, eV G 1 (M 13 2)), (0, .ref (G.1 13)), (1, .int a1)]) dX3_readsSingle_4 rfl (by decide) rfl ?_
  refine r_gets (w := .ref (G.1 1306)) dX3_readsSingle_5 lFX3_123 (fun h => h.2.2.2.2.2.2.2.2.2.2.1.1) ?_
  refine r_kload_n 0 dX3_readsSingle_8 rfl rfl ?_
  have hx := h.1
  replace h := h.2
  refine r_ordinal (b' := (1, 0, 0)) (K' := kJx29ce0_ordinal_8abf5) (S := [.ref (G.1 1306)]) dX3_readsSingle_9 hx rfl eOr_w rfl lOX3_129 eOr_s eOr_sel eOr_i eOr_n (eFitL (by decide) (by decide)) (Nat.le_of_ble_eq_true rfl) (C_ordinal hx (fun r M' => (M 13 2) - 1 = r ∧ M = M') ⟨rfl, rfl⟩) (fun r M' q => ?_)
  obtain ⟨rfl, rfl⟩ := q
  have h1 := h.1
  replace h := h.2
  refine r_tald (tc := 1306) (f := eSw) dX3_readsSingle_12 (fun h => h.2.2.2.2.2.2.2.2.2.2.1) h1 ?_
  by_cases q : (eSw ((M 13 2) - 1).toNatClampNeg : Int32).toInt < 1 ∨ 4 < (eSw ((M 13 2) - 1).toNatClampNeg : Int32).toInt
  · replace h := h.1 q
    refine r_tableOut (tg := 174) dX3_readsSingle_13 q (by decide) ?_
    refine r_aload_n 1 dX3_readsSingle_174 rfl rfl ?_
    refine r_iload_n 2 dX3_readsSingle_175 rfl rfl ?_
    refine r_callVZ (b' := (d + 4, 0, 0)) (c := 13) (S := []) [.int a1] dX3_readsSingle_176 mX3_readsSum lMX3_85 clX3 rfl iF13 sC13 rfl (eFitR (by decide)) (Nat.le_of_ble_eq_true rfl) h (fun r1 M1 h => ?_) rfl
    refine r_zif_ne (t := 184) dX3_readsSingle_179 (by decide) (fun q => ?_) (fun q => ?_)
    · replace h := h.1 q
      refine r_aload_n 1 dX3_readsSingle_184 rfl rfl ?_
      refine r_getK (c := 13) (k := 2) dX3_readsSingle_185 clX3 lFX3_15 (by decide) iF13 sC13 rfl ?_
      refine r_kstore_n (i := 3) (l' := [(3, eV G 1 (M1 13 2)), (2, eV G 1 (M 13 2)), (0, .ref (G.1 13)), (1, .int a1)]) dX3_readsSingle_188 rfl (by decide) (by simp [List.filter_cons, eV_cat, eCatI, eCatR]) ?_
      refine r_aload_n 2 dX3_readsSingle_189 rfl rfl ?_
      refine r_getsK (w := 35) 34 dX3_readsSingle_190 lFX3_142 (by decide) rfl rfl ?_
      refine r_callVZ (b' := (2, 0, 0)) (c := 13) (S := []) [eV G 1 35] dX3_readsSingle_193 mX3_accept lMX3_41 clX3 rfl iF13 sC13 rfl (eFitL (by decide) (by decide)) (Nat.le_of_ble_eq_true rfl) h (fun r2 M2 h => ?_) rfl
      refine r_zif_ne (t := 239) dX3_readsSingle_196 (by decide) (fun q => ?_) (fun q => ?_)
      · replace h := h.1 q
        exact Ev.sub (ks := [2, 3, 0]) rfl h
      · replace h := h.2 q
        refine r_aload_n 2 dX3_readsSingle_199 rfl rfl ?_
        refine r_getsK (w := 36) 35 dX3_readsSingle_200 lFX3_145 (by decide) rfl rfl ?_
        refine r_callVZ (b' := (2, 0, 0)) (c := 13) (S := []) [eV G 1 36] dX3_readsSingle_203 mX3_accept lMX3_41 clX3 rfl iF13 sC13 rfl (eFitL (by decide) (by decide)) (Nat.le_of_ble_eq_true rfl) h (fun r3 M3 h => ?_) rfl
        refine r_zif_ne (t := 239) dX3_readsSingle_206 (by decide) (fun q => ?_) (fun q => ?_)
        · replace h := h.1 q
          exact Ev.sub (ks := [2, 3, 0]) rfl h
        · replace h := h.2 q
          refine r_aload_n 2 dX3_readsSingle_209 rfl rfl ?_
          refine r_getsK (w := 37) 36 dX3_readsSingle_210 lFX3_148 (by decide) rfl rfl ?_
          refine r_callVZ (b' := (2, 0, 0)) (c := 13) (S := []) [eV G 1 37] dX3_readsSingle_213 mX3_accept lMX3_41 clX3 rfl iF13 sC13 rfl (eFitL (by decide) (by decide)) (Nat.le_of_ble_eq_true rfl) h (fun r4 M4 h => ?_) rfl
          refine r_zif_ne (t := 239) dX3_readsSingle_216 (by decide) (fun q => ?_) (fun q => ?_)
          · replace h := h.1 q
            exact Ev.sub (ks := [2, 3, 0]) rfl h
          · replace h := h.2 q
            refine r_aload_n 2 dX3_readsSingle_219 rfl rfl ?_
            refine r_getsK (w := 38) 37 dX3_readsSingle_220 lFX3_151 (by decide) rfl rfl ?_
            refine r_callVZ (b' := (2, 0, 0)) (c := 13) (S := []) [eV G 1 38] dX3_readsSingle_223 mX3_accept lMX3_41 clX3 rfl iF13 sC13 rfl (eFitL (by decide) (by decide)) (Nat.le_of_ble_eq_true rfl) h (fun r5 M5 h => ?_) rfl
            refine r_zif_ne (t := 239) dX3_readsSingle_226 (by decide) (fun q => ?_) (fun q => ?_)
            · replace h := h.1 q
              exact Ev.sub (ks := [2, 3, 0]) rfl h
            · replace h := h.2 q
              refine r_aload_n 2 dX3_readsSingle_229 rfl rfl ?_
              refine r_getsK (w := 39) 38 dX3_readsSingle_230 lFX3_154 (by decide) rfl rfl ?_
              refine r_callVZ (b' := (2, 0, 0)) (c := 13) (S := []) [eV G 1 39] dX3_readsSingle_233 mX3_accept lMX3_41 clX3 rfl iF13 sC13 rfl (eFitL (by decide) (by decide)) (Nat.le_of_ble_eq_true rfl) h (fun r6 M6 h => ?_) rfl
              refine r_zif_eq (t := 266) dX3_readsSingle_236 (by decide) (fun q => ?_) (fun q => ?_)
              · replace h := h.1 q
                refine r_iconst (v := 0) dX3_readsSingle_266 rfl ?_
                refine r_iretZ0 dX3_readsSingle_267 rfl (Nat.le_refl _) (Nat.le_refl _) h
              · replace h := h.2 q
                exact Ev.sub (ks := [2, 3, 0]) rfl h
    · replace h := h.2 q
      refine r_iconst (v := 0) dX3_readsSingle_182 rfl ?_
      refine r_iretZ0 dX3_readsSingle_183 rfl (Nat.le_refl _) (Nat.le_refl _) h
  · replace h := h.2
    refine eTabCases (N := 4) q (by decide) (fun i9 hi hx => ?_)
    match i9, hi, hx with
    | 0, hi, hx =>
      have q3 : (eSw ((M 13 2) - 1).toNatClampNeg : Int32) = 1 := eToI (hx.trans (by decide))
      replace h := h.1 q3
      refine r_tableAt (tg := 44) dX3_readsSingle_13 q3 (by decide) (by decide) rfl (by decide) ?_
      refine r_iload_n 2 dX3_readsSingle_44 rfl rfl ?_
      refine r_bipush (v := 8) dX3_readsSingle_45 rfl ?_
      refine r_icmp_ge (t := 91) dX3_readsSingle_47 (by decide) (fun q => ?_) (fun q => ?_)
      · replace h := h.1 q
        refine r_iconst (v := 0) dX3_readsSingle_91 rfl ?_
        refine r_iretZ0 dX3_readsSingle_92 rfl (Nat.le_refl _) (Nat.le_refl _) h
      · replace h := h.2 q
        refine r_aload_n 1 dX3_readsSingle_50 rfl rfl ?_
        refine r_getsK (w := 20) 19 dX3_readsSingle_51 lFX3_133 (by decide) rfl rfl ?_
        refine r_callVZ (b' := (2, 0, 0)) (c := 13) (S := []) [eV G 1 20] dX3_readsSingle_54 mX3_accept lMX3_41 clX3 rfl iF13 sC13 rfl (eFitL (by decide) (by decide)) (Nat.le_of_ble_eq_true rfl) h (fun r7 M7 h => ?_) rfl
        refine r_zif_eq (t := 91) dX3_readsSingle_57 (by decide) (fun q => ?_) (fun q => ?_)
        · replace h := h.1 q
          refine r_iconst (v := 0) dX3_readsSingle_91 rfl ?_
          refine r_iretZ0 dX3_readsSingle_92 rfl (Nat.le_refl _) (Nat.le_refl _) h
        · replace h := h.2 q
          refine r_aload_n 1 dX3_readsSingle_60 rfl rfl ?_
          refine r_iload_n 2 dX3_readsSingle_61 rfl rfl ?_
          refine r_iconst (v := 1) dX3_readsSingle_62 rfl ?_
          refine r_iadd dX3_readsSingle_63 ?_
          refine r_callVZ (b' := (d + 4, 0, 0)) (c := 13) (S := []) [.int (a1 + 1)] dX3_readsSingle_64 mX3_readsSingle lMX3_117 clX3 rfl iF13 sC13 rfl (eFitR (by decide)) (Nat.le_of_ble_eq_true rfl) h (fun r8 M8 h => ?_) rfl
          refine r_zif_eq (t := 91) dX3_readsSingle_67 (by decide) (fun q => ?_) (fun q => ?_)
          · replace h := h.1 q
            refine r_iconst (v := 0) dX3_readsSingle_91 rfl ?_
            refine r_iretZ0 dX3_readsSingle_92 rfl (Nat.le_refl _) (Nat.le_refl _) h
          · replace h := h.2 q
            refine r_aload_n 1 dX3_readsSingle_70 rfl rfl ?_
            refine r_getR (c := 13) (k := 1) 8 dX3_readsSingle_71 clX3 lFX3_24 (by decide) iF13 sC13 rfl ?_
            refine r_getsK (w := 20) 19 dX3_readsSingle_74 lFX3_133 (by decide) rfl rfl ?_
            refine r_aload_n 1 dX3_readsSingle_77 rfl rfl ?_
            refine r_getI (c := 13) (k := 3) dX3_readsSingle_78 clX3 lFX3_28 (by decide) iF13 sC13 rfl ?_
            refine r_callVZ (b' := (1, 0, 0)) (c := 8) (S := []) [eV G 1 20, .int (M8 13 3)] dX3_readsSingle_81 mX7_add lMX3_113 clX7 rfl iF8 sC8 rfl (eFitL (by decide) (by decide)) (Nat.le_of_ble_eq_true rfl) h (fun r9 M9 h => ?_) rfl
            refine r_zif_eq (t := 91) dX3_readsSingle_84 (by decide) (fun q => ?_) (fun q => ?_)
            · replace h := h.1 q
              refine r_iconst (v := 0) dX3_readsSingle_91 rfl ?_
              refine r_iretZ0 dX3_readsSingle_92 rfl (Nat.le_refl _) (Nat.le_refl _) h
            · replace h := h.2 q
              refine r_iconst (v := 1) dX3_readsSingle_87 rfl ?_
              refine r_goto (t := 92) dX3_readsSingle_88 (by decide) ?_
              refine r_iretZ1 dX3_readsSingle_92 rfl (Nat.le_refl _) (Nat.le_refl _) h
    | 1, hi, hx =>
      have q3 : (eSw ((M 13 2) - 1).toNatClampNeg : Int32) = 2 := eToI (hx.trans (by decide))
      replace h := h.2.1 q3
      refine r_tableAt (tg := 93) dX3_readsSingle_13 q3 (by decide) (by decide) rfl (by decide) ?_
      refine r_iload_n 2 dX3_readsSingle_93 rfl rfl ?_
      refine r_bipush (v := 8) dX3_readsSingle_94 rfl ?_
      refine r_icmp_ge (t := 133) dX3_readsSingle_96 (by decide) (fun q => ?_) (fun q => ?_)
      · replace h := h.1 q
        refine r_iconst (v := 0) dX3_readsSingle_133 rfl ?_
        refine r_iretZ0 dX3_readsSingle_134 rfl (Nat.le_refl _) (Nat.le_refl _) h
      · replace h := h.2 q
        refine r_aload_n 1 dX3_readsSingle_99 rfl rfl ?_
        refine r_getsK (w := 27) 26 dX3_readsSingle_100 lFX3_136 (by decide) rfl rfl ?_
        refine r_callVZ (b' := (2, 0, 0)) (c := 13) (S := []) [eV G 1 27] dX3_readsSingle_103 mX3_accept lMX3_41 clX3 rfl iF13 sC13 rfl (eFitL (by decide) (by decide)) (Nat.le_of_ble_eq_true rfl) h (fun r10 M10 h => ?_) rfl
        refine r_zif_eq (t := 133) dX3_readsSingle_106 (by decide) (fun q => ?_) (fun q => ?_)
        · replace h := h.1 q
          refine r_iconst (v := 0) dX3_readsSingle_133 rfl ?_
          refine r_iretZ0 dX3_readsSingle_134 rfl (Nat.le_refl _) (Nat.le_refl _) h
        · replace h := h.2 q
          refine r_aload_n 1 dX3_readsSingle_109 rfl rfl ?_
          refine r_iload_n 2 dX3_readsSingle_110 rfl rfl ?_
          refine r_iconst (v := 1) dX3_readsSingle_111 rfl ?_
          refine r_iadd dX3_readsSingle_112 ?_
          refine r_callVZ (b' := (d + 4, 0, 0)) (c := 13) (S := []) [.int (a1 + 1)] dX3_readsSingle_113 mX3_readsTest lMX3_101 clX3 rfl iF13 sC13 rfl (eFitR (by decide)) (Nat.le_of_ble_eq_true rfl) h (fun r11 M11 h => ?_) rfl
          refine r_zif_eq (t := 133) dX3_readsSingle_116 (by decide) (fun q => ?_) (fun q => ?_)
          · replace h := h.1 q
            refine r_iconst (v := 0) dX3_readsSingle_133 rfl ?_
            refine r_iretZ0 dX3_readsSingle_134 rfl (Nat.le_refl _) (Nat.le_refl _) h
          · replace h := h.2 q
            refine r_aload_n 1 dX3_readsSingle_119 rfl rfl ?_
            refine r_getsK (w := 28) 27 dX3_readsSingle_120 lFX3_139 (by decide) rfl rfl ?_
            refine r_callVZ (b' := (2, 0, 0)) (c := 13) (S := []) [eV G 1 28] dX3_readsSingle_123 mX3_accept lMX3_41 clX3 rfl iF13 sC13 rfl (eFitL (by decide) (by decide)) (Nat.le_of_ble_eq_true rfl) h (fun r12 M12 h => ?_) rfl
            refine r_zif_eq (t := 133) dX3_readsSingle_126 (by decide) (fun q => ?_) (fun q => ?_)
            · replace h := h.1 q
              refine r_iconst (v := 0) dX3_readsSingle_133 rfl ?_
              refine r_iretZ0 dX3_readsSingle_134 rfl (Nat.le_refl _) (Nat.le_refl _) h
            · replace h := h.2 q
              refine r_iconst (v := 1) dX3_readsSingle_129 rfl ?_
              refine r_goto (t := 134) dX3_readsSingle_130 (by decide) ?_
              refine r_iretZ1 dX3_readsSingle_134 rfl (Nat.le_refl _) (Nat.le_refl _) h
    | 2, hi, hx =>
      have q3 : (eSw ((M 13 2) - 1).toNatClampNeg : Int32) = 3 := eToI (hx.trans (by decide))
      replace h := h.2.2.1 q3
      refine r_tableAt (tg := 135) dX3_readsSingle_13 q3 (by decide) (by decide) rfl (by decide) ?_
      refine r_aload_n 1 dX3_readsSingle_135 rfl rfl ?_
      refine r_kload_n 0 dX3_readsSingle_136 rfl rfl ?_
      refine r_callVZ (b' := (2, 0, 0)) (c := 13) (S := []) [eV G 1 (M 13 2)] dX3_readsSingle_137 mX3_accept lMX3_41 clX3 rfl iF13 sC13 rfl (eFitL (by decide) (by decide)) (Nat.le_of_ble_eq_true rfl) h (fun r13 M13 h => ?_) rfl
      refine r_zif_eq (t := 172) dX3_readsSingle_140 (by decide) (fun q => ?_) (fun q => ?_)
      · replace h := h.1 q
        refine r_iconst (v := 0) dX3_readsSingle_172 rfl ?_
        refine r_iretZ0 dX3_readsSingle_173 rfl (Nat.le_refl _) (Nat.le_refl _) h
      · replace h := h.2 q
        refine r_aload_n 1 dX3_readsSingle_143 rfl rfl ?_
        refine r_getR (c := 13) (k := 1) 8 dX3_readsSingle_144 clX3 lFX3_24 (by decide) iF13 sC13 rfl ?_
        refine r_kload_n 0 dX3_readsSingle_147 rfl rfl ?_
        refine r_aload_n 1 dX3_readsSingle_148 rfl rfl ?_
        refine r_getI (c := 13) (k := 3) dX3_readsSingle_149 clX3 lFX3_28 (by decide) iF13 sC13 rfl ?_
        refine r_callVZ (b' := (1, 0, 0)) (c := 8) (S := []) [eV G 1 (M 13 2), .int (M13 13 3)] dX3_readsSingle_152 mX7_add lMX3_113 clX7 rfl iF8 sC8 rfl (eFitL (by decide) (by decide)) (Nat.le_of_ble_eq_true rfl) h (fun r14 M14 h => ?_) rfl
        refine r_zif_eq (t := 172) dX3_readsSingle_155 (by decide) (fun q => ?_) (fun q => ?_)
        · replace h := h.1 q
          refine r_iconst (v := 0) dX3_readsSingle_172 rfl ?_
          refine r_iretZ0 dX3_readsSingle_173 rfl (Nat.le_refl _) (Nat.le_refl _) h
        · replace h := h.2 q
          refine r_aload_n 1 dX3_readsSingle_158 rfl rfl ?_
          refine r_getsK (w := 41) 40 dX3_readsSingle_159 lFX3_64 (by decide) rfl rfl ?_
          refine r_callVZ (b' := (2, 0, 0)) (c := 13) (S := []) [eV G 1 41] dX3_readsSingle_162 mX3_accept lMX3_41 clX3 rfl iF13 sC13 rfl (eFitL (by decide) (by decide)) (Nat.le_of_ble_eq_true rfl) h (fun r15 M15 h => ?_) rfl
          refine r_zif_eq (t := 172) dX3_readsSingle_165 (by decide) (fun q => ?_) (fun q => ?_)
          · replace h := h.1 q
            refine r_iconst (v := 0) dX3_readsSingle_172 rfl ?_
            refine r_iretZ0 dX3_readsSingle_173 rfl (Nat.le_refl _) (Nat.le_refl _) h
          · replace h := h.2 q
            refine r_iconst (v := 1) dX3_readsSingle_168 rfl ?_
            refine r_goto (t := 173) dX3_readsSingle_169 (by decide) ?_
            refine r_iretZ1 dX3_readsSingle_173 rfl (Nat.le_refl _) (Nat.le_refl _) h
    | 3, hi, hx =>
      have q3 : (eSw ((M 13 2) - 1).toNatClampNeg : Int32) = 4 := eToI (hx.trans (by decide))
      replace h := h.2.2.2 q3
      refine r_tableAt (tg := 135) dX3_readsSingle_13 q3 (by decide) (by decide) rfl (by decide) ?_
      refine r_aload_n 1 dX3_readsSingle_135 rfl rfl ?_
      refine r_kload_n 0 dX3_readsSingle_136 rfl rfl ?_
      refine r_callVZ (b' := (2, 0, 0)) (c := 13) (S := []) [eV G 1 (M 13 2)] dX3_readsSingle_137 mX3_accept lMX3_41 clX3 rfl iF13 sC13 rfl (eFitL (by decide) (by decide)) (Nat.le_of_ble_eq_true rfl) h (fun r16 M16 h => ?_) rfl
      refine r_zif_eq (t := 172) dX3_readsSingle_140 (by decide) (fun q => ?_) (fun q => ?_)
      · replace h := h.1 q
        refine r_iconst (v := 0) dX3_readsSingle_172 rfl ?_
        refine r_iretZ0 dX3_readsSingle_173 rfl (Nat.le_refl _) (Nat.le_refl _) h
      · replace h := h.2 q
        refine r_aload_n 1 dX3_readsSingle_143 rfl rfl ?_
        refine r_getR (c := 13) (k := 1) 8 dX3_readsSingle_144 clX3 lFX3_24 (by decide) iF13 sC13 rfl ?_
        refine r_kload_n 0 dX3_readsSingle_147 rfl rfl ?_
        refine r_aload_n 1 dX3_readsSingle_148 rfl rfl ?_
        refine r_getI (c := 13) (k := 3) dX3_readsSingle_149 clX3 lFX3_28 (by decide) iF13 sC13 rfl ?_
        refine r_callVZ (b' := (1, 0, 0)) (c := 8) (S := []) [eV G 1 (M 13 2), .int (M16 13 3)] dX3_readsSingle_152 mX7_add lMX3_113 clX7 rfl iF8 sC8 rfl (eFitL (by decide) (by decide)) (Nat.le_of_ble_eq_true rfl) h (fun r17 M17 h => ?_) rfl
        refine r_zif_eq (t := 172) dX3_readsSingle_155 (by decide) (fun q => ?_) (fun q => ?_)
        · replace h := h.1 q
          refine r_iconst (v := 0) dX3_readsSingle_172 rfl ?_
          refine r_iretZ0 dX3_readsSingle_173 rfl (Nat.le_refl _) (Nat.le_refl _) h
        · replace h := h.2 q
          refine r_aload_n 1 dX3_readsSingle_158 rfl rfl ?_
          refine r_getsK (w := 41) 40 dX3_readsSingle_159 lFX3_64 (by decide) rfl rfl ?_
          refine r_callVZ (b' := (2, 0, 0)) (c := 13) (S := []) [eV G 1 41] dX3_readsSingle_162 mX3_accept lMX3_41 clX3 rfl iF13 sC13 rfl (eFitL (by decide) (by decide)) (Nat.le_of_ble_eq_true rfl) h (fun r18 M18 h => ?_) rfl
          refine r_zif_eq (t := 172) dX3_readsSingle_165 (by decide) (fun q => ?_) (fun q => ?_)
          · replace h := h.1 q
            refine r_iconst (v := 0) dX3_readsSingle_172 rfl ?_
            refine r_iretZ0 dX3_readsSingle_173 rfl (Nat.le_refl _) (Nat.le_refl _) h
          · replace h := h.2 q
            refine r_iconst (v := 1) dX3_readsSingle_168 rfl ?_
            refine r_goto (t := 173) dX3_readsSingle_169 (by decide) ?_
            refine r_iretZ1 dX3_readsSingle_173 rfl (Nat.le_refl _) (Nat.le_refl _) h
    | i + 4, hi, hx => exact absurd hi (by omega)
set_option maxHeartbeats 4000000 in
set_option maxRecDepth 100000 in
theorem B_X3_readsSum_73 (G : eG) (d : Nat) (M : eM) (F : Bool → eM → Prop) (x1 : Int32) (x4 : Int32)
    (h : Ev (eZ G 0 68 0 0 (eFZ F)) G 0 68 (d + 5, 0, 0) kX3_readsSum 14 [(0, .ref (G.1 13)), (1, .int x1), (2, .int (eZi false)), (3, eV G 1 (M 13 2)), (4, .int (x4 + 1))] [] M 0 0) :
    Ev (eZ G 0 68 0 0 (eFZ F)) G 0 68 (d + 5, 0, 0) kX3_readsSum 73 [(0, .ref (G.1 13)), (1, .int x1), (4, .int x4)] [] M 0 0 := by
  refine r_iconst (v := 0) dX3_readsSum_73 rfl ?_
  refine r_istore_n (l' := [(2, .int 0), (0, .ref (G.1 13)), (1, .int x1), (4, .int x4)]) dX3_readsSum_74 rfl (by decide) rfl ?_
  refine r_aload_n 1 dX3_readsSum_75 rfl rfl ?_
  refine r_getK (c := 13) (k := 2) dX3_readsSum_76 clX3 lFX3_15 (by decide) iF13 sC13 rfl ?_
  refine r_kstore_n (l' := [(3, eV G 1 (M 13 2)), (2, .int 0), (0, .ref (G.1 13)), (1, .int x1), (4, .int x4)]) dX3_readsSum_79 rfl (by decide) rfl ?_
  refine r_iinc (v := x4 + 1) (l' := [(4, .int (x4 + 1)), (3, eV G 1 (M 13 2)), (2, .int 0), (0, .ref (G.1 13)), (1, .int x1)]) 4 dX3_readsSum_80 rfl rfl (by decide) (by simp [List.filter_cons, eV_cat, eCatI, eCatR]) ?_
  refine r_goto (t := 14) dX3_readsSum_83 (by decide) ?_
  exact Ev.sub (ks := [3, 4, 2, 1, 0]) rfl h
set_option maxHeartbeats 4000000 in
set_option maxRecDepth 100000 in
theorem B_X3_readsSum_46 (G : eG) (d : Nat) (M : eM) (F : Bool → eM → Prop) (x1 : Int32) (x3 : Int32) (x4 : Int32)
    (h : Cal G 0 68 (d + 4, 0, 0) kX3_readsProduct [.ref (G.1 13), .int x1] M (eFZ (fun (r1 : Bool) (M1 : eM) => ((r1 = false) → Ev (eZ G 0 68 0 0 (eFZ F)) G 0 68 (d + 5, 0, 0) kX3_readsSum 73 [(0, .ref (G.1 13)), (1, .int x1), (4, .int x4)] [] M1 0 0) ∧ ((r1 = true) → Cal G 0 68 (1, 0, 0) kX7_add [.ref (G.1 8), eV G 1 x3, .int (M1 13 3)] M1 (eFZ (fun (r2 : Bool) (M2 : eM) => ((r2 = false) → Ev (eZ G 0 68 0 0 (eFZ F)) G 0 68 (d + 5, 0, 0) kX3_readsSum 73 [(0, .ref (G.1 13)), (1, .int x1), (4, .int x4)] [] M2 0 0) ∧ ((r2 = true) → Ev (eZ G 0 68 0 0 (eFZ F)) G 0 68 (d + 5, 0, 0) kX3_readsSum 14 [(0, .ref (G.1 13)), (1, .int x1), (2, .int (eZi true)), (3, eV G 1 (M2 13 2)), (4, .int (x4 + 1))] [] M2 0 0))))))) :
    Ev (eZ G 0 68 0 0 (eFZ F)) G 0 68 (d + 5, 0, 0) kX3_readsSum 46 [(0, .ref (G.1 13)), (1, .int x1), (3, eV G 1 x3), (4, .int x4)] [] M 0 0 := by
  refine r_aload_n 0 dX3_readsSum_46 rfl rfl ?_
  refine r_iload_n 1 dX3_readsSum_47 rfl rfl ?_
  refine r_callVZ (b' := (d + 4, 0, 0)) (c := 13) (S := []) [.int x1] dX3_readsSum_48 mX3_readsProduct lMX3_157 clX3 rfl iF13 sC13 rfl (eFitR (by decide)) (Nat.le_of_ble_eq_true rfl) h (fun r1 M1 h => ?_) rfl
  refine r_zif_eq (t := 73) dX3_readsSum_51 (by decide) (fun q => ?_) (fun q => ?_)
  · replace h := h.1 q
    exact Ev.sub (ks := [0, 1, 3]) rfl h
  · replace h := h.2 q
    refine r_aload_n 0 dX3_readsSum_54 rfl rfl ?_
    refine r_getR (c := 13) (k := 1) 8 dX3_readsSum_55 clX3 lFX3_24 (by decide) iF13 sC13 rfl ?_
    refine r_kload_n 2 dX3_readsSum_58 rfl rfl ?_
    refine r_aload_n 0 dX3_readsSum_59 rfl rfl ?_
    refine r_getI (c := 13) (k := 3) dX3_readsSum_60 clX3 lFX3_28 (by decide) iF13 sC13 rfl ?_
    refine r_callVZ (b' := (1, 0, 0)) (c := 8) (S := []) [eV G 1 x3, .int (M1 13 3)] dX3_readsSum_63 mX7_add lMX3_113 clX7 rfl iF8 sC8 rfl (eFitL (by decide) (by decide)) (Nat.le_of_ble_eq_true rfl) h (fun r2 M2 h => ?_) rfl
    refine r_zif_eq (t := 73) dX3_readsSum_66 (by decide) (fun q => ?_) (fun q => ?_)
    · replace h := h.1 q
      exact Ev.sub (ks := [0, 1, 3]) rfl h
    · replace h := h.2 q
      refine r_iconst (v := 1) dX3_readsSum_69 rfl ?_
      refine r_goto (t := 74) dX3_readsSum_70 (by decide) ?_
      refine r_istore_n (l' := [(2, .int 1), (0, .ref (G.1 13)), (1, .int x1), (3, eV G 1 x3), (4, .int x4)]) dX3_readsSum_74 rfl (by decide) rfl ?_
      refine r_aload_n 1 dX3_readsSum_75 rfl rfl ?_
      refine r_getK (c := 13) (k := 2) dX3_readsSum_76 clX3 lFX3_15 (by decide) iF13 sC13 rfl ?_
      refine r_kstore_n (l' := [(3, eV G 1 (M2 13 2)), (2, .int 1), (0, .ref (G.1 13)), (1, .int x1), (4, .int x4)]) dX3_readsSum_79 rfl (by decide) rfl ?_
      refine r_iinc (v := x4 + 1) (l' := [(4, .int (x4 + 1)), (3, eV G 1 (M2 13 2)), (2, .int 1), (0, .ref (G.1 13)), (1, .int x1)]) 4 dX3_readsSum_80 rfl rfl (by decide) (by simp [List.filter_cons, eV_cat, eCatI, eCatR]) ?_
      refine r_goto (t := 14) dX3_readsSum_83 (by decide) ?_
      exact Ev.sub (ks := [3, 4, 2, 1, 0]) rfl h
set_option maxHeartbeats 4000000 in
set_option maxRecDepth 100000 in
theorem B_X3_readsSum_14 (G : eG) (d : Nat) (M : eM) (F : Bool → eM → Prop) (x1 : Int32) (x2 : Bool) (x3 : Int32) (x4 : Int32)
    (h : ((400 ≤ x4) → F x2 M) ∧ ((¬ 400 ≤ x4) → ((x2 = false) → F x2 M) ∧ ((x2 = true) → Cal G 0 68 (2, 0, 0) kX3_accept [.ref (G.1 13), eV G 1 31] M (eFZ (fun (r1 : Bool) (M1 : eM) => ((r1 = true) → Ev (eZ G 0 68 0 0 (eFZ F)) G 0 68 (d + 5, 0, 0) kX3_readsSum 46 [(0, .ref (G.1 13)), (1, .int x1), (3, eV G 1 x3), (4, .int x4)] [] M1 0 0) ∧ ((r1 = false) → Cal G 0 68 (2, 0, 0) kX3_accept [.ref (G.1 13), eV G 1 32] M1 (eFZ (fun (r2 : Bool) (M2 : eM) => ((r2 = false) → F x2 M2) ∧ ((r2 = true) → Ev (eZ G 0 68 0 0 (eFZ F)) G 0 68 (d + 5, 0, 0) kX3_readsSum 46 [(0, .ref (G.1 13)), (1, .int x1), (3, eV G 1 x3), (4, .int x4)] [] M2 0 0))))))))) :
    Ev (eZ G 0 68 0 0 (eFZ F)) G 0 68 (d + 5, 0, 0) kX3_readsSum 14 [(0, .ref (G.1 13)), (1, .int x1), (2, .int (eZi x2)), (3, eV G 1 x3), (4, .int x4)] [] M 0 0 := by
  refine r_iload 4 dX3_readsSum_14 rfl ?_
  refine r_sipush (v := 400) dX3_readsSum_16 rfl ?_
  refine r_icmp_ge (t := 86) dX3_readsSum_19 (by decide) (fun q => ?_) (fun q => ?_)
  · replace h := h.1 q
    refine r_iload_n 2 dX3_readsSum_86 rfl rfl ?_
    refine r_iretZ dX3_readsSum_87 rfl (Nat.le_refl _) (Nat.le_refl _) h
  · replace h := h.2 q
    refine r_iload_n 2 dX3_readsSum_22 rfl rfl ?_
    refine r_zif_eq (t := 86) dX3_readsSum_23 (by decide) (fun q => ?_) (fun q => ?_)
    · replace h := h.1 q
      refine r_iload_n 2 dX3_readsSum_86 rfl rfl ?_
      refine r_iretZ dX3_readsSum_87 rfl (Nat.le_refl _) (Nat.le_refl _) h
    · replace h := h.2 q
      refine r_aload_n 0 dX3_readsSum_26 rfl rfl ?_
      refine r_getsK (w := 31) 30 dX3_readsSum_27 lFX3_160 (by decide) rfl rfl ?_
      refine r_callVZ (b' := (2, 0, 0)) (c := 13) (S := []) [eV G 1 31] dX3_readsSum_30 mX3_accept lMX3_41 clX3 rfl iF13 sC13 rfl (eFitL (by decide) (by decide)) (Nat.le_of_ble_eq_true rfl) h (fun r1 M1 h => ?_) rfl
      refine r_zif_ne (t := 46) dX3_readsSum_33 (by decide) (fun q => ?_) (fun q => ?_)
      · replace h := h.1 q
        exact Ev.sub (ks := [0, 1, 3, 4]) rfl h
      · replace h := h.2 q
        refine r_aload_n 0 dX3_readsSum_36 rfl rfl ?_
        refine r_getsK (w := 32) 31 dX3_readsSum_37 lFX3_163 (by decide) rfl rfl ?_
        refine r_callVZ (b' := (2, 0, 0)) (c := 13) (S := []) [eV G 1 32] dX3_readsSum_40 mX3_accept lMX3_41 clX3 rfl iF13 sC13 rfl (eFitL (by decide) (by decide)) (Nat.le_of_ble_eq_true rfl) h (fun r2 M2 h => ?_) rfl
        refine r_zif_eq (t := 86) dX3_readsSum_43 (by decide) (fun q => ?_) (fun q => ?_)
        · replace h := h.1 q
          refine r_iload_n 2 dX3_readsSum_86 rfl rfl ?_
          refine r_iretZ dX3_readsSum_87 rfl (Nat.le_refl _) (Nat.le_refl _) h
        · replace h := h.2 q
          exact Ev.sub (ks := [0, 1, 3, 4]) rfl h
set_option maxHeartbeats 4000000 in
set_option maxRecDepth 100000 in
theorem C_X3_readsSum (G : eG) (d : Nat) (M : eM) (F : Bool → eM → Prop) (a1 : Int32)
    (h : Cal G 0 68 (d + 4, 0, 0) kX3_readsProduct [.ref (G.1 13), .int a1] M (eFZ (fun (r1 : Bool) (M1 : eM) => Ev (eZ G 0 68 0 0 (eFZ F)) G 0 68 (d + 5, 0, 0) kX3_readsSum 14 [(0, .ref (G.1 13)), (1, .int a1), (2, .int (eZi r1)), (3, eV G 1 (M1 13 2)), (4, .int 0)] [] M1 0 0))) :
    Cal G 0 68 (d + 5, 0, 0) kX3_readsSum [.ref (G.1 13), .int a1] M (eFZ F) := by
  refine Cal.of (by decide +kernel) rfl (Nat.le_of_ble_eq_true rfl) ?_
  show Ev (eZ G 0 68 0 0 (eFZ F)) G 0 68 (d + 5, 0, 0) kX3_readsSum 0 [(0, .ref (G.1 13)), (1, .int a1)] [] M 0 0
  refine r_aload_n 0 dX3_readsSum_0 rfl rfl ?_
  refine r_iload_n 1 dX3_readsSum_1 rfl rfl ?_
  refine r_callVZ (b' := (d + 4, 0, 0)) (c := 13) (S := []) [.int a1] dX3_readsSum_2 mX3_readsProduct lMX3_157 clX3 rfl iF13 sC13 rfl (eFitR (by decide)) (Nat.le_of_ble_eq_true rfl) h (fun r1 M1 h => ?_) rfl
  refine r_istore_n (l' := [(2, .int (eZi r1)), (0, .ref (G.1 13)), (1, .int a1)]) dX3_readsSum_5 rfl (by decide) rfl ?_
  refine r_aload_n 1 dX3_readsSum_6 rfl rfl ?_
  refine r_getK (c := 13) (k := 2) dX3_readsSum_7 clX3 lFX3_15 (by decide) iF13 sC13 rfl ?_
  refine r_kstore_n (l' := [(3, eV G 1 (M1 13 2)), (2, .int (eZi r1)), (0, .ref (G.1 13)), (1, .int a1)]) dX3_readsSum_10 rfl (by decide) rfl ?_
  refine r_iconst (v := 0) dX3_readsSum_11 rfl ?_
  refine r_istore (i := 4) (l' := [(4, .int 0), (3, eV G 1 (M1 13 2)), (2, .int (eZi r1)), (0, .ref (G.1 13)), (1, .int a1)]) dX3_readsSum_12 (by decide) (by simp [List.filter_cons, eV_cat, eCatI, eCatR]) ?_
  exact Ev.sub (ks := [3, 4, 2, 1, 0]) rfl h
set_option maxHeartbeats 4000000 in
set_option maxRecDepth 100000 in
theorem B_X3_readsProduct_73 (G : eG) (d : Nat) (M : eM) (F : Bool → eM → Prop) (x1 : Int32) (x4 : Int32)
    (h : Ev (eZ G 0 68 0 0 (eFZ F)) G 0 68 (d + 5, 0, 0) kX3_readsProduct 14 [(0, .ref (G.1 13)), (1, .int x1), (2, .int (eZi false)), (3, eV G 1 (M 13 2)), (4, .int (x4 + 1))] [] M 0 0) :
    Ev (eZ G 0 68 0 0 (eFZ F)) G 0 68 (d + 5, 0, 0) kX3_readsProduct 73 [(0, .ref (G.1 13)), (1, .int x1), (4, .int x4)] [] M 0 0 := by
  refine r_iconst (v := 0) dX3_readsProduct_73 rfl ?_
  refine r_istore_n (l' := [(2, .int 0), (0, .ref (G.1 13)), (1, .int x1), (4, .int x4)]) dX3_readsProduct_74 rfl (by decide) rfl ?_
  refine r_aload_n 1 dX3_readsProduct_75 rfl rfl ?_
  refine r_getK (c := 13) (k := 2) dX3_readsProduct_76 clX3 lFX3_15 (by decide) iF13 sC13 rfl ?_
  refine r_kstore_n (l' := [(3, eV G 1 (M 13 2)), (2, .int 0), (0, .ref (G.1 13)), (1, .int x1), (4, .int x4)]) dX3_readsProduct_79 rfl (by decide) rfl ?_
  refine r_iinc (v := x4 + 1) (l' := [(4, .int (x4 + 1)), (3, eV G 1 (M 13 2)), (2, .int 0), (0, .ref (G.1 13)), (1, .int x1)]) 4 dX3_readsProduct_80 rfl rfl (by decide) (by simp [List.filter_cons, eV_cat, eCatI, eCatR]) ?_
  refine r_goto (t := 14) dX3_readsProduct_83 (by decide) ?_
  exact Ev.sub (ks := [3, 4, 2, 1, 0]) rfl h
set_option maxHeartbeats 4000000 in
set_option maxRecDepth 100000 in
theorem B_X3_readsProduct_46 (G : eG) (d : Nat) (M : eM) (F : Bool → eM → Prop) (x1 : Int32) (x3 : Int32) (x4 : Int32)
    (h : Cal G 0 68 (d + 4, 0, 0) kX3_readsValue [.ref (G.1 13), .int x1] M (eFZ (fun (r1 : Bool) (M1 : eM) => ((r1 = false) → Ev (eZ G 0 68 0 0 (eFZ F)) G 0 68 (d + 5, 0, 0) kX3_readsProduct 73 [(0, .ref (G.1 13)), (1, .int x1), (4, .int x4)] [] M1 0 0) ∧ ((r1 = true) → Cal G 0 68 (1, 0, 0) kX7_add [.ref (G.1 8), eV G 1 x3, .int (M1 13 3)] M1 (eFZ (fun (r2 : Bool) (M2 : eM) => ((r2 = false) → Ev (eZ G 0 68 0 0 (eFZ F)) G 0 68 (d + 5, 0, 0) kX3_readsProduct 73 [(0, .ref (G.1 13)), (1, .int x1), (4, .int x4)] [] M2 0 0) ∧ ((r2 = true) → Ev (eZ G 0 68 0 0 (eFZ F)) G 0 68 (d + 5, 0, 0) kX3_readsProduct 14 [(0, .ref (G.1 13)), (1, .int x1), (2, .int (eZi true)), (3, eV G 1 (M2 13 2)), (4, .int (x4 + 1))] [] M2 0 0))))))) :
    Ev (eZ G 0 68 0 0 (eFZ F)) G 0 68 (d + 5, 0, 0) kX3_readsProduct 46 [(0, .ref (G.1 13)), (1, .int x1), (3, eV G 1 x3), (4, .int x4)] [] M 0 0 := by
  refine r_aload_n 0 dX3_readsProduct_46 rfl rfl ?_
  refine r_iload_n 1 dX3_readsProduct_47 rfl rfl ?_
  refine r_callVZ (b' := (d + 4, 0, 0)) (c := 13) (S := []) [.int x1] dX3_readsProduct_48 mX3_readsValue lMX3_166 clX3 rfl iF13 sC13 rfl (eFitR (by decide)) (Nat.le_of_ble_eq_true rfl) h (fun r1 M1 h => ?_) rfl
  refine r_zif_eq (t := 73) dX3_readsProduct_51 (by decide) (fun q => ?_) (fun q => ?_)
  · replace h := h.1 q
    exact Ev.sub (ks := [0, 1, 3]) rfl h
  · replace h := h.2 q
    refine r_aload_n 0 dX3_readsProduct_54 rfl rfl ?_
    refine r_getR (c := 13) (k := 1) 8 dX3_readsProduct_55 clX3 lFX3_24 (by decide) iF13 sC13 rfl ?_
    refine r_kload_n 2 dX3_readsProduct_58 rfl rfl ?_
    refine r_aload_n 0 dX3_readsProduct_59 rfl rfl ?_
    refine r_getI (c := 13) (k := 3) dX3_readsProduct_60 clX3 lFX3_28 (by decide) iF13 sC13 rfl ?_
    refine r_callVZ (b' := (1, 0, 0)) (c := 8) (S := []) [eV G 1 x3, .int (M1 13 3)] dX3_readsProduct_63 mX7_add lMX3_113 clX7 rfl iF8 sC8 rfl (eFitL (by decide) (by decide)) (Nat.le_of_ble_eq_true rfl) h (fun r2 M2 h => ?_) rfl
    refine r_zif_eq (t := 73) dX3_readsProduct_66 (by decide) (fun q => ?_) (fun q => ?_)
    · replace h := h.1 q
      exact Ev.sub (ks := [0, 1, 3]) rfl h
    · replace h := h.2 q
      refine r_iconst (v := 1) dX3_readsProduct_69 rfl ?_
      refine r_goto (t := 74) dX3_readsProduct_70 (by decide) ?_
      refine r_istore_n (l' := [(2, .int 1), (0, .ref (G.1 13)), (1, .int x1), (3, eV G 1 x3), (4, .int x4)]) dX3_readsProduct_74 rfl (by decide) rfl ?_
      refine r_aload_n 1 dX3_readsProduct_75 rfl rfl ?_
      refine r_getK (c := 13) (k := 2) dX3_readsProduct_76 clX3 lFX3_15 (by decide) iF13 sC13 rfl ?_
      refine r_kstore_n (l' := [(3, eV G 1 (M2 13 2)), (2, .int 1), (0, .ref (G.1 13)), (1, .int x1), (4, .int x4)]) dX3_readsProduct_79 rfl (by decide) rfl ?_
      refine r_iinc (v := x4 + 1) (l' := [(4, .int (x4 + 1)), (3, eV G 1 (M2 13 2)), (2, .int 1), (0, .ref (G.1 13)), (1, .int x1)]) 4 dX3_readsProduct_80 rfl rfl (by decide) (by simp [List.filter_cons, eV_cat, eCatI, eCatR]) ?_
      refine r_goto (t := 14) dX3_readsProduct_83 (by decide) ?_
      exact Ev.sub (ks := [3, 4, 2, 1, 0]) rfl h
set_option maxHeartbeats 4000000 in
set_option maxRecDepth 100000 in
theorem B_X3_readsProduct_14 (G : eG) (d : Nat) (M : eM) (F : Bool → eM → Prop) (x1 : Int32) (x2 : Bool) (x3 : Int32) (x4 : Int32)
    (h : ((400 ≤ x4) → F x2 M) ∧ ((¬ 400 ≤ x4) → ((x2 = false) → F x2 M) ∧ ((x2 = true) → Cal G 0 68 (2, 0, 0) kX3_accept [.ref (G.1 13), eV G 1 33] M (eFZ (fun (r1 : Bool) (M1 : eM) => ((r1 = true) → Ev (eZ G 0 68 0 0 (eFZ F)) G 0 68 (d + 5, 0, 0) kX3_readsProduct 46 [(0, .ref (G.1 13)), (1, .int x1), (3, eV G 1 x3), (4, .int x4)] [] M1 0 0) ∧ ((r1 = false) → Cal G 0 68 (2, 0, 0) kX3_accept [.ref (G.1 13), eV G 1 34] M1 (eFZ (fun (r2 : Bool) (M2 : eM) => ((r2 = false) → F x2 M2) ∧ ((r2 = true) → Ev (eZ G 0 68 0 0 (eFZ F)) G 0 68 (d + 5, 0, 0) kX3_readsProduct 46 [(0, .ref (G.1 13)), (1, .int x1), (3, eV G 1 x3), (4, .int x4)] [] M2 0 0))))))))) :
    Ev (eZ G 0 68 0 0 (eFZ F)) G 0 68 (d + 5, 0, 0) kX3_readsProduct 14 [(0, .ref (G.1 13)), (1, .int x1), (2, .int (eZi x2)), (3, eV G 1 x3), (4, .int x4)] [] M 0 0 := by
  refine r_iload 4 dX3_readsProduct_14 rfl ?_
  refine r_sipush (v := 400) dX3_readsProduct_16 rfl ?_
  refine r_icmp_ge (t := 86) dX3_readsProduct_19 (by decide) (fun q => ?_) (fun q => ?_)
  · replace h := h.1 q
    refine r_iload_n 2 dX3_readsProduct_86 rfl rfl ?_
    refine r_iretZ dX3_readsProduct_87 rfl (Nat.le_refl _) (Nat.le_refl _) h
  · replace h := h.2 q
    refine r_iload_n 2 dX3_readsProduct_22 rfl rfl ?_
    refine r_zif_eq (t := 86) dX3_readsProduct_23 (by decide) (fun q => ?_) (fun q => ?_)
    · replace h := h.1 q
      refine r_iload_n 2 dX3_readsProduct_86 rfl rfl ?_
      refine r_iretZ dX3_readsProduct_87 rfl (Nat.le_refl _) (Nat.le_refl _) h
    · replace h := h.2 q
      refine r_aload_n 0 dX3_readsProduct_26 rfl rfl ?_
      refine r_getsK (w := 33) 32 dX3_readsProduct_27 lFX3_169 (by decide) rfl rfl ?_
      refine r_callVZ (b' := (2, 0, 0)) (c := 13) (S := []) [eV G 1 33] dX3_readsProduct_30 mX3_accept lMX3_41 clX3 rfl iF13 sC13 rfl (eFitL (by decide) (by decide)) (Nat.le_of_ble_eq_true rfl) h (fun r1 M1 h => ?_) rfl
      refine r_zif_ne (t := 46) dX3_readsProduct_33 (by decide) (fun q => ?_) (fun q => ?_)
      · replace h := h.1 q
        exact Ev.sub (ks := [0, 1, 3, 4]) rfl h
      · replace h := h.2 q
        refine r_aload_n 0 dX3_readsProduct_36 rfl rfl ?_
        refine r_getsK (w := 34) 33 dX3_readsProduct_37 lFX3_172 (by decide) rfl rfl ?_
        refine r_callVZ (b' := (2, 0, 0)) (c := 13) (S := []) [eV G 1 34] dX3_readsProduct_40 mX3_accept lMX3_41 clX3 rfl iF13 sC13 rfl (eFitL (by decide) (by decide)) (Nat.le_of_ble_eq_true rfl) h (fun r2 M2 h => ?_) rfl
        refine r_zif_eq (t := 86) dX3_readsProduct_43 (by decide) (fun q => ?_) (fun q => ?_)
        · replace h := h.1 q
          refine r_iload_n 2 dX3_readsProduct_86 rfl rfl ?_
          refine r_iretZ dX3_readsProduct_87 rfl (Nat.le_refl _) (Nat.le_refl _) h
        · replace h := h.2 q
          exact Ev.sub (ks := [0, 1, 3, 4]) rfl h
set_option maxHeartbeats 4000000 in
set_option maxRecDepth 100000 in
theorem C_X3_readsProduct (G : eG) (d : Nat) (M : eM) (F : Bool → eM → Prop) (a1 : Int32)
    (h : Cal G 0 68 (d + 4, 0, 0) kX3_readsValue [.ref (G.1 13), .int a1] M (eFZ (fun (r1 : Bool) (M1 : eM) => Ev (eZ G 0 68 0 0 (eFZ F)) G 0 68 (d + 5, 0, 0) kX3_readsProduct 14 [(0, .ref (G.1 13)), (1, .int a1), (2, .int (eZi r1)), (3, eV G 1 (M1 13 2)), (4, .int 0)] [] M1 0 0))) :
    Cal G 0 68 (d + 5, 0, 0) kX3_readsProduct [.ref (G.1 13), .int a1] M (eFZ F) := by
  refine Cal.of (by decide +kernel) rfl (Nat.le_of_ble_eq_true rfl) ?_
  show Ev (eZ G 0 68 0 0 (eFZ F)) G 0 68 (d + 5, 0, 0) kX3_readsProduct 0 [(0, .ref (G.1 13)), (1, .int a1)] [] M 0 0
  refine r_aload_n 0 dX3_readsProduct_0 rfl rfl ?_
  refine r_iload_n 1 dX3_readsProduct_1 rfl rfl ?_
  refine r_callVZ (b' := (d + 4, 0, 0)) (c := 13) (S := []) [.int a1] dX3_readsProduct_2 mX3_readsValue lMX3_166 clX3 rfl iF13 sC13 rfl (eFitR (by decide)) (Nat.le_of_ble_eq_true rfl) h (fun r1 M1 h => ?_) rfl
  refine r_istore_n (l' := [(2, .int (eZi r1)), (0, .ref (G.1 13)), (1, .int a1)]) dX3_readsProduct_5 rfl (by decide) rfl ?_
  refine r_aload_n 1 dX3_readsProduct_6 rfl rfl ?_
  refine r_getK (c := 13) (k := 2) dX3_readsProduct_7 clX3 lFX3_15 (by decide) iF13 sC13 rfl ?_
  refine r_kstore_n (l' := [(3, eV G 1 (M1 13 2)), (2, .int (eZi r1)), (0, .ref (G.1 13)), (1, .int a1)]) dX3_readsProduct_10 rfl (by decide) rfl ?_
  refine r_iconst (v := 0) dX3_readsProduct_11 rfl ?_
  refine r_istore (i := 4) (l' := [(4, .int 0), (3, eV G 1 (M1 13 2)), (2, .int (eZi r1)), (0, .ref (G.1 13)), (1, .int a1)]) dX3_readsProduct_12 (by decide) (by simp [List.filter_cons, eV_cat, eCatI, eCatR]) ?_
  exact Ev.sub (ks := [3, 4, 2, 1, 0]) rfl h
set_option maxHeartbeats 4000000 in
set_option maxRecDepth 100000 in
theorem B_X3_readsValue_249 (G : eG) (d : Nat) (M : eM) (F : Bool → eM → Prop) (x1 : Int32) (x2 : Int32)
    (h : Cal G 0 68 (2, 0, 0) kX3_accept [.ref (G.1 13), eV G 1 x2] M (eFZ (fun (r1 : Bool) (M1 : eM) => ((r1 = false) → F false M1) ∧ ((r1 = true) → ((8 ≤ x1) → F false M1) ∧ ((¬ 8 ≤ x1) → Cal G 0 68 (2, 0, 0) kX3_accept [.ref (G.1 13), eV G 1 25] M1 (eFZ (fun (r2 : Bool) (M2 : eM) => ((r2 = false) → F false M2) ∧ ((r2 = true) → Cal G 0 68 (d + 4, 0, 0) kX3_readsSum [.ref (G.1 13), .int (x1 + 1)] M2 (eFZ (fun (r3 : Bool) (M3 : eM) => ((r3 = false) → F false M3) ∧ ((r3 = true) → Cal G 0 68 (2, 0, 0) kX3_accept [.ref (G.1 13), eV G 1 30] M3 (eFZ (fun (r4 : Bool) (M4 : eM) => ((r4 = false) → F false M4) ∧ ((r4 = true) → Cal G 0 68 (d + 4, 0, 0) kX3_readsSum [.ref (G.1 13), .int (x1 + 1)] M4 (eFZ (fun (r5 : Bool) (M5 : eM) => ((r5 = false) → F false M5) ∧ ((r5 = true) → Cal G 0 68 (2, 0, 0) kX3_accept [.ref (G.1 13), eV G 1 26] M5 (eFZ (fun (r6 : Bool) (M6 : eM) => ((r6 = false) → F false M6) ∧ ((r6 = true) → Cal G 0 68 (1, 0, 0) kX7_add [.ref (G.1 8), eV G 1 x2, .int (M6 13 3)] M6 (eFZ (fun (r7 : Bool) (M7 : eM) => ((r7 = false) → F false M7) ∧ ((r7 = true) → F true M7))))))))))))))))))))))) :
    Ev (eZ G 0 68 0 0 (eFZ F)) G 0 68 (d + 5, 0, 0) kX3_readsValue 249 [(0, .ref (G.1 13)), (1, .int x1), (2, eV G 1 x2)] [] M 0 0 := by
  refine r_aload_n 0 dX3_readsValue_249 rfl rfl ?_
  refine r_kload_n 2 dX3_readsValue_250 rfl rfl ?_
  refine r_callVZ (b' := (2, 0, 0)) (c := 13) (S := []) [eV G 1 x2] dX3_readsValue_251 mX3_accept lMX3_41 clX3 rfl iF13 sC13 rfl (eFitL (by decide) (by decide)) (Nat.le_of_ble_eq_true rfl) h (fun r1 M1 h => ?_) rfl
  refine r_zif_eq (t := 332) dX3_readsValue_254 (by decide) (fun q => ?_) (fun q => ?_)
  · replace h := h.1 q
    refine r_iconst (v := 0) dX3_readsValue_332 rfl ?_
    refine r_iretZ0 dX3_readsValue_333 rfl (Nat.le_refl _) (Nat.le_refl _) h
  · replace h := h.2 q
    refine r_iload_n 1 dX3_readsValue_257 rfl rfl ?_
    refine r_bipush (v := 8) dX3_readsValue_258 rfl ?_
    refine r_icmp_ge (t := 332) dX3_readsValue_260 (by decide) (fun q => ?_) (fun q => ?_)
    · replace h := h.1 q
      refine r_iconst (v := 0) dX3_readsValue_332 rfl ?_
      refine r_iretZ0 dX3_readsValue_333 rfl (Nat.le_refl _) (Nat.le_refl _) h
    · replace h := h.2 q
      refine r_aload_n 0 dX3_readsValue_263 rfl rfl ?_
      refine r_getsK (w := 25) 24 dX3_readsValue_264 lFX3_184 (by decide) rfl rfl ?_
      refine r_callVZ (b' := (2, 0, 0)) (c := 13) (S := []) [eV G 1 25] dX3_readsValue_267 mX3_accept lMX3_41 clX3 rfl iF13 sC13 rfl (eFitL (by decide) (by decide)) (Nat.le_of_ble_eq_true rfl) h (fun r2 M2 h => ?_) rfl
      refine r_zif_eq (t := 332) dX3_readsValue_270 (by decide) (fun q => ?_) (fun q => ?_)
      · replace h := h.1 q
        refine r_iconst (v := 0) dX3_readsValue_332 rfl ?_
        refine r_iretZ0 dX3_readsValue_333 rfl (Nat.le_refl _) (Nat.le_refl _) h
      · replace h := h.2 q
        refine r_aload_n 0 dX3_readsValue_273 rfl rfl ?_
        refine r_iload_n 1 dX3_readsValue_274 rfl rfl ?_
        refine r_iconst (v := 1) dX3_readsValue_275 rfl ?_
        refine r_iadd dX3_readsValue_276 ?_
        refine r_callVZ (b' := (d + 4, 0, 0)) (c := 13) (S := []) [.int (x1 + 1)] dX3_readsValue_277 mX3_readsSum lMX3_85 clX3 rfl iF13 sC13 rfl (eFitR (by decide)) (Nat.le_of_ble_eq_true rfl) h (fun r3 M3 h => ?_) rfl
        refine r_zif_eq (t := 332) dX3_readsValue_280 (by decide) (fun q => ?_) (fun q => ?_)
        · replace h := h.1 q
          refine r_iconst (v := 0) dX3_readsValue_332 rfl ?_
          refine r_iretZ0 dX3_readsValue_333 rfl (Nat.le_refl _) (Nat.le_refl _) h
        · replace h := h.2 q
          refine r_aload_n 0 dX3_readsValue_283 rfl rfl ?_
          refine r_getsK (w := 30) 29 dX3_readsValue_284 lFX3_89 (by decide) rfl rfl ?_
          refine r_callVZ (b' := (2, 0, 0)) (c := 13) (S := []) [eV G 1 30] dX3_readsValue_287 mX3_accept lMX3_41 clX3 rfl iF13 sC13 rfl (eFitL (by decide) (by decide)) (Nat.le_of_ble_eq_true rfl) h (fun r4 M4 h => ?_) rfl
          refine r_zif_eq (t := 332) dX3_readsValue_290 (by decide) (fun q => ?_) (fun q => ?_)
          · replace h := h.1 q
            refine r_iconst (v := 0) dX3_readsValue_332 rfl ?_
            refine r_iretZ0 dX3_readsValue_333 rfl (Nat.le_refl _) (Nat.le_refl _) h
          · replace h := h.2 q
            refine r_aload_n 0 dX3_readsValue_293 rfl rfl ?_
            refine r_iload_n 1 dX3_readsValue_294 rfl rfl ?_
            refine r_iconst (v := 1) dX3_readsValue_295 rfl ?_
            refine r_iadd dX3_readsValue_296 ?_
            refine r_callVZ (b' := (d + 4, 0, 0)) (c := 13) (S := []) [.int (x1 + 1)] dX3_readsValue_297 mX3_readsSum lMX3_85 clX3 rfl iF13 sC13 rfl (eFitR (by decide)) (Nat.le_of_ble_eq_true rfl) h (fun r5 M5 h => ?_) rfl
            refine r_zif_eq (t := 332) dX3_readsValue_300 (by decide) (fun q => ?_) (fun q => ?_)
            · replace h := h.1 q
              refine r_iconst (v := 0) dX3_readsValue_332 rfl ?_
              refine r_iretZ0 dX3_readsValue_333 rfl (Nat.le_refl _) (Nat.le_refl _) h
            · replace h := h.2 q
              refine r_aload_n 0 dX3_readsValue_303 rfl rfl ?_
              refine r_getsK (w := 26) 25 dX3_readsValue_304 lFX3_187 (by decide) rfl rfl ?_
              refine r_callVZ (b' := (2, 0, 0)) (c := 13) (S := []) [eV G 1 26] dX3_readsValue_307 mX3_accept lMX3_41 clX3 rfl iF13 sC13 rfl (eFitL (by decide) (by decide)) (Nat.le_of_ble_eq_true rfl) h (fun r6 M6 h => ?_) rfl
              refine r_zif_eq (t := 332) dX3_readsValue_310 (by decide) (fun q => ?_) (fun q => ?_)
              · replace h := h.1 q
                refine r_iconst (v := 0) dX3_readsValue_332 rfl ?_
                refine r_iretZ0 dX3_readsValue_333 rfl (Nat.le_refl _) (Nat.le_refl _) h
              · replace h := h.2 q
                refine r_aload_n 0 dX3_readsValue_313 rfl rfl ?_
                refine r_getR (c := 13) (k := 1) 8 dX3_readsValue_314 clX3 lFX3_24 (by decide) iF13 sC13 rfl ?_
                refine r_kload_n 2 dX3_readsValue_317 rfl rfl ?_
                refine r_aload_n 0 dX3_readsValue_318 rfl rfl ?_
                refine r_getI (c := 13) (k := 3) dX3_readsValue_319 clX3 lFX3_28 (by decide) iF13 sC13 rfl ?_
                refine r_callVZ (b' := (1, 0, 0)) (c := 8) (S := []) [eV G 1 x2, .int (M6 13 3)] dX3_readsValue_322 mX7_add lMX3_113 clX7 rfl iF8 sC8 rfl (eFitL (by decide) (by decide)) (Nat.le_of_ble_eq_true rfl) h (fun r7 M7 h => ?_) rfl
                refine r_zif_eq (t := 332) dX3_readsValue_325 (by decide) (fun q => ?_) (fun q => ?_)
                · replace h := h.1 q
                  refine r_iconst (v := 0) dX3_readsValue_332 rfl ?_
                  refine r_iretZ0 dX3_readsValue_333 rfl (Nat.le_refl _) (Nat.le_refl _) h
                · replace h := h.2 q
                  refine r_iconst (v := 1) dX3_readsValue_328 rfl ?_
                  refine r_goto (t := 333) dX3_readsValue_329 (by decide) ?_
                  refine r_iretZ1 dX3_readsValue_333 rfl (Nat.le_refl _) (Nat.le_refl _) h
set_option maxHeartbeats 4000000 in
set_option maxRecDepth 100000 in
theorem B_X3_readsValue_207 (G : eG) (d : Nat) (M : eM) (F : Bool → eM → Prop) (x1 : Int32)
    (h : ((8 ≤ x1) → F false M) ∧ ((¬ 8 ≤ x1) → Cal G 0 68 (2, 0, 0) kX3_accept [.ref (G.1 13), eV G 1 25] M (eFZ (fun (r1 : Bool) (M1 : eM) => ((r1 = false) → F false M1) ∧ ((r1 = true) → Cal G 0 68 (d + 4, 0, 0) kX3_readsSum [.ref (G.1 13), .int (x1 + 1)] M1 (eFZ (fun (r2 : Bool) (M2 : eM) => ((r2 = false) → F false M2) ∧ ((r2 = true) → Cal G 0 68 (2, 0, 0) kX3_accept [.ref (G.1 13), eV G 1 26] M2 (eFZ (fun (r3 : Bool) (M3 : eM) => ((r3 = false) → F false M3) ∧ ((r3 = true) → F true M3))))))))))) :
    Ev (eZ G 0 68 0 0 (eFZ F)) G 0 68 (d + 5, 0, 0) kX3_readsValue 207 [(0, .ref (G.1 13)), (1, .int x1)] [] M 0 0 := by
  refine r_iload_n 1 dX3_readsValue_207 rfl rfl ?_
  refine r_bipush (v := 8) dX3_readsValue_208 rfl ?_
  refine r_icmp_ge (t := 247) dX3_readsValue_210 (by decide) (fun q => ?_) (fun q => ?_)
  · replace h := h.1 q
    refine r_iconst (v := 0) dX3_readsValue_247 rfl ?_
    refine r_iretZ0 dX3_readsValue_248 rfl (Nat.le_refl _) (Nat.le_refl _) h
  · replace h := h.2 q
    refine r_aload_n 0 dX3_readsValue_213 rfl rfl ?_
    refine r_getsK (w := 25) 24 dX3_readsValue_214 lFX3_184 (by decide) rfl rfl ?_
    refine r_callVZ (b' := (2, 0, 0)) (c := 13) (S := []) [eV G 1 25] dX3_readsValue_217 mX3_accept lMX3_41 clX3 rfl iF13 sC13 rfl (eFitL (by decide) (by decide)) (Nat.le_of_ble_eq_true rfl) h (fun r1 M1 h => ?_) rfl
    refine r_zif_eq (t := 247) dX3_readsValue_220 (by decide) (fun q => ?_) (fun q => ?_)
    · replace h := h.1 q
      refine r_iconst (v := 0) dX3_readsValue_247 rfl ?_
      refine r_iretZ0 dX3_readsValue_248 rfl (Nat.le_refl _) (Nat.le_refl _) h
    · replace h := h.2 q
      refine r_aload_n 0 dX3_readsValue_223 rfl rfl ?_
      refine r_iload_n 1 dX3_readsValue_224 rfl rfl ?_
      refine r_iconst (v := 1) dX3_readsValue_225 rfl ?_
      refine r_iadd dX3_readsValue_226 ?_
      refine r_callVZ (b' := (d + 4, 0, 0)) (c := 13) (S := []) [.int (x1 + 1)] dX3_readsValue_227 mX3_readsSum lMX3_85 clX3 rfl iF13 sC13 rfl (eFitR (by decide)) (Nat.le_of_ble_eq_true rfl) h (fun r2 M2 h => ?_) rfl
      refine r_zif_eq (t := 247) dX3_readsValue_230 (by decide) (fun q => ?_) (fun q => ?_)
      · replace h := h.1 q
        refine r_iconst (v := 0) dX3_readsValue_247 rfl ?_
        refine r_iretZ0 dX3_readsValue_248 rfl (Nat.le_refl _) (Nat.le_refl _) h
      · replace h := h.2 q
        refine r_aload_n 0 dX3_readsValue_233 rfl rfl ?_
        refine r_getsK (w := 26) 25 dX3_readsValue_234 lFX3_187 (by decide) rfl rfl ?_
        refine r_callVZ (b' := (2, 0, 0)) (c := 13) (S := []) [eV G 1 26] dX3_readsValue_237 mX3_accept lMX3_41 clX3 rfl iF13 sC13 rfl (eFitL (by decide) (by decide)) (Nat.le_of_ble_eq_true rfl) h (fun r3 M3 h => ?_) rfl
        refine r_zif_eq (t := 247) dX3_readsValue_240 (by decide) (fun q => ?_) (fun q => ?_)
        · replace h := h.1 q
          refine r_iconst (v := 0) dX3_readsValue_247 rfl ?_
          refine r_iretZ0 dX3_readsValue_248 rfl (Nat.le_refl _) (Nat.le_refl _) h
        · replace h := h.2 q
          refine r_iconst (v := 1) dX3_readsValue_243 rfl ?_
          refine r_goto (t := 248) dX3_readsValue_244 (by decide) ?_
          refine r_iretZ1 dX3_readsValue_248 rfl (Nat.le_refl _) (Nat.le_refl _) h
set_option maxHeartbeats 4000000 in
set_option maxRecDepth 100000 in
theorem B_X3_readsValue_158 (G : eG) (d : Nat) (M : eM) (F : Bool → eM → Prop) (x1 : Int32)
    (h : ((8 ≤ x1) → F false M) ∧ ((¬ 8 ≤ x1) → Cal G 0 68 (2, 0, 0) kX3_accept [.ref (G.1 13), eV G 1 32] M (eFZ (fun (r1 : Bool) (M1 : eM) => ((r1 = false) → F false M1) ∧ ((r1 = true) → Cal G 0 68 (d + 4, 0, 0) kX3_readsValue [.ref (G.1 13), .int (x1 + 1)] M1 (eFZ (fun (r2 : Bool) (M2 : eM) => ((r2 = false) → F false M2) ∧ ((r2 = true) → Cal G 0 68 (1, 0, 0) kX7_add [.ref (G.1 8), eV G 1 44, .int (M2 13 3)] M2 (eFZ (fun (r3 : Bool) (M3 : eM) => ((r3 = false) → F false M3) ∧ ((r3 = true) → F true M3))))))))))) :
    Ev (eZ G 0 68 0 0 (eFZ F)) G 0 68 (d + 5, 0, 0) kX3_readsValue 158 [(0, .ref (G.1 13)), (1, .int x1)] [] M 0 0 := by
  refine r_iload_n 1 dX3_readsValue_158 rfl rfl ?_
  refine r_bipush (v := 8) dX3_readsValue_159 rfl ?_
  refine r_icmp_ge (t := 205) dX3_readsValue_161 (by decide) (fun q => ?_) (fun q => ?_)
  · replace h := h.1 q
    refine r_iconst (v := 0) dX3_readsValue_205 rfl ?_
    refine r_iretZ0 dX3_readsValue_206 rfl (Nat.le_refl _) (Nat.le_refl _) h
  · replace h := h.2 q
    refine r_aload_n 0 dX3_readsValue_164 rfl rfl ?_
    refine r_getsK (w := 32) 31 dX3_readsValue_165 lFX3_163 (by decide) rfl rfl ?_
    refine r_callVZ (b' := (2, 0, 0)) (c := 13) (S := []) [eV G 1 32] dX3_readsValue_168 mX3_accept lMX3_41 clX3 rfl iF13 sC13 rfl (eFitL (by decide) (by decide)) (Nat.le_of_ble_eq_true rfl) h (fun r1 M1 h => ?_) rfl
    refine r_zif_eq (t := 205) dX3_readsValue_171 (by decide) (fun q => ?_) (fun q => ?_)
    · replace h := h.1 q
      refine r_iconst (v := 0) dX3_readsValue_205 rfl ?_
      refine r_iretZ0 dX3_readsValue_206 rfl (Nat.le_refl _) (Nat.le_refl _) h
    · replace h := h.2 q
      refine r_aload_n 0 dX3_readsValue_174 rfl rfl ?_
      refine r_iload_n 1 dX3_readsValue_175 rfl rfl ?_
      refine r_iconst (v := 1) dX3_readsValue_176 rfl ?_
      refine r_iadd dX3_readsValue_177 ?_
      refine r_callVZ (b' := (d + 4, 0, 0)) (c := 13) (S := []) [.int (x1 + 1)] dX3_readsValue_178 mX3_readsValue lMX3_166 clX3 rfl iF13 sC13 rfl (eFitR (by decide)) (Nat.le_of_ble_eq_true rfl) h (fun r2 M2 h => ?_) rfl
      refine r_zif_eq (t := 205) dX3_readsValue_181 (by decide) (fun q => ?_) (fun q => ?_)
      · replace h := h.1 q
        refine r_iconst (v := 0) dX3_readsValue_205 rfl ?_
        refine r_iretZ0 dX3_readsValue_206 rfl (Nat.le_refl _) (Nat.le_refl _) h
      · replace h := h.2 q
        refine r_aload_n 0 dX3_readsValue_184 rfl rfl ?_
        refine r_getR (c := 13) (k := 1) 8 dX3_readsValue_185 clX3 lFX3_24 (by decide) iF13 sC13 rfl ?_
        refine r_getsK (w := 44) 43 dX3_readsValue_188 lFX3_181 (by decide) rfl rfl ?_
        refine r_aload_n 0 dX3_readsValue_191 rfl rfl ?_
        refine r_getI (c := 13) (k := 3) dX3_readsValue_192 clX3 lFX3_28 (by decide) iF13 sC13 rfl ?_
        refine r_callVZ (b' := (1, 0, 0)) (c := 8) (S := []) [eV G 1 44, .int (M2 13 3)] dX3_readsValue_195 mX7_add lMX3_113 clX7 rfl iF8 sC8 rfl (eFitL (by decide) (by decide)) (Nat.le_of_ble_eq_true rfl) h (fun r3 M3 h => ?_) rfl
        refine r_zif_eq (t := 205) dX3_readsValue_198 (by decide) (fun q => ?_) (fun q => ?_)
        · replace h := h.1 q
          refine r_iconst (v := 0) dX3_readsValue_205 rfl ?_
          refine r_iretZ0 dX3_readsValue_206 rfl (Nat.le_refl _) (Nat.le_refl _) h
        · replace h := h.2 q
          refine r_iconst (v := 1) dX3_readsValue_201 rfl ?_
          refine r_goto (t := 206) dX3_readsValue_202 (by decide) ?_
          refine r_iretZ1 dX3_readsValue_206 rfl (Nat.le_refl _) (Nat.le_refl _) h
set_option maxHeartbeats 4000000 in
set_option maxRecDepth 100000 in
theorem B_X3_readsValue_105 (G : eG) (d : Nat) (M : eM) (F : Bool → eM → Prop) 
    (h : Cal G 0 68 (2, 0, 0) kX3_accept [.ref (G.1 13), eV G 1 16] M (eFZ (fun (r1 : Bool) (M1 : eM) => ((r1 = false) → F false M1) ∧ ((r1 = true) → Cal G 0 68 (2, 0, 0) kX3_accept [.ref (G.1 13), eV G 1 17] M1 (eFZ (fun (r2 : Bool) (M2 : eM) => ((r2 = false) → F false M2) ∧ ((r2 = true) → Cal G 0 68 (1, 0, 0) kX7_add [.ref (G.1 8), eV G 1 16, .int (M2 13 3)] M2 (eFZ (fun (r3 : Bool) (M3 : eM) => ((r3 = false) → F false M3) ∧ ((r3 = true) → Cal G 0 68 (2, 0, 0) kX3_accept [.ref (G.1 13), eV G 1 41] M3 (eFZ (fun (r4 : Bool) (M4 : eM) => ((r4 = false) → F false M4) ∧ ((r4 = true) → F true M4))))))))))))) :
    Ev (eZ G 0 68 0 0 (eFZ F)) G 0 68 (d + 5, 0, 0) kX3_readsValue 105 [(0, .ref (G.1 13))] [] M 0 0 := by
  refine r_aload_n 0 dX3_readsValue_105 rfl rfl ?_
  refine r_getsK (w := 16) 15 dX3_readsValue_106 lFX3_175 (by decide) rfl rfl ?_
  refine r_callVZ (b' := (2, 0, 0)) (c := 13) (S := []) [eV G 1 16] dX3_readsValue_109 mX3_accept lMX3_41 clX3 rfl iF13 sC13 rfl (eFitL (by decide) (by decide)) (Nat.le_of_ble_eq_true rfl) h (fun r1 M1 h => ?_) rfl
  refine r_zif_eq (t := 156) dX3_readsValue_112 (by decide) (fun q => ?_) (fun q => ?_)
  · replace h := h.1 q
    refine r_iconst (v := 0) dX3_readsValue_156 rfl ?_
    refine r_iretZ0 dX3_readsValue_157 rfl (Nat.le_refl _) (Nat.le_refl _) h
  · replace h := h.2 q
    refine r_aload_n 0 dX3_readsValue_115 rfl rfl ?_
    refine r_getsK (w := 17) 16 dX3_readsValue_116 lFX3_178 (by decide) rfl rfl ?_
    refine r_callVZ (b' := (2, 0, 0)) (c := 13) (S := []) [eV G 1 17] dX3_readsValue_119 mX3_accept lMX3_41 clX3 rfl iF13 sC13 rfl (eFitL (by decide) (by decide)) (Nat.le_of_ble_eq_true rfl) h (fun r2 M2 h => ?_) rfl
    refine r_zif_eq (t := 156) dX3_readsValue_122 (by decide) (fun q => ?_) (fun q => ?_)
    · replace h := h.1 q
      refine r_iconst (v := 0) dX3_readsValue_156 rfl ?_
      refine r_iretZ0 dX3_readsValue_157 rfl (Nat.le_refl _) (Nat.le_refl _) h
    · replace h := h.2 q
      refine r_aload_n 0 dX3_readsValue_125 rfl rfl ?_
      refine r_getR (c := 13) (k := 1) 8 dX3_readsValue_126 clX3 lFX3_24 (by decide) iF13 sC13 rfl ?_
      refine r_getsK (w := 16) 15 dX3_readsValue_129 lFX3_175 (by decide) rfl rfl ?_
      refine r_aload_n 0 dX3_readsValue_132 rfl rfl ?_
      refine r_getI (c := 13) (k := 3) dX3_readsValue_133 clX3 lFX3_28 (by decide) iF13 sC13 rfl ?_
      refine r_callVZ (b' := (1, 0, 0)) (c := 8) (S := []) [eV G 1 16, .int (M2 13 3)] dX3_readsValue_136 mX7_add lMX3_113 clX7 rfl iF8 sC8 rfl (eFitL (by decide) (by decide)) (Nat.le_of_ble_eq_true rfl) h (fun r3 M3 h => ?_) rfl
      refine r_zif_eq (t := 156) dX3_readsValue_139 (by decide) (fun q => ?_) (fun q => ?_)
      · replace h := h.1 q
        refine r_iconst (v := 0) dX3_readsValue_156 rfl ?_
        refine r_iretZ0 dX3_readsValue_157 rfl (Nat.le_refl _) (Nat.le_refl _) h
      · replace h := h.2 q
        refine r_aload_n 0 dX3_readsValue_142 rfl rfl ?_
        refine r_getsK (w := 41) 40 dX3_readsValue_143 lFX3_64 (by decide) rfl rfl ?_
        refine r_callVZ (b' := (2, 0, 0)) (c := 13) (S := []) [eV G 1 41] dX3_readsValue_146 mX3_accept lMX3_41 clX3 rfl iF13 sC13 rfl (eFitL (by decide) (by decide)) (Nat.le_of_ble_eq_true rfl) h (fun r4 M4 h => ?_) rfl
        refine r_zif_eq (t := 156) dX3_readsValue_149 (by decide) (fun q => ?_) (fun q => ?_)
        · replace h := h.1 q
          refine r_iconst (v := 0) dX3_readsValue_156 rfl ?_
          refine r_iretZ0 dX3_readsValue_157 rfl (Nat.le_refl _) (Nat.le_refl _) h
        · replace h := h.2 q
          refine r_iconst (v := 1) dX3_readsValue_152 rfl ?_
          refine r_goto (t := 157) dX3_readsValue_153 (by decide) ?_
          refine r_iretZ1 dX3_readsValue_157 rfl (Nat.le_refl _) (Nat.le_refl _) h
set_option maxHeartbeats 4000000 in
set_option maxRecDepth 100000 in
theorem B_X3_readsValue_76 (G : eG) (d : Nat) (M : eM) (F : Bool → eM → Prop) (x2 : Int32)
    (h : Cal G 0 68 (1, 0, 0) kX7_add [.ref (G.1 8), eV G 1 x2, .int (M 13 3)] M (eFZ (fun (r1 : Bool) (M1 : eM) => ((r1 = false) → F false M1) ∧ ((r1 = true) → Cal G 0 68 (2, 0, 0) kX3_accept [.ref (G.1 13), eV G 1 x2] M1 (eFZ (fun (r2 : Bool) (M2 : eM) => ((r2 = false) → F false M2) ∧ ((r2 = true) → F true M2))))))) :
    Ev (eZ G 0 68 0 0 (eFZ F)) G 0 68 (d + 5, 0, 0) kX3_readsValue 76 [(0, .ref (G.1 13)), (2, eV G 1 x2)] [] M 0 0 := by
  refine r_aload_n 0 dX3_readsValue_76 rfl rfl ?_
  refine r_getR (c := 13) (k := 1) 8 dX3_readsValue_77 clX3 lFX3_24 (by decide) iF13 sC13 rfl ?_
  refine r_kload_n 1 dX3_readsValue_80 rfl rfl ?_
  refine r_aload_n 0 dX3_readsValue_81 rfl rfl ?_
  refine r_getI (c := 13) (k := 3) dX3_readsValue_82 clX3 lFX3_28 (by decide) iF13 sC13 rfl ?_
  refine r_callVZ (b' := (1, 0, 0)) (c := 8) (S := []) [eV G 1 x2, .int (M 13 3)] dX3_readsValue_85 mX7_add lMX3_113 clX7 rfl iF8 sC8 rfl (eFitL (by decide) (by decide)) (Nat.le_of_ble_eq_true rfl) h (fun r1 M1 h => ?_) rfl
  refine r_zif_eq (t := 103) dX3_readsValue_88 (by decide) (fun q => ?_) (fun q => ?_)
  · replace h := h.1 q
    refine r_iconst (v := 0) dX3_readsValue_103 rfl ?_
    refine r_iretZ0 dX3_readsValue_104 rfl (Nat.le_refl _) (Nat.le_refl _) h
  · replace h := h.2 q
    refine r_aload_n 0 dX3_readsValue_91 rfl rfl ?_
    refine r_kload_n 1 dX3_readsValue_92 rfl rfl ?_
    refine r_callVZ (b' := (2, 0, 0)) (c := 13) (S := []) [eV G 1 x2] dX3_readsValue_93 mX3_accept lMX3_41 clX3 rfl iF13 sC13 rfl (eFitL (by decide) (by decide)) (Nat.le_of_ble_eq_true rfl) h (fun r2 M2 h => ?_) rfl
    refine r_zif_eq (t := 103) dX3_readsValue_96 (by decide) (fun q => ?_) (fun q => ?_)
    · replace h := h.1 q
      refine r_iconst (v := 0) dX3_readsValue_103 rfl ?_
      refine r_iretZ0 dX3_readsValue_104 rfl (Nat.le_refl _) (Nat.le_refl _) h
    · replace h := h.2 q
      refine r_iconst (v := 1) dX3_readsValue_99 rfl ?_
      refine r_goto (t := 104) dX3_readsValue_100 (by decide) ?_
      refine r_iretZ1 dX3_readsValue_104 rfl (Nat.le_refl _) (Nat.le_refl _) h
set_option maxHeartbeats 4000000 in
set_option maxRecDepth 100000 in
theorem C_X3_readsValue (G : eG) (d : Nat) (M : eM) (F : Bool → eM → Prop) (a1 : Int32)
    (h : (1 ≤ (M 13 2) ∧ (M 13 2) ≤ 44) ∧ (vp_in ((M 13 2) - 1) 44 ∧ ((((eSw ((M 13 2) - 1).toNatClampNeg : Int32).toInt < 5 ∨ 16 < (eSw ((M 13 2) - 1).toNatClampNeg : Int32).toInt) → F false M) ∧ ((eSw ((M 13 2) - 1).toNatClampNeg : Int32) = 5 → Ev (eZ G 0 68 0 0 (eFZ F)) G 0 68 (d + 5, 0, 0) kX3_readsValue 76 [(0, .ref (G.1 13)), (2, eV G 1 (M 13 2))] [] M 0 0) ∧ ((eSw ((M 13 2) - 1).toNatClampNeg : Int32) = 6 → Ev (eZ G 0 68 0 0 (eFZ F)) G 0 68 (d + 5, 0, 0) kX3_readsValue 76 [(0, .ref (G.1 13)), (2, eV G 1 (M 13 2))] [] M 0 0) ∧ ((eSw ((M 13 2) - 1).toNatClampNeg : Int32) = 7 → Ev (eZ G 0 68 0 0 (eFZ F)) G 0 68 (d + 5, 0, 0) kX3_readsValue 76 [(0, .ref (G.1 13)), (2, eV G 1 (M 13 2))] [] M 0 0) ∧ ((eSw ((M 13 2) - 1).toNatClampNeg : Int32) = 8 → Ev (eZ G 0 68 0 0 (eFZ F)) G 0 68 (d + 5, 0, 0) kX3_readsValue 76 [(0, .ref (G.1 13)), (2, eV G 1 (M 13 2))] [] M 0 0) ∧ ((eSw ((M 13 2) - 1).toNatClampNeg : Int32) = 9 → Ev (eZ G 0 68 0 0 (eFZ F)) G 0 68 (d + 5, 0, 0) kX3_readsValue 76 [(0, .ref (G.1 13)), (2, eV G 1 (M 13 2))] [] M 0 0) ∧ ((eSw ((M 13 2) - 1).toNatClampNeg : Int32) = 10 → Ev (eZ G 0 68 0 0 (eFZ F)) G 0 68 (d + 5, 0, 0) kX3_readsValue 76 [(0, .ref (G.1 13)), (2, eV G 1 (M 13 2))] [] M 0 0) ∧ ((eSw ((M 13 2) - 1).toNatClampNeg : Int32) = 11 → Ev (eZ G 0 68 0 0 (eFZ F)) G 0 68 (d + 5, 0, 0) kX3_readsValue 76 [(0, .ref (G.1 13)), (2, eV G 1 (M 13 2))] [] M 0 0) ∧ ((eSw ((M 13 2) - 1).toNatClampNeg : Int32) = 12 → Ev (eZ G 0 68 0 0 (eFZ F)) G 0 68 (d + 5, 0, 0) kX3_readsValue 105 [(0, .ref (G.1 13))] [] M 0 0) ∧ ((eSw ((M 13 2) - 1).toNatClampNeg : Int32) = 13 → Ev (eZ G 0 68 0 0 (eFZ F)) G 0 68 (d + 5, 0, 0) kX3_readsValue 158 [(0, .ref (G.1 13)), (1, .int a1)] [] M 0 0) ∧ ((eSw ((M 13 2) - 1).toNatClampNeg : Int32) = 14 → Ev (eZ G 0 68 0 0 (eFZ F)) G 0 68 (d + 5, 0, 0) kX3_readsValue 207 [(0, .ref (G.1 13)), (1, .int a1)] [] M 0 0) ∧ ((eSw ((M 13 2) - 1).toNatClampNeg : Int32) = 15 → Ev (eZ G 0 68 0 0 (eFZ F)) G 0 68 (d + 5, 0, 0) kX3_readsValue 249 [(0, .ref (G.1 13)), (1, .int a1), (2, eV G 1 (M 13 2))] [] M 0 0) ∧ ((eSw ((M 13 2) - 1).toNatClampNeg : Int32) = 16 → Ev (eZ G 0 68 0 0 (eFZ F)) G 0 68 (d + 5, 0, 0) kX3_readsValue 249 [(0, .ref (G.1 13)), (1, .int a1), (2, eV G 1 (M 13 2))] [] M 0 0)))) :
    Cal G 0 68 (d + 5, 0, 0) kX3_readsValue [.ref (G.1 13), .int a1] M (eFZ F) := by
  refine Cal.of (by decide +kernel) rfl (Nat.le_of_ble_eq_true rfl) ?_
  show Ev (eZ G 0 68 0 0 (eFZ F)) G 0 68 (d + 5, 0, 0) kX3_readsValue 0 [(0, .ref (G.1 13)), (1, .int a1)] [] M 0 0
  refine r_aload_n 0 dX3_readsValue_0 rfl rfl ?_
  refine r_getK (c := 13) (k := 2) dX3_readsValue_1 clX3 lFX3_15 (by decide) iF13 sC13 rfl ?_
  refine r_kstore_n (l' := [(2, eV G 1 (M 13 2)), (0, .ref (G.1 13)), (1, .int a1)]) dX3_readsValue_4 rfl (by decide) rfl ?_
  refine r_gets (w := .ref (G.1 1306)) dX3_readsValue_5 lFX3_123 (fun h => h.2.2.2.2.2.2.2.2.2.2.1.1) ?_
  refine r_kload_n 0 dX3_readsValue_8 rfl rfl ?_
  have hx := h.1
  replace h := h.2
  refine r_ordinal (b' := (1, 0, 0)) (K' := kJx29ce0_ordinal_8abf5) (S := [.ref (G.1 1306)]) dX3_readsValue_9 hx rfl eOr_w rfl lOX3_129 eOr_s eOr_sel eOr_i eOr_n (eFitL (by decide) (by decide)) (Nat.le_of_ble_eq_true rfl) (C_ordinal hx (fun r M' => (M 13 2) - 1 = r ∧ M = M') ⟨rfl, rfl⟩) (fun r M' q => ?_)
  obtain ⟨rfl, rfl⟩ := q
  have h1 := h.1
  replace h := h.2
  refine r_tald (tc := 1306) (f := eSw) dX3_readsValue_12 (fun h => h.2.2.2.2.2.2.2.2.2.2.1) h1 ?_
  by_cases q : (eSw ((M 13 2) - 1).toNatClampNeg : Int32).toInt < 5 ∨ 16 < (eSw ((M 13 2) - 1).toNatClampNeg : Int32).toInt
  · replace h := h.1 q
    refine r_tableOut (tg := 334) dX3_readsValue_13 q (by decide) ?_
    refine r_iconst (v := 0) dX3_readsValue_334 rfl ?_
    refine r_iretZ0 dX3_readsValue_335 rfl (Nat.le_refl _) (Nat.le_refl _) h
  · replace h := h.2
    refine eTabCases (N := 12) q (by decide) (fun i9 hi hx => ?_)
    match i9, hi, hx with
    | 0, hi, hx =>
      have q3 : (eSw ((M 13 2) - 1).toNatClampNeg : Int32) = 5 := eToI (hx.trans (by decide))
      replace h := h.1 q3
      refine r_tableAt (tg := 76) dX3_readsValue_13 q3 (by decide) (by decide) rfl (by decide) ?_
      exact Ev.sub (ks := [1, 0]) rfl h
    | 1, hi, hx =>
      have q3 : (eSw ((M 13 2) - 1).toNatClampNeg : Int32) = 6 := eToI (hx.trans (by decide))
      replace h := h.2.1 q3
      refine r_tableAt (tg := 76) dX3_readsValue_13 q3 (by decide) (by decide) rfl (by decide) ?_
      exact Ev.sub (ks := [1, 0]) rfl h
    | 2, hi, hx =>
      have q3 : (eSw ((M 13 2) - 1).toNatClampNeg : Int32) = 7 := eToI (hx.trans (by decide))
      replace h := h.2.2.1 q3
      refine r_tableAt (tg := 76) dX3_readsValue_13 q3 (by decide) (by decide) rfl (by decide) ?_
      exact Ev.sub (ks := [1, 0]) rfl h
    | 3, hi, hx =>
      have q3 : (eSw ((M 13 2) - 1).toNatClampNeg : Int32) = 8 := eToI (hx.trans (by decide))
      replace h := h.2.2.2.1 q3
      refine r_tableAt (tg := 76) dX3_readsValue_13 q3 (by decide) (by decide) rfl (by decide) ?_
      exact Ev.sub (ks := [1, 0]) rfl h
    | 4, hi, hx =>
      have q3 : (eSw ((M 13 2) - 1).toNatClampNeg : Int32) = 9 := eToI (hx.trans (by decide))
      replace h := h.2.2.2.2.1 q3
      refine r_tableAt (tg := 76) dX3_readsValue_13 q3 (by decide) (by decide) rfl (by decide) ?_
      exact Ev.sub (ks := [1, 0]) rfl h
    | 5, hi, hx =>
      have q3 : (eSw ((M 13 2) - 1).toNatClampNeg : Int32) = 10 := eToI (hx.trans (by decide))
      replace h := h.2.2.2.2.2.1 q3
      refine r_tableAt (tg := 76) dX3_readsValue_13 q3 (by decide) (by decide) rfl (by decide) ?_
      exact Ev.sub (ks := [1, 0]) rfl h
    | 6, hi, hx =>
      have q3 : (eSw ((M 13 2) - 1).toNatClampNeg : Int32) = 11 := eToI (hx.trans (by decide))
      replace h := h.2.2.2.2.2.2.1 q3
      refine r_tableAt (tg := 76) dX3_readsValue_13 q3 (by decide) (by decide) rfl (by decide) ?_
      exact Ev.sub (ks := [1, 0]) rfl h
    | 7, hi, hx =>
      have q3 : (eSw ((M 13 2) - 1).toNatClampNeg : Int32) = 12 := eToI (hx.trans (by decide))
      replace h := h.2.2.2.2.2.2.2.1 q3
      refine r_tableAt (tg := 105) dX3_readsValue_13 q3 (by decide) (by decide) rfl (by decide) ?_
      exact Ev.sub (ks := [1]) rfl h
    | 8, hi, hx =>
      have q3 : (eSw ((M 13 2) - 1).toNatClampNeg : Int32) = 13 := eToI (hx.trans (by decide))
      replace h := h.2.2.2.2.2.2.2.2.1 q3
      refine r_tableAt (tg := 158) dX3_readsValue_13 q3 (by decide) (by decide) rfl (by decide) ?_
      exact Ev.sub (ks := [1, 2]) rfl h
    | 9, hi, hx =>
      have q3 : (eSw ((M 13 2) - 1).toNatClampNeg : Int32) = 14 := eToI (hx.trans (by decide))
      replace h := h.2.2.2.2.2.2.2.2.2.1 q3
      refine r_tableAt (tg := 207) dX3_readsValue_13 q3 (by decide) (by decide) rfl (by decide) ?_
      exact Ev.sub (ks := [1, 2]) rfl h
    | 10, hi, hx =>
      have q3 : (eSw ((M 13 2) - 1).toNatClampNeg : Int32) = 15 := eToI (hx.trans (by decide))
      replace h := h.2.2.2.2.2.2.2.2.2.2.1 q3
      refine r_tableAt (tg := 249) dX3_readsValue_13 q3 (by decide) (by decide) rfl (by decide) ?_
      exact Ev.sub (ks := [1, 2, 0]) rfl h
    | 11, hi, hx =>
      have q3 : (eSw ((M 13 2) - 1).toNatClampNeg : Int32) = 16 := eToI (hx.trans (by decide))
      replace h := h.2.2.2.2.2.2.2.2.2.2.2 q3
      refine r_tableAt (tg := 249) dX3_readsValue_13 q3 (by decide) (by decide) rfl (by decide) ?_
      exact Ev.sub (ks := [1, 2, 0]) rfl h
    | i + 12, hi, hx => exact absurd hi (by omega)
set_option maxHeartbeats 4000000 in
set_option maxRecDepth 100000 in
theorem C_X3_accept (G : eG) (M : eM) (F : Bool → eM → Prop) (a1 : Int32)
    (h : ((eKn1 (M 13 2) = eKn1 a1) → Cal G 0 68 (1, 0, 0) kX9_kindOf [.ref (G.1 3), .int ((eU M 13 3 ((M 13 3) + 1)) 13 3)] (eU M 13 3 ((M 13 3) + 1)) (eFK G (fun (r1 : Int32) (M1 : eM) => F true (eU M1 13 2 r1)))) ∧ ((¬ eKn1 (M 13 2) = eKn1 a1) → F false M)) :
    Cal G 0 68 (2, 0, 0) kX3_accept [.ref (G.1 13), eV G 1 a1] M (eFZ F) := by
  refine Cal.ofK [(0, .ref (G.1 13)), (1, eV G 1 a1)] (by decide +kernel) rfl (by rw [lg_len _ (by simp [eV_cat, eCatI, eCatR])]; exact Nat.le_of_ble_eq_true rfl) (by simp [lv_args, eV_cat, eCatI, eCatR]) ?_
  show Ev (eZ G 0 68 0 0 (eFZ F)) G 0 68 (2, 0, 0) kX3_accept 0 [(0, .ref (G.1 13)), (1, eV G 1 a1)] [] M 0 0
  refine r_aload_n 0 dX3_accept_0 rfl rfl ?_
  refine r_getK (c := 13) (k := 2) dX3_accept_1 clX3 lFX3_15 (by decide) iF13 sC13 rfl ?_
  refine r_kload_n 1 dX3_accept_4 rfl rfl ?_
  refine r_kcmp_eq (tg := 10) dX3_accept_5 (by decide) (fun q => ?_) (fun q => ?_)
  · replace h := h.1 q
    refine r_aload_n 0 dX3_accept_10 rfl rfl ?_
    refine r_dup dX3_accept_11 rfl ?_
    refine r_getI (c := 13) (k := 3) dX3_accept_12 clX3 lFX3_28 (by decide) iF13 sC13 rfl ?_
    refine r_iconst (v := 1) dX3_accept_15 rfl ?_
    refine r_iadd dX3_accept_16 ?_
    refine r_putI (c := 13) (k := 3) dX3_accept_17 clX3 lFX3_28 (by decide) iF13 sC13 rfl rfl rfl ?_
    refine r_aload_n 0 dX3_accept_20 rfl rfl ?_
    refine r_aload_n 0 dX3_accept_21 rfl rfl ?_
    refine r_getR (c := 13) (k := 0) 3 dX3_accept_22 clX3 lFX3_20 (by decide) iF13 sC13 rfl ?_
    refine r_aload_n 0 dX3_accept_25 rfl rfl ?_
    refine r_getI (c := 13) (k := 3) dX3_accept_26 clX3 lFX3_28 (by decide) iF13 sC13 rfl ?_
    refine r_callVK (b' := (1, 0, 0)) (c := 3) (S := [.ref (G.1 13)]) [.int ((eU M 13 3 ((M 13 3) + 1)) 13 3)] dX3_accept_29 mX9_kindOf lMX3_32 clX9 rfl iF3 sC3 rfl (by decide) (Nat.le_of_ble_eq_true rfl) h (fun r1 M1 h => ?_) rfl
    refine r_putK (c := 13) (k := 2) dX3_accept_32 clX3 lFX3_15 (by decide) iF13 sC13 rfl rfl rfl ?_
    refine r_iconst (v := 1) dX3_accept_35 rfl ?_
    refine r_iretZ1 dX3_accept_36 rfl (by decide) (by decide) h
  · replace h := h.2 q
    refine r_iconst (v := 0) dX3_accept_8 rfl ?_
    refine r_iretZ0 dX3_accept_9 rfl (by decide) (by decide) h

